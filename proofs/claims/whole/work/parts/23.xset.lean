set_option maxHeartbeats 4000000 in
set_option maxRecDepth 100000 in
theorem cF_reckon (l : Launch) (D : va_G) (V : Nat) (ad : Nat → Nat) (ka : Nat → ClassId) (mk : Nat → Int64) (nm pt : Nat → Int32) (ro : Nat → Nat → Int64) (F : fr_F) (hF : fr_XR V F ro) (hV : V < 10) (hV1 : 1 ≤ V) (hinj : fr_inj ad) (op r a b : Int32)    : Met l yX0_reckon wsF_reckon rmF_reckon (va_Pc [.ref (ad 0), .int op, .int r, .int a, .int b] (fr_PX D V ad ka mk nm pt ro)) (va_Qi (fun res u => res = (fr_sReckon V F op r a b).1 ∧ fr_XR V (fr_sReckon V F op r a b).2 u.2.2.2) (fun u t => va_P D vwCl (fr_xu V ad ka u) t.heap) (fr_A ad)) 0 0 (fr_A ad) := by
  refine Met.ofW (cc := cX0_reckon) (maxL := 6) (ret := some .int) (by decide) rfl ?_
  intro p e s m args below meth c s₁ B hml hv
  obtain ⟨rfl, hP, hK, hT⟩ := hv
  have hx := B.exec
  have hb := B.bytes
  have hret := B.returns
  have hw := fun w (h : w ∈ WA) => atoms_spec (ws := wsF_reckon) B.pre w (List.mem_cons_of_mem _ h)
  have hown : s.vm.findClass "FunctionRoom" = some m.cls := findClass_of_methodNamed B.named
  have hlocks := B.notSynchronized
  have hS0 : CallFix p m c cX0_reckon 6 s _ WA "FunctionRoom" := ⟨hx, hb, hml, hown, hw⟩
  have hl := lv_entry ([.ref (ad 0), .int op, .int r, .int a, .int b]) (n := 6) (Nat.le_of_ble_eq_true rfl)
  rw [lg_entry_eq]
  generalize (lg_sl ([.ref (ad 0), .int op, .int r, .int a, .int b]) ++ List.replicate (6 - (lg_sl ([.ref (ad 0), .int op, .int r, .int a, .int b])).length) Slot.unset).toArray = ls at hl ⊢
  replace hl : lv_has ls 6 [(0, .ref (ad 0)), (1, .int op), (2, .int r), (3, .int a), (4, .int b)] := hl
  have hw8 := (fr_wn_le V hV).2.1
  have h512 := fr_pow512 hV
  refine fr_gen (A := fr_A ad) hP (fun H locs hP2 hS => ?_)
  clear hP
  have hP := hP2
  clear hP2
  refine lv_iload_n hx hb dX0_reckon_0 rfl (lv_at hl 1 rfl) ?_
  refine lv_if_lt (tgt := 31) hx hb dX0_reckon_1 rfl (fun h1 => ?_) (fun h1 => ?_)
  ·
    refine lv_iconst (v := (-1)) hx hb dX0_reckon_31 (by decide) ?_
    exact W.iret (v := (-1)) hx hb hret (fun t ht hW => ⟨⟨_, (mk, nm, pt, ro), rfl, by rw [show fr_sReckon V F op r a b = (-1, F) from if_neg (fr_and4 (Or.inl (fr_okB_no (fun z => z.1 h1))))]; exact ⟨rfl, hF⟩, by show va_P D vwCl _ t.heap; rw [ht]; exact hP⟩, hS.F ht⟩) hS.2.2 dX0_reckon_32
  ·
    refine lv_iload_n hx hb dX0_reckon_4 rfl (lv_at hl 1 rfl) ?_
    refine lv_iconst (v := 4) hx hb dX0_reckon_5 (by decide) ?_
    refine lv_icmp_gt (tgt := 31) hx hb dX0_reckon_6 rfl (fun h2 => ?_) (fun h2 => ?_)
    ·
      refine lv_iconst (v := (-1)) hx hb dX0_reckon_31 (by decide) ?_
      exact W.iret (v := (-1)) hx hb hret (fun t ht hW => ⟨⟨_, (mk, nm, pt, ro), rfl, by rw [show fr_sReckon V F op r a b = (-1, F) from if_neg (fr_and4 (Or.inl (fr_okB_no (fun z => fr_gt4 z h2))))]; exact ⟨rfl, hF⟩, by show va_P D vwCl _ t.heap; rw [ht]; exact hP⟩, hS.F ht⟩) hS.2.2 dX0_reckon_32
    ·
      obtain ⟨o, hLo, rfl⟩ := fr_ok_ex (by decide) (fr_ok5 h1 h2)
      refine lv_iload_n hx hb dX0_reckon_9 rfl (lv_at hl 2 rfl) ?_
      refine fr_cSi (As := [.int r]) hS0 (cF_isRegister l r) (cw_F_isRegister hw ⟨Nat.le_of_ble_eq_true rfl, Nat.le_of_ble_eq_true rfl⟩) (fr_pre0) rfl hl.1 rfl (Nat.le_of_ble_eq_true rfl) dX0_reckon_10 ⟨Nat.zero_le _, Nat.zero_le _⟩ (fun b0 hb0 => ?_)
      rcases hb0 with ⟨rfl, hOj⟩ | ⟨rfl, hno⟩
      ·
        refine lv_if_eq (tgt := 31) hx hb dX0_reckon_13 rfl (fun hz => absurd hz (by decide)) (fun hz => ?_)
        obtain ⟨j, hLj, rfl⟩ := fr_ok_ex (by decide) hOj
        refine lv_iload_n hx hb dX0_reckon_16 rfl (lv_at hl 3 rfl) ?_
        refine fr_cSi (As := [.int a]) hS0 (cF_isRegister l a) (cw_F_isRegister hw ⟨Nat.le_of_ble_eq_true rfl, Nat.le_of_ble_eq_true rfl⟩) (fr_pre0) rfl hl.1 rfl (Nat.le_of_ble_eq_true rfl) dX0_reckon_17 ⟨Nat.zero_le _, Nat.zero_le _⟩ (fun b0 hb0 => ?_)
        rcases hb0 with ⟨rfl, hOx⟩ | ⟨rfl, hno⟩
        ·
          refine lv_if_eq (tgt := 31) hx hb dX0_reckon_20 rfl (fun hz => absurd hz (by decide)) (fun hz => ?_)
          obtain ⟨x, hLx, rfl⟩ := fr_ok_ex (by decide) hOx
          refine lv_iload hx hb dX0_reckon_23 (lv_at hl 4 rfl) ?_
          refine fr_cSi (As := [.int b]) hS0 (cF_isRegister l b) (cw_F_isRegister hw ⟨Nat.le_of_ble_eq_true rfl, Nat.le_of_ble_eq_true rfl⟩) (fr_pre0) rfl hl.1 rfl (Nat.le_of_ble_eq_true rfl) dX0_reckon_25 ⟨Nat.zero_le _, Nat.zero_le _⟩ (fun b0 hb0 => ?_)
          rcases hb0 with ⟨rfl, hOy⟩ | ⟨rfl, hno⟩
          ·
            refine lv_if_ne (tgt := 33) hx hb dX0_reckon_28 rfl (fun hz => ?_) (fun hz => absurd hz (by decide))
            obtain ⟨y, hLy, rfl⟩ := fr_ok_ex (by decide) hOy
            refine lv_iconst (v := 0) hx hb dX0_reckon_33 (by decide) ?_
            refine lv_istore hx hb dX0_reckon_34 hl (by decide) rfl (fun ls hl => ?_)
            replace hl : lv_has ls 6 [(5, .int 0), (0, .ref (ad 0)), (1, .int (nI o)), (2, .int (nI j)), (3, .int (nI x)), (4, .int (nI y))] := hl
            obtain ⟨n, i, hin, hi0⟩ : ∃ n i : Nat, i + n = fr_wn V ∧ i = 0 := ⟨fr_wn V, 0, Nat.zero_add _, rfl⟩
            replace hl : lv_has ls 6 [(5, .int (nI i)), (0, .ref (ad 0)), (1, .int (nI o)), (2, .int (nI j)), (3, .int (nI x)), (4, .int (nI y))] := by rw [hi0]; exact hl
            have hg : ∀ w, w < i → mk w = fr_cb o (ro x w) (ro y w) &&& fr_pl V := fun w h => absurd h (by omega)
            clear hi0
            induction n generalizing i ls H locs mk with
            | zero =>
              refine lv_iload hx hb dX0_reckon_36 (lv_at hl 0 rfl) ?_
              refine lv_aload_n hx hb dX0_reckon_38 rfl (lv_at hl 1 rfl) ?_
              refine fr_gX 2 hx hb hw hown hK hP (by decide) mF_words rfl dX0_reckon_39 ?_
              refine lv_icmp_ge (tgt := 86) hx hb dX0_reckon_42 rfl (fun hcm => ?_) (fun hcm => absurd (nI_le (show fr_wn V ≤ i by omega) (by omega)) hcm)
              refine lv_aload_n hx hb dX0_reckon_86 rfl (lv_at hl 1 rfl) ?_
              refine lv_iload_n hx hb dX0_reckon_87 rfl (lv_at hl 3 rfl) ?_
              refine fr_Xm (As := [.int (nI j)]) hS0 (cF_keep l D V ad ka mk nm pt ro hV hinj j hLj) (cw_F_keep hw ⟨Nat.le_of_ble_eq_true rfl, Nat.le_of_ble_eq_true rfl⟩) hK hP hT hS rfl hl.1 rfl (Nat.le_of_ble_eq_true rfl) dX0_reckon_88 ⟨Nat.zero_le _, Nat.zero_le _⟩ (fun b u H locs hu hP hS => ?_)
              obtain ⟨rfl, rfl⟩ := hu
              have hR := fr_R_comb (o := o) hV (hF x hLx) (hF y hLy) (fun w h => hg w (by omega))
              exact W.iret (v := nI (fr_ct mk (fr_wn V))) hx hb hret (fun t ht hW => ⟨⟨_, (mk, nm, pt, va_up ro j (va_cpy mk (ro j) 0 0 (fr_wn V))), rfl, fr_fin hV hF hLj hR (by unfold fr_sReckon; rw [if_pos (by rw [fr_okB_nI hLo (by decide), fr_okB_nI hLj (by decide), fr_okB_nI hLx (by decide), fr_okB_nI hLy (by decide)]; rfl), fr_v_nI (show o < 2 ^ 31 by omega), fr_v_nI (show x < 2 ^ 31 by omega), fr_v_nI (show y < 2 ^ 31 by omega)]), by show va_P D vwCl _ t.heap; rw [ht]; exact hP⟩, hS.F ht⟩) hS.2.2 dX0_reckon_91
            | succ n ih =>
              refine lv_iload hx hb dX0_reckon_36 (lv_at hl 0 rfl) ?_
              refine lv_aload_n hx hb dX0_reckon_38 rfl (lv_at hl 1 rfl) ?_
              refine fr_gX 2 hx hb hw hown hK hP (by decide) mF_words rfl dX0_reckon_39 ?_
              refine lv_icmp_ge (tgt := 86) hx hb dX0_reckon_42 rfl (fun hcm => absurd hcm (nI_ge (show i < fr_wn V by omega) (by omega))) (fun hcm => ?_)
              have hi : i < fr_wn V := by omega
              refine lv_aload_n hx hb dX0_reckon_45 rfl (lv_at hl 1 rfl) ?_
              refine fr_gX 5 hx hb hw hown hK hP (by decide) mF_made rfl dX0_reckon_46 ?_
              refine lv_iload hx hb dX0_reckon_49 (lv_at hl 0 rfl) ?_
              refine lv_iload_n hx hb dX0_reckon_51 rfl (lv_at hl 2 rfl) ?_
              refine lv_aload_n hx hb dX0_reckon_52 rfl (lv_at hl 1 rfl) ?_
              refine fr_gX 4 hx hb hw hown hK hP (by decide) mF_rows rfl dX0_reckon_53 ?_
              refine lv_iload_n hx hb dX0_reckon_56 rfl (lv_at hl 4 rfl) ?_
              refine fr_aald hx hb hK hP 1 0 rfl rfl hLx (by decide) rfl dX0_reckon_57 ?_
              refine lv_iload hx hb dX0_reckon_58 (lv_at hl 0 rfl) ?_
              refine fr_lald hx hb hK hP (x + 5) 1 (fr_row hLx) rfl hi (by omega) dX0_reckon_60 ?_
              refine lv_aload_n hx hb dX0_reckon_61 rfl (lv_at hl 1 rfl) ?_
              refine fr_gX 4 hx hb hw hown hK hP (by decide) mF_rows rfl dX0_reckon_62 ?_
              refine lv_iload hx hb dX0_reckon_65 (lv_at hl 5 rfl) ?_
              refine fr_aald hx hb hK hP 1 0 rfl rfl hLy (by decide) rfl dX0_reckon_67 ?_
              refine lv_iload hx hb dX0_reckon_68 (lv_at hl 0 rfl) ?_
              refine fr_lald hx hb hK hP (y + 5) 1 (fr_row hLy) rfl hi (by omega) dX0_reckon_70 ?_
              refine fr_cSl (As := [.int (nI o), .long (ro x i), .long (ro y i)]) hS0 (cF_combined l o (ro x i) (ro y i) hLo) (cw_F_combined hw ⟨Nat.le_of_ble_eq_true rfl, Nat.le_of_ble_eq_true rfl⟩) (fr_pre0) rfl hl.1 rfl (Nat.le_of_ble_eq_true rfl) dX0_reckon_71 ⟨Nat.zero_le _, Nat.zero_le _⟩ (fun b2 hb2 => ?_)
              subst hb2
              refine lv_aload_n hx hb dX0_reckon_74 rfl (lv_at hl 1 rfl) ?_
              refine fr_gX 3 hx hb hw hown hK hP (by decide) mF_places rfl dX0_reckon_75 ?_
              refine lv_land hx hb dX0_reckon_78 ?_
              refine fr_last (ws2 := fr_xw V ad ka (vp_updL mk i ((fr_cb o (ro x i) (ro y i) &&& fr_pl V))) nm pt ro) hx hb hK hP (fr_D hinj) hS 2 2 rfl rfl hi (by omega) dX0_reckon_79 rfl (fun H locs hP hS => ?_)
              refine lv_iinc (k := 0) (v := nI (i + 1)) hx hb dX0_reckon_80 hl rfl (fr_inc i) (by decide) rfl (fun ls hl => ?_)
              replace hl : lv_has ls 6 [(5, .int (nI (i + 1))), (0, .ref (ad 0)), (1, .int (nI o)), (2, .int (nI j)), (3, .int (nI x)), (4, .int (nI y))] := hl
              refine lv_goto (tgt := 36) hx hb dX0_reckon_83 rfl ?_
              exact ih _ H locs hS hP ls (i + 1) (by omega) (lv_sub hl [0, 1, 2, 3, 4, 5] rfl) (fr_upS hg (rfl))
          ·
            refine lv_if_ne (tgt := 33) hx hb dX0_reckon_28 rfl (fun hz => absurd rfl hz) (fun hz => ?_)
            refine lv_iconst (v := (-1)) hx hb dX0_reckon_31 (by decide) ?_
            exact W.iret (v := (-1)) hx hb hret (fun t ht hW => ⟨⟨_, (mk, nm, pt, ro), rfl, by rw [show fr_sReckon V F (nI o) (nI j) (nI x) b = (-1, F) from if_neg (fr_and4 (Or.inr (Or.inr (Or.inr (fr_okB_no (hno))))))]; exact ⟨rfl, hF⟩, by show va_P D vwCl _ t.heap; rw [ht]; exact hP⟩, hS.F ht⟩) hS.2.2 dX0_reckon_32
        ·
          refine lv_if_eq (tgt := 31) hx hb dX0_reckon_20 rfl (fun hz => ?_) (fun hz => absurd rfl hz)
          refine lv_iconst (v := (-1)) hx hb dX0_reckon_31 (by decide) ?_
          exact W.iret (v := (-1)) hx hb hret (fun t ht hW => ⟨⟨_, (mk, nm, pt, ro), rfl, by rw [show fr_sReckon V F (nI o) (nI j) a b = (-1, F) from if_neg (fr_and4 (Or.inr (Or.inr (Or.inl (fr_okB_no (hno))))))]; exact ⟨rfl, hF⟩, by show va_P D vwCl _ t.heap; rw [ht]; exact hP⟩, hS.F ht⟩) hS.2.2 dX0_reckon_32
      ·
        refine lv_if_eq (tgt := 31) hx hb dX0_reckon_13 rfl (fun hz => ?_) (fun hz => absurd rfl hz)
        refine lv_iconst (v := (-1)) hx hb dX0_reckon_31 (by decide) ?_
        exact W.iret (v := (-1)) hx hb hret (fun t ht hW => ⟨⟨_, (mk, nm, pt, ro), rfl, by rw [show fr_sReckon V F (nI o) r a b = (-1, F) from if_neg (fr_and4 (Or.inr (Or.inl (fr_okB_no (hno)))))]; exact ⟨rfl, hF⟩, by show va_P D vwCl _ t.heap; rw [ht]; exact hP⟩, hS.F ht⟩) hS.2.2 dX0_reckon_32
set_option maxHeartbeats 4000000 in
set_option maxRecDepth 100000 in
theorem cF_not (l : Launch) (D : va_G) (V : Nat) (ad : Nat → Nat) (ka : Nat → ClassId) (mk : Nat → Int64) (nm pt : Nat → Int32) (ro : Nat → Nat → Int64) (F : fr_F) (hF : fr_XR V F ro) (hV : V < 10) (hV1 : 1 ≤ V) (hinj : fr_inj ad) (r a : Int32)  : Met l yX0_not wsF_not rmF_not (va_Pc [.ref (ad 0), .int r, .int a] (fr_PX D V ad ka mk nm pt ro)) (va_Qi (fun res u => res = (fr_sNot V F r a).1 ∧ fr_XR V (fr_sNot V F r a).2 u.2.2.2) (fun u t => va_P D vwCl (fr_xu V ad ka u) t.heap) (fr_A ad)) 0 0 (fr_A ad) := by
  refine Met.ofW (cc := cX0_not) (maxL := 4) (ret := some .int) (by decide) rfl ?_
  intro p e s m args below meth c s₁ B hml hv
  obtain ⟨rfl, hP, hK, hT⟩ := hv
  have hx := B.exec
  have hb := B.bytes
  have hret := B.returns
  have hw := fun w (h : w ∈ WA) => atoms_spec (ws := wsF_not) B.pre w (List.mem_cons_of_mem _ h)
  have hown : s.vm.findClass "FunctionRoom" = some m.cls := findClass_of_methodNamed B.named
  have hlocks := B.notSynchronized
  have hS0 : CallFix p m c cX0_not 4 s _ WA "FunctionRoom" := ⟨hx, hb, hml, hown, hw⟩
  have hl := lv_entry ([.ref (ad 0), .int r, .int a]) (n := 4) (Nat.le_of_ble_eq_true rfl)
  rw [lg_entry_eq]
  generalize (lg_sl ([.ref (ad 0), .int r, .int a]) ++ List.replicate (4 - (lg_sl ([.ref (ad 0), .int r, .int a])).length) Slot.unset).toArray = ls at hl ⊢
  replace hl : lv_has ls 4 [(0, .ref (ad 0)), (1, .int r), (2, .int a)] := hl
  have hw8 := (fr_wn_le V hV).2.1
  have h512 := fr_pow512 hV
  refine fr_gen (A := fr_A ad) hP (fun H locs hP2 hS => ?_)
  clear hP
  have hP := hP2
  clear hP2
  refine lv_iload_n hx hb dX0_not_0 rfl (lv_at hl 1 rfl) ?_
  refine fr_cSi (As := [.int r]) hS0 (cF_isRegister l r) (cw_F_isRegister hw ⟨Nat.le_of_ble_eq_true rfl, Nat.le_of_ble_eq_true rfl⟩) (fr_pre0) rfl hl.1 rfl (Nat.le_of_ble_eq_true rfl) dX0_not_1 ⟨Nat.zero_le _, Nat.zero_le _⟩ (fun b0 hb0 => ?_)
  rcases hb0 with ⟨rfl, hOj⟩ | ⟨rfl, hno⟩
  ·
    refine lv_if_eq (tgt := 14) hx hb dX0_not_4 rfl (fun hz => absurd hz (by decide)) (fun hz => ?_)
    obtain ⟨j, hLj, rfl⟩ := fr_ok_ex (by decide) hOj
    refine lv_iload_n hx hb dX0_not_7 rfl (lv_at hl 2 rfl) ?_
    refine fr_cSi (As := [.int a]) hS0 (cF_isRegister l a) (cw_F_isRegister hw ⟨Nat.le_of_ble_eq_true rfl, Nat.le_of_ble_eq_true rfl⟩) (fr_pre0) rfl hl.1 rfl (Nat.le_of_ble_eq_true rfl) dX0_not_8 ⟨Nat.zero_le _, Nat.zero_le _⟩ (fun b0 hb0 => ?_)
    rcases hb0 with ⟨rfl, hOx⟩ | ⟨rfl, hno⟩
    ·
      refine lv_if_ne (tgt := 16) hx hb dX0_not_11 rfl (fun hz => ?_) (fun hz => absurd hz (by decide))
      obtain ⟨x, hLx, rfl⟩ := fr_ok_ex (by decide) hOx
      refine lv_iconst (v := 0) hx hb dX0_not_16 (by decide) ?_
      refine lv_istore_n hx hb dX0_not_17 rfl hl (by decide) rfl (fun ls hl => ?_)
      replace hl : lv_has ls 4 [(3, .int 0), (0, .ref (ad 0)), (1, .int (nI j)), (2, .int (nI x))] := hl
      obtain ⟨n, i, hin, hi0⟩ : ∃ n i : Nat, i + n = fr_wn V ∧ i = 0 := ⟨fr_wn V, 0, Nat.zero_add _, rfl⟩
      replace hl : lv_has ls 4 [(3, .int (nI i)), (0, .ref (ad 0)), (1, .int (nI j)), (2, .int (nI x))] := by rw [hi0]; exact hl
      have hg : ∀ w, w < i → mk w = (ro x w ^^^ (-1)) &&& fr_pl V := fun w h => absurd h (by omega)
      clear hi0
      induction n generalizing i ls H locs mk with
      | zero =>
        refine lv_iload_n hx hb dX0_not_18 rfl (lv_at hl 0 rfl) ?_
        refine lv_aload_n hx hb dX0_not_19 rfl (lv_at hl 1 rfl) ?_
        refine fr_gX 2 hx hb hw hown hK hP (by decide) mF_words rfl dX0_not_20 ?_
        refine lv_icmp_ge (tgt := 55) hx hb dX0_not_23 rfl (fun hcm => ?_) (fun hcm => absurd (nI_le (show fr_wn V ≤ i by omega) (by omega)) hcm)
        refine lv_aload_n hx hb dX0_not_55 rfl (lv_at hl 1 rfl) ?_
        refine lv_iload_n hx hb dX0_not_56 rfl (lv_at hl 2 rfl) ?_
        refine fr_Xm (As := [.int (nI j)]) hS0 (cF_keep l D V ad ka mk nm pt ro hV hinj j hLj) (cw_F_keep hw ⟨Nat.le_of_ble_eq_true rfl, Nat.le_of_ble_eq_true rfl⟩) hK hP hT hS rfl hl.1 rfl (Nat.le_of_ble_eq_true rfl) dX0_not_57 ⟨Nat.zero_le _, Nat.zero_le _⟩ (fun b u H locs hu hP hS => ?_)
        obtain ⟨rfl, rfl⟩ := hu
        have hR := fr_R_not hV (hF x hLx) (fun w h => hg w (by omega))
        exact W.iret (v := nI (fr_ct mk (fr_wn V))) hx hb hret (fun t ht hW => ⟨⟨_, (mk, nm, pt, va_up ro j (va_cpy mk (ro j) 0 0 (fr_wn V))), rfl, fr_fin hV hF hLj hR (by unfold fr_sNot; rw [if_pos (by rw [fr_okB_nI hLj (by decide), fr_okB_nI hLx (by decide)]; rfl), fr_v_nI (show x < 2 ^ 31 by omega)]), by show va_P D vwCl _ t.heap; rw [ht]; exact hP⟩, hS.F ht⟩) hS.2.2 dX0_not_60
      | succ n ih =>
        refine lv_iload_n hx hb dX0_not_18 rfl (lv_at hl 0 rfl) ?_
        refine lv_aload_n hx hb dX0_not_19 rfl (lv_at hl 1 rfl) ?_
        refine fr_gX 2 hx hb hw hown hK hP (by decide) mF_words rfl dX0_not_20 ?_
        refine lv_icmp_ge (tgt := 55) hx hb dX0_not_23 rfl (fun hcm => absurd hcm (nI_ge (show i < fr_wn V by omega) (by omega))) (fun hcm => ?_)
        have hi : i < fr_wn V := by omega
        refine lv_aload_n hx hb dX0_not_26 rfl (lv_at hl 1 rfl) ?_
        refine fr_gX 5 hx hb hw hown hK hP (by decide) mF_made rfl dX0_not_27 ?_
        refine lv_iload_n hx hb dX0_not_30 rfl (lv_at hl 0 rfl) ?_
        refine lv_aload_n hx hb dX0_not_31 rfl (lv_at hl 1 rfl) ?_
        refine fr_gX 4 hx hb hw hown hK hP (by decide) mF_rows rfl dX0_not_32 ?_
        refine lv_iload_n hx hb dX0_not_35 rfl (lv_at hl 3 rfl) ?_
        refine fr_aald hx hb hK hP 1 0 rfl rfl hLx (by decide) rfl dX0_not_36 ?_
        refine lv_iload_n hx hb dX0_not_37 rfl (lv_at hl 0 rfl) ?_
        refine fr_lald hx hb hK hP (x + 5) 1 (fr_row hLx) rfl hi (by omega) dX0_not_38 ?_
        refine lv_ldc2 (v := (-1)) hx hb hown (hw _ mC_F_28) dX0_not_39 ?_
        refine lv_lxor hx hb dX0_not_42 ?_
        refine lv_aload_n hx hb dX0_not_43 rfl (lv_at hl 1 rfl) ?_
        refine fr_gX 3 hx hb hw hown hK hP (by decide) mF_places rfl dX0_not_44 ?_
        refine lv_land hx hb dX0_not_47 ?_
        refine fr_last (ws2 := fr_xw V ad ka (vp_updL mk i (((ro x i ^^^ (-1)) &&& fr_pl V))) nm pt ro) hx hb hK hP (fr_D hinj) hS 2 2 rfl rfl hi (by omega) dX0_not_48 rfl (fun H locs hP hS => ?_)
        refine lv_iinc (k := 0) (v := nI (i + 1)) hx hb dX0_not_49 hl rfl (fr_inc i) (by decide) rfl (fun ls hl => ?_)
        replace hl : lv_has ls 4 [(3, .int (nI (i + 1))), (0, .ref (ad 0)), (1, .int (nI j)), (2, .int (nI x))] := hl
        refine lv_goto (tgt := 18) hx hb dX0_not_52 rfl ?_
        exact ih _ H locs hS hP ls (i + 1) (by omega) (lv_sub hl [0, 1, 2, 3] rfl) (fr_upS hg (rfl))
    ·
      refine lv_if_ne (tgt := 16) hx hb dX0_not_11 rfl (fun hz => absurd rfl hz) (fun hz => ?_)
      refine lv_iconst (v := (-1)) hx hb dX0_not_14 (by decide) ?_
      exact W.iret (v := (-1)) hx hb hret (fun t ht hW => ⟨⟨_, (mk, nm, pt, ro), rfl, by rw [show fr_sNot V F (nI j) a = (-1, F) from if_neg (fr_and2 (Or.inr (fr_okB_no (hno))))]; exact ⟨rfl, hF⟩, by show va_P D vwCl _ t.heap; rw [ht]; exact hP⟩, hS.F ht⟩) hS.2.2 dX0_not_15
  ·
    refine lv_if_eq (tgt := 14) hx hb dX0_not_4 rfl (fun hz => ?_) (fun hz => absurd rfl hz)
    refine lv_iconst (v := (-1)) hx hb dX0_not_14 (by decide) ?_
    exact W.iret (v := (-1)) hx hb hret (fun t ht hW => ⟨⟨_, (mk, nm, pt, ro), rfl, by rw [show fr_sNot V F r a = (-1, F) from if_neg (fr_and2 (Or.inl (fr_okB_no (hno))))]; exact ⟨rfl, hF⟩, by show va_P D vwCl _ t.heap; rw [ht]; exact hP⟩, hS.F ht⟩) hS.2.2 dX0_not_15
set_option maxHeartbeats 4000000 in
set_option maxRecDepth 100000 in
theorem cF_load (l : Launch) (D : va_G) (V : Nat) (ad : Nat → Nat) (ka : Nat → ClassId) (mk : Nat → Int64) (nm pt : Nat → Int32) (ro : Nat → Nat → Int64) (F : fr_F) (hF : fr_XR V F ro) (hV : V < 10) (hV1 : 1 ≤ V) (hinj : fr_inj ad) (r what : Int32)  : Met l yX0_load wsF_load rmF_load (va_Pc [.ref (ad 0), .int r, .int what] (fr_PX D V ad ka mk nm pt ro)) (va_Qi (fun res u => res = (fr_sLoad V F r what).1 ∧ fr_XR V (fr_sLoad V F r what).2 u.2.2.2) (fun u t => va_P D vwCl (fr_xu V ad ka u) t.heap) (fr_A ad)) 0 0 (fr_A ad) := by
  refine Met.ofW (cc := cX0_load) (maxL := 5) (ret := some .int) (by decide) rfl ?_
  intro p e s m args below meth c s₁ B hml hv
  obtain ⟨rfl, hP, hK, hT⟩ := hv
  have hx := B.exec
  have hb := B.bytes
  have hret := B.returns
  have hw := fun w (h : w ∈ WA) => atoms_spec (ws := wsF_load) B.pre w (List.mem_cons_of_mem _ h)
  have hown : s.vm.findClass "FunctionRoom" = some m.cls := findClass_of_methodNamed B.named
  have hlocks := B.notSynchronized
  have hS0 : CallFix p m c cX0_load 5 s _ WA "FunctionRoom" := ⟨hx, hb, hml, hown, hw⟩
  have hl := lv_entry ([.ref (ad 0), .int r, .int what]) (n := 5) (Nat.le_of_ble_eq_true rfl)
  rw [lg_entry_eq]
  generalize (lg_sl ([.ref (ad 0), .int r, .int what]) ++ List.replicate (5 - (lg_sl ([.ref (ad 0), .int r, .int what])).length) Slot.unset).toArray = ls at hl ⊢
  replace hl : lv_has ls 5 [(0, .ref (ad 0)), (1, .int r), (2, .int what)] := hl
  have hw8 := (fr_wn_le V hV).2.1
  have h512 := fr_pow512 hV
  refine fr_gen (A := fr_A ad) hP (fun H locs hP2 hS => ?_)
  clear hP
  have hP := hP2
  clear hP2
  refine lv_iload_n hx hb dX0_load_0 rfl (lv_at hl 2 rfl) ?_
  refine lv_bipush (v := (-2)) hx hb dX0_load_1 (by decide) ?_
  refine lv_icmp_eq (tgt := 11) hx hb dX0_load_3 rfl (fun h1 => ?_) (fun h1 => ?_)
  ·
    obtain rfl : what = (-2) := h1
    refine lv_iconst (v := 1) hx hb dX0_load_11 (by decide) ?_
    refine lv_goto (tgt := 16) hx hb dX0_load_12 rfl ?_
    refine lv_istore_n hx hb dX0_load_16 rfl hl (by decide) rfl (fun ls hl => ?_)
    replace hl : lv_has ls 5 [(3, .int 1), (0, .ref (ad 0)), (1, .int r), (2, .int ((-2)))] := hl
    refine lv_iload_n hx hb dX0_load_17 rfl (lv_at hl 2 rfl) ?_
    refine fr_cSi (As := [.int r]) hS0 (cF_isRegister l r) (cw_F_isRegister hw ⟨Nat.le_of_ble_eq_true rfl, Nat.le_of_ble_eq_true rfl⟩) (fr_pre0) rfl hl.1 rfl (Nat.le_of_ble_eq_true rfl) dX0_load_18 ⟨Nat.zero_le _, Nat.zero_le _⟩ (fun b0 hb0 => ?_)
    rcases hb0 with ⟨rfl, hOj⟩ | ⟨rfl, hno⟩
    ·
      refine lv_if_eq (tgt := 36) hx hb dX0_load_21 rfl (fun hz => absurd hz (by decide)) (fun hz => ?_)
      obtain ⟨j, hLj, rfl⟩ := fr_ok_ex (by decide) hOj
      refine lv_iload_n hx hb dX0_load_24 rfl (lv_at hl 0 rfl) ?_
      refine lv_if_ne (tgt := 38) hx hb dX0_load_25 rfl (fun hz => ?_) (fun hz => absurd hz (by decide))
      refine lv_iconst (v := 0) hx hb dX0_load_38 (by decide) ?_
      refine lv_istore hx hb dX0_load_39 hl (by decide) rfl (fun ls hl => ?_)
      replace hl : lv_has ls 5 [(4, .int 0), (3, .int 1), (0, .ref (ad 0)), (1, .int (nI j)), (2, .int ((-2)))] := hl
      obtain ⟨n, i, hin, hi0⟩ : ∃ n i : Nat, i + n = fr_wn V ∧ i = 0 := ⟨fr_wn V, 0, Nat.zero_add _, rfl⟩
      replace hl : lv_has ls 5 [(4, .int (nI i)), (3, .int 1), (0, .ref (ad 0)), (1, .int (nI j)), (2, .int ((-2)))] := by rw [hi0]; exact hl
      have hg : ∀ w, w < i → mk w = if false = true then fr_pl V else 0 := fun w h => absurd h (by omega)
      clear hi0
      induction n generalizing i ls H locs mk with
      | zero =>
        refine lv_iload hx hb dX0_load_41 (lv_at hl 0 rfl) ?_
        refine lv_aload_n hx hb dX0_load_43 rfl (lv_at hl 2 rfl) ?_
        refine fr_gX 2 hx hb hw hown hK hP (by decide) mF_words rfl dX0_load_44 ?_
        refine lv_icmp_ge (tgt := 97) hx hb dX0_load_47 rfl (fun hcm => ?_) (fun hcm => absurd (nI_le (show fr_wn V ≤ i by omega) (by omega)) hcm)
        refine lv_aload_n hx hb dX0_load_97 rfl (lv_at hl 2 rfl) ?_
        refine lv_iload_n hx hb dX0_load_98 rfl (lv_at hl 3 rfl) ?_
        refine fr_Xm (As := [.int (nI j)]) hS0 (cF_keep l D V ad ka mk nm pt ro hV hinj j hLj) (cw_F_keep hw ⟨Nat.le_of_ble_eq_true rfl, Nat.le_of_ble_eq_true rfl⟩) hK hP hT hS rfl hl.1 rfl (Nat.le_of_ble_eq_true rfl) dX0_load_99 ⟨Nat.zero_le _, Nat.zero_le _⟩ (fun b u H locs hu hP hS => ?_)
        obtain ⟨rfl, rfl⟩ := hu
        have hR := fr_R_const hV false (fun w h => hg w (by omega))
        exact W.iret (v := nI (fr_ct mk (fr_wn V))) hx hb hret (fun t ht hW => ⟨⟨_, (mk, nm, pt, va_up ro j (va_cpy mk (ro j) 0 0 (fr_wn V))), rfl, fr_fin hV hF hLj hR (by unfold fr_sLoad; rw [if_pos (by rw [fr_okB_nI hLj (by decide)]; rfl)]; rfl), by show va_P D vwCl _ t.heap; rw [ht]; exact hP⟩, hS.F ht⟩) hS.2.2 dX0_load_102
      | succ n ih =>
        refine lv_iload hx hb dX0_load_41 (lv_at hl 0 rfl) ?_
        refine lv_aload_n hx hb dX0_load_43 rfl (lv_at hl 2 rfl) ?_
        refine fr_gX 2 hx hb hw hown hK hP (by decide) mF_words rfl dX0_load_44 ?_
        refine lv_icmp_ge (tgt := 97) hx hb dX0_load_47 rfl (fun hcm => absurd hcm (nI_ge (show i < fr_wn V by omega) (by omega))) (fun hcm => ?_)
        have hi : i < fr_wn V := by omega
        refine lv_iload_n hx hb dX0_load_50 rfl (lv_at hl 1 rfl) ?_
        refine lv_if_eq (tgt := 77) hx hb dX0_load_51 rfl (fun hz => absurd hz (by decide)) (fun hz => ?_)
        refine lv_aload_n hx hb dX0_load_54 rfl (lv_at hl 2 rfl) ?_
        refine fr_gX 5 hx hb hw hown hK hP (by decide) mF_made rfl dX0_load_55 ?_
        refine lv_iload hx hb dX0_load_58 (lv_at hl 0 rfl) ?_
        refine lv_iload_n hx hb dX0_load_60 rfl (lv_at hl 4 rfl) ?_
        refine lv_iconst (v := (-1)) hx hb dX0_load_61 (by decide) ?_
        refine lv_icmp_ne (tgt := 72) hx hb dX0_load_62 rfl (fun hz => ?_) (fun hz => absurd hz (by decide))
        refine lv_lconst (v := 0) hx hb dX0_load_72 (by decide) ?_
        refine fr_last (ws2 := fr_xw V ad ka (vp_updL mk i (0)) nm pt ro) hx hb hK hP (fr_D hinj) hS 2 2 rfl rfl hi (by omega) dX0_load_73 rfl (fun H locs hP hS => ?_)
        refine lv_goto (tgt := 91) hx hb dX0_load_74 rfl ?_
        refine lv_iinc (k := 0) (v := nI (i + 1)) hx hb dX0_load_91 hl rfl (fr_inc i) (by decide) rfl (fun ls hl => ?_)
        replace hl : lv_has ls 5 [(4, .int (nI (i + 1))), (3, .int 1), (0, .ref (ad 0)), (1, .int (nI j)), (2, .int ((-2)))] := hl
        refine lv_goto (tgt := 41) hx hb dX0_load_94 rfl ?_
        exact ih _ H locs hS hP ls (i + 1) (by omega) (lv_sub hl [0, 1, 2, 3, 4] rfl) (fr_upS hg (rfl))
    ·
      refine lv_if_eq (tgt := 36) hx hb dX0_load_21 rfl (fun hz => ?_) (fun hz => absurd rfl hz)
      refine lv_iconst (v := (-1)) hx hb dX0_load_36 (by decide) ?_
      exact W.iret (v := (-1)) hx hb hret (fun t ht hW => ⟨⟨_, (mk, nm, pt, ro), rfl, by rw [show fr_sLoad V F r (-2) = (-1, F) from if_neg (fr_and2 (Or.inl (fr_okB_no (hno))))]; exact ⟨rfl, hF⟩, by show va_P D vwCl _ t.heap; rw [ht]; exact hP⟩, hS.F ht⟩) hS.2.2 dX0_load_37
  ·
    refine lv_iload_n hx hb dX0_load_6 rfl (lv_at hl 2 rfl) ?_
    refine lv_iconst (v := (-1)) hx hb dX0_load_7 (by decide) ?_
    refine lv_icmp_ne (tgt := 15) hx hb dX0_load_8 rfl (fun h2 => ?_) (fun h2 => ?_)
    ·
      refine lv_iconst (v := 0) hx hb dX0_load_15 (by decide) ?_
      refine lv_istore_n hx hb dX0_load_16 rfl hl (by decide) rfl (fun ls hl => ?_)
      replace hl : lv_has ls 5 [(3, .int 0), (0, .ref (ad 0)), (1, .int r), (2, .int what)] := hl
      refine lv_iload_n hx hb dX0_load_17 rfl (lv_at hl 2 rfl) ?_
      refine fr_cSi (As := [.int r]) hS0 (cF_isRegister l r) (cw_F_isRegister hw ⟨Nat.le_of_ble_eq_true rfl, Nat.le_of_ble_eq_true rfl⟩) (fr_pre0) rfl hl.1 rfl (Nat.le_of_ble_eq_true rfl) dX0_load_18 ⟨Nat.zero_le _, Nat.zero_le _⟩ (fun b0 hb0 => ?_)
      rcases hb0 with ⟨rfl, hOj⟩ | ⟨rfl, hno⟩
      ·
        refine lv_if_eq (tgt := 36) hx hb dX0_load_21 rfl (fun hz => absurd hz (by decide)) (fun hz => ?_)
        obtain ⟨j, hLj, rfl⟩ := fr_ok_ex (by decide) hOj
        refine lv_iload_n hx hb dX0_load_24 rfl (lv_at hl 0 rfl) ?_
        refine lv_if_ne (tgt := 38) hx hb dX0_load_25 rfl (fun hz => absurd rfl hz) (fun hz => ?_)
        refine lv_aload_n hx hb dX0_load_28 rfl (lv_at hl 1 rfl) ?_
        refine lv_iload_n hx hb dX0_load_29 rfl (lv_at hl 3 rfl) ?_
        refine fr_Xi (As := [.int what]) hS0 (cF_isVariable l D V ad ka mk nm pt ro what) (cw_F_isVariable hw ⟨Nat.le_of_ble_eq_true rfl, Nat.le_of_ble_eq_true rfl⟩) hK hP hT hS rfl hl.1 rfl (Nat.le_of_ble_eq_true rfl) dX0_load_30 ⟨Nat.zero_le _, Nat.zero_le _⟩ (fun b0 hb0 => ?_)
        rcases hb0 with ⟨rfl, hOk⟩ | ⟨rfl, hno⟩
        ·
          refine lv_if_ne (tgt := 38) hx hb dX0_load_33 rfl (fun hz => ?_) (fun hz => absurd hz (by decide))
          obtain ⟨k, hLk, rfl⟩ := fr_ok_ex (by omega) hOk
          refine lv_iconst (v := 0) hx hb dX0_load_38 (by decide) ?_
          refine lv_istore hx hb dX0_load_39 hl (by decide) rfl (fun ls hl => ?_)
          replace hl : lv_has ls 5 [(4, .int 0), (3, .int 0), (0, .ref (ad 0)), (1, .int (nI j)), (2, .int (nI k))] := hl
          obtain ⟨n, i, hin, hi0⟩ : ∃ n i : Nat, i + n = fr_wn V ∧ i = 0 := ⟨fr_wn V, 0, Nat.zero_add _, rfl⟩
          replace hl : lv_has ls 5 [(4, .int (nI i)), (3, .int 0), (0, .ref (ad 0)), (1, .int (nI j)), (2, .int (nI k))] := by rw [hi0]; exact hl
          have hg : ∀ w, w < i → mk w = fr_pw V k w := fun w h => absurd h (by omega)
          clear hi0
          induction n generalizing i ls H locs mk with
          | zero =>
            refine lv_iload hx hb dX0_load_41 (lv_at hl 0 rfl) ?_
            refine lv_aload_n hx hb dX0_load_43 rfl (lv_at hl 2 rfl) ?_
            refine fr_gX 2 hx hb hw hown hK hP (by decide) mF_words rfl dX0_load_44 ?_
            refine lv_icmp_ge (tgt := 97) hx hb dX0_load_47 rfl (fun hcm => ?_) (fun hcm => absurd (nI_le (show fr_wn V ≤ i by omega) (by omega)) hcm)
            refine lv_aload_n hx hb dX0_load_97 rfl (lv_at hl 2 rfl) ?_
            refine lv_iload_n hx hb dX0_load_98 rfl (lv_at hl 3 rfl) ?_
            refine fr_Xm (As := [.int (nI j)]) hS0 (cF_keep l D V ad ka mk nm pt ro hV hinj j hLj) (cw_F_keep hw ⟨Nat.le_of_ble_eq_true rfl, Nat.le_of_ble_eq_true rfl⟩) hK hP hT hS rfl hl.1 rfl (Nat.le_of_ble_eq_true rfl) dX0_load_99 ⟨Nat.zero_le _, Nat.zero_le _⟩ (fun b u H locs hu hP hS => ?_)
            obtain ⟨rfl, rfl⟩ := hu
            have hR := fr_R_var hV hLk (fun w h => hg w (by omega))
            exact W.iret (v := nI (fr_ct mk (fr_wn V))) hx hb hret (fun t ht hW => ⟨⟨_, (mk, nm, pt, va_up ro j (va_cpy mk (ro j) 0 0 (fr_wn V))), rfl, fr_fin hV hF hLj hR (by unfold fr_sLoad; rw [if_pos (by rw [fr_okB_nI hLj (by decide), fr_okB_nI hLk (by omega), Bool.or_true]; rfl), if_neg h1, if_neg h2, fr_v_nI (show k < 2 ^ 31 by omega)]), by show va_P D vwCl _ t.heap; rw [ht]; exact hP⟩, hS.F ht⟩) hS.2.2 dX0_load_102
          | succ n ih =>
            refine lv_iload hx hb dX0_load_41 (lv_at hl 0 rfl) ?_
            refine lv_aload_n hx hb dX0_load_43 rfl (lv_at hl 2 rfl) ?_
            refine fr_gX 2 hx hb hw hown hK hP (by decide) mF_words rfl dX0_load_44 ?_
            refine lv_icmp_ge (tgt := 97) hx hb dX0_load_47 rfl (fun hcm => absurd hcm (nI_ge (show i < fr_wn V by omega) (by omega))) (fun hcm => ?_)
            have hi : i < fr_wn V := by omega
            refine lv_iload_n hx hb dX0_load_50 rfl (lv_at hl 1 rfl) ?_
            refine lv_if_eq (tgt := 77) hx hb dX0_load_51 rfl (fun hz => ?_) (fun hz => absurd rfl hz)
            refine lv_aload_n hx hb dX0_load_77 rfl (lv_at hl 2 rfl) ?_
            refine fr_gX 5 hx hb hw hown hK hP (by decide) mF_made rfl dX0_load_78 ?_
            refine lv_iload hx hb dX0_load_81 (lv_at hl 0 rfl) ?_
            refine lv_aload_n hx hb dX0_load_83 rfl (lv_at hl 2 rfl) ?_
            refine lv_iload_n hx hb dX0_load_84 rfl (lv_at hl 4 rfl) ?_
            refine lv_iload hx hb dX0_load_85 (lv_at hl 0 rfl) ?_
            refine fr_Xl (As := [.int (nI k), .int (nI i)]) hS0 (cF_placesWhereOne l D V ad ka mk nm pt ro k i hLk hV hi) (cw_F_placesWhereOne hw ⟨Nat.le_of_ble_eq_true rfl, Nat.le_of_ble_eq_true rfl⟩) hK hP hT hS rfl hl.1 rfl (Nat.le_of_ble_eq_true rfl) dX0_load_87 ⟨Nat.zero_le _, Nat.zero_le _⟩ (fun b2 hb2 => ?_)
            subst hb2
            refine fr_last (ws2 := fr_xw V ad ka (vp_updL mk i (fr_pw V k i)) nm pt ro) hx hb hK hP (fr_D hinj) hS 2 2 rfl rfl hi (by omega) dX0_load_90 rfl (fun H locs hP hS => ?_)
            refine lv_iinc (k := 0) (v := nI (i + 1)) hx hb dX0_load_91 hl rfl (fr_inc i) (by decide) rfl (fun ls hl => ?_)
            replace hl : lv_has ls 5 [(4, .int (nI (i + 1))), (3, .int 0), (0, .ref (ad 0)), (1, .int (nI j)), (2, .int (nI k))] := hl
            refine lv_goto (tgt := 41) hx hb dX0_load_94 rfl ?_
            exact ih _ H locs hS hP ls (i + 1) (by omega) (lv_sub hl [0, 1, 2, 3, 4] rfl) (fr_upS hg (rfl))
        ·
          refine lv_if_ne (tgt := 38) hx hb dX0_load_33 rfl (fun hz => absurd rfl hz) (fun hz => ?_)
          refine lv_iconst (v := (-1)) hx hb dX0_load_36 (by decide) ?_
          exact W.iret (v := (-1)) hx hb hret (fun t ht hW => ⟨⟨_, (mk, nm, pt, ro), rfl, by rw [show fr_sLoad V F (nI j) what = (-1, F) from if_neg (by rw [fr_okB_no hno, decide_eq_false h1, decide_eq_false h2, Bool.or_false, Bool.or_false, Bool.and_false]; decide)]; exact ⟨rfl, hF⟩, by show va_P D vwCl _ t.heap; rw [ht]; exact hP⟩, hS.F ht⟩) hS.2.2 dX0_load_37
      ·
        refine lv_if_eq (tgt := 36) hx hb dX0_load_21 rfl (fun hz => ?_) (fun hz => absurd rfl hz)
        refine lv_iconst (v := (-1)) hx hb dX0_load_36 (by decide) ?_
        exact W.iret (v := (-1)) hx hb hret (fun t ht hW => ⟨⟨_, (mk, nm, pt, ro), rfl, by rw [show fr_sLoad V F r what = (-1, F) from if_neg (fr_and2 (Or.inl (fr_okB_no (hno))))]; exact ⟨rfl, hF⟩, by show va_P D vwCl _ t.heap; rw [ht]; exact hP⟩, hS.F ht⟩) hS.2.2 dX0_load_37
    ·
      obtain rfl : what = (-1) := h2
      refine lv_iconst (v := 1) hx hb dX0_load_11 (by decide) ?_
      refine lv_goto (tgt := 16) hx hb dX0_load_12 rfl ?_
      refine lv_istore_n hx hb dX0_load_16 rfl hl (by decide) rfl (fun ls hl => ?_)
      replace hl : lv_has ls 5 [(3, .int 1), (0, .ref (ad 0)), (1, .int r), (2, .int ((-1)))] := hl
      refine lv_iload_n hx hb dX0_load_17 rfl (lv_at hl 2 rfl) ?_
      refine fr_cSi (As := [.int r]) hS0 (cF_isRegister l r) (cw_F_isRegister hw ⟨Nat.le_of_ble_eq_true rfl, Nat.le_of_ble_eq_true rfl⟩) (fr_pre0) rfl hl.1 rfl (Nat.le_of_ble_eq_true rfl) dX0_load_18 ⟨Nat.zero_le _, Nat.zero_le _⟩ (fun b0 hb0 => ?_)
      rcases hb0 with ⟨rfl, hOj⟩ | ⟨rfl, hno⟩
      ·
        refine lv_if_eq (tgt := 36) hx hb dX0_load_21 rfl (fun hz => absurd hz (by decide)) (fun hz => ?_)
        obtain ⟨j, hLj, rfl⟩ := fr_ok_ex (by decide) hOj
        refine lv_iload_n hx hb dX0_load_24 rfl (lv_at hl 0 rfl) ?_
        refine lv_if_ne (tgt := 38) hx hb dX0_load_25 rfl (fun hz => ?_) (fun hz => absurd hz (by decide))
        refine lv_iconst (v := 0) hx hb dX0_load_38 (by decide) ?_
        refine lv_istore hx hb dX0_load_39 hl (by decide) rfl (fun ls hl => ?_)
        replace hl : lv_has ls 5 [(4, .int 0), (3, .int 1), (0, .ref (ad 0)), (1, .int (nI j)), (2, .int ((-1)))] := hl
        obtain ⟨n, i, hin, hi0⟩ : ∃ n i : Nat, i + n = fr_wn V ∧ i = 0 := ⟨fr_wn V, 0, Nat.zero_add _, rfl⟩
        replace hl : lv_has ls 5 [(4, .int (nI i)), (3, .int 1), (0, .ref (ad 0)), (1, .int (nI j)), (2, .int ((-1)))] := by rw [hi0]; exact hl
        have hg : ∀ w, w < i → mk w = if true = true then fr_pl V else 0 := fun w h => absurd h (by omega)
        clear hi0
        induction n generalizing i ls H locs mk with
        | zero =>
          refine lv_iload hx hb dX0_load_41 (lv_at hl 0 rfl) ?_
          refine lv_aload_n hx hb dX0_load_43 rfl (lv_at hl 2 rfl) ?_
          refine fr_gX 2 hx hb hw hown hK hP (by decide) mF_words rfl dX0_load_44 ?_
          refine lv_icmp_ge (tgt := 97) hx hb dX0_load_47 rfl (fun hcm => ?_) (fun hcm => absurd (nI_le (show fr_wn V ≤ i by omega) (by omega)) hcm)
          refine lv_aload_n hx hb dX0_load_97 rfl (lv_at hl 2 rfl) ?_
          refine lv_iload_n hx hb dX0_load_98 rfl (lv_at hl 3 rfl) ?_
          refine fr_Xm (As := [.int (nI j)]) hS0 (cF_keep l D V ad ka mk nm pt ro hV hinj j hLj) (cw_F_keep hw ⟨Nat.le_of_ble_eq_true rfl, Nat.le_of_ble_eq_true rfl⟩) hK hP hT hS rfl hl.1 rfl (Nat.le_of_ble_eq_true rfl) dX0_load_99 ⟨Nat.zero_le _, Nat.zero_le _⟩ (fun b u H locs hu hP hS => ?_)
          obtain ⟨rfl, rfl⟩ := hu
          have hR := fr_R_const hV true (fun w h => hg w (by omega))
          exact W.iret (v := nI (fr_ct mk (fr_wn V))) hx hb hret (fun t ht hW => ⟨⟨_, (mk, nm, pt, va_up ro j (va_cpy mk (ro j) 0 0 (fr_wn V))), rfl, fr_fin hV hF hLj hR (by unfold fr_sLoad; rw [if_pos (by rw [fr_okB_nI hLj (by decide)]; rfl)]; rfl), by show va_P D vwCl _ t.heap; rw [ht]; exact hP⟩, hS.F ht⟩) hS.2.2 dX0_load_102
        | succ n ih =>
          refine lv_iload hx hb dX0_load_41 (lv_at hl 0 rfl) ?_
          refine lv_aload_n hx hb dX0_load_43 rfl (lv_at hl 2 rfl) ?_
          refine fr_gX 2 hx hb hw hown hK hP (by decide) mF_words rfl dX0_load_44 ?_
          refine lv_icmp_ge (tgt := 97) hx hb dX0_load_47 rfl (fun hcm => absurd hcm (nI_ge (show i < fr_wn V by omega) (by omega))) (fun hcm => ?_)
          have hi : i < fr_wn V := by omega
          refine lv_iload_n hx hb dX0_load_50 rfl (lv_at hl 1 rfl) ?_
          refine lv_if_eq (tgt := 77) hx hb dX0_load_51 rfl (fun hz => absurd hz (by decide)) (fun hz => ?_)
          refine lv_aload_n hx hb dX0_load_54 rfl (lv_at hl 2 rfl) ?_
          refine fr_gX 5 hx hb hw hown hK hP (by decide) mF_made rfl dX0_load_55 ?_
          refine lv_iload hx hb dX0_load_58 (lv_at hl 0 rfl) ?_
          refine lv_iload_n hx hb dX0_load_60 rfl (lv_at hl 4 rfl) ?_
          refine lv_iconst (v := (-1)) hx hb dX0_load_61 (by decide) ?_
          refine lv_icmp_ne (tgt := 72) hx hb dX0_load_62 rfl (fun hz => absurd rfl hz) (fun hz => ?_)
          refine lv_aload_n hx hb dX0_load_65 rfl (lv_at hl 2 rfl) ?_
          refine fr_gX 3 hx hb hw hown hK hP (by decide) mF_places rfl dX0_load_66 ?_
          refine lv_goto (tgt := 73) hx hb dX0_load_69 rfl ?_
          refine fr_last (ws2 := fr_xw V ad ka (vp_updL mk i (fr_pl V)) nm pt ro) hx hb hK hP (fr_D hinj) hS 2 2 rfl rfl hi (by omega) dX0_load_73 rfl (fun H locs hP hS => ?_)
          refine lv_goto (tgt := 91) hx hb dX0_load_74 rfl ?_
          refine lv_iinc (k := 0) (v := nI (i + 1)) hx hb dX0_load_91 hl rfl (fr_inc i) (by decide) rfl (fun ls hl => ?_)
          replace hl : lv_has ls 5 [(4, .int (nI (i + 1))), (3, .int 1), (0, .ref (ad 0)), (1, .int (nI j)), (2, .int ((-1)))] := hl
          refine lv_goto (tgt := 41) hx hb dX0_load_94 rfl ?_
          exact ih _ H locs hS hP ls (i + 1) (by omega) (lv_sub hl [0, 1, 2, 3, 4] rfl) (fr_upS hg (rfl))
      ·
        refine lv_if_eq (tgt := 36) hx hb dX0_load_21 rfl (fun hz => ?_) (fun hz => absurd rfl hz)
        refine lv_iconst (v := (-1)) hx hb dX0_load_36 (by decide) ?_
        exact W.iret (v := (-1)) hx hb hret (fun t ht hW => ⟨⟨_, (mk, nm, pt, ro), rfl, by rw [show fr_sLoad V F r (-1) = (-1, F) from if_neg (fr_and2 (Or.inl (fr_okB_no (hno))))]; exact ⟨rfl, hF⟩, by show va_P D vwCl _ t.heap; rw [ht]; exact hP⟩, hS.F ht⟩) hS.2.2 dX0_load_37
