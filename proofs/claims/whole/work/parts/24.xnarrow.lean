set_option maxHeartbeats 4000000 in
set_option maxRecDepth 100000 in
theorem cF_with (l : Launch) (D : va_G) (V : Nat) (ad : Nat → Nat) (ka : Nat → ClassId) (mk : Nat → Int64) (nm pt : Nat → Int32) (ro : Nat → Nat → Int64) (F : fr_F) (hF : fr_XR V F ro) (hV : V < 10) (hV1 : 1 ≤ V) (hinj : fr_inj ad) (r a v : Int32) (one : Bool)    : Met l yX0_with wsF_with rmF_with (va_Pc [.ref (ad 0), .int r, .int a, .int v, .int (fr_bi one)] (fr_PX D V ad ka mk nm pt ro)) (va_Qi (fun res u => res = (fr_sWith V F r a v one).1 ∧ fr_XR V (fr_sWith V F r a v one).2 u.2.2.2) (fun u t => va_P D vwCl (fr_xu V ad ka u) t.heap) (fr_A ad)) 0 0 (fr_A ad) := by
  refine Met.ofW (cc := cX0_with) (maxL := 6) (ret := some .int) (by decide) rfl ?_
  intro p e s m args below meth c s₁ B hml hv
  obtain ⟨rfl, hP, hK, hT⟩ := hv
  have hx := B.exec
  have hb := B.bytes
  have hret := B.returns
  have hw := fun w (h : w ∈ WA) => atoms_spec (ws := wsF_with) B.pre w (List.mem_cons_of_mem _ h)
  have hown : s.vm.findClass "FunctionRoom" = some m.cls := findClass_of_methodNamed B.named
  have hlocks := B.notSynchronized
  have hS0 : CallFix p m c cX0_with 6 s _ WA "FunctionRoom" := ⟨hx, hb, hml, hown, hw⟩
  have hl := lv_entry ([.ref (ad 0), .int r, .int a, .int v, .int (fr_bi one)]) (n := 6) (Nat.le_of_ble_eq_true rfl)
  rw [lg_entry_eq]
  generalize (lg_sl ([.ref (ad 0), .int r, .int a, .int v, .int (fr_bi one)]) ++ List.replicate (6 - (lg_sl ([.ref (ad 0), .int r, .int a, .int v, .int (fr_bi one)])).length) Slot.unset).toArray = ls at hl ⊢
  replace hl : lv_has ls 6 [(0, .ref (ad 0)), (1, .int r), (2, .int a), (3, .int v), (4, .int (fr_bi one))] := hl
  have hw8 := (fr_wn_le V hV).2.1
  have h512 := fr_pow512 hV
  refine fr_gen (A := fr_A ad) hP (fun H locs hP2 hS => ?_)
  clear hP
  have hP := hP2
  clear hP2
  refine lv_iload_n hx hb dX0_with_0 rfl (lv_at hl 1 rfl) ?_
  refine fr_cSi (As := [.int r]) hS0 (cF_isRegister l r) (cw_F_isRegister hw ⟨Nat.le_of_ble_eq_true rfl, Nat.le_of_ble_eq_true rfl⟩) (fr_pre0) rfl hl.1 rfl (Nat.le_of_ble_eq_true rfl) dX0_with_1 ⟨Nat.zero_le _, Nat.zero_le _⟩ (fun b0 hb0 => ?_)
  rcases hb0 with ⟨rfl, hOj⟩ | ⟨rfl, hno⟩
  ·
    refine lv_if_eq (tgt := 22) hx hb dX0_with_4 rfl (fun hz => absurd hz (by decide)) (fun hz => ?_)
    obtain ⟨j, hLj, rfl⟩ := fr_ok_ex (by decide) hOj
    refine lv_iload_n hx hb dX0_with_7 rfl (lv_at hl 2 rfl) ?_
    refine fr_cSi (As := [.int a]) hS0 (cF_isRegister l a) (cw_F_isRegister hw ⟨Nat.le_of_ble_eq_true rfl, Nat.le_of_ble_eq_true rfl⟩) (fr_pre0) rfl hl.1 rfl (Nat.le_of_ble_eq_true rfl) dX0_with_8 ⟨Nat.zero_le _, Nat.zero_le _⟩ (fun b0 hb0 => ?_)
    rcases hb0 with ⟨rfl, hOx⟩ | ⟨rfl, hno⟩
    ·
      refine lv_if_eq (tgt := 22) hx hb dX0_with_11 rfl (fun hz => absurd hz (by decide)) (fun hz => ?_)
      obtain ⟨x, hLx, rfl⟩ := fr_ok_ex (by decide) hOx
      refine lv_aload_n hx hb dX0_with_14 rfl (lv_at hl 0 rfl) ?_
      refine lv_iload_n hx hb dX0_with_15 rfl (lv_at hl 3 rfl) ?_
      refine fr_Xi (As := [.int v]) hS0 (cF_isVariable l D V ad ka mk nm pt ro v) (cw_F_isVariable hw ⟨Nat.le_of_ble_eq_true rfl, Nat.le_of_ble_eq_true rfl⟩) hK hP hT hS rfl hl.1 rfl (Nat.le_of_ble_eq_true rfl) dX0_with_16 ⟨Nat.zero_le _, Nat.zero_le _⟩ (fun b0 hb0 => ?_)
      rcases hb0 with ⟨rfl, hOk⟩ | ⟨rfl, hno⟩
      ·
        refine lv_if_ne (tgt := 24) hx hb dX0_with_19 rfl (fun hz => ?_) (fun hz => absurd hz (by decide))
        obtain ⟨k, hLk, rfl⟩ := fr_ok_ex (by omega) hOk
        refine lv_iconst (v := 0) hx hb dX0_with_24 (by decide) ?_
        refine lv_istore hx hb dX0_with_25 hl (by decide) rfl (fun ls hl => ?_)
        replace hl : lv_has ls 6 [(5, .int 0), (0, .ref (ad 0)), (1, .int (nI j)), (2, .int (nI x)), (3, .int (nI k)), (4, .int (fr_bi one))] := hl
        obtain ⟨n, i, hin, hi0⟩ : ∃ n i : Nat, i + n = fr_wn V ∧ i = 0 := ⟨fr_wn V, 0, Nat.zero_add _, rfl⟩
        replace hl : lv_has ls 6 [(5, .int (nI i)), (0, .ref (ad 0)), (1, .int (nI j)), (2, .int (nI x)), (3, .int (nI k)), (4, .int (fr_bi one))] := by rw [hi0]; exact hl
        have hg : ∀ w, w < i → mk w = fr_nr V (ro x) k one w := fun w h => absurd h (by omega)
        clear hi0
        induction n generalizing i ls H locs mk with
        | zero =>
          refine lv_iload hx hb dX0_with_27 (lv_at hl 0 rfl) ?_
          refine lv_aload_n hx hb dX0_with_29 rfl (lv_at hl 1 rfl) ?_
          refine fr_gX 2 hx hb hw hown hK hP (by decide) mF_words rfl dX0_with_30 ?_
          refine lv_icmp_ge (tgt := 64) hx hb dX0_with_33 rfl (fun hcm => ?_) (fun hcm => absurd (nI_le (show fr_wn V ≤ i by omega) (by omega)) hcm)
          refine lv_aload_n hx hb dX0_with_64 rfl (lv_at hl 1 rfl) ?_
          refine lv_iload_n hx hb dX0_with_65 rfl (lv_at hl 2 rfl) ?_
          refine fr_Xm (As := [.int (nI j)]) hS0 (cF_keep l D V ad ka mk nm pt ro hV hinj j hLj) (cw_F_keep hw ⟨Nat.le_of_ble_eq_true rfl, Nat.le_of_ble_eq_true rfl⟩) hK hP hT hS rfl hl.1 rfl (Nat.le_of_ble_eq_true rfl) dX0_with_66 ⟨Nat.zero_le _, Nat.zero_le _⟩ (fun b u H locs hu hP hS => ?_)
          obtain ⟨rfl, rfl⟩ := hu
          have hR := fr_R_with hV hLk (hF x hLx) (fun w h => hg w (by omega))
          exact W.iret (v := nI (fr_ct mk (fr_wn V))) hx hb hret (fun t ht hW => ⟨⟨_, (mk, nm, pt, va_up ro j (va_cpy mk (ro j) 0 0 (fr_wn V))), rfl, fr_fin hV hF hLj hR (by unfold fr_sWith; rw [if_pos (by rw [fr_okB_nI hLj (by decide), fr_okB_nI hLx (by decide), fr_okB_nI hLk (by omega)]; rfl), fr_v_nI (show x < 2 ^ 31 by omega), fr_v_nI (show k < 2 ^ 31 by omega)]), by show va_P D vwCl _ t.heap; rw [ht]; exact hP⟩, hS.F ht⟩) hS.2.2 dX0_with_69
        | succ n ih =>
          refine lv_iload hx hb dX0_with_27 (lv_at hl 0 rfl) ?_
          refine lv_aload_n hx hb dX0_with_29 rfl (lv_at hl 1 rfl) ?_
          refine fr_gX 2 hx hb hw hown hK hP (by decide) mF_words rfl dX0_with_30 ?_
          refine lv_icmp_ge (tgt := 64) hx hb dX0_with_33 rfl (fun hcm => absurd hcm (nI_ge (show i < fr_wn V by omega) (by omega))) (fun hcm => ?_)
          have hi : i < fr_wn V := by omega
          refine lv_aload_n hx hb dX0_with_36 rfl (lv_at hl 1 rfl) ?_
          refine fr_gX 5 hx hb hw hown hK hP (by decide) mF_made rfl dX0_with_37 ?_
          refine lv_iload hx hb dX0_with_40 (lv_at hl 0 rfl) ?_
          refine lv_aload_n hx hb dX0_with_42 rfl (lv_at hl 1 rfl) ?_
          refine lv_aload_n hx hb dX0_with_43 rfl (lv_at hl 1 rfl) ?_
          refine fr_gX 4 hx hb hw hown hK hP (by decide) mF_rows rfl dX0_with_44 ?_
          refine lv_iload_n hx hb dX0_with_47 rfl (lv_at hl 3 rfl) ?_
          refine fr_aald hx hb hK hP 1 0 rfl rfl hLx (by decide) rfl dX0_with_48 ?_
          refine lv_iload_n hx hb dX0_with_49 rfl (lv_at hl 4 rfl) ?_
          refine lv_iload hx hb dX0_with_50 (lv_at hl 5 rfl) ?_
          refine lv_iload hx hb dX0_with_52 (lv_at hl 0 rfl) ?_
          refine fr_Xl (As := [.ref (ad (x + 5)), .int (nI k), .int (fr_bi one), .int (nI i)]) hS0 (cF_narrowed l D V ad ka mk nm pt ro (x + 5) 1 (ad (x + 5)) (ka 1) (ro x) (fr_row hLx) rfl k i one hLk hV hi) (cw_F_narrowed hw ⟨Nat.le_of_ble_eq_true rfl, Nat.le_of_ble_eq_true rfl⟩) hK hP hT hS rfl hl.1 rfl (Nat.le_of_ble_eq_true rfl) dX0_with_54 ⟨Nat.zero_le _, Nat.zero_le _⟩ (fun b2 hb2 => ?_)
          subst hb2
          refine fr_last (ws2 := fr_xw V ad ka (vp_updL mk i (fr_nr V (ro x) k one i)) nm pt ro) hx hb hK hP (fr_D hinj) hS 2 2 rfl rfl hi (by omega) dX0_with_57 rfl (fun H locs hP hS => ?_)
          refine lv_iinc (k := 0) (v := nI (i + 1)) hx hb dX0_with_58 hl rfl (fr_inc i) (by decide) rfl (fun ls hl => ?_)
          replace hl : lv_has ls 6 [(5, .int (nI (i + 1))), (0, .ref (ad 0)), (1, .int (nI j)), (2, .int (nI x)), (3, .int (nI k)), (4, .int (fr_bi one))] := hl
          refine lv_goto (tgt := 27) hx hb dX0_with_61 rfl ?_
          exact ih _ H locs hS hP ls (i + 1) (by omega) (lv_sub hl [0, 1, 2, 3, 4, 5] rfl) (fr_upS hg (rfl))
      ·
        refine lv_if_ne (tgt := 24) hx hb dX0_with_19 rfl (fun hz => absurd rfl hz) (fun hz => ?_)
        refine lv_iconst (v := (-1)) hx hb dX0_with_22 (by decide) ?_
        exact W.iret (v := (-1)) hx hb hret (fun t ht hW => ⟨⟨_, (mk, nm, pt, ro), rfl, by rw [show fr_sWith V F (nI j) (nI x) v one = (-1, F) from if_neg (fr_and3 (Or.inr (Or.inr (fr_okB_no (hno)))))]; exact ⟨rfl, hF⟩, by show va_P D vwCl _ t.heap; rw [ht]; exact hP⟩, hS.F ht⟩) hS.2.2 dX0_with_23
    ·
      refine lv_if_eq (tgt := 22) hx hb dX0_with_11 rfl (fun hz => ?_) (fun hz => absurd rfl hz)
      refine lv_iconst (v := (-1)) hx hb dX0_with_22 (by decide) ?_
      exact W.iret (v := (-1)) hx hb hret (fun t ht hW => ⟨⟨_, (mk, nm, pt, ro), rfl, by rw [show fr_sWith V F (nI j) a v one = (-1, F) from if_neg (fr_and3 (Or.inr (Or.inl (fr_okB_no (hno)))))]; exact ⟨rfl, hF⟩, by show va_P D vwCl _ t.heap; rw [ht]; exact hP⟩, hS.F ht⟩) hS.2.2 dX0_with_23
  ·
    refine lv_if_eq (tgt := 22) hx hb dX0_with_4 rfl (fun hz => ?_) (fun hz => absurd rfl hz)
    refine lv_iconst (v := (-1)) hx hb dX0_with_22 (by decide) ?_
    exact W.iret (v := (-1)) hx hb hret (fun t ht hW => ⟨⟨_, (mk, nm, pt, ro), rfl, by rw [show fr_sWith V F r a v one = (-1, F) from if_neg (fr_and3 (Or.inl (fr_okB_no (hno))))]; exact ⟨rfl, hF⟩, by show va_P D vwCl _ t.heap; rw [ht]; exact hP⟩, hS.F ht⟩) hS.2.2 dX0_with_23
set_option maxHeartbeats 4000000 in
set_option maxRecDepth 100000 in
theorem cF_bind (l : Launch) (D : va_G) (V : Nat) (ad : Nat → Nat) (ka : Nat → ClassId) (mk : Nat → Int64) (nm pt : Nat → Int32) (ro : Nat → Nat → Int64) (F : fr_F) (hF : fr_XR V F ro) (hV : V < 10) (hV1 : 1 ≤ V) (hinj : fr_inj ad) (r a v : Int32) (all : Bool)    : Met l yX0_bind wsF_bind rmF_bind (va_Pc [.ref (ad 0), .int r, .int a, .int v, .int (fr_bi all)] (fr_PX D V ad ka mk nm pt ro)) (va_Qi (fun res u => res = (fr_sBind V F r a v all).1 ∧ fr_XR V (fr_sBind V F r a v all).2 u.2.2.2) (fun u t => va_P D vwCl (fr_xu V ad ka u) t.heap) (fr_A ad)) 0 0 (fr_A ad) := by
  refine Met.ofW (cc := cX0_bind) (maxL := 10) (ret := some .int) (by decide) rfl ?_
  intro p e s m args below meth c s₁ B hml hv
  obtain ⟨rfl, hP, hK, hT⟩ := hv
  have hx := B.exec
  have hb := B.bytes
  have hret := B.returns
  have hw := fun w (h : w ∈ WA) => atoms_spec (ws := wsF_bind) B.pre w (List.mem_cons_of_mem _ h)
  have hown : s.vm.findClass "FunctionRoom" = some m.cls := findClass_of_methodNamed B.named
  have hlocks := B.notSynchronized
  have hS0 : CallFix p m c cX0_bind 10 s _ WA "FunctionRoom" := ⟨hx, hb, hml, hown, hw⟩
  have hl := lv_entry ([.ref (ad 0), .int r, .int a, .int v, .int (fr_bi all)]) (n := 10) (Nat.le_of_ble_eq_true rfl)
  rw [lg_entry_eq]
  generalize (lg_sl ([.ref (ad 0), .int r, .int a, .int v, .int (fr_bi all)]) ++ List.replicate (10 - (lg_sl ([.ref (ad 0), .int r, .int a, .int v, .int (fr_bi all)])).length) Slot.unset).toArray = ls at hl ⊢
  replace hl : lv_has ls 10 [(0, .ref (ad 0)), (1, .int r), (2, .int a), (3, .int v), (4, .int (fr_bi all))] := hl
  have hw8 := (fr_wn_le V hV).2.1
  have h512 := fr_pow512 hV
  refine fr_gen (A := fr_A ad) hP (fun H locs hP2 hS => ?_)
  clear hP
  have hP := hP2
  clear hP2
  refine lv_iload_n hx hb dX0_bind_0 rfl (lv_at hl 1 rfl) ?_
  refine fr_cSi (As := [.int r]) hS0 (cF_isRegister l r) (cw_F_isRegister hw ⟨Nat.le_of_ble_eq_true rfl, Nat.le_of_ble_eq_true rfl⟩) (fr_pre0) rfl hl.1 rfl (Nat.le_of_ble_eq_true rfl) dX0_bind_1 ⟨Nat.zero_le _, Nat.zero_le _⟩ (fun b0 hb0 => ?_)
  rcases hb0 with ⟨rfl, hOj⟩ | ⟨rfl, hno⟩
  ·
    refine lv_if_eq (tgt := 22) hx hb dX0_bind_4 rfl (fun hz => absurd hz (by decide)) (fun hz => ?_)
    obtain ⟨j, hLj, rfl⟩ := fr_ok_ex (by decide) hOj
    refine lv_iload_n hx hb dX0_bind_7 rfl (lv_at hl 2 rfl) ?_
    refine fr_cSi (As := [.int a]) hS0 (cF_isRegister l a) (cw_F_isRegister hw ⟨Nat.le_of_ble_eq_true rfl, Nat.le_of_ble_eq_true rfl⟩) (fr_pre0) rfl hl.1 rfl (Nat.le_of_ble_eq_true rfl) dX0_bind_8 ⟨Nat.zero_le _, Nat.zero_le _⟩ (fun b0 hb0 => ?_)
    rcases hb0 with ⟨rfl, hOx⟩ | ⟨rfl, hno⟩
    ·
      refine lv_if_eq (tgt := 22) hx hb dX0_bind_11 rfl (fun hz => absurd hz (by decide)) (fun hz => ?_)
      obtain ⟨x, hLx, rfl⟩ := fr_ok_ex (by decide) hOx
      refine lv_aload_n hx hb dX0_bind_14 rfl (lv_at hl 0 rfl) ?_
      refine lv_iload_n hx hb dX0_bind_15 rfl (lv_at hl 3 rfl) ?_
      refine fr_Xi (As := [.int v]) hS0 (cF_isVariable l D V ad ka mk nm pt ro v) (cw_F_isVariable hw ⟨Nat.le_of_ble_eq_true rfl, Nat.le_of_ble_eq_true rfl⟩) hK hP hT hS rfl hl.1 rfl (Nat.le_of_ble_eq_true rfl) dX0_bind_16 ⟨Nat.zero_le _, Nat.zero_le _⟩ (fun b0 hb0 => ?_)
      rcases hb0 with ⟨rfl, hOk⟩ | ⟨rfl, hno⟩
      ·
        refine lv_if_ne (tgt := 24) hx hb dX0_bind_19 rfl (fun hz => ?_) (fun hz => absurd hz (by decide))
        obtain ⟨k, hLk, rfl⟩ := fr_ok_ex (by omega) hOk
        refine lv_iconst (v := 0) hx hb dX0_bind_24 (by decide) ?_
        refine lv_istore hx hb dX0_bind_25 hl (by decide) rfl (fun ls hl => ?_)
        replace hl : lv_has ls 10 [(5, .int 0), (0, .ref (ad 0)), (1, .int (nI j)), (2, .int (nI x)), (3, .int (nI k)), (4, .int (fr_bi all))] := hl
        obtain ⟨n, i, hin, hi0⟩ : ∃ n i : Nat, i + n = fr_wn V ∧ i = 0 := ⟨fr_wn V, 0, Nat.zero_add _, rfl⟩
        replace hl : lv_has ls 10 [(5, .int (nI i)), (0, .ref (ad 0)), (1, .int (nI j)), (2, .int (nI x)), (3, .int (nI k)), (4, .int (fr_bi all))] := by rw [hi0]; exact hl
        have hg : ∀ w, w < i → mk w = if all = true then ro x w &&& fr_tn V (ro x) k w else ro x w ||| fr_tn V (ro x) k w := fun w h => absurd h (by omega)
        clear hi0
        induction n generalizing i ls H locs mk with
        | zero =>
          refine lv_iload hx hb dX0_bind_27 (lv_at hl 0 rfl) ?_
          refine lv_aload_n hx hb dX0_bind_29 rfl (lv_at hl 1 rfl) ?_
          refine fr_gX 2 hx hb hw hown hK hP (by decide) mF_words rfl dX0_bind_30 ?_
          refine lv_icmp_ge (tgt := 93) hx hb dX0_bind_33 rfl (fun hcm => ?_) (fun hcm => absurd (nI_le (show fr_wn V ≤ i by omega) (by omega)) hcm)
          refine lv_aload_n hx hb dX0_bind_93 rfl (lv_at hl 1 rfl) ?_
          refine lv_iload_n hx hb dX0_bind_94 rfl (lv_at hl 2 rfl) ?_
          refine fr_Xm (As := [.int (nI j)]) hS0 (cF_keep l D V ad ka mk nm pt ro hV hinj j hLj) (cw_F_keep hw ⟨Nat.le_of_ble_eq_true rfl, Nat.le_of_ble_eq_true rfl⟩) hK hP hT hS rfl hl.1 rfl (Nat.le_of_ble_eq_true rfl) dX0_bind_95 ⟨Nat.zero_le _, Nat.zero_le _⟩ (fun b u H locs hu hP hS => ?_)
          obtain ⟨rfl, rfl⟩ := hu
          have hR := fr_R_bind hV hLk (hF x hLx) (fun w h => hg w (by omega))
          exact W.iret (v := nI (fr_ct mk (fr_wn V))) hx hb hret (fun t ht hW => ⟨⟨_, (mk, nm, pt, va_up ro j (va_cpy mk (ro j) 0 0 (fr_wn V))), rfl, fr_fin hV hF hLj hR (by unfold fr_sBind; rw [if_pos (by rw [fr_okB_nI hLj (by decide), fr_okB_nI hLx (by decide), fr_okB_nI hLk (by omega)]; rfl), fr_v_nI (show x < 2 ^ 31 by omega), fr_v_nI (show k < 2 ^ 31 by omega)]), by show va_P D vwCl _ t.heap; rw [ht]; exact hP⟩, hS.F ht⟩) hS.2.2 dX0_bind_98
        | succ n ih =>
          refine lv_iload hx hb dX0_bind_27 (lv_at hl 0 rfl) ?_
          refine lv_aload_n hx hb dX0_bind_29 rfl (lv_at hl 1 rfl) ?_
          refine fr_gX 2 hx hb hw hown hK hP (by decide) mF_words rfl dX0_bind_30 ?_
          refine lv_icmp_ge (tgt := 93) hx hb dX0_bind_33 rfl (fun hcm => absurd hcm (nI_ge (show i < fr_wn V by omega) (by omega))) (fun hcm => ?_)
          have hi : i < fr_wn V := by omega
          refine lv_aload_n hx hb dX0_bind_36 rfl (lv_at hl 1 rfl) ?_
          refine fr_gX 4 hx hb hw hown hK hP (by decide) mF_rows rfl dX0_bind_37 ?_
          refine lv_iload_n hx hb dX0_bind_40 rfl (lv_at hl 3 rfl) ?_
          refine fr_aald hx hb hK hP 1 0 rfl rfl hLx (by decide) rfl dX0_bind_41 ?_
          refine lv_iload hx hb dX0_bind_42 (lv_at hl 0 rfl) ?_
          refine fr_lald hx hb hK hP (x + 5) 1 (fr_row hLx) rfl hi (by omega) dX0_bind_44 ?_
          refine lv_lstore hx hb dX0_bind_45 hl (by decide) rfl (fun ls hl => ?_)
          replace hl : lv_has ls 10 [(6, .long (ro x i)), (5, .int (nI i)), (0, .ref (ad 0)), (1, .int (nI j)), (2, .int (nI x)), (3, .int (nI k)), (4, .int (fr_bi all))] := hl
          refine lv_aload_n hx hb dX0_bind_47 rfl (lv_at hl 2 rfl) ?_
          refine lv_aload_n hx hb dX0_bind_48 rfl (lv_at hl 2 rfl) ?_
          refine fr_gX 4 hx hb hw hown hK hP (by decide) mF_rows rfl dX0_bind_49 ?_
          refine lv_iload_n hx hb dX0_bind_52 rfl (lv_at hl 4 rfl) ?_
          refine fr_aald hx hb hK hP 1 0 rfl rfl hLx (by decide) rfl dX0_bind_53 ?_
          refine lv_iload_n hx hb dX0_bind_54 rfl (lv_at hl 5 rfl) ?_
          refine lv_iload hx hb dX0_bind_55 (lv_at hl 1 rfl) ?_
          refine fr_Xl (As := [.ref (ad (x + 5)), .int (nI k), .int (nI i)]) hS0 (cF_turned l D V ad ka mk nm pt ro (x + 5) 1 (ad (x + 5)) (ka 1) (ro x) (fr_row hLx) rfl k i hLk hV hi) (cw_F_turned hw ⟨Nat.le_of_ble_eq_true rfl, Nat.le_of_ble_eq_true rfl⟩) hK hP hT hS rfl hl.1 rfl (Nat.le_of_ble_eq_true rfl) dX0_bind_57 ⟨Nat.zero_le _, Nat.zero_le _⟩ (fun b2 hb2 => ?_)
          subst hb2
          refine lv_lstore hx hb dX0_bind_60 hl (by decide) rfl (fun ls hl => ?_)
          replace hl : lv_has ls 10 [(8, .long (fr_tn V (ro x) k i)), (6, .long (ro x i)), (5, .int (nI i)), (0, .ref (ad 0)), (1, .int (nI j)), (2, .int (nI x)), (3, .int (nI k)), (4, .int (fr_bi all))] := hl
          refine lv_aload_n hx hb dX0_bind_62 rfl (lv_at hl 3 rfl) ?_
          refine fr_gX 5 hx hb hw hown hK hP (by decide) mF_made rfl dX0_bind_63 ?_
          refine lv_iload hx hb dX0_bind_66 (lv_at hl 2 rfl) ?_
          refine lv_iload hx hb dX0_bind_68 (lv_at hl 7 rfl) ?_
          refine lv_if_eq (tgt := 81) hx hb dX0_bind_70 rfl (fun h2 => ?_) (fun h2 => ?_)
          ·
            have h3 : all = false := by cases all <;> simp_all [fr_bi]
            refine lv_lload hx hb dX0_bind_81 (lv_at hl 1 rfl) ?_
            refine lv_lload hx hb dX0_bind_83 (lv_at hl 0 rfl) ?_
            refine lv_lor hx hb dX0_bind_85 ?_
            refine fr_last (ws2 := fr_xw V ad ka (vp_updL mk i ((ro x i ||| fr_tn V (ro x) k i))) nm pt ro) hx hb hK hP (fr_D hinj) hS 2 2 rfl rfl hi (by omega) dX0_bind_86 rfl (fun H locs hP hS => ?_)
            refine lv_iinc (k := 2) (v := nI (i + 1)) hx hb dX0_bind_87 hl rfl (fr_inc i) (by decide) rfl (fun ls hl => ?_)
            replace hl : lv_has ls 10 [(5, .int (nI (i + 1))), (8, .long (fr_tn V (ro x) k i)), (6, .long (ro x i)), (0, .ref (ad 0)), (1, .int (nI j)), (2, .int (nI x)), (3, .int (nI k)), (4, .int (fr_bi all))] := hl
            refine lv_goto (tgt := 27) hx hb dX0_bind_90 rfl ?_
            exact ih _ H locs hS hP ls (i + 1) (by omega) (lv_sub hl [0, 3, 4, 5, 6, 7] rfl) (fr_upS hg (by rw [h3]; rfl))
          ·
            have h3 : all = true := by cases all <;> simp_all [fr_bi]
            refine lv_lload hx hb dX0_bind_73 (lv_at hl 1 rfl) ?_
            refine lv_lload hx hb dX0_bind_75 (lv_at hl 0 rfl) ?_
            refine lv_land hx hb dX0_bind_77 ?_
            refine lv_goto (tgt := 86) hx hb dX0_bind_78 rfl ?_
            refine fr_last (ws2 := fr_xw V ad ka (vp_updL mk i ((ro x i &&& fr_tn V (ro x) k i))) nm pt ro) hx hb hK hP (fr_D hinj) hS 2 2 rfl rfl hi (by omega) dX0_bind_86 rfl (fun H locs hP hS => ?_)
            refine lv_iinc (k := 2) (v := nI (i + 1)) hx hb dX0_bind_87 hl rfl (fr_inc i) (by decide) rfl (fun ls hl => ?_)
            replace hl : lv_has ls 10 [(5, .int (nI (i + 1))), (8, .long (fr_tn V (ro x) k i)), (6, .long (ro x i)), (0, .ref (ad 0)), (1, .int (nI j)), (2, .int (nI x)), (3, .int (nI k)), (4, .int (fr_bi all))] := hl
            refine lv_goto (tgt := 27) hx hb dX0_bind_90 rfl ?_
            exact ih _ H locs hS hP ls (i + 1) (by omega) (lv_sub hl [0, 3, 4, 5, 6, 7] rfl) (fr_upS hg (by rw [h3]; rfl))
      ·
        refine lv_if_ne (tgt := 24) hx hb dX0_bind_19 rfl (fun hz => absurd rfl hz) (fun hz => ?_)
        refine lv_iconst (v := (-1)) hx hb dX0_bind_22 (by decide) ?_
        exact W.iret (v := (-1)) hx hb hret (fun t ht hW => ⟨⟨_, (mk, nm, pt, ro), rfl, by rw [show fr_sBind V F (nI j) (nI x) v all = (-1, F) from if_neg (fr_and3 (Or.inr (Or.inr (fr_okB_no (hno)))))]; exact ⟨rfl, hF⟩, by show va_P D vwCl _ t.heap; rw [ht]; exact hP⟩, hS.F ht⟩) hS.2.2 dX0_bind_23
    ·
      refine lv_if_eq (tgt := 22) hx hb dX0_bind_11 rfl (fun hz => ?_) (fun hz => absurd rfl hz)
      refine lv_iconst (v := (-1)) hx hb dX0_bind_22 (by decide) ?_
      exact W.iret (v := (-1)) hx hb hret (fun t ht hW => ⟨⟨_, (mk, nm, pt, ro), rfl, by rw [show fr_sBind V F (nI j) a v all = (-1, F) from if_neg (fr_and3 (Or.inr (Or.inl (fr_okB_no (hno)))))]; exact ⟨rfl, hF⟩, by show va_P D vwCl _ t.heap; rw [ht]; exact hP⟩, hS.F ht⟩) hS.2.2 dX0_bind_23
  ·
    refine lv_if_eq (tgt := 22) hx hb dX0_bind_4 rfl (fun hz => ?_) (fun hz => absurd rfl hz)
    refine lv_iconst (v := (-1)) hx hb dX0_bind_22 (by decide) ?_
    exact W.iret (v := (-1)) hx hb hret (fun t ht hW => ⟨⟨_, (mk, nm, pt, ro), rfl, by rw [show fr_sBind V F r a v all = (-1, F) from if_neg (fr_and3 (Or.inl (fr_okB_no (hno))))]; exact ⟨rfl, hF⟩, by show va_P D vwCl _ t.heap; rw [ht]; exact hP⟩, hS.F ht⟩) hS.2.2 dX0_bind_23
set_option maxHeartbeats 4000000 in
set_option maxRecDepth 100000 in
theorem cF_put (l : Launch) (D : va_G) (V : Nat) (ad : Nat → Nat) (ka : Nat → ClassId) (mk : Nat → Int64) (nm pt : Nat → Int32) (ro : Nat → Nat → Int64) (F : fr_F) (hF : fr_XR V F ro) (hV : V < 10) (hV1 : 1 ≤ V) (hinj : fr_inj ad) (r a v b : Int32)    : Met l yX0_put wsF_put rmF_put (va_Pc [.ref (ad 0), .int r, .int a, .int v, .int b] (fr_PX D V ad ka mk nm pt ro)) (va_Qi (fun res u => res = (fr_sPut V F r a v b).1 ∧ fr_XR V (fr_sPut V F r a v b).2 u.2.2.2) (fun u t => va_P D vwCl (fr_xu V ad ka u) t.heap) (fr_A ad)) 0 0 (fr_A ad) := by
  refine Met.ofW (cc := cX0_put) (maxL := 8) (ret := some .int) (by decide) rfl ?_
  intro p e s m args below meth c s₁ B hml hv
  obtain ⟨rfl, hP, hK, hT⟩ := hv
  have hx := B.exec
  have hb := B.bytes
  have hret := B.returns
  have hw := fun w (h : w ∈ WA) => atoms_spec (ws := wsF_put) B.pre w (List.mem_cons_of_mem _ h)
  have hown : s.vm.findClass "FunctionRoom" = some m.cls := findClass_of_methodNamed B.named
  have hlocks := B.notSynchronized
  have hS0 : CallFix p m c cX0_put 8 s _ WA "FunctionRoom" := ⟨hx, hb, hml, hown, hw⟩
  have hl := lv_entry ([.ref (ad 0), .int r, .int a, .int v, .int b]) (n := 8) (Nat.le_of_ble_eq_true rfl)
  rw [lg_entry_eq]
  generalize (lg_sl ([.ref (ad 0), .int r, .int a, .int v, .int b]) ++ List.replicate (8 - (lg_sl ([.ref (ad 0), .int r, .int a, .int v, .int b])).length) Slot.unset).toArray = ls at hl ⊢
  replace hl : lv_has ls 8 [(0, .ref (ad 0)), (1, .int r), (2, .int a), (3, .int v), (4, .int b)] := hl
  have hw8 := (fr_wn_le V hV).2.1
  have h512 := fr_pow512 hV
  refine fr_gen (A := fr_A ad) hP (fun H locs hP2 hS => ?_)
  clear hP
  have hP := hP2
  clear hP2
  refine lv_iload_n hx hb dX0_put_0 rfl (lv_at hl 1 rfl) ?_
  refine fr_cSi (As := [.int r]) hS0 (cF_isRegister l r) (cw_F_isRegister hw ⟨Nat.le_of_ble_eq_true rfl, Nat.le_of_ble_eq_true rfl⟩) (fr_pre0) rfl hl.1 rfl (Nat.le_of_ble_eq_true rfl) dX0_put_1 ⟨Nat.zero_le _, Nat.zero_le _⟩ (fun b0 hb0 => ?_)
  rcases hb0 with ⟨rfl, hOj⟩ | ⟨rfl, hno⟩
  ·
    refine lv_if_eq (tgt := 30) hx hb dX0_put_4 rfl (fun hz => absurd hz (by decide)) (fun hz => ?_)
    obtain ⟨j, hLj, rfl⟩ := fr_ok_ex (by decide) hOj
    refine lv_iload_n hx hb dX0_put_7 rfl (lv_at hl 2 rfl) ?_
    refine fr_cSi (As := [.int a]) hS0 (cF_isRegister l a) (cw_F_isRegister hw ⟨Nat.le_of_ble_eq_true rfl, Nat.le_of_ble_eq_true rfl⟩) (fr_pre0) rfl hl.1 rfl (Nat.le_of_ble_eq_true rfl) dX0_put_8 ⟨Nat.zero_le _, Nat.zero_le _⟩ (fun b0 hb0 => ?_)
    rcases hb0 with ⟨rfl, hOx⟩ | ⟨rfl, hno⟩
    ·
      refine lv_if_eq (tgt := 30) hx hb dX0_put_11 rfl (fun hz => absurd hz (by decide)) (fun hz => ?_)
      obtain ⟨x, hLx, rfl⟩ := fr_ok_ex (by decide) hOx
      refine lv_aload_n hx hb dX0_put_14 rfl (lv_at hl 0 rfl) ?_
      refine lv_iload_n hx hb dX0_put_15 rfl (lv_at hl 3 rfl) ?_
      refine fr_Xi (As := [.int v]) hS0 (cF_isVariable l D V ad ka mk nm pt ro v) (cw_F_isVariable hw ⟨Nat.le_of_ble_eq_true rfl, Nat.le_of_ble_eq_true rfl⟩) hK hP hT hS rfl hl.1 rfl (Nat.le_of_ble_eq_true rfl) dX0_put_16 ⟨Nat.zero_le _, Nat.zero_le _⟩ (fun b0 hb0 => ?_)
      rcases hb0 with ⟨rfl, hOk⟩ | ⟨rfl, hno⟩
      ·
        refine lv_if_eq (tgt := 30) hx hb dX0_put_19 rfl (fun hz => absurd hz (by decide)) (fun hz => ?_)
        obtain ⟨k, hLk, rfl⟩ := fr_ok_ex (by omega) hOk
        refine lv_iload hx hb dX0_put_22 (lv_at hl 4 rfl) ?_
        refine fr_cSi (As := [.int b]) hS0 (cF_isRegister l b) (cw_F_isRegister hw ⟨Nat.le_of_ble_eq_true rfl, Nat.le_of_ble_eq_true rfl⟩) (fr_pre0) rfl hl.1 rfl (Nat.le_of_ble_eq_true rfl) dX0_put_24 ⟨Nat.zero_le _, Nat.zero_le _⟩ (fun b0 hb0 => ?_)
        rcases hb0 with ⟨rfl, hOy⟩ | ⟨rfl, hno⟩
        ·
          refine lv_if_ne (tgt := 32) hx hb dX0_put_27 rfl (fun hz => ?_) (fun hz => absurd hz (by decide))
          obtain ⟨y, hLy, rfl⟩ := fr_ok_ex (by decide) hOy
          refine lv_iconst (v := 0) hx hb dX0_put_32 (by decide) ?_
          refine lv_istore hx hb dX0_put_33 hl (by decide) rfl (fun ls hl => ?_)
          replace hl : lv_has ls 8 [(5, .int 0), (0, .ref (ad 0)), (1, .int (nI j)), (2, .int (nI x)), (3, .int (nI k)), (4, .int (nI y))] := hl
          obtain ⟨n, i, hin, hi0⟩ : ∃ n i : Nat, i + n = fr_wn V ∧ i = 0 := ⟨fr_wn V, 0, Nat.zero_add _, rfl⟩
          replace hl : lv_has ls 8 [(5, .int (nI i)), (0, .ref (ad 0)), (1, .int (nI j)), (2, .int (nI x)), (3, .int (nI k)), (4, .int (nI y))] := by rw [hi0]; exact hl
          have hg : ∀ w, w < i → mk w = (ro y w &&& fr_nr V (ro x) k true w) ||| ((ro y w ^^^ (-1)) &&& fr_nr V (ro x) k false w) := fun w h => absurd h (by omega)
          clear hi0
          induction n generalizing i ls H locs mk with
          | zero =>
            refine lv_iload hx hb dX0_put_35 (lv_at hl 0 rfl) ?_
            refine lv_aload_n hx hb dX0_put_37 rfl (lv_at hl 1 rfl) ?_
            refine fr_gX 2 hx hb hw hown hK hP (by decide) mF_words rfl dX0_put_38 ?_
            refine lv_icmp_ge (tgt := 108) hx hb dX0_put_41 rfl (fun hcm => ?_) (fun hcm => absurd (nI_le (show fr_wn V ≤ i by omega) (by omega)) hcm)
            refine lv_aload_n hx hb dX0_put_108 rfl (lv_at hl 1 rfl) ?_
            refine lv_iload_n hx hb dX0_put_109 rfl (lv_at hl 2 rfl) ?_
            refine fr_Xm (As := [.int (nI j)]) hS0 (cF_keep l D V ad ka mk nm pt ro hV hinj j hLj) (cw_F_keep hw ⟨Nat.le_of_ble_eq_true rfl, Nat.le_of_ble_eq_true rfl⟩) hK hP hT hS rfl hl.1 rfl (Nat.le_of_ble_eq_true rfl) dX0_put_110 ⟨Nat.zero_le _, Nat.zero_le _⟩ (fun b u H locs hu hP hS => ?_)
            obtain ⟨rfl, rfl⟩ := hu
            have hR := fr_R_put hV hLk (hF x hLx) (hF y hLy) (fun w h => hg w (by omega))
            exact W.iret (v := nI (fr_ct mk (fr_wn V))) hx hb hret (fun t ht hW => ⟨⟨_, (mk, nm, pt, va_up ro j (va_cpy mk (ro j) 0 0 (fr_wn V))), rfl, fr_fin hV hF hLj hR (by unfold fr_sPut; rw [if_pos (by rw [fr_okB_nI hLj (by decide), fr_okB_nI hLx (by decide), fr_okB_nI hLk (by omega), fr_okB_nI hLy (by decide)]; rfl), fr_v_nI (show x < 2 ^ 31 by omega), fr_v_nI (show k < 2 ^ 31 by omega), fr_v_nI (show y < 2 ^ 31 by omega)]), by show va_P D vwCl _ t.heap; rw [ht]; exact hP⟩, hS.F ht⟩) hS.2.2 dX0_put_113
          | succ n ih =>
            refine lv_iload hx hb dX0_put_35 (lv_at hl 0 rfl) ?_
            refine lv_aload_n hx hb dX0_put_37 rfl (lv_at hl 1 rfl) ?_
            refine fr_gX 2 hx hb hw hown hK hP (by decide) mF_words rfl dX0_put_38 ?_
            refine lv_icmp_ge (tgt := 108) hx hb dX0_put_41 rfl (fun hcm => absurd hcm (nI_ge (show i < fr_wn V by omega) (by omega))) (fun hcm => ?_)
            have hi : i < fr_wn V := by omega
            refine lv_aload_n hx hb dX0_put_44 rfl (lv_at hl 1 rfl) ?_
            refine fr_gX 4 hx hb hw hown hK hP (by decide) mF_rows rfl dX0_put_45 ?_
            refine lv_iload hx hb dX0_put_48 (lv_at hl 5 rfl) ?_
            refine fr_aald hx hb hK hP 1 0 rfl rfl hLy (by decide) rfl dX0_put_50 ?_
            refine lv_iload hx hb dX0_put_51 (lv_at hl 0 rfl) ?_
            refine fr_lald hx hb hK hP (y + 5) 1 (fr_row hLy) rfl hi (by omega) dX0_put_53 ?_
            refine lv_lstore hx hb dX0_put_54 hl (by decide) rfl (fun ls hl => ?_)
            replace hl : lv_has ls 8 [(6, .long (ro y i)), (5, .int (nI i)), (0, .ref (ad 0)), (1, .int (nI j)), (2, .int (nI x)), (3, .int (nI k)), (4, .int (nI y))] := hl
            refine lv_aload_n hx hb dX0_put_56 rfl (lv_at hl 2 rfl) ?_
            refine fr_gX 5 hx hb hw hown hK hP (by decide) mF_made rfl dX0_put_57 ?_
            refine lv_iload hx hb dX0_put_60 (lv_at hl 1 rfl) ?_
            refine lv_lload hx hb dX0_put_62 (lv_at hl 0 rfl) ?_
            refine lv_aload_n hx hb dX0_put_64 rfl (lv_at hl 2 rfl) ?_
            refine lv_aload_n hx hb dX0_put_65 rfl (lv_at hl 2 rfl) ?_
            refine fr_gX 4 hx hb hw hown hK hP (by decide) mF_rows rfl dX0_put_66 ?_
            refine lv_iload_n hx hb dX0_put_69 rfl (lv_at hl 4 rfl) ?_
            refine fr_aald hx hb hK hP 1 0 rfl rfl hLx (by decide) rfl dX0_put_70 ?_
            refine lv_iload_n hx hb dX0_put_71 rfl (lv_at hl 5 rfl) ?_
            refine lv_iconst (v := 1) hx hb dX0_put_72 (by decide) ?_
            refine lv_iload hx hb dX0_put_73 (lv_at hl 1 rfl) ?_
            refine fr_Xl (As := [.ref (ad (x + 5)), .int (nI k), .int (fr_bi true), .int (nI i)]) hS0 (cF_narrowed l D V ad ka mk nm pt ro (x + 5) 1 (ad (x + 5)) (ka 1) (ro x) (fr_row hLx) rfl k i true hLk hV hi) (cw_F_narrowed hw ⟨Nat.le_of_ble_eq_true rfl, Nat.le_of_ble_eq_true rfl⟩) hK hP hT hS rfl hl.1 rfl (Nat.le_of_ble_eq_true rfl) dX0_put_75 ⟨Nat.zero_le _, Nat.zero_le _⟩ (fun b2 hb2 => ?_)
            subst hb2
            refine lv_land hx hb dX0_put_78 ?_
            refine lv_lload hx hb dX0_put_79 (lv_at hl 0 rfl) ?_
            refine lv_ldc2 (v := (-1)) hx hb hown (hw _ mC_F_28) dX0_put_81 ?_
            refine lv_lxor hx hb dX0_put_84 ?_
            refine lv_aload_n hx hb dX0_put_85 rfl (lv_at hl 2 rfl) ?_
            refine lv_aload_n hx hb dX0_put_86 rfl (lv_at hl 2 rfl) ?_
            refine fr_gX 4 hx hb hw hown hK hP (by decide) mF_rows rfl dX0_put_87 ?_
            refine lv_iload_n hx hb dX0_put_90 rfl (lv_at hl 4 rfl) ?_
            refine fr_aald hx hb hK hP 1 0 rfl rfl hLx (by decide) rfl dX0_put_91 ?_
            refine lv_iload_n hx hb dX0_put_92 rfl (lv_at hl 5 rfl) ?_
            refine lv_iconst (v := 0) hx hb dX0_put_93 (by decide) ?_
            refine lv_iload hx hb dX0_put_94 (lv_at hl 1 rfl) ?_
            refine fr_Xl (As := [.ref (ad (x + 5)), .int (nI k), .int (fr_bi false), .int (nI i)]) hS0 (cF_narrowed l D V ad ka mk nm pt ro (x + 5) 1 (ad (x + 5)) (ka 1) (ro x) (fr_row hLx) rfl k i false hLk hV hi) (cw_F_narrowed hw ⟨Nat.le_of_ble_eq_true rfl, Nat.le_of_ble_eq_true rfl⟩) hK hP hT hS rfl hl.1 rfl (Nat.le_of_ble_eq_true rfl) dX0_put_96 ⟨Nat.zero_le _, Nat.zero_le _⟩ (fun b2 hb2 => ?_)
            subst hb2
            refine lv_land hx hb dX0_put_99 ?_
            refine lv_lor hx hb dX0_put_100 ?_
            refine fr_last (ws2 := fr_xw V ad ka (vp_updL mk i (((ro y i &&& fr_nr V (ro x) k true i) ||| ((ro y i ^^^ (-1)) &&& fr_nr V (ro x) k false i)))) nm pt ro) hx hb hK hP (fr_D hinj) hS 2 2 rfl rfl hi (by omega) dX0_put_101 rfl (fun H locs hP hS => ?_)
            refine lv_iinc (k := 1) (v := nI (i + 1)) hx hb dX0_put_102 hl rfl (fr_inc i) (by decide) rfl (fun ls hl => ?_)
            replace hl : lv_has ls 8 [(5, .int (nI (i + 1))), (6, .long (ro y i)), (0, .ref (ad 0)), (1, .int (nI j)), (2, .int (nI x)), (3, .int (nI k)), (4, .int (nI y))] := hl
            refine lv_goto (tgt := 35) hx hb dX0_put_105 rfl ?_
            exact ih _ H locs hS hP ls (i + 1) (by omega) (lv_sub hl [0, 2, 3, 4, 5, 6] rfl) (fr_upS hg (rfl))
        ·
          refine lv_if_ne (tgt := 32) hx hb dX0_put_27 rfl (fun hz => absurd rfl hz) (fun hz => ?_)
          refine lv_iconst (v := (-1)) hx hb dX0_put_30 (by decide) ?_
          exact W.iret (v := (-1)) hx hb hret (fun t ht hW => ⟨⟨_, (mk, nm, pt, ro), rfl, by rw [show fr_sPut V F (nI j) (nI x) (nI k) b = (-1, F) from if_neg (fr_and4 (Or.inr (Or.inr (Or.inr (fr_okB_no (hno))))))]; exact ⟨rfl, hF⟩, by show va_P D vwCl _ t.heap; rw [ht]; exact hP⟩, hS.F ht⟩) hS.2.2 dX0_put_31
      ·
        refine lv_if_eq (tgt := 30) hx hb dX0_put_19 rfl (fun hz => ?_) (fun hz => absurd rfl hz)
        refine lv_iconst (v := (-1)) hx hb dX0_put_30 (by decide) ?_
        exact W.iret (v := (-1)) hx hb hret (fun t ht hW => ⟨⟨_, (mk, nm, pt, ro), rfl, by rw [show fr_sPut V F (nI j) (nI x) v b = (-1, F) from if_neg (fr_and4 (Or.inr (Or.inr (Or.inl (fr_okB_no (hno))))))]; exact ⟨rfl, hF⟩, by show va_P D vwCl _ t.heap; rw [ht]; exact hP⟩, hS.F ht⟩) hS.2.2 dX0_put_31
    ·
      refine lv_if_eq (tgt := 30) hx hb dX0_put_11 rfl (fun hz => ?_) (fun hz => absurd rfl hz)
      refine lv_iconst (v := (-1)) hx hb dX0_put_30 (by decide) ?_
      exact W.iret (v := (-1)) hx hb hret (fun t ht hW => ⟨⟨_, (mk, nm, pt, ro), rfl, by rw [show fr_sPut V F (nI j) a v b = (-1, F) from if_neg (fr_and4 (Or.inr (Or.inl (fr_okB_no (hno)))))]; exact ⟨rfl, hF⟩, by show va_P D vwCl _ t.heap; rw [ht]; exact hP⟩, hS.F ht⟩) hS.2.2 dX0_put_31
  ·
    refine lv_if_eq (tgt := 30) hx hb dX0_put_4 rfl (fun hz => ?_) (fun hz => absurd rfl hz)
    refine lv_iconst (v := (-1)) hx hb dX0_put_30 (by decide) ?_
    exact W.iret (v := (-1)) hx hb hret (fun t ht hW => ⟨⟨_, (mk, nm, pt, ro), rfl, by rw [show fr_sPut V F r a v b = (-1, F) from if_neg (fr_and4 (Or.inl (fr_okB_no (hno))))]; exact ⟨rfl, hF⟩, by show va_P D vwCl _ t.heap; rw [ht]; exact hP⟩, hS.F ht⟩) hS.2.2 dX0_put_31
