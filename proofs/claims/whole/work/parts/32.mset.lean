set_option maxHeartbeats 4000000 in
set_option maxRecDepth 100000 in
theorem cM_not (l : Launch) (D : va_G) (V : Nat) (bd : Nat → Nat) (kb : Nat → ClassId) (row made : Nat → Int32) (F : fr_F) (hM : fr_MR V F row) (hV : V < 10) (hV1 : 1 ≤ V) (hinj : fr_injB bd) (r a : Int32)  : Met l yX1_not wsM_not rmM_not (va_Pc [.ref (bd 0), .int r, .int a] (fr_PM D V bd kb row made)) (va_Qi (fun (res : Int32) (u : (Nat → Int32) × (Nat → Int32)) => res = (fr_sNot V F r a).1 ∧ fr_MR V (fr_sNot V F r a).2 u.1) (fun u t => va_P D vwCl (fr_mw V bd kb u.1 u.2) t.heap) (fr_B bd)) 0 0 (fr_B bd) := by
  refine Met.ofW (cc := cX1_not) (maxL := 4) (ret := some .int) (by decide) rfl ?_
  intro p e s m args below meth c s₁ B hml hv
  obtain ⟨rfl, hP, hK, -⟩ := hv
  have hx := B.exec
  have hb := B.bytes
  have hret := B.returns
  have hw := fun w (h : w ∈ WA) => atoms_spec (ws := wsM_not) B.pre w (List.mem_cons_of_mem _ h)
  have hown : s.vm.findClass "FunctionRoomModel" = some m.cls := findClass_of_methodNamed B.named
  have hlocks := B.notSynchronized
  have hS0 : CallFix p m c cX1_not 4 s _ WA "FunctionRoomModel" := ⟨hx, hb, hml, hown, hw⟩
  have hl := lv_entry ([.ref (bd 0), .int r, .int a]) (n := 4) (Nat.le_of_ble_eq_true rfl)
  rw [lg_entry_eq]
  generalize (lg_sl ([.ref (bd 0), .int r, .int a]) ++ List.replicate (4 - (lg_sl ([.ref (bd 0), .int r, .int a])).length) Slot.unset).toArray = ls at hl ⊢
  replace hl : lv_has ls 4 [(0, .ref (bd 0)), (1, .int r), (2, .int a)] := hl
  have h512 := fr_pow512 hV
  refine fr_gen (A := fr_B bd) hP (fun H locs hP2 hS => ?_)
  clear hP
  have hP := hP2
  clear hP2
  refine lv_iload_n hx hb dX1_not_0 rfl (lv_at hl 1 rfl) ?_
  refine fr_cSi (As := [.int r]) hS0 (cM_is l r) (cw_M_is hw ⟨Nat.le_of_ble_eq_true rfl, Nat.le_of_ble_eq_true rfl⟩) (fr_pre0) rfl hl.1 rfl (Nat.le_of_ble_eq_true rfl) dX1_not_1 ⟨Nat.zero_le _, Nat.zero_le _⟩ (fun b0 hb0 => ?_)
  rcases hb0 with ⟨rfl, hOj⟩ | ⟨rfl, hno⟩
  ·
    refine lv_if_eq (tgt := 14) hx hb dX1_not_4 rfl (fun hz => absurd hz (by decide)) (fun hz => ?_)
    obtain ⟨j, hLj, rfl⟩ := fr_ok_ex (by decide) hOj
    refine lv_iload_n hx hb dX1_not_7 rfl (lv_at hl 2 rfl) ?_
    refine fr_cSi (As := [.int a]) hS0 (cM_is l a) (cw_M_is hw ⟨Nat.le_of_ble_eq_true rfl, Nat.le_of_ble_eq_true rfl⟩) (fr_pre0) rfl hl.1 rfl (Nat.le_of_ble_eq_true rfl) dX1_not_8 ⟨Nat.zero_le _, Nat.zero_le _⟩ (fun b0 hb0 => ?_)
    rcases hb0 with ⟨rfl, hOra⟩ | ⟨rfl, hno⟩
    ·
      refine lv_if_ne (tgt := 16) hx hb dX1_not_11 rfl (fun hz => ?_) (fun hz => absurd hz (by decide))
      obtain ⟨ra, hLra, rfl⟩ := fr_ok_ex (by decide) hOra
      refine lv_iconst (v := 0) hx hb dX1_not_16 (by decide) ?_
      refine lv_istore_n hx hb dX1_not_17 rfl hl (by decide) rfl (fun ls hl => ?_)
      replace hl : lv_has ls 4 [(3, .int 0), (0, .ref (bd 0)), (1, .int (nI j)), (2, .int (nI ra))] := hl
      obtain ⟨n, i, hin, hi0⟩ : ∃ n i : Nat, i + n = 2 ^ V ∧ i = 0 := ⟨2 ^ V, 0, Nat.zero_add _, rfl⟩
      replace hl : lv_has ls 4 [(3, .int (nI i)), (0, .ref (bd 0)), (1, .int (nI j)), (2, .int (nI ra))] := by rw [hi0]; exact hl
      have hg : ∀ x, x < i → made x = fr_bi (!F ra x) := fun x h => absurd h (by omega)
      clear hi0
      induction n generalizing i ls H locs made with
      | zero =>
        refine lv_iload_n hx hb dX1_not_18 rfl (lv_at hl 0 rfl) ?_
        refine lv_aload_n hx hb dX1_not_19 rfl (lv_at hl 1 rfl) ?_
        refine fr_gM 1 hx hb hw hown hK hP (by decide) mG_all rfl dX1_not_20 ?_
        refine lv_icmp_ge (tgt := 58) hx hb dX1_not_23 rfl (fun hcm => ?_) (fun hcm => absurd (nI_le (show 2 ^ V ≤ i by omega) (by omega)) hcm)
        refine lv_aload_n hx hb dX1_not_58 rfl (lv_at hl 1 rfl) ?_
        refine lv_iload_n hx hb dX1_not_59 rfl (lv_at hl 2 rfl) ?_
        refine fr_Mm (As := [.int (nI j)]) hS0 (cM_keep l D V bd kb row made F hM hV hV1 hinj j (fun x => !F ra x) hLj (fun x h => hg x (by omega))) (cw_M_keep hw ⟨Nat.le_of_ble_eq_true rfl, Nat.le_of_ble_eq_true rfl⟩) hK hP hS rfl hl.1 rfl (Nat.le_of_ble_eq_true rfl) dX1_not_60 ⟨Nat.zero_le _, Nat.zero_le _⟩ (fun b u H locs hu hP hS => ?_)
        obtain ⟨rfl, hu2⟩ := hu
        have hsp : fr_sNot V F (nI j) (nI ra) = fr_set V F (nI j) (fun x => !F ra x) := by unfold fr_sNot; rw [if_pos (by rw [fr_okB_nI hLj (by omega), fr_okB_nI hLra (by omega)]; rfl), fr_v_nI (show ra < 2 ^ 31 by omega)]
        exact W.iret (v := (nI (fr_cn (fun x => !F ra x) (2 ^ V)))) hx hb hret (fun t ht hW => ⟨⟨_, u, rfl, by rw [hsp]; refine ⟨rfl, ?_⟩; show fr_MR V (va_up F (fr_v (nI j)) _) _; rw [fr_v_nI (show j < 2 ^ 31 by omega)]; exact hu2, by show va_P D vwCl _ t.heap; rw [ht]; exact hP⟩, hS.F ht⟩) hS.2.2 dX1_not_63
      | succ n ih =>
        refine lv_iload_n hx hb dX1_not_18 rfl (lv_at hl 0 rfl) ?_
        refine lv_aload_n hx hb dX1_not_19 rfl (lv_at hl 1 rfl) ?_
        refine fr_gM 1 hx hb hw hown hK hP (by decide) mG_all rfl dX1_not_20 ?_
        refine lv_icmp_ge (tgt := 58) hx hb dX1_not_23 rfl (fun hcm => absurd hcm (nI_ge (show i < 2 ^ V by omega) (by omega))) (fun hcm => ?_)
        have hi : i < 2 ^ V := by omega
        refine lv_aload_n hx hb dX1_not_26 rfl (lv_at hl 1 rfl) ?_
        refine fr_gM 3 hx hb hw hown hK hP (by decide) mG_made rfl dX1_not_27 ?_
        refine lv_iload_n hx hb dX1_not_30 rfl (lv_at hl 0 rfl) ?_
        refine lv_aload_n hx hb dX1_not_31 rfl (lv_at hl 1 rfl) ?_
        refine fr_gM 2 hx hb hw hown hK hP (by decide) mG_row rfl dX1_not_32 ?_
        refine lv_sipush (v := 512) hx hb dX1_not_35 (by decide) ?_
        refine lv_iload_n hx hb dX1_not_38 rfl (lv_at hl 3 rfl) ?_
        refine lv_imul hx hb dX1_not_39 ?_
        refine lv_iload_n hx hb dX1_not_40 rfl (lv_at hl 0 rfl) ?_
        refine lv_iadd hx hb dX1_not_41 ?_
        refine fr_top (show (((512 * nI ra) + nI i) : Int32) = nI (512 * ra + i) from by rw [show (512 : Int32) * nI ra = nI (512 * ra) from pk_mul 512 ra]; exact nI_add _ _) ?_
        refine fr_zald hx hb hK hP 1 0 rfl rfl (show 512 * ra + i < 16384 by omega) (by decide) dX1_not_42 ?_
        refine fr_top (show (row (512 * ra + i) : Int32) = fr_bi (F ra i) from hM ra i hLra hi) ?_
        refine lv_if_ne (tgt := 50) hx hb dX1_not_43 rfl (fun hz => ?_) (fun hz => ?_)
        ·
          have hq : F ra i = true := fr_bit hz
          refine lv_iconst (v := 0) hx hb dX1_not_50 (by decide) ?_
          refine fr_zast (ws2 := fr_mw V bd kb row (upd made i (0))) hx hb hK hP (fr_DB hinj) hS 2 1 rfl rfl (show i < 512 by omega) (by decide) rfl dX1_not_51 rfl (fun H locs hP hS => ?_)
          refine lv_iinc (k := 0) (v := nI (i + 1)) hx hb dX1_not_52 hl rfl (fr_inc i) (by decide) rfl (fun ls hl => ?_)
          replace hl : lv_has ls 4 [(3, .int (nI (i + 1))), (0, .ref (bd 0)), (1, .int (nI j)), (2, .int (nI ra))] := hl
          refine lv_goto (tgt := 18) hx hb dX1_not_55 rfl ?_
          exact ih _ H locs hS hP ls (i + 1) (by omega) (lv_sub hl [0, 1, 2, 3] rfl) (fr_updZ hg (by rw [hq]; rfl))
        ·
          have hq : F ra i = false := fr_bi_ne0.mp hz
          refine lv_iconst (v := 1) hx hb dX1_not_46 (by decide) ?_
          refine lv_goto (tgt := 51) hx hb dX1_not_47 rfl ?_
          refine fr_zast (ws2 := fr_mw V bd kb row (upd made i (1))) hx hb hK hP (fr_DB hinj) hS 2 1 rfl rfl (show i < 512 by omega) (by decide) rfl dX1_not_51 rfl (fun H locs hP hS => ?_)
          refine lv_iinc (k := 0) (v := nI (i + 1)) hx hb dX1_not_52 hl rfl (fr_inc i) (by decide) rfl (fun ls hl => ?_)
          replace hl : lv_has ls 4 [(3, .int (nI (i + 1))), (0, .ref (bd 0)), (1, .int (nI j)), (2, .int (nI ra))] := hl
          refine lv_goto (tgt := 18) hx hb dX1_not_55 rfl ?_
          exact ih _ H locs hS hP ls (i + 1) (by omega) (lv_sub hl [0, 1, 2, 3] rfl) (fr_updZ hg (by rw [hq]; rfl))
    ·
      refine lv_if_ne (tgt := 16) hx hb dX1_not_11 rfl (fun hz => absurd rfl hz) (fun hz => ?_)
      refine lv_iconst (v := (-1)) hx hb dX1_not_14 (by decide) ?_
      exact W.iret (v := (-1)) hx hb hret (fun t ht hW => ⟨⟨_, (row, made), rfl, by rw [show fr_sNot V F (nI j) a = (-1, F) from if_neg (fr_and2 (Or.inr (fr_okB_no (hno))))]; exact ⟨rfl, hM⟩, by show va_P D vwCl _ t.heap; rw [ht]; exact hP⟩, hS.F ht⟩) hS.2.2 dX1_not_15
  ·
    refine lv_if_eq (tgt := 14) hx hb dX1_not_4 rfl (fun hz => ?_) (fun hz => absurd rfl hz)
    refine lv_iconst (v := (-1)) hx hb dX1_not_14 (by decide) ?_
    exact W.iret (v := (-1)) hx hb hret (fun t ht hW => ⟨⟨_, (row, made), rfl, by rw [show fr_sNot V F r a = (-1, F) from if_neg (fr_and2 (Or.inl (fr_okB_no (hno))))]; exact ⟨rfl, hM⟩, by show va_P D vwCl _ t.heap; rw [ht]; exact hP⟩, hS.F ht⟩) hS.2.2 dX1_not_15
set_option maxHeartbeats 4000000 in
set_option maxRecDepth 100000 in
theorem cM_load (l : Launch) (D : va_G) (V : Nat) (bd : Nat → Nat) (kb : Nat → ClassId) (row made : Nat → Int32) (F : fr_F) (hM : fr_MR V F row) (hV : V < 10) (hV1 : 1 ≤ V) (hinj : fr_injB bd) (r what : Int32)  : Met l yX1_load wsM_load rmM_load (va_Pc [.ref (bd 0), .int r, .int what] (fr_PM D V bd kb row made)) (va_Qi (fun (res : Int32) (u : (Nat → Int32) × (Nat → Int32)) => res = (fr_sLoad V F r what).1 ∧ fr_MR V (fr_sLoad V F r what).2 u.1) (fun u t => va_P D vwCl (fr_mw V bd kb u.1 u.2) t.heap) (fr_B bd)) 0 0 (fr_B bd) := by
  refine Met.ofW (cc := cX1_load) (maxL := 4) (ret := some .int) (by decide) rfl ?_
  intro p e s m args below meth c s₁ B hml hv
  obtain ⟨rfl, hP, hK, -⟩ := hv
  have hx := B.exec
  have hb := B.bytes
  have hret := B.returns
  have hw := fun w (h : w ∈ WA) => atoms_spec (ws := wsM_load) B.pre w (List.mem_cons_of_mem _ h)
  have hown : s.vm.findClass "FunctionRoomModel" = some m.cls := findClass_of_methodNamed B.named
  have hlocks := B.notSynchronized
  have hS0 : CallFix p m c cX1_load 4 s _ WA "FunctionRoomModel" := ⟨hx, hb, hml, hown, hw⟩
  have hl := lv_entry ([.ref (bd 0), .int r, .int what]) (n := 4) (Nat.le_of_ble_eq_true rfl)
  rw [lg_entry_eq]
  generalize (lg_sl ([.ref (bd 0), .int r, .int what]) ++ List.replicate (4 - (lg_sl ([.ref (bd 0), .int r, .int what])).length) Slot.unset).toArray = ls at hl ⊢
  replace hl : lv_has ls 4 [(0, .ref (bd 0)), (1, .int r), (2, .int what)] := hl
  have h512 := fr_pow512 hV
  refine fr_gen (A := fr_B bd) hP (fun H locs hP2 hS => ?_)
  clear hP
  have hP := hP2
  clear hP2
  refine lv_iload_n hx hb dX1_load_0 rfl (lv_at hl 1 rfl) ?_
  refine fr_cSi (As := [.int r]) hS0 (cM_is l r) (cw_M_is hw ⟨Nat.le_of_ble_eq_true rfl, Nat.le_of_ble_eq_true rfl⟩) (fr_pre0) rfl hl.1 rfl (Nat.le_of_ble_eq_true rfl) dX1_load_1 ⟨Nat.zero_le _, Nat.zero_le _⟩ (fun b0 hb0 => ?_)
  rcases hb0 with ⟨rfl, hOj⟩ | ⟨rfl, hno⟩
  ·
    refine lv_if_eq (tgt := 21) hx hb dX1_load_4 rfl (fun hz => absurd hz (by decide)) (fun hz => ?_)
    obtain ⟨j, hLj, rfl⟩ := fr_ok_ex (by decide) hOj
    refine lv_iload_n hx hb dX1_load_7 rfl (lv_at hl 2 rfl) ?_
    refine lv_bipush (v := (-2)) hx hb dX1_load_8 (by decide) ?_
    refine lv_icmp_lt (tgt := 21) hx hb dX1_load_10 rfl (fun h1 => ?_) (fun h1 => ?_)
    ·
      refine lv_iconst (v := (-1)) hx hb dX1_load_21 (by decide) ?_
      exact W.iret (v := (-1)) hx hb hret (fun t ht hW => ⟨⟨_, (row, made), rfl, by rw [show fr_sLoad V F (nI j) what = (-1, F) from if_neg (fr_ld1 h1)]; exact ⟨rfl, hM⟩, by show va_P D vwCl _ t.heap; rw [ht]; exact hP⟩, hS.F ht⟩) hS.2.2 dX1_load_22
    ·
      refine lv_iload_n hx hb dX1_load_13 rfl (lv_at hl 2 rfl) ?_
      refine lv_aload_n hx hb dX1_load_14 rfl (lv_at hl 0 rfl) ?_
      refine fr_gM 0 hx hb hw hown hK hP (by decide) mG_variables rfl dX1_load_15 ?_
      refine lv_icmp_lt (tgt := 23) hx hb dX1_load_18 rfl (fun h2 => ?_) (fun h2 => ?_)
      ·
        obtain ⟨fn, hfn, hcs⟩ := fr_ld3 (V := V) h1 h2 hV
        refine lv_iconst (v := 0) hx hb dX1_load_23 (by decide) ?_
        refine lv_istore_n hx hb dX1_load_24 rfl hl (by decide) rfl (fun ls hl => ?_)
        replace hl : lv_has ls 4 [(3, .int 0), (0, .ref (bd 0)), (1, .int (nI j)), (2, .int what)] := hl
        obtain ⟨n, i, hin, hi0⟩ : ∃ n i : Nat, i + n = 2 ^ V ∧ i = 0 := ⟨2 ^ V, 0, Nat.zero_add _, rfl⟩
        replace hl : lv_has ls 4 [(3, .int (nI i)), (0, .ref (bd 0)), (1, .int (nI j)), (2, .int what)] := by rw [hi0]; exact hl
        have hg : ∀ x, x < i → made x = fr_bi (fn x) := fun x h => absurd h (by omega)
        clear hi0
        induction n generalizing i ls H locs made with
        | zero =>
          refine lv_iload_n hx hb dX1_load_25 rfl (lv_at hl 0 rfl) ?_
          refine lv_aload_n hx hb dX1_load_26 rfl (lv_at hl 1 rfl) ?_
          refine fr_gM 1 hx hb hw hown hK hP (by decide) mG_all rfl dX1_load_27 ?_
          refine lv_icmp_ge (tgt := 69) hx hb dX1_load_30 rfl (fun hcm => ?_) (fun hcm => absurd (nI_le (show 2 ^ V ≤ i by omega) (by omega)) hcm)
          refine lv_aload_n hx hb dX1_load_69 rfl (lv_at hl 1 rfl) ?_
          refine lv_iload_n hx hb dX1_load_70 rfl (lv_at hl 2 rfl) ?_
          refine fr_Mm (As := [.int (nI j)]) hS0 (cM_keep l D V bd kb row made F hM hV hV1 hinj j (fun x => fn x) hLj (fun x h => hg x (by omega))) (cw_M_keep hw ⟨Nat.le_of_ble_eq_true rfl, Nat.le_of_ble_eq_true rfl⟩) hK hP hS rfl hl.1 rfl (Nat.le_of_ble_eq_true rfl) dX1_load_71 ⟨Nat.zero_le _, Nat.zero_le _⟩ (fun b u H locs hu hP hS => ?_)
          obtain ⟨rfl, hu2⟩ := hu
          have hsp : fr_sLoad V F (nI j) what = fr_set V F (nI j) fn := by unfold fr_sLoad; rw [fr_okB_nI hLj (by decide), Bool.true_and, if_pos hfn.1]; exact congrArg _ hfn.2
          exact W.iret (v := (nI (fr_cn (fun x => fn x) (2 ^ V)))) hx hb hret (fun t ht hW => ⟨⟨_, u, rfl, by rw [hsp]; refine ⟨rfl, ?_⟩; show fr_MR V (va_up F (fr_v (nI j)) _) _; rw [fr_v_nI (show j < 2 ^ 31 by omega)]; exact hu2, by show va_P D vwCl _ t.heap; rw [ht]; exact hP⟩, hS.F ht⟩) hS.2.2 dX1_load_74
        | succ n ih =>
          refine lv_iload_n hx hb dX1_load_25 rfl (lv_at hl 0 rfl) ?_
          refine lv_aload_n hx hb dX1_load_26 rfl (lv_at hl 1 rfl) ?_
          refine fr_gM 1 hx hb hw hown hK hP (by decide) mG_all rfl dX1_load_27 ?_
          refine lv_icmp_ge (tgt := 69) hx hb dX1_load_30 rfl (fun hcm => absurd hcm (nI_ge (show i < 2 ^ V by omega) (by omega))) (fun hcm => ?_)
          have hi : i < 2 ^ V := by omega
          refine lv_aload_n hx hb dX1_load_33 rfl (lv_at hl 1 rfl) ?_
          refine fr_gM 3 hx hb hw hown hK hP (by decide) mG_made rfl dX1_load_34 ?_
          refine lv_iload_n hx hb dX1_load_37 rfl (lv_at hl 0 rfl) ?_
          refine lv_iload_n hx hb dX1_load_38 rfl (lv_at hl 3 rfl) ?_
          refine lv_iconst (v := (-1)) hx hb dX1_load_39 (by decide) ?_
          refine lv_icmp_eq (tgt := 57) hx hb dX1_load_40 rfl (fun hm => ?_) (fun hm => ?_)
          ·
            refine lv_iconst (v := 1) hx hb dX1_load_57 (by decide) ?_
            refine lv_goto (tgt := 62) hx hb dX1_load_58 rfl ?_
            refine fr_zast (ws2 := fr_mw V bd kb row (upd made i (1))) hx hb hK hP (fr_DB hinj) hS 2 1 rfl rfl (show i < 512 by omega) (by decide) rfl dX1_load_62 rfl (fun H locs hP hS => ?_)
            refine lv_iinc (k := 0) (v := nI (i + 1)) hx hb dX1_load_63 hl rfl (fr_inc i) (by decide) rfl (fun ls hl => ?_)
            replace hl : lv_has ls 4 [(3, .int (nI (i + 1))), (0, .ref (bd 0)), (1, .int (nI j)), (2, .int what)] := hl
            refine lv_goto (tgt := 25) hx hb dX1_load_66 rfl ?_
            exact ih _ H locs hS hP ls (i + 1) (by omega) (lv_sub hl [0, 1, 2, 3] rfl) (fr_updZ hg (by rw [hcs.1 hm]; rfl))
          ·
            refine lv_iload_n hx hb dX1_load_43 rfl (lv_at hl 3 rfl) ?_
            refine lv_if_lt (tgt := 61) hx hb dX1_load_44 rfl (fun hn => ?_) (fun hn => ?_)
            ·
              refine lv_iconst (v := 0) hx hb dX1_load_61 (by decide) ?_
              refine fr_zast (ws2 := fr_mw V bd kb row (upd made i (0))) hx hb hK hP (fr_DB hinj) hS 2 1 rfl rfl (show i < 512 by omega) (by decide) rfl dX1_load_62 rfl (fun H locs hP hS => ?_)
              refine lv_iinc (k := 0) (v := nI (i + 1)) hx hb dX1_load_63 hl rfl (fr_inc i) (by decide) rfl (fun ls hl => ?_)
              replace hl : lv_has ls 4 [(3, .int (nI (i + 1))), (0, .ref (bd 0)), (1, .int (nI j)), (2, .int what)] := hl
              refine lv_goto (tgt := 25) hx hb dX1_load_66 rfl ?_
              exact ih _ H locs hS hP ls (i + 1) (by omega) (lv_sub hl [0, 1, 2, 3] rfl) (fr_updZ hg (by rw [hcs.2.1 hm hn]; rfl))
            ·
              obtain ⟨k, hLk, hwk, hfk⟩ := hcs.2.2 hn
              refine lv_iload_n hx hb dX1_load_47 rfl (lv_at hl 0 rfl) ?_
              refine lv_aload_n hx hb dX1_load_48 rfl (lv_at hl 1 rfl) ?_
              refine lv_iload_n hx hb dX1_load_49 rfl (lv_at hl 3 rfl) ?_
              refine fr_top hwk ?_
              refine fr_Mi (As := [.int (nI k)]) hS0 (cM_bit l D V bd kb row made k hLk hV) (cw_M_bit hw ⟨Nat.le_of_ble_eq_true rfl, Nat.le_of_ble_eq_true rfl⟩) hK hP rfl hl.1 rfl (Nat.le_of_ble_eq_true rfl) dX1_load_50 ⟨Nat.zero_le _, Nat.zero_le _⟩ (fun b9 hb9 => ?_)
              subst hb9
              refine lv_iand hx hb dX1_load_53 ?_
              refine fr_top (show ((nI i &&& nI (2 ^ (V - 1 - k))) : Int32) = nI (i &&& 2 ^ (V - 1 - k)) from fr_nand _ _) ?_
              refine lv_if_eq (tgt := 61) hx hb dX1_load_54 rfl (fun hb3 => ?_) (fun hb3 => ?_)
              ·
                refine lv_iconst (v := 0) hx hb dX1_load_61 (by decide) ?_
                refine fr_zast (ws2 := fr_mw V bd kb row (upd made i (0))) hx hb hK hP (fr_DB hinj) hS 2 1 rfl rfl (show i < 512 by omega) (by decide) rfl dX1_load_62 rfl (fun H locs hP hS => ?_)
                refine lv_iinc (k := 0) (v := nI (i + 1)) hx hb dX1_load_63 hl rfl (fr_inc i) (by decide) rfl (fun ls hl => ?_)
                replace hl : lv_has ls 4 [(3, .int (nI (i + 1))), (0, .ref (bd 0)), (1, .int (nI j)), (2, .int what)] := hl
                refine lv_goto (tgt := 25) hx hb dX1_load_66 rfl ?_
                exact ih _ H locs hS hP ls (i + 1) (by omega) (lv_sub hl [0, 1, 2, 3] rfl) (fr_updZ hg (by rw [hfk]; show _ = fr_bi (i.testBit (V - 1 - k)); rw [(fr_tbz (show i < 512 by omega)).mp hb3]; rfl))
              ·
                refine lv_iconst (v := 1) hx hb dX1_load_57 (by decide) ?_
                refine lv_goto (tgt := 62) hx hb dX1_load_58 rfl ?_
                refine fr_zast (ws2 := fr_mw V bd kb row (upd made i (1))) hx hb hK hP (fr_DB hinj) hS 2 1 rfl rfl (show i < 512 by omega) (by decide) rfl dX1_load_62 rfl (fun H locs hP hS => ?_)
                refine lv_iinc (k := 0) (v := nI (i + 1)) hx hb dX1_load_63 hl rfl (fr_inc i) (by decide) rfl (fun ls hl => ?_)
                replace hl : lv_has ls 4 [(3, .int (nI (i + 1))), (0, .ref (bd 0)), (1, .int (nI j)), (2, .int what)] := hl
                refine lv_goto (tgt := 25) hx hb dX1_load_66 rfl ?_
                exact ih _ H locs hS hP ls (i + 1) (by omega) (lv_sub hl [0, 1, 2, 3] rfl) (fr_updZ hg (by rw [hfk]; show _ = fr_bi (i.testBit (V - 1 - k)); rw [fr_tbn (show i < 512 by omega) hb3]; rfl))
      ·
        refine lv_iconst (v := (-1)) hx hb dX1_load_21 (by decide) ?_
        exact W.iret (v := (-1)) hx hb hret (fun t ht hW => ⟨⟨_, (row, made), rfl, by rw [show fr_sLoad V F (nI j) what = (-1, F) from if_neg (fr_ld2 h1 h2)]; exact ⟨rfl, hM⟩, by show va_P D vwCl _ t.heap; rw [ht]; exact hP⟩, hS.F ht⟩) hS.2.2 dX1_load_22
  ·
    refine lv_if_eq (tgt := 21) hx hb dX1_load_4 rfl (fun hz => ?_) (fun hz => absurd rfl hz)
    refine lv_iconst (v := (-1)) hx hb dX1_load_21 (by decide) ?_
    exact W.iret (v := (-1)) hx hb hret (fun t ht hW => ⟨⟨_, (row, made), rfl, by rw [show fr_sLoad V F r what = (-1, F) from if_neg (fr_and2 (Or.inl (fr_okB_no (hno))))]; exact ⟨rfl, hM⟩, by show va_P D vwCl _ t.heap; rw [ht]; exact hP⟩, hS.F ht⟩) hS.2.2 dX1_load_22
