set_option maxHeartbeats 4000000 in
set_option maxRecDepth 100000 in
theorem cM_value (l : Launch) (D : va_G) (V : Nat) (bd : Nat → Nat) (kb : Nat → ClassId) (row made : Nat → Int32) (F : fr_F) (hM : fr_MR V F row) (hV : V < 10) (hV1 : 1 ≤ V) (hinj : fr_injB bd) (r x0 : Int32)  : Met l yX1_value wsM_value rmM_value (va_Pc [.ref (bd 0), .int r, .int x0] (fr_PM D V bd kb row made)) (vp_Si (fun res => res = fr_sValue V F r x0)) 0 0 (fun _ => False) := by
  refine Met.ofW (cc := cX1_value) (maxL := 3) (ret := some .int) (by decide) rfl ?_
  intro p e s m args below meth c s₁ B hml hv
  obtain ⟨rfl, hP, hK, -⟩ := hv
  have hx := B.exec
  have hb := B.bytes
  have hret := B.returns
  have hw := fun w (h : w ∈ WA) => atoms_spec (ws := wsM_value) B.pre w (List.mem_cons_of_mem _ h)
  have hown : s.vm.findClass "FunctionRoomModel" = some m.cls := findClass_of_methodNamed B.named
  have hlocks := B.notSynchronized
  have hS0 : CallFix p m c cX1_value 3 s _ WA "FunctionRoomModel" := ⟨hx, hb, hml, hown, hw⟩
  have hl := lv_entry ([.ref (bd 0), .int r, .int x0]) (n := 3) (Nat.le_of_ble_eq_true rfl)
  rw [lg_entry_eq]
  generalize (lg_sl ([.ref (bd 0), .int r, .int x0]) ++ List.replicate (3 - (lg_sl ([.ref (bd 0), .int r, .int x0])).length) Slot.unset).toArray = ls at hl ⊢
  replace hl : lv_has ls 3 [(0, .ref (bd 0)), (1, .int r), (2, .int x0)] := hl
  have h512 := fr_pow512 hV
  refine lv_iload_n hx hb dX1_value_0 rfl (lv_at hl 1 rfl) ?_
  refine fr_cSi (As := [.int r]) hS0 (cM_is l r) (cw_M_is hw ⟨Nat.le_of_ble_eq_true rfl, Nat.le_of_ble_eq_true rfl⟩) (fr_pre0) rfl hl.1 rfl (Nat.le_of_ble_eq_true rfl) dX1_value_1 ⟨Nat.zero_le _, Nat.zero_le _⟩ (fun b0 hb0 => ?_)
  rcases hb0 with ⟨rfl, hOj⟩ | ⟨rfl, hno⟩
  ·
    refine lv_if_eq (tgt := 19) hx hb dX1_value_4 rfl (fun hz => absurd hz (by decide)) (fun hz => ?_)
    obtain ⟨j, hLj, rfl⟩ := fr_ok_ex (by decide) hOj
    refine lv_iload_n hx hb dX1_value_7 rfl (lv_at hl 2 rfl) ?_
    refine lv_if_lt (tgt := 19) hx hb dX1_value_8 rfl (fun h1 => ?_) (fun h1 => ?_)
    ·
      refine lv_iconst (v := (-1)) hx hb dX1_value_19 (by decide) ?_
      exact W.iret (v := (-1)) hx hb hret (fun t ht hW => ⟨_, rfl, (if_neg (fr_and2 (Or.inr (fr_okB_no (fun z => z.1 h1))))).symm, ht⟩) (fun q hq => by cases hq) dX1_value_20
    ·
      refine lv_iload_n hx hb dX1_value_11 rfl (lv_at hl 2 rfl) ?_
      refine lv_aload_n hx hb dX1_value_12 rfl (lv_at hl 0 rfl) ?_
      refine fr_gM 1 hx hb hw hown hK hP (by decide) mG_all rfl dX1_value_13 ?_
      refine lv_icmp_lt (tgt := 21) hx hb dX1_value_16 rfl (fun h2 => ?_) (fun h2 => ?_)
      ·
        obtain ⟨x, hLx, rfl⟩ := fr_ok_ex (by omega) ⟨h1, fun z => fr_ltle h2 z⟩
        have hsp : fr_sValue V F (nI j) (nI x) = fr_bi (F j x) := by unfold fr_sValue; rw [if_pos (by rw [fr_okB_nI hLj (by omega), fr_okB_nI hLx (by omega)]; rfl), fr_v_nI (show j < 2 ^ 31 by omega), fr_v_nI (show x < 2 ^ 31 by omega)]
        refine lv_aload_n hx hb dX1_value_21 rfl (lv_at hl 0 rfl) ?_
        refine fr_gM 2 hx hb hw hown hK hP (by decide) mG_row rfl dX1_value_22 ?_
        refine lv_sipush (v := 512) hx hb dX1_value_25 (by decide) ?_
        refine lv_iload_n hx hb dX1_value_28 rfl (lv_at hl 1 rfl) ?_
        refine lv_imul hx hb dX1_value_29 ?_
        refine lv_iload_n hx hb dX1_value_30 rfl (lv_at hl 2 rfl) ?_
        refine lv_iadd hx hb dX1_value_31 ?_
        refine fr_top (show (((512 * nI j) + nI x) : Int32) = nI (512 * j + x) from by rw [show (512 : Int32) * nI j = nI (512 * j) from pk_mul 512 j]; exact nI_add _ _) ?_
        refine fr_zald hx hb hK hP 1 0 rfl rfl (show 512 * j + x < 16384 by omega) (by decide) dX1_value_32 ?_
        refine fr_top (show (row (512 * j + x) : Int32) = fr_bi (F j x) from hM j x hLj hLx) ?_
        refine lv_if_eq (tgt := 40) hx hb dX1_value_33 rfl (fun hz => ?_) (fun hz => ?_)
        ·
          refine lv_iconst (v := 0) hx hb dX1_value_40 (by decide) ?_
          exact W.iret (v := 0) hx hb hret (fun t ht hW => ⟨_, rfl, by rw [hsp, fr_bi_ne0.mp hz]; rfl, ht⟩) (fun q hq => by cases hq) dX1_value_41
        ·
          refine lv_iconst (v := 1) hx hb dX1_value_36 (by decide) ?_
          refine lv_goto (tgt := 41) hx hb dX1_value_37 rfl ?_
          exact W.iret (v := 1) hx hb hret (fun t ht hW => ⟨_, rfl, by rw [hsp, fr_bit hz]; rfl, ht⟩) (fun q hq => by cases hq) dX1_value_41
      ·
        refine lv_iconst (v := (-1)) hx hb dX1_value_19 (by decide) ?_
        exact W.iret (v := (-1)) hx hb hret (fun t ht hW => ⟨_, rfl, (if_neg (fr_and2 (Or.inr (fr_okB_no (fun z => h2 (fr_nle z)))))).symm, ht⟩) (fun q hq => by cases hq) dX1_value_20
  ·
    refine lv_if_eq (tgt := 19) hx hb dX1_value_4 rfl (fun hz => ?_) (fun hz => absurd rfl hz)
    refine lv_iconst (v := (-1)) hx hb dX1_value_19 (by decide) ?_
    exact W.iret (v := (-1)) hx hb hret (fun t ht hW => ⟨_, rfl, (if_neg (fr_and2 (Or.inl (fr_okB_no (hno))))).symm, ht⟩) (fun q hq => by cases hq) dX1_value_20
set_option maxHeartbeats 4000000 in
set_option maxRecDepth 100000 in
theorem cM_nth (l : Launch) (D : va_G) (V : Nat) (bd : Nat → Nat) (kb : Nat → ClassId) (row made : Nat → Int32) (F : fr_F) (hM : fr_MR V F row) (hV : V < 10) (hV1 : 1 ≤ V) (hinj : fr_injB bd) (r k : Int32)  : Met l yX1_nth wsM_nth rmM_nth (va_Pc [.ref (bd 0), .int r, .int k] (fr_PM D V bd kb row made)) (vp_Si (fun res => res = fr_sNth V F r k)) 0 0 (fun _ => False) := by
  refine Met.ofW (cc := cX1_nth) (maxL := 5) (ret := some .int) (by decide) rfl ?_
  intro p e s m args below meth c s₁ B hml hv
  obtain ⟨rfl, hP, hK, -⟩ := hv
  have hx := B.exec
  have hb := B.bytes
  have hret := B.returns
  have hw := fun w (h : w ∈ WA) => atoms_spec (ws := wsM_nth) B.pre w (List.mem_cons_of_mem _ h)
  have hown : s.vm.findClass "FunctionRoomModel" = some m.cls := findClass_of_methodNamed B.named
  have hlocks := B.notSynchronized
  have hS0 : CallFix p m c cX1_nth 5 s _ WA "FunctionRoomModel" := ⟨hx, hb, hml, hown, hw⟩
  have hl := lv_entry ([.ref (bd 0), .int r, .int k]) (n := 5) (Nat.le_of_ble_eq_true rfl)
  rw [lg_entry_eq]
  generalize (lg_sl ([.ref (bd 0), .int r, .int k]) ++ List.replicate (5 - (lg_sl ([.ref (bd 0), .int r, .int k])).length) Slot.unset).toArray = ls at hl ⊢
  replace hl : lv_has ls 5 [(0, .ref (bd 0)), (1, .int r), (2, .int k)] := hl
  have h512 := fr_pow512 hV
  refine lv_iload_n hx hb dX1_nth_0 rfl (lv_at hl 1 rfl) ?_
  refine fr_cSi (As := [.int r]) hS0 (cM_is l r) (cw_M_is hw ⟨Nat.le_of_ble_eq_true rfl, Nat.le_of_ble_eq_true rfl⟩) (fr_pre0) rfl hl.1 rfl (Nat.le_of_ble_eq_true rfl) dX1_nth_1 ⟨Nat.zero_le _, Nat.zero_le _⟩ (fun b0 hb0 => ?_)
  rcases hb0 with ⟨rfl, hOj⟩ | ⟨rfl, hno⟩
  ·
    refine lv_if_ne (tgt := 9) hx hb dX1_nth_4 rfl (fun hz => ?_) (fun hz => absurd hz (by decide))
    obtain ⟨j, hLj, rfl⟩ := fr_ok_ex (by decide) hOj
    refine lv_iconst (v := 0) hx hb dX1_nth_9 (by decide) ?_
    refine lv_istore_n hx hb dX1_nth_10 rfl hl (by decide) rfl (fun ls hl => ?_)
    replace hl : lv_has ls 5 [(3, .int 0), (0, .ref (bd 0)), (1, .int (nI j)), (2, .int k)] := hl
    refine lv_iconst (v := 0) hx hb dX1_nth_11 (by decide) ?_
    refine lv_istore hx hb dX1_nth_12 hl (by decide) rfl (fun ls hl => ?_)
    replace hl : lv_has ls 5 [(4, .int 0), (3, .int 0), (0, .ref (bd 0)), (1, .int (nI j)), (2, .int k)] := hl
    have hsp : fr_sNth V F (nI j) k = fr_nthS (F j) k (2 ^ V) 0 0 := by unfold fr_sNth; rw [if_pos (fr_okB_nI hLj (by decide)), fr_v_nI (show j < 2 ^ 31 by omega)]
    obtain ⟨n, i, c0, hin, hi0, hc0⟩ : ∃ n i c0 : Nat, i + n = 2 ^ V ∧ i = 0 ∧ c0 = 0 := ⟨2 ^ V, 0, 0, by omega, rfl, rfl⟩
    replace hl : lv_has ls 5 [(4, .int (nI i)), (3, .int (nI c0)), (0, .ref (bd 0)), (1, .int (nI j)), (2, .int k)] := by rw [hi0, hc0]; exact hl
    have hg : fr_nthS (F j) k n i c0 = fr_sNth V F (nI j) k := by rw [hsp, hi0, hc0, show n = 2 ^ V by omega]
    have hci : c0 ≤ i := by omega
    clear hi0 hc0 hsp
    induction n generalizing i ls c0 with
    | zero =>
      refine lv_iload hx hb dX1_nth_14 (lv_at hl 0 rfl) ?_
      refine lv_aload_n hx hb dX1_nth_16 rfl (lv_at hl 2 rfl) ?_
      refine fr_gM 1 hx hb hw hown hK hP (by decide) mG_all rfl dX1_nth_17 ?_
      refine lv_icmp_ge (tgt := 59) hx hb dX1_nth_20 rfl (fun hcm => ?_) (fun hcm => absurd (nI_le (show 2 ^ V ≤ i by omega) (by omega)) hcm)
      refine lv_bipush (v := (-2)) hx hb dX1_nth_59 (by decide) ?_
      exact W.iret (v := (-2)) hx hb hret (fun t ht hW => ⟨_, rfl, by rw [← hg]; rfl, ht⟩) (fun q hq => by cases hq) dX1_nth_61
    | succ n ih =>
      refine lv_iload hx hb dX1_nth_14 (lv_at hl 0 rfl) ?_
      refine lv_aload_n hx hb dX1_nth_16 rfl (lv_at hl 2 rfl) ?_
      refine fr_gM 1 hx hb hw hown hK hP (by decide) mG_all rfl dX1_nth_17 ?_
      refine lv_icmp_ge (tgt := 59) hx hb dX1_nth_20 rfl (fun hcm => absurd hcm (nI_ge (show i < 2 ^ V by omega) (by omega))) (fun hcm => ?_)
      have hi : i < 2 ^ V := by omega
      refine lv_aload_n hx hb dX1_nth_23 rfl (lv_at hl 2 rfl) ?_
      refine fr_gM 2 hx hb hw hown hK hP (by decide) mG_row rfl dX1_nth_24 ?_
      refine lv_sipush (v := 512) hx hb dX1_nth_27 (by decide) ?_
      refine lv_iload_n hx hb dX1_nth_30 rfl (lv_at hl 3 rfl) ?_
      refine lv_imul hx hb dX1_nth_31 ?_
      refine lv_iload hx hb dX1_nth_32 (lv_at hl 0 rfl) ?_
      refine lv_iadd hx hb dX1_nth_34 ?_
      refine fr_top (show (((512 * nI j) + nI i) : Int32) = nI (512 * j + i) from by rw [show (512 : Int32) * nI j = nI (512 * j) from pk_mul 512 j]; exact nI_add _ _) ?_
      refine fr_zald hx hb hK hP 1 0 rfl rfl (show 512 * j + i < 16384 by omega) (by decide) dX1_nth_35 ?_
      refine fr_top (show (row (512 * j + i) : Int32) = fr_bi (F j i) from hM j i hLj hi) ?_
      refine lv_if_ne (tgt := 42) hx hb dX1_nth_36 rfl (fun hz => ?_) (fun hz => ?_)
      ·
        have h3 : F j i = true := fr_bit hz
        refine lv_iload_n hx hb dX1_nth_42 rfl (lv_at hl 1 rfl) ?_
        refine lv_iload_n hx hb dX1_nth_43 rfl (lv_at hl 4 rfl) ?_
        refine lv_icmp_ne (tgt := 50) hx hb dX1_nth_44 rfl (fun h4 => ?_) (fun h4 => ?_)
        ·
          refine lv_iinc (k := 1) (v := nI (c0 + 1)) hx hb dX1_nth_50 hl rfl (fr_inc c0) (by decide) rfl (fun ls hl => ?_)
          replace hl : lv_has ls 5 [(3, .int (nI (c0 + 1))), (4, .int (nI i)), (0, .ref (bd 0)), (1, .int (nI j)), (2, .int k)] := hl
          refine lv_iinc (k := 1) (v := nI (i + 1)) hx hb dX1_nth_53 hl rfl (fr_inc i) (by decide) rfl (fun ls hl => ?_)
          replace hl : lv_has ls 5 [(4, .int (nI (i + 1))), (3, .int (nI (c0 + 1))), (0, .ref (bd 0)), (1, .int (nI j)), (2, .int k)] := hl
          refine lv_goto (tgt := 14) hx hb dX1_nth_56 rfl ?_
          exact ih ls (i + 1) (c0 + 1) (by omega) (lv_sub hl [0, 1, 2, 3, 4] rfl) (by rw [← hg]; show _ = (if F j i = true then (if nI c0 = k then _ else _) else _); rw [h3, if_pos rfl, if_neg h4]) (by omega)
        ·
          refine lv_iload hx hb dX1_nth_47 (lv_at hl 0 rfl) ?_
          exact W.iret (v := nI i) hx hb hret (fun t ht hW => ⟨_, rfl, by rw [← hg]; show _ = (if F j i = true then (if nI c0 = k then _ else _) else _); rw [h3, if_pos rfl, if_pos h4], ht⟩) (fun q hq => by cases hq) dX1_nth_49
      ·
        have h3 : F j i = false := fr_bi_ne0.mp hz
        refine lv_goto (tgt := 53) hx hb dX1_nth_39 rfl ?_
        refine lv_iinc (k := 0) (v := nI (i + 1)) hx hb dX1_nth_53 hl rfl (fr_inc i) (by decide) rfl (fun ls hl => ?_)
        replace hl : lv_has ls 5 [(4, .int (nI (i + 1))), (3, .int (nI c0)), (0, .ref (bd 0)), (1, .int (nI j)), (2, .int k)] := hl
        refine lv_goto (tgt := 14) hx hb dX1_nth_56 rfl ?_
        exact ih ls (i + 1) c0 (by omega) (lv_sub hl [0, 1, 2, 3, 4] rfl) (by rw [← hg]; show _ = (if F j i = true then _ else _); rw [h3]; rfl) (by omega)
  ·
    refine lv_if_ne (tgt := 9) hx hb dX1_nth_4 rfl (fun hz => absurd rfl hz) (fun hz => ?_)
    refine lv_iconst (v := (-1)) hx hb dX1_nth_7 (by decide) ?_
    exact W.iret (v := (-1)) hx hb hret (fun t ht hW => ⟨_, rfl, (if_neg (by rw [fr_okB_no (hno)]; decide)).symm, ht⟩) (fun q hq => by cases hq) dX1_nth_8
set_option maxHeartbeats 4000000 in
set_option maxRecDepth 100000 in
theorem cM_same (l : Launch) (D : va_G) (V : Nat) (bd : Nat → Nat) (kb : Nat → ClassId) (row made : Nat → Int32) (F : fr_F) (hM : fr_MR V F row) (hV : V < 10) (hV1 : 1 ≤ V) (hinj : fr_injB bd) (a b : Int32)  : Met l yX1_same wsM_same rmM_same (va_Pc [.ref (bd 0), .int a, .int b] (fr_PM D V bd kb row made)) (vp_Si (fun res => res = fr_sSame V F a b)) 0 0 (fun _ => False) := by
  refine Met.ofW (cc := cX1_same) (maxL := 4) (ret := some .boolean) (by decide) rfl ?_
  intro p e s m args below meth c s₁ B hml hv
  obtain ⟨rfl, hP, hK, -⟩ := hv
  have hx := B.exec
  have hb := B.bytes
  have hret := B.returns
  have hw := fun w (h : w ∈ WA) => atoms_spec (ws := wsM_same) B.pre w (List.mem_cons_of_mem _ h)
  have hown : s.vm.findClass "FunctionRoomModel" = some m.cls := findClass_of_methodNamed B.named
  have hlocks := B.notSynchronized
  have hS0 : CallFix p m c cX1_same 4 s _ WA "FunctionRoomModel" := ⟨hx, hb, hml, hown, hw⟩
  have hl := lv_entry ([.ref (bd 0), .int a, .int b]) (n := 4) (Nat.le_of_ble_eq_true rfl)
  rw [lg_entry_eq]
  generalize (lg_sl ([.ref (bd 0), .int a, .int b]) ++ List.replicate (4 - (lg_sl ([.ref (bd 0), .int a, .int b])).length) Slot.unset).toArray = ls at hl ⊢
  replace hl : lv_has ls 4 [(0, .ref (bd 0)), (1, .int a), (2, .int b)] := hl
  have h512 := fr_pow512 hV
  refine lv_iload_n hx hb dX1_same_0 rfl (lv_at hl 1 rfl) ?_
  refine fr_cSi (As := [.int a]) hS0 (cM_is l a) (cw_M_is hw ⟨Nat.le_of_ble_eq_true rfl, Nat.le_of_ble_eq_true rfl⟩) (fr_pre0) rfl hl.1 rfl (Nat.le_of_ble_eq_true rfl) dX1_same_1 ⟨Nat.zero_le _, Nat.zero_le _⟩ (fun b0 hb0 => ?_)
  rcases hb0 with ⟨rfl, hOra⟩ | ⟨rfl, hno⟩
  ·
    refine lv_if_eq (tgt := 14) hx hb dX1_same_4 rfl (fun hz => absurd hz (by decide)) (fun hz => ?_)
    obtain ⟨ra, hLra, rfl⟩ := fr_ok_ex (by decide) hOra
    refine lv_iload_n hx hb dX1_same_7 rfl (lv_at hl 2 rfl) ?_
    refine fr_cSi (As := [.int b]) hS0 (cM_is l b) (cw_M_is hw ⟨Nat.le_of_ble_eq_true rfl, Nat.le_of_ble_eq_true rfl⟩) (fr_pre0) rfl hl.1 rfl (Nat.le_of_ble_eq_true rfl) dX1_same_8 ⟨Nat.zero_le _, Nat.zero_le _⟩ (fun b0 hb0 => ?_)
    rcases hb0 with ⟨rfl, hOrb⟩ | ⟨rfl, hno⟩
    ·
      refine lv_if_ne (tgt := 16) hx hb dX1_same_11 rfl (fun hz => ?_) (fun hz => absurd hz (by decide))
      obtain ⟨rb, hLrb, rfl⟩ := fr_ok_ex (by decide) hOrb
      refine lv_iconst (v := 0) hx hb dX1_same_16 (by decide) ?_
      refine lv_istore_n hx hb dX1_same_17 rfl hl (by decide) rfl (fun ls hl => ?_)
      replace hl : lv_has ls 4 [(3, .int 0), (0, .ref (bd 0)), (1, .int (nI ra)), (2, .int (nI rb))] := hl
      have hsp : fr_sSame V F (nI ra) (nI rb) = fr_bi (fr_eqB V (F ra) (F rb)) := by unfold fr_sSame; rw [if_pos (by rw [fr_okB_nI hLra (by omega), fr_okB_nI hLrb (by omega)]; rfl), fr_v_nI (show ra < 2 ^ 31 by omega), fr_v_nI (show rb < 2 ^ 31 by omega)]
      obtain ⟨n, i, hin, hi0⟩ : ∃ n i : Nat, i + n = 2 ^ V ∧ i = 0 := ⟨2 ^ V, 0, Nat.zero_add _, rfl⟩
      replace hl : lv_has ls 4 [(3, .int (nI i)), (0, .ref (bd 0)), (1, .int (nI ra)), (2, .int (nI rb))] := by rw [hi0]; exact hl
      have hg : ∀ x, x < i → F ra x = F rb x := fun x h => absurd h (by omega)
      clear hi0
      induction n generalizing i ls  with
      | zero =>
        refine lv_iload_n hx hb dX1_same_18 rfl (lv_at hl 0 rfl) ?_
        refine lv_aload_n hx hb dX1_same_19 rfl (lv_at hl 1 rfl) ?_
        refine fr_gM 1 hx hb hw hown hK hP (by decide) mG_all rfl dX1_same_20 ?_
        refine lv_icmp_ge (tgt := 61) hx hb dX1_same_23 rfl (fun hcm => ?_) (fun hcm => absurd (nI_le (show 2 ^ V ≤ i by omega) (by omega)) hcm)
        refine lv_iconst (v := 1) hx hb dX1_same_61 (by decide) ?_
        exact W.zret (v := 1) hx hb hret rfl (fun t ht hW => ⟨_, rfl, by rw [hsp, show fr_eqB V (F ra) (F rb) = true from decide_eq_true (fun x h => hg x (by omega))]; rfl, ht⟩) (fun q hq => by cases hq) dX1_same_62
      | succ n ih =>
        refine lv_iload_n hx hb dX1_same_18 rfl (lv_at hl 0 rfl) ?_
        refine lv_aload_n hx hb dX1_same_19 rfl (lv_at hl 1 rfl) ?_
        refine fr_gM 1 hx hb hw hown hK hP (by decide) mG_all rfl dX1_same_20 ?_
        refine lv_icmp_ge (tgt := 61) hx hb dX1_same_23 rfl (fun hcm => absurd hcm (nI_ge (show i < 2 ^ V by omega) (by omega))) (fun hcm => ?_)
        have hi : i < 2 ^ V := by omega
        refine lv_aload_n hx hb dX1_same_26 rfl (lv_at hl 1 rfl) ?_
        refine fr_gM 2 hx hb hw hown hK hP (by decide) mG_row rfl dX1_same_27 ?_
        refine lv_sipush (v := 512) hx hb dX1_same_30 (by decide) ?_
        refine lv_iload_n hx hb dX1_same_33 rfl (lv_at hl 2 rfl) ?_
        refine lv_imul hx hb dX1_same_34 ?_
        refine lv_iload_n hx hb dX1_same_35 rfl (lv_at hl 0 rfl) ?_
        refine lv_iadd hx hb dX1_same_36 ?_
        refine fr_top (show (((512 * nI ra) + nI i) : Int32) = nI (512 * ra + i) from by rw [show (512 : Int32) * nI ra = nI (512 * ra) from pk_mul 512 ra]; exact nI_add _ _) ?_
        refine fr_zald hx hb hK hP 1 0 rfl rfl (show 512 * ra + i < 16384 by omega) (by decide) dX1_same_37 ?_
        refine fr_top (show (row (512 * ra + i) : Int32) = fr_bi (F ra i) from hM ra i hLra hi) ?_
        refine lv_aload_n hx hb dX1_same_38 rfl (lv_at hl 1 rfl) ?_
        refine fr_gM 2 hx hb hw hown hK hP (by decide) mG_row rfl dX1_same_39 ?_
        refine lv_sipush (v := 512) hx hb dX1_same_42 (by decide) ?_
        refine lv_iload_n hx hb dX1_same_45 rfl (lv_at hl 3 rfl) ?_
        refine lv_imul hx hb dX1_same_46 ?_
        refine lv_iload_n hx hb dX1_same_47 rfl (lv_at hl 0 rfl) ?_
        refine lv_iadd hx hb dX1_same_48 ?_
        refine fr_top (show (((512 * nI rb) + nI i) : Int32) = nI (512 * rb + i) from by rw [show (512 : Int32) * nI rb = nI (512 * rb) from pk_mul 512 rb]; exact nI_add _ _) ?_
        refine fr_zald hx hb hK hP 1 0 rfl rfl (show 512 * rb + i < 16384 by omega) (by decide) dX1_same_49 ?_
        refine fr_top (show (row (512 * rb + i) : Int32) = fr_bi (F rb i) from hM rb i hLrb hi) ?_
        refine lv_icmp_eq (tgt := 55) hx hb dX1_same_50 rfl (fun hz => ?_) (fun hz => ?_)
        ·
          refine lv_iinc (k := 0) (v := nI (i + 1)) hx hb dX1_same_55 hl rfl (fr_inc i) (by decide) rfl (fun ls hl => ?_)
          replace hl : lv_has ls 4 [(3, .int (nI (i + 1))), (0, .ref (bd 0)), (1, .int (nI ra)), (2, .int (nI rb))] := hl
          refine lv_goto (tgt := 18) hx hb dX1_same_58 rfl ?_
          exact ih ls (i + 1) (by omega) (lv_sub hl [0, 1, 2, 3] rfl) (lt_s hg (fr_bi_inj.mp hz))
        ·
          refine lv_iconst (v := 0) hx hb dX1_same_53 (by decide) ?_
          exact W.zret (v := 0) hx hb hret rfl (fun t ht hW => ⟨_, rfl, by rw [hsp, show fr_eqB V (F ra) (F rb) = false from decide_eq_false (fun z => hz (fr_bi_inj.mpr (z i hi)))]; rfl, ht⟩) (fun q hq => by cases hq) dX1_same_54
    ·
      refine lv_if_ne (tgt := 16) hx hb dX1_same_11 rfl (fun hz => absurd rfl hz) (fun hz => ?_)
      refine lv_iconst (v := 0) hx hb dX1_same_14 (by decide) ?_
      exact W.zret (v := 0) hx hb hret rfl (fun t ht hW => ⟨_, rfl, (if_neg (fr_and2 (Or.inr (fr_okB_no (hno))))).symm, ht⟩) (fun q hq => by cases hq) dX1_same_15
  ·
    refine lv_if_eq (tgt := 14) hx hb dX1_same_4 rfl (fun hz => ?_) (fun hz => absurd rfl hz)
    refine lv_iconst (v := 0) hx hb dX1_same_14 (by decide) ?_
    exact W.zret (v := 0) hx hb hret rfl (fun t ht hW => ⟨_, rfl, (if_neg (fr_and2 (Or.inl (fr_okB_no (hno))))).symm, ht⟩) (fun q hq => by cases hq) dX1_same_15
set_option maxHeartbeats 4000000 in
set_option maxRecDepth 100000 in
theorem cM_alike (l : Launch) (D : va_G) (V : Nat) (bd : Nat → Nat) (kb : Nat → ClassId) (row made : Nat → Int32) (F : fr_F) (hM : fr_MR V F row) (hV : V < 10) (hV1 : 1 ≤ V) (hinj : fr_injB bd) (j x y n0 : Nat) (hLj : j < 32) (hxn : x + n0 ≤ 2 ^ V) (hyn : y + n0 ≤ 2 ^ V) : Met l yX1_alike wsM_alike rmM_alike (va_Pc [.ref (bd 0), .int (nI j), .int (nI x), .int (nI y), .int (nI n0)] (fr_PM D V bd kb row made)) (vp_Si (fun res => res = fr_bi (fr_al (F j) x y n0))) 0 0 (fun _ => False) := by
  refine Met.ofW (cc := cX1_alike) (maxL := 6) (ret := some .boolean) (by decide) rfl ?_
  intro p e s m args below meth c s₁ B hml hv
  obtain ⟨rfl, hP, hK, -⟩ := hv
  have hx := B.exec
  have hb := B.bytes
  have hret := B.returns
  have hw := fun w (h : w ∈ WA) => atoms_spec (ws := wsM_alike) B.pre w (List.mem_cons_of_mem _ h)
  have hown : s.vm.findClass "FunctionRoomModel" = some m.cls := findClass_of_methodNamed B.named
  have hlocks := B.notSynchronized
  have hS0 : CallFix p m c cX1_alike 6 s _ WA "FunctionRoomModel" := ⟨hx, hb, hml, hown, hw⟩
  have hl := lv_entry ([.ref (bd 0), .int (nI j), .int (nI x), .int (nI y), .int (nI n0)]) (n := 6) (Nat.le_of_ble_eq_true rfl)
  rw [lg_entry_eq]
  generalize (lg_sl ([.ref (bd 0), .int (nI j), .int (nI x), .int (nI y), .int (nI n0)]) ++ List.replicate (6 - (lg_sl ([.ref (bd 0), .int (nI j), .int (nI x), .int (nI y), .int (nI n0)])).length) Slot.unset).toArray = ls at hl ⊢
  replace hl : lv_has ls 6 [(0, .ref (bd 0)), (1, .int (nI j)), (2, .int (nI x)), (3, .int (nI y)), (4, .int (nI n0))] := hl
  have h512 := fr_pow512 hV
  refine lv_iconst (v := 0) hx hb dX1_alike_0 (by decide) ?_
  refine lv_istore hx hb dX1_alike_1 hl (by decide) rfl (fun ls hl => ?_)
  replace hl : lv_has ls 6 [(5, .int 0), (0, .ref (bd 0)), (1, .int (nI j)), (2, .int (nI x)), (3, .int (nI y)), (4, .int (nI n0))] := hl
  obtain ⟨n, i, hin, hi0⟩ : ∃ n i : Nat, i + n = n0 ∧ i = 0 := ⟨n0, 0, Nat.zero_add _, rfl⟩
  replace hl : lv_has ls 6 [(5, .int (nI i)), (0, .ref (bd 0)), (1, .int (nI j)), (2, .int (nI x)), (3, .int (nI y)), (4, .int (nI n0))] := by rw [hi0]; exact hl
  have hg : ∀ k, k < i → F j (x + k) = F j (y + k) := fun k h => absurd h (by omega)
  clear hi0
  induction n generalizing i ls  with
  | zero =>
    refine lv_iload hx hb dX1_alike_3 (lv_at hl 0 rfl) ?_
    refine lv_iload hx hb dX1_alike_5 (lv_at hl 5 rfl) ?_
    refine lv_icmp_ge (tgt := 51) hx hb dX1_alike_7 rfl (fun hcm => ?_) (fun hcm => absurd (nI_le (show n0 ≤ i by omega) (by omega)) hcm)
    refine lv_iconst (v := 1) hx hb dX1_alike_51 (by decide) ?_
    exact W.zret (v := 1) hx hb hret rfl (fun t ht hW => ⟨_, rfl, by rw [show fr_al (F j) x y n0 = true from fr_al_iff.mpr (fun k h => hg k (by omega))]; rfl, ht⟩) (fun q hq => by cases hq) dX1_alike_52
  | succ n ih =>
    refine lv_iload hx hb dX1_alike_3 (lv_at hl 0 rfl) ?_
    refine lv_iload hx hb dX1_alike_5 (lv_at hl 5 rfl) ?_
    refine lv_icmp_ge (tgt := 51) hx hb dX1_alike_7 rfl (fun hcm => absurd hcm (nI_ge (show i < n0 by omega) (by omega))) (fun hcm => ?_)
    have hi : i < n0 := by omega
    refine lv_aload_n hx hb dX1_alike_10 rfl (lv_at hl 1 rfl) ?_
    refine fr_gM 2 hx hb hw hown hK hP (by decide) mG_row rfl dX1_alike_11 ?_
    refine lv_sipush (v := 512) hx hb dX1_alike_14 (by decide) ?_
    refine lv_iload_n hx hb dX1_alike_17 rfl (lv_at hl 2 rfl) ?_
    refine lv_imul hx hb dX1_alike_18 ?_
    refine lv_iload_n hx hb dX1_alike_19 rfl (lv_at hl 3 rfl) ?_
    refine lv_iadd hx hb dX1_alike_20 ?_
    refine lv_iload hx hb dX1_alike_21 (lv_at hl 0 rfl) ?_
    refine lv_iadd hx hb dX1_alike_23 ?_
    refine fr_top (show ((((512 * nI j) + nI x) + nI i) : Int32) = nI (512 * j + (x + i)) from by rw [show (512 : Int32) * nI j = nI (512 * j) from pk_mul 512 j, nI_add, nI_add]; congr 1; omega) ?_
    refine fr_zald hx hb hK hP 1 0 rfl rfl (show 512 * j + (x + i) < 16384 by omega) (by decide) dX1_alike_24 ?_
    refine fr_top (show (row (512 * j + (x + i)) : Int32) = fr_bi (F j (x + i)) from hM j (x + i) hLj (by omega)) ?_
    refine lv_aload_n hx hb dX1_alike_25 rfl (lv_at hl 1 rfl) ?_
    refine fr_gM 2 hx hb hw hown hK hP (by decide) mG_row rfl dX1_alike_26 ?_
    refine lv_sipush (v := 512) hx hb dX1_alike_29 (by decide) ?_
    refine lv_iload_n hx hb dX1_alike_32 rfl (lv_at hl 2 rfl) ?_
    refine lv_imul hx hb dX1_alike_33 ?_
    refine lv_iload_n hx hb dX1_alike_34 rfl (lv_at hl 4 rfl) ?_
    refine lv_iadd hx hb dX1_alike_35 ?_
    refine lv_iload hx hb dX1_alike_36 (lv_at hl 0 rfl) ?_
    refine lv_iadd hx hb dX1_alike_38 ?_
    refine fr_top (show ((((512 * nI j) + nI y) + nI i) : Int32) = nI (512 * j + (y + i)) from by rw [show (512 : Int32) * nI j = nI (512 * j) from pk_mul 512 j, nI_add, nI_add]; congr 1; omega) ?_
    refine fr_zald hx hb hK hP 1 0 rfl rfl (show 512 * j + (y + i) < 16384 by omega) (by decide) dX1_alike_39 ?_
    refine fr_top (show (row (512 * j + (y + i)) : Int32) = fr_bi (F j (y + i)) from hM j (y + i) hLj (by omega)) ?_
    refine lv_icmp_eq (tgt := 45) hx hb dX1_alike_40 rfl (fun hz => ?_) (fun hz => ?_)
    ·
      refine lv_iinc (k := 0) (v := nI (i + 1)) hx hb dX1_alike_45 hl rfl (fr_inc i) (by decide) rfl (fun ls hl => ?_)
      replace hl : lv_has ls 6 [(5, .int (nI (i + 1))), (0, .ref (bd 0)), (1, .int (nI j)), (2, .int (nI x)), (3, .int (nI y)), (4, .int (nI n0))] := hl
      refine lv_goto (tgt := 3) hx hb dX1_alike_48 rfl ?_
      exact ih ls (i + 1) (by omega) (lv_sub hl [0, 1, 2, 3, 4, 5] rfl) (lt_s hg (fr_bi_inj.mp hz))
    ·
      refine lv_iconst (v := 0) hx hb dX1_alike_43 (by decide) ?_
      exact W.zret (v := 0) hx hb hret rfl (fun t ht hW => ⟨_, rfl, by rw [show fr_al (F j) x y n0 = false from decide_eq_false (fun z => hz (fr_bi_inj.mpr (z i hi)))]; rfl, ht⟩) (fun q hq => by cases hq) dX1_alike_44
