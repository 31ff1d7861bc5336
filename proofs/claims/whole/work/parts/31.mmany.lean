set_option maxHeartbeats 4000000 in
set_option maxRecDepth 100000 in
theorem cM_many (l : Launch) (D : va_G) (V : Nat) (bd : Nat → Nat) (kb : Nat → ClassId) (row made : Nat → Int32) (F : fr_F) (hM : fr_MR V F row) (hV : V < 10) (hV1 : 1 ≤ V) (hinj : fr_injB bd) (r : Int32) : Met l yX1_many wsM_many rmM_many (va_Pc [.ref (bd 0), .int r] (fr_PM D V bd kb row made)) (vp_Si (fun res => res = fr_sMany V F r)) 0 0 (fun _ => False) := by
  refine Met.ofW (cc := cX1_many) (maxL := 4) (ret := some .int) (by decide) rfl ?_
  intro p e s m args below meth c s₁ B hml hv
  obtain ⟨rfl, hP, hK, -⟩ := hv
  have hx := B.exec
  have hb := B.bytes
  have hret := B.returns
  have hw := fun w (h : w ∈ WA) => atoms_spec (ws := wsM_many) B.pre w (List.mem_cons_of_mem _ h)
  have hown : s.vm.findClass "FunctionRoomModel" = some m.cls := findClass_of_methodNamed B.named
  have hlocks := B.notSynchronized
  have hS0 : CallFix p m c cX1_many 4 s _ WA "FunctionRoomModel" := ⟨hx, hb, hml, hown, hw⟩
  have hl := lv_entry ([.ref (bd 0), .int r]) (n := 4) (Nat.le_of_ble_eq_true rfl)
  rw [lg_entry_eq]
  generalize (lg_sl ([.ref (bd 0), .int r]) ++ List.replicate (4 - (lg_sl ([.ref (bd 0), .int r])).length) Slot.unset).toArray = ls at hl ⊢
  replace hl : lv_has ls 4 [(0, .ref (bd 0)), (1, .int r)] := hl
  have h512 := fr_pow512 hV
  refine lv_iload_n hx hb dX1_many_0 rfl (lv_at hl 1 rfl) ?_
  refine fr_cSi (As := [.int r]) hS0 (cM_is l r) (cw_M_is hw ⟨Nat.le_of_ble_eq_true rfl, Nat.le_of_ble_eq_true rfl⟩) (fr_pre0) rfl hl.1 rfl (Nat.le_of_ble_eq_true rfl) dX1_many_1 ⟨Nat.zero_le _, Nat.zero_le _⟩ (fun b0 hb0 => ?_)
  rcases hb0 with ⟨rfl, hOj⟩ | ⟨rfl, hno⟩
  ·
    refine lv_if_ne (tgt := 9) hx hb dX1_many_4 rfl (fun hz => ?_) (fun hz => absurd hz (by decide))
    obtain ⟨j, hLj, rfl⟩ := fr_ok_ex (by decide) hOj
    refine lv_iconst (v := 0) hx hb dX1_many_9 (by decide) ?_
    refine lv_istore_n hx hb dX1_many_10 rfl hl (by decide) rfl (fun ls hl => ?_)
    replace hl : lv_has ls 4 [(2, .int 0), (0, .ref (bd 0)), (1, .int (nI j))] := hl
    refine lv_iconst (v := 0) hx hb dX1_many_11 (by decide) ?_
    refine lv_istore_n hx hb dX1_many_12 rfl hl (by decide) rfl (fun ls hl => ?_)
    replace hl : lv_has ls 4 [(3, .int 0), (2, .int 0), (0, .ref (bd 0)), (1, .int (nI j))] := hl
    obtain ⟨n, i, hin, hi0⟩ : ∃ n i : Nat, i + n = 2 ^ V ∧ i = 0 := ⟨2 ^ V, 0, Nat.zero_add _, rfl⟩
    replace hl : lv_has ls 4 [(3, .int (nI i)), (2, .int (nI (fr_cn (F j) i))), (0, .ref (bd 0)), (1, .int (nI j))] := by rw [hi0]; exact hl
    clear hi0
    induction n generalizing i ls  with
    | zero =>
      refine lv_iload_n hx hb dX1_many_13 rfl (lv_at hl 0 rfl) ?_
      refine lv_aload_n hx hb dX1_many_14 rfl (lv_at hl 2 rfl) ?_
      refine fr_gM 1 hx hb hw hown hK hP (by decide) mG_all rfl dX1_many_15 ?_
      refine lv_icmp_ge (tgt := 50) hx hb dX1_many_18 rfl (fun hcm => ?_) (fun hcm => absurd (nI_le (show 2 ^ V ≤ i by omega) (by omega)) hcm)
      refine lv_iload_n hx hb dX1_many_50 rfl (lv_at hl 1 rfl) ?_
      exact W.iret (v := nI (fr_cn (F j) i)) hx hb hret (fun t ht hW => ⟨_, rfl, by unfold fr_sMany; rw [if_pos (fr_okB_nI hLj (by decide)), fr_v_nI (show j < 2 ^ 31 by omega), show i = 2 ^ V by omega], ht⟩) (fun q hq => by cases hq) dX1_many_51
    | succ n ih =>
      refine lv_iload_n hx hb dX1_many_13 rfl (lv_at hl 0 rfl) ?_
      refine lv_aload_n hx hb dX1_many_14 rfl (lv_at hl 2 rfl) ?_
      refine fr_gM 1 hx hb hw hown hK hP (by decide) mG_all rfl dX1_many_15 ?_
      refine lv_icmp_ge (tgt := 50) hx hb dX1_many_18 rfl (fun hcm => absurd hcm (nI_ge (show i < 2 ^ V by omega) (by omega))) (fun hcm => ?_)
      have hi : i < 2 ^ V := by omega
      refine lv_iload_n hx hb dX1_many_21 rfl (lv_at hl 1 rfl) ?_
      refine lv_aload_n hx hb dX1_many_22 rfl (lv_at hl 2 rfl) ?_
      refine fr_gM 2 hx hb hw hown hK hP (by decide) mG_row rfl dX1_many_23 ?_
      refine lv_sipush (v := 512) hx hb dX1_many_26 (by decide) ?_
      refine lv_iload_n hx hb dX1_many_29 rfl (lv_at hl 3 rfl) ?_
      refine lv_imul hx hb dX1_many_30 ?_
      refine lv_iload_n hx hb dX1_many_31 rfl (lv_at hl 0 rfl) ?_
      refine lv_iadd hx hb dX1_many_32 ?_
      refine fr_top (show (((512 * nI j) + nI i) : Int32) = nI (512 * j + i) from by rw [show (512 : Int32) * nI j = nI (512 * j) from pk_mul 512 j]; exact nI_add _ _) ?_
      refine fr_zald hx hb hK hP 1 0 rfl rfl (show 512 * j + i < 16384 by omega) (by decide) dX1_many_33 ?_
      refine fr_top (show (row (512 * j + i) : Int32) = fr_bi (F j i) from hM j i hLj hi) ?_
      refine lv_if_eq (tgt := 41) hx hb dX1_many_34 rfl (fun hz => ?_) (fun hz => ?_)
      ·
        have hq : F j i = false := fr_bi_ne0.mp hz
        refine lv_iconst (v := 0) hx hb dX1_many_41 (by decide) ?_
        refine lv_iadd hx hb dX1_many_42 ?_
        refine fr_top (show ((nI (fr_cn (F j) i) + 0) : Int32) = nI (fr_cn (F j) (i + 1)) from by show _ = nI (fr_cn (F j) i + (if F j i = true then 1 else 0)); rw [hq]; exact (nI_add _ 0)) ?_
        refine lv_istore_n hx hb dX1_many_43 rfl hl (by decide) rfl (fun ls hl => ?_)
        replace hl : lv_has ls 4 [(2, .int (nI (fr_cn (F j) (i + 1)))), (3, .int (nI i)), (0, .ref (bd 0)), (1, .int (nI j))] := hl
        refine lv_iinc (k := 1) (v := nI (i + 1)) hx hb dX1_many_44 hl rfl (fr_inc i) (by decide) rfl (fun ls hl => ?_)
        replace hl : lv_has ls 4 [(3, .int (nI (i + 1))), (2, .int (nI (fr_cn (F j) (i + 1)))), (0, .ref (bd 0)), (1, .int (nI j))] := hl
        refine lv_goto (tgt := 13) hx hb dX1_many_47 rfl ?_
        exact ih ls (i + 1) (by omega) (lv_sub hl [0, 1, 2, 3] rfl)
      ·
        have hq : F j i = true := fr_bit hz
        refine lv_iconst (v := 1) hx hb dX1_many_37 (by decide) ?_
        refine lv_goto (tgt := 42) hx hb dX1_many_38 rfl ?_
        refine lv_iadd hx hb dX1_many_42 ?_
        refine fr_top (show ((nI (fr_cn (F j) i) + 1) : Int32) = nI (fr_cn (F j) (i + 1)) from by show _ = nI (fr_cn (F j) i + (if F j i = true then 1 else 0)); rw [hq]; exact (nI_add _ 1)) ?_
        refine lv_istore_n hx hb dX1_many_43 rfl hl (by decide) rfl (fun ls hl => ?_)
        replace hl : lv_has ls 4 [(2, .int (nI (fr_cn (F j) (i + 1)))), (3, .int (nI i)), (0, .ref (bd 0)), (1, .int (nI j))] := hl
        refine lv_iinc (k := 1) (v := nI (i + 1)) hx hb dX1_many_44 hl rfl (fr_inc i) (by decide) rfl (fun ls hl => ?_)
        replace hl : lv_has ls 4 [(3, .int (nI (i + 1))), (2, .int (nI (fr_cn (F j) (i + 1)))), (0, .ref (bd 0)), (1, .int (nI j))] := hl
        refine lv_goto (tgt := 13) hx hb dX1_many_47 rfl ?_
        exact ih ls (i + 1) (by omega) (lv_sub hl [0, 1, 2, 3] rfl)
  ·
    refine lv_if_ne (tgt := 9) hx hb dX1_many_4 rfl (fun hz => absurd rfl hz) (fun hz => ?_)
    refine lv_iconst (v := (-1)) hx hb dX1_many_7 (by decide) ?_
    exact W.iret (v := (-1)) hx hb hret (fun t ht hW => ⟨_, rfl, (if_neg (by rw [fr_okB_no (hno)]; decide)).symm, ht⟩) (fun q hq => by cases hq) dX1_many_8
set_option maxHeartbeats 4000000 in
set_option maxRecDepth 100000 in
theorem cM_keep (l : Launch) (D : va_G) (V : Nat) (bd : Nat → Nat) (kb : Nat → ClassId) (row made : Nat → Int32) (F : fr_F) (hM : fr_MR V F row) (hV : V < 10) (hV1 : 1 ≤ V) (hinj : fr_injB bd) (j : Nat) (f : Nat → Bool) (hLj : j < 32) (hf : ∀ x, x < 2 ^ V → made x = fr_bi (f x)) : Met l yX1_keep wsM_keep rmM_keep (va_Pc [.ref (bd 0), .int (nI j)] (fr_PM D V bd kb row made)) (va_Qi (fun (res : Int32) (u : (Nat → Int32) × (Nat → Int32)) => res = nI (fr_cn f (2 ^ V)) ∧ fr_MR V (va_up F j f) u.1) (fun u t => va_P D vwCl (fr_mw V bd kb u.1 u.2) t.heap) (fr_B bd)) 0 0 (fr_B bd) := by
  refine Met.ofW (cc := cX1_keep) (maxL := 3) (ret := some .int) (by decide) rfl ?_
  intro p e s m args below meth c s₁ B hml hv
  obtain ⟨rfl, hP, hK, -⟩ := hv
  have hx := B.exec
  have hb := B.bytes
  have hret := B.returns
  have hw := fun w (h : w ∈ WA) => atoms_spec (ws := wsM_keep) B.pre w (List.mem_cons_of_mem _ h)
  have hown : s.vm.findClass "FunctionRoomModel" = some m.cls := findClass_of_methodNamed B.named
  have hlocks := B.notSynchronized
  have hS0 : CallFix p m c cX1_keep 3 s _ WA "FunctionRoomModel" := ⟨hx, hb, hml, hown, hw⟩
  have hl := lv_entry ([.ref (bd 0), .int (nI j)]) (n := 3) (Nat.le_of_ble_eq_true rfl)
  rw [lg_entry_eq]
  generalize (lg_sl ([.ref (bd 0), .int (nI j)]) ++ List.replicate (3 - (lg_sl ([.ref (bd 0), .int (nI j)])).length) Slot.unset).toArray = ls at hl ⊢
  replace hl : lv_has ls 3 [(0, .ref (bd 0)), (1, .int (nI j))] := hl
  have h512 := fr_pow512 hV
  refine fr_gen (A := fr_B bd) hP (fun H locs hP2 hS => ?_)
  clear hP
  have hP := hP2
  clear hP2
  refine lv_iconst (v := 0) hx hb dX1_keep_0 (by decide) ?_
  refine lv_istore_n hx hb dX1_keep_1 rfl hl (by decide) rfl (fun ls hl => ?_)
  replace hl : lv_has ls 3 [(2, .int 0), (0, .ref (bd 0)), (1, .int (nI j))] := hl
  obtain ⟨n, i, hin, hi0⟩ : ∃ n i : Nat, i + n = 2 ^ V ∧ i = 0 := ⟨2 ^ V, 0, Nat.zero_add _, rfl⟩
  replace hl : lv_has ls 3 [(2, .int (nI i)), (0, .ref (bd 0)), (1, .int (nI j))] := by rw [hi0]; exact hl
  have hg : ∀ x, x < i → row (512 * j + x) = fr_bi (f x) := fun x h => absurd h (by omega)
  have ho : ∀ q x, q < 32 → q ≠ j → x < 2 ^ V → row (512 * q + x) = fr_bi (F q x) := fun q x h1 _ h3 => hM q x h1 h3
  clear hi0
  clear hM
  induction n generalizing i ls H locs row with
  | zero =>
    refine lv_iload_n hx hb dX1_keep_2 rfl (lv_at hl 0 rfl) ?_
    refine lv_aload_n hx hb dX1_keep_3 rfl (lv_at hl 1 rfl) ?_
    refine fr_gM 1 hx hb hw hown hK hP (by decide) mG_all rfl dX1_keep_4 ?_
    refine lv_icmp_ge (tgt := 34) hx hb dX1_keep_7 rfl (fun hcm => ?_) (fun hcm => absurd (nI_le (show 2 ^ V ≤ i by omega) (by omega)) hcm)
    have hM2 : fr_MR V (va_up F j f) row := fr_MRs (fun x h => hg x (by omega)) ho
    refine lv_aload_n hx hb dX1_keep_34 rfl (lv_at hl 1 rfl) ?_
    refine lv_iload_n hx hb dX1_keep_35 rfl (lv_at hl 2 rfl) ?_
    refine fr_Mi (As := [.int (nI j)]) hS0 (cM_many l D V bd kb row made (va_up F j f) hM2 hV hV1 hinj (nI j)) (cw_M_many hw ⟨Nat.le_of_ble_eq_true rfl, Nat.le_of_ble_eq_true rfl⟩) hK hP rfl hl.1 rfl (Nat.le_of_ble_eq_true rfl) dX1_keep_36 ⟨Nat.zero_le _, Nat.zero_le _⟩ (fun b hb1 => ?_)
    subst hb1
    exact W.iret (v := fr_sMany V (va_up F j f) (nI j)) hx hb hret (fun t ht hW => ⟨⟨_, (row, made), rfl, ⟨by unfold fr_sMany; rw [if_pos (fr_okB_nI hLj (by decide)), fr_v_nI (show j < 2 ^ 31 by omega), va_up_self], hM2⟩, by show va_P D vwCl _ t.heap; rw [ht]; exact hP⟩, hS.F ht⟩) hS.2.2 dX1_keep_39
  | succ n ih =>
    refine lv_iload_n hx hb dX1_keep_2 rfl (lv_at hl 0 rfl) ?_
    refine lv_aload_n hx hb dX1_keep_3 rfl (lv_at hl 1 rfl) ?_
    refine fr_gM 1 hx hb hw hown hK hP (by decide) mG_all rfl dX1_keep_4 ?_
    refine lv_icmp_ge (tgt := 34) hx hb dX1_keep_7 rfl (fun hcm => absurd hcm (nI_ge (show i < 2 ^ V by omega) (by omega))) (fun hcm => ?_)
    have hi : i < 2 ^ V := by omega
    refine lv_aload_n hx hb dX1_keep_10 rfl (lv_at hl 1 rfl) ?_
    refine fr_gM 2 hx hb hw hown hK hP (by decide) mG_row rfl dX1_keep_11 ?_
    refine lv_sipush (v := 512) hx hb dX1_keep_14 (by decide) ?_
    refine lv_iload_n hx hb dX1_keep_17 rfl (lv_at hl 2 rfl) ?_
    refine lv_imul hx hb dX1_keep_18 ?_
    refine lv_iload_n hx hb dX1_keep_19 rfl (lv_at hl 0 rfl) ?_
    refine lv_iadd hx hb dX1_keep_20 ?_
    refine fr_top (show (((512 * nI j) + nI i) : Int32) = nI (512 * j + i) from by rw [show (512 : Int32) * nI j = nI (512 * j) from pk_mul 512 j]; exact nI_add _ _) ?_
    refine lv_aload_n hx hb dX1_keep_21 rfl (lv_at hl 1 rfl) ?_
    refine fr_gM 3 hx hb hw hown hK hP (by decide) mG_made rfl dX1_keep_22 ?_
    refine lv_iload_n hx hb dX1_keep_25 rfl (lv_at hl 0 rfl) ?_
    refine fr_zald hx hb hK hP 2 1 rfl rfl (show i < 512 by omega) (by decide) dX1_keep_26 ?_
    refine fr_top (show (made (i) : Int32) = fr_bi (f i) from hf i hi) ?_
    refine fr_zast (ws2 := fr_mw V bd kb (upd row (512 * j + i) (fr_bi (f i))) made) hx hb hK hP (fr_DB hinj) hS 1 0 rfl rfl (show 512 * j + i < 16384 by omega) (by decide) (fr_bi_nar _) dX1_keep_27 rfl (fun H locs hP hS => ?_)
    refine lv_iinc (k := 0) (v := nI (i + 1)) hx hb dX1_keep_28 hl rfl (fr_inc i) (by decide) rfl (fun ls hl => ?_)
    replace hl : lv_has ls 3 [(2, .int (nI (i + 1))), (0, .ref (bd 0)), (1, .int (nI j))] := hl
    refine lv_goto (tgt := 2) hx hb dX1_keep_31 rfl ?_
    exact ih _ H locs hS hP ls (i + 1) (by omega) (lv_sub hl [0, 1, 2] rfl) (fr_updK hg) (fun q x h1 h2 h3 => by rw [pk_un (by omega)]; exact ho q x h1 h2 h3)
