set_option maxHeartbeats 4000000 in
set_option maxRecDepth 100000 in
theorem cM_matters (l : Launch) (D : va_G) (V : Nat) (bd : Nat → Nat) (kb : Nat → ClassId) (row made : Nat → Int32) (F : fr_F) (hM : fr_MR V F row) (hV : V < 10) (hV1 : 1 ≤ V) (hinj : fr_injB bd) (r : Int32) : Met l yX1_matters wsM_matters rmM_matters (va_Pc [.ref (bd 0), .int r] (fr_PM D V bd kb row made)) (vp_Si (fun res => res = fr_sMatters V F r)) 0 0 (fun _ => False) := by
  refine Met.ofW (cc := cX1_matters) (maxL := 5) (ret := some .int) (by decide) rfl ?_
  intro p e s m args below meth c s₁ B hml hv
  obtain ⟨rfl, hP, hK, -⟩ := hv
  have hx := B.exec
  have hb := B.bytes
  have hret := B.returns
  have hw := fun w (h : w ∈ WA) => atoms_spec (ws := wsM_matters) B.pre w (List.mem_cons_of_mem _ h)
  have hown : s.vm.findClass "FunctionRoomModel" = some m.cls := findClass_of_methodNamed B.named
  have hlocks := B.notSynchronized
  have hS0 : CallFix p m c cX1_matters 5 s _ WA "FunctionRoomModel" := ⟨hx, hb, hml, hown, hw⟩
  have hl := lv_entry ([.ref (bd 0), .int r]) (n := 5) (Nat.le_of_ble_eq_true rfl)
  rw [lg_entry_eq]
  generalize (lg_sl ([.ref (bd 0), .int r]) ++ List.replicate (5 - (lg_sl ([.ref (bd 0), .int r])).length) Slot.unset).toArray = ls at hl ⊢
  replace hl : lv_has ls 5 [(0, .ref (bd 0)), (1, .int r)] := hl
  have h512 := fr_pow512 hV
  refine lv_iload_n hx hb dX1_matters_0 rfl (lv_at hl 1 rfl) ?_
  refine fr_cSi (As := [.int r]) hS0 (cM_is l r) (cw_M_is hw ⟨Nat.le_of_ble_eq_true rfl, Nat.le_of_ble_eq_true rfl⟩) (fr_pre0) rfl hl.1 rfl (Nat.le_of_ble_eq_true rfl) dX1_matters_1 ⟨Nat.zero_le _, Nat.zero_le _⟩ (fun b0 hb0 => ?_)
  rcases hb0 with ⟨rfl, hOj⟩ | ⟨rfl, hno⟩
  ·
    refine lv_if_ne (tgt := 9) hx hb dX1_matters_4 rfl (fun hz => ?_) (fun hz => absurd hz (by decide))
    obtain ⟨j, hLj, rfl⟩ := fr_ok_ex (by decide) hOj
    refine lv_iconst (v := 0) hx hb dX1_matters_9 (by decide) ?_
    refine lv_istore_n hx hb dX1_matters_10 rfl hl (by decide) rfl (fun ls hl => ?_)
    replace hl : lv_has ls 5 [(2, .int 0), (0, .ref (bd 0)), (1, .int (nI j))] := hl
    refine lv_iconst (v := 0) hx hb dX1_matters_11 (by decide) ?_
    refine lv_istore_n hx hb dX1_matters_12 rfl hl (by decide) rfl (fun ls hl => ?_)
    replace hl : lv_has ls 5 [(3, .int 0), (2, .int 0), (0, .ref (bd 0)), (1, .int (nI j))] := hl
    obtain ⟨n, i, hin, hi0⟩ : ∃ n i : Nat, i + n = V ∧ i = 0 := ⟨V, 0, Nat.zero_add _, rfl⟩
    replace hl : lv_has ls 5 [(3, .int (nI i)), (2, .int (nI (fr_mt V (F j) i))), (0, .ref (bd 0)), (1, .int (nI j))] := by rw [hi0]; exact hl
    clear hi0
    induction n generalizing i ls  with
    | zero =>
      refine lv_iload_n hx hb dX1_matters_13 rfl (lv_at hl 0 rfl) ?_
      refine lv_aload_n hx hb dX1_matters_14 rfl (lv_at hl 2 rfl) ?_
      refine fr_gM 0 hx hb hw hown hK hP (by decide) mG_variables rfl dX1_matters_15 ?_
      refine lv_icmp_ge (tgt := 86) hx hb dX1_matters_18 rfl (fun hcm => ?_) (fun hcm => absurd (nI_le (show V ≤ i by omega) (by omega)) hcm)
      refine lv_iload_n hx hb dX1_matters_86 rfl (lv_at hl 1 rfl) ?_
      exact W.iret (v := nI (fr_mt V (F j) i)) hx hb hret (fun t ht hW => ⟨_, rfl, by unfold fr_sMatters; rw [if_pos (fr_okB_nI hLj (by decide)), fr_v_nI (show j < 2 ^ 31 by omega), show i = V by omega], ht⟩) (fun q hq => by cases hq) dX1_matters_87
    | succ n ih =>
      refine lv_iload_n hx hb dX1_matters_13 rfl (lv_at hl 0 rfl) ?_
      refine lv_aload_n hx hb dX1_matters_14 rfl (lv_at hl 2 rfl) ?_
      refine fr_gM 0 hx hb hw hown hK hP (by decide) mG_variables rfl dX1_matters_15 ?_
      refine lv_icmp_ge (tgt := 86) hx hb dX1_matters_18 rfl (fun hcm => absurd hcm (nI_ge (show i < V by omega) (by omega))) (fun hcm => ?_)
      have hi : i < V := by omega
      have hiV := hi
      refine lv_iconst (v := 0) hx hb dX1_matters_21 (by decide) ?_
      refine lv_istore hx hb dX1_matters_22 hl (by decide) rfl (fun ls hl => ?_)
      replace hl : lv_has ls 5 [(4, .int 0), (3, .int (nI i)), (2, .int (nI (fr_mt V (F j) i))), (0, .ref (bd 0)), (1, .int (nI j))] := hl
      obtain ⟨n2, x, hin2, hx0⟩ : ∃ n2 x : Nat, x + n2 = 2 ^ V ∧ x = 0 := ⟨2 ^ V, 0, by omega, rfl⟩
      obtain ⟨sn, hsn, hs0⟩ : ∃ sn : Bool, (sn = false ↔ ∀ y, y < x → F j y = F j (y ^^^ 2 ^ (V - 1 - i))) ∧ sn = false := ⟨false, ⟨fun _ y h => by omega, fun _ => rfl⟩, rfl⟩
      replace hl : lv_has ls 5 [(4, .int (nI x)), (2, .int (nI (fr_mt V (F j) i + (if sn = true then 2 ^ i else 0)))), (3, .int (nI i)), (0, .ref (bd 0)), (1, .int (nI j))] := by rw [hx0, hs0]; exact lv_sub hl [0, 2, 1, 3, 4] rfl
      clear hx0 hs0
      induction n2 generalizing x ls sn with
      | zero =>
        refine lv_iload hx hb dX1_matters_24 (lv_at hl 0 rfl) ?_
        refine lv_aload_n hx hb dX1_matters_26 rfl (lv_at hl 3 rfl) ?_
        refine fr_gM 1 hx hb hw hown hK hP (by decide) mG_all rfl dX1_matters_27 ?_
        refine lv_icmp_ge (tgt := 80) hx hb dX1_matters_30 rfl (fun hcm => ?_) (fun hcm => absurd (nI_le (show 2 ^ V ≤ x by omega) (by omega)) hcm)
        refine lv_iinc (k := 2) (v := nI (i + 1)) hx hb dX1_matters_80 hl rfl (fr_inc i) (by decide) rfl (fun ls hl => ?_)
        replace hl : lv_has ls 5 [(3, .int (nI (i + 1))), (4, .int (nI x)), (2, .int (nI (fr_mt V (F j) i + (if sn = true then 2 ^ i else 0)))), (0, .ref (bd 0)), (1, .int (nI j))] := hl
        refine lv_goto (tgt := 13) hx hb dX1_matters_83 rfl ?_
        have hmt : fr_mt V (F j) (i + 1) = fr_mt V (F j) i + (if sn = true then 2 ^ i else 0) := by rw [show x = 2 ^ V by omega] at hsn; exact fr_mts hsn
        exact ih ls (i + 1) (by omega) (by rw [hmt]; exact lv_sub hl [0, 2, 3, 4] rfl)
      | succ n2 ih2 =>
        refine lv_iload hx hb dX1_matters_24 (lv_at hl 0 rfl) ?_
        refine lv_aload_n hx hb dX1_matters_26 rfl (lv_at hl 3 rfl) ?_
        refine fr_gM 1 hx hb hw hown hK hP (by decide) mG_all rfl dX1_matters_27 ?_
        refine lv_icmp_ge (tgt := 80) hx hb dX1_matters_30 rfl (fun hcm => absurd hcm (nI_ge (show x < 2 ^ V by omega) (by omega))) (fun hcm => ?_)
        have hxV : x < 2 ^ V := by omega
        have hfx : x ^^^ 2 ^ (V - 1 - i) < 2 ^ V := (fr_flip_lt (by omega)).mpr hxV
        refine lv_aload_n hx hb dX1_matters_33 rfl (lv_at hl 3 rfl) ?_
        refine fr_gM 2 hx hb hw hown hK hP (by decide) mG_row rfl dX1_matters_34 ?_
        refine lv_sipush (v := 512) hx hb dX1_matters_37 (by decide) ?_
        refine lv_iload_n hx hb dX1_matters_40 rfl (lv_at hl 4 rfl) ?_
        refine lv_imul hx hb dX1_matters_41 ?_
        refine lv_iload hx hb dX1_matters_42 (lv_at hl 0 rfl) ?_
        refine lv_iadd hx hb dX1_matters_44 ?_
        refine fr_top (show (((512 * nI j) + nI x) : Int32) = nI (512 * j + x) from by rw [show (512 : Int32) * nI j = nI (512 * j) from pk_mul 512 j]; exact nI_add _ _) ?_
        refine fr_zald hx hb hK hP 1 0 rfl rfl (show 512 * j + x < 16384 by omega) (by decide) dX1_matters_45 ?_
        refine fr_top (show (row (512 * j + x) : Int32) = fr_bi (F j x) from hM j x hLj hxV) ?_
        refine lv_aload_n hx hb dX1_matters_46 rfl (lv_at hl 3 rfl) ?_
        refine fr_gM 2 hx hb hw hown hK hP (by decide) mG_row rfl dX1_matters_47 ?_
        refine lv_sipush (v := 512) hx hb dX1_matters_50 (by decide) ?_
        refine lv_iload_n hx hb dX1_matters_53 rfl (lv_at hl 4 rfl) ?_
        refine lv_imul hx hb dX1_matters_54 ?_
        refine lv_iload hx hb dX1_matters_55 (lv_at hl 0 rfl) ?_
        refine lv_aload_n hx hb dX1_matters_57 rfl (lv_at hl 3 rfl) ?_
        refine lv_iload_n hx hb dX1_matters_58 rfl (lv_at hl 2 rfl) ?_
        refine fr_Mi (As := [.int (nI i)]) hS0 (cM_bit l D V bd kb row made i hiV hV) (cw_M_bit hw ⟨Nat.le_of_ble_eq_true rfl, Nat.le_of_ble_eq_true rfl⟩) hK hP rfl hl.1 rfl (Nat.le_of_ble_eq_true rfl) dX1_matters_59 ⟨Nat.zero_le _, Nat.zero_le _⟩ (fun b9 hb9 => ?_)
        subst hb9
        refine lv_ixor hx hb dX1_matters_62 ?_
        refine fr_top (show ((nI x ^^^ nI (2 ^ (V - 1 - i))) : Int32) = nI (x ^^^ 2 ^ (V - 1 - i)) from fr_nxor _ _) ?_
        refine lv_iadd hx hb dX1_matters_63 ?_
        refine fr_top (show (((512 * nI j) + nI (x ^^^ 2 ^ (V - 1 - i))) : Int32) = nI (512 * j + (x ^^^ 2 ^ (V - 1 - i))) from by rw [show (512 : Int32) * nI j = nI (512 * j) from pk_mul 512 j]; exact nI_add _ _) ?_
        refine fr_zald hx hb hK hP 1 0 rfl rfl (show 512 * j + (x ^^^ 2 ^ (V - 1 - i)) < 16384 by omega) (by decide) dX1_matters_64 ?_
        refine fr_top (show (row (512 * j + (x ^^^ 2 ^ (V - 1 - i))) : Int32) = fr_bi (F j (x ^^^ 2 ^ (V - 1 - i))) from hM j _ hLj hfx) ?_
        refine lv_icmp_eq (tgt := 74) hx hb dX1_matters_65 rfl (fun hz => ?_) (fun hz => ?_)
        ·
          have hq := fr_bi_inj.mp hz
          refine lv_iinc (k := 0) (v := nI (x + 1)) hx hb dX1_matters_74 hl rfl (fr_inc x) (by decide) rfl (fun ls hl => ?_)
          replace hl : lv_has ls 5 [(4, .int (nI (x + 1))), (2, .int (nI (fr_mt V (F j) i + (if sn = true then 2 ^ i else 0)))), (3, .int (nI i)), (0, .ref (bd 0)), (1, .int (nI j))] := hl
          refine lv_goto (tgt := 24) hx hb dX1_matters_77 rfl ?_
          exact ih2 ls (x + 1) (by omega) sn ⟨fun h => lt_s (hsn.mp h) hq, fun h => hsn.mpr (fun y hy => h y (by omega))⟩ (lv_sub hl [0, 1, 2, 3, 4] rfl)
        ·
          have hq : ¬ F j x = F j (x ^^^ 2 ^ (V - 1 - i)) := fun z => hz (fr_bi_inj.mpr z)
          refine lv_iload_n hx hb dX1_matters_68 rfl (lv_at hl 1 rfl) ?_
          refine lv_iconst (v := 1) hx hb dX1_matters_69 (by decide) ?_
          refine lv_iload_n hx hb dX1_matters_70 rfl (lv_at hl 2 rfl) ?_
          refine lv_ishl hx hb dX1_matters_71 ?_
          refine lv_ior hx hb dX1_matters_72 ?_
          refine fr_top (show ((nI (fr_mt V (F j) i + (if sn = true then 2 ^ i else 0)) ||| (1 <<< (nI i &&& 31))) : Int32) = nI (fr_mt V (F j) i + (if true = true then 2 ^ i else 0)) from by rw [fr_shl1 i (by omega)]; exact fr_mto (fr_mt_lt V (F j) i) sn) ?_
          refine lv_istore_n hx hb dX1_matters_73 rfl hl (by decide) rfl (fun ls hl => ?_)
          replace hl : lv_has ls 5 [(2, .int (nI (fr_mt V (F j) i + (if true = true then 2 ^ i else 0)))), (4, .int (nI x)), (3, .int (nI i)), (0, .ref (bd 0)), (1, .int (nI j))] := hl
          refine lv_iinc (k := 1) (v := nI (x + 1)) hx hb dX1_matters_74 hl rfl (fr_inc x) (by decide) rfl (fun ls hl => ?_)
          replace hl : lv_has ls 5 [(4, .int (nI (x + 1))), (2, .int (nI (fr_mt V (F j) i + (if true = true then 2 ^ i else 0)))), (3, .int (nI i)), (0, .ref (bd 0)), (1, .int (nI j))] := hl
          refine lv_goto (tgt := 24) hx hb dX1_matters_77 rfl ?_
          exact ih2 ls (x + 1) (by omega) true ⟨fun h => absurd h (by decide), fun h => absurd (h x (by omega)) hq⟩ (lv_sub hl [0, 1, 2, 3, 4] rfl)
  ·
    refine lv_if_ne (tgt := 9) hx hb dX1_matters_4 rfl (fun hz => absurd rfl hz) (fun hz => ?_)
    refine lv_iconst (v := (-1)) hx hb dX1_matters_7 (by decide) ?_
    exact W.iret (v := (-1)) hx hb hret (fun t ht hW => ⟨_, rfl, (if_neg (by rw [fr_okB_no (hno)]; decide)).symm, ht⟩) (fun q hq => by cases hq) dX1_matters_8
