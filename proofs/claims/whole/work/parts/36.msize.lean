set_option maxHeartbeats 4000000 in
set_option maxRecDepth 100000 in
theorem cM_size (l : Launch) (D : va_G) (V : Nat) (bd : Nat → Nat) (kb : Nat → ClassId) (row made : Nat → Int32) (F : fr_F) (hM : fr_MR V F row) (hV : V < 10) (hV1 : 1 ≤ V) (hinj : fr_injB bd) (r : Int32) : Met l yX1_size wsM_size rmM_size (va_Pc [.ref (bd 0), .int r] (fr_PM D V bd kb row made)) (vp_Si (fun res => res = fr_sSize V F r)) 0 0 (fun _ => False) := by
  refine Met.ofW (cc := cX1_size) (maxL := 8) (ret := some .int) (by decide) rfl ?_
  intro p e s m args below meth c s₁ B hml hv
  obtain ⟨rfl, hP, hK, -⟩ := hv
  have hx := B.exec
  have hb := B.bytes
  have hret := B.returns
  have hw := fun w (h : w ∈ WA) => atoms_spec (ws := wsM_size) B.pre w (List.mem_cons_of_mem _ h)
  have hown : s.vm.findClass "FunctionRoomModel" = some m.cls := findClass_of_methodNamed B.named
  have hlocks := B.notSynchronized
  have hS0 : CallFix p m c cX1_size 8 s _ WA "FunctionRoomModel" := ⟨hx, hb, hml, hown, hw⟩
  have hl := lv_entry ([.ref (bd 0), .int r]) (n := 8) (Nat.le_of_ble_eq_true rfl)
  rw [lg_entry_eq]
  generalize (lg_sl ([.ref (bd 0), .int r]) ++ List.replicate (8 - (lg_sl ([.ref (bd 0), .int r])).length) Slot.unset).toArray = ls at hl ⊢
  replace hl : lv_has ls 8 [(0, .ref (bd 0)), (1, .int r)] := hl
  have h512 := fr_pow512 hV
  refine lv_iload_n hx hb dX1_size_0 rfl (lv_at hl 1 rfl) ?_
  refine fr_cSi (As := [.int r]) hS0 (cM_is l r) (cw_M_is hw ⟨Nat.le_of_ble_eq_true rfl, Nat.le_of_ble_eq_true rfl⟩) (fr_pre0) rfl hl.1 rfl (Nat.le_of_ble_eq_true rfl) dX1_size_1 ⟨Nat.zero_le _, Nat.zero_le _⟩ (fun b0 hb0 => ?_)
  rcases hb0 with ⟨rfl, hOj⟩ | ⟨rfl, hno⟩
  ·
    refine lv_if_ne (tgt := 9) hx hb dX1_size_4 rfl (fun hz => ?_) (fun hz => absurd hz (by decide))
    obtain ⟨j, hLj, rfl⟩ := fr_ok_ex (by decide) hOj
    refine lv_iconst (v := 0) hx hb dX1_size_9 (by decide) ?_
    refine lv_istore_n hx hb dX1_size_10 rfl hl (by decide) rfl (fun ls hl => ?_)
    replace hl : lv_has ls 8 [(2, .int 0), (0, .ref (bd 0)), (1, .int (nI j))] := hl
    refine lv_iconst (v := 0) hx hb dX1_size_11 (by decide) ?_
    refine lv_istore_n hx hb dX1_size_12 rfl hl (by decide) rfl (fun ls hl => ?_)
    replace hl : lv_has ls 8 [(3, .int 0), (2, .int 0), (0, .ref (bd 0)), (1, .int (nI j))] := hl
    obtain ⟨n, i, hin, hi0⟩ : ∃ n i : Nat, i + n = V ∧ i = 0 := ⟨V, 0, Nat.zero_add _, rfl⟩
    replace hl : lv_has ls 8 [(3, .int (nI i)), (2, .int (nI (fr_sz (F j) V i))), (0, .ref (bd 0)), (1, .int (nI j))] := by rw [hi0]; exact hl
    clear hi0
    induction n generalizing i ls  with
    | zero =>
      refine lv_iload_n hx hb dX1_size_13 rfl (lv_at hl 0 rfl) ?_
      refine lv_aload_n hx hb dX1_size_14 rfl (lv_at hl 2 rfl) ?_
      refine fr_gM 0 hx hb hw hown hK hP (by decide) mG_variables rfl dX1_size_15 ?_
      refine lv_icmp_ge (tgt := 139) hx hb dX1_size_18 rfl (fun hcm => ?_) (fun hcm => absurd (nI_le (show V ≤ i by omega) (by omega)) hcm)
      refine lv_iload_n hx hb dX1_size_139 rfl (lv_at hl 1 rfl) ?_
      exact W.iret (v := nI (fr_sz (F j) V i)) hx hb hret (fun t ht hW => ⟨_, rfl, by unfold fr_sSize; rw [if_pos (fr_okB_nI hLj (by decide)), fr_v_nI (show j < 2 ^ 31 by omega), show i = V by omega], ht⟩) (fun q hq => by cases hq) dX1_size_140
    | succ n ih =>
      refine lv_iload_n hx hb dX1_size_13 rfl (lv_at hl 0 rfl) ?_
      refine lv_aload_n hx hb dX1_size_14 rfl (lv_at hl 2 rfl) ?_
      refine fr_gM 0 hx hb hw hown hK hP (by decide) mG_variables rfl dX1_size_15 ?_
      refine lv_icmp_ge (tgt := 139) hx hb dX1_size_18 rfl (fun hcm => absurd hcm (nI_ge (show i < V by omega) (by omega))) (fun hcm => ?_)
      have hi : i < V := by omega
      obtain ⟨wd, hwd⟩ : ∃ wd, wd = 2 ^ (V - i) := ⟨_, rfl⟩
      have hwp : 2 ^ i * wd = 2 ^ V := by rw [hwd, ← Nat.pow_add]; congr 1; omega
      have hw2 : wd = 2 * (wd / 2) ∧ 0 < wd / 2 := fr_half hwd hi
      have hwle : wd ≤ 512 := by have := Nat.le_mul_of_pos_left wd (Nat.two_pow_pos i); omega
      refine lv_aload_n hx hb dX1_size_21 rfl (lv_at hl 2 rfl) ?_
      refine fr_gM 1 hx hb hw hown hK hP (by decide) mG_all rfl dX1_size_22 ?_
      refine lv_iload_n hx hb dX1_size_25 rfl (lv_at hl 0 rfl) ?_
      refine lv_ishr hx hb dX1_size_26 ?_
      refine fr_top (show ((nI (2 ^ V) >>> (nI i &&& 31)) : Int32) = nI wd from by rw [hwd]; exact fr_shrp _ _ hV hi) ?_
      refine lv_istore hx hb dX1_size_27 hl (by decide) rfl (fun ls hl => ?_)
      replace hl : lv_has ls 8 [(4, .int (nI wd)), (3, .int (nI i)), (2, .int (nI (fr_sz (F j) V i))), (0, .ref (bd 0)), (1, .int (nI j))] := hl
      refine lv_iconst (v := 0) hx hb dX1_size_29 (by decide) ?_
      refine lv_istore hx hb dX1_size_30 hl (by decide) rfl (fun ls hl => ?_)
      replace hl : lv_has ls 8 [(5, .int 0), (4, .int (nI wd)), (3, .int (nI i)), (2, .int (nI (fr_sz (F j) V i))), (0, .ref (bd 0)), (1, .int (nI j))] := hl
      obtain ⟨n2, b, hin2, hb0⟩ : ∃ n2 b : Nat, b + n2 = 2 ^ i ∧ b = 0 := ⟨2 ^ i, 0, by omega, rfl⟩
      replace hl := lv_sub hl [0, 3, 1, 2, 4, 5] rfl
      replace hl : lv_has ls 8 [(5, .int (nI (b * wd))), (2, .int (nI (fr_sz (F j) V i + fr_cn (fr_nw (F j) wd) b))), (4, .int (nI wd)), (3, .int (nI i)), (0, .ref (bd 0)), (1, .int (nI j))] := by rw [hb0, Nat.zero_mul]; exact hl
      clear hb0
      induction n2 generalizing b ls with
      | zero =>
        have hbw : b * wd = 2 ^ V := by rw [show b = 2 ^ i by omega]; exact hwp
        refine lv_iload hx hb dX1_size_32 (lv_at hl 0 rfl) ?_
        refine lv_aload_n hx hb dX1_size_34 rfl (lv_at hl 4 rfl) ?_
        refine fr_gM 1 hx hb hw hown hK hP (by decide) mG_all rfl dX1_size_35 ?_
        refine lv_icmp_ge (tgt := 133) hx hb dX1_size_38 rfl (fun hcm => ?_) (fun hcm => absurd (nI_le (show 2 ^ V ≤ b * wd by omega) (by omega)) hcm)
        refine lv_iinc (k := 3) (v := nI (i + 1)) hx hb dX1_size_133 hl rfl (fr_inc i) (by decide) rfl (fun ls hl => ?_)
        replace hl : lv_has ls 8 [(3, .int (nI (i + 1))), (5, .int (nI (b * wd))), (2, .int (nI (fr_sz (F j) V i + fr_cn (fr_nw (F j) wd) b))), (4, .int (nI wd)), (0, .ref (bd 0)), (1, .int (nI j))] := hl
        refine lv_goto (tgt := 13) hx hb dX1_size_136 rfl ?_
        have hsz : fr_sz (F j) V (i + 1) = fr_sz (F j) V i + fr_cn (fr_nw (F j) wd) b := by rw [show b = 2 ^ i by omega, hwd]; rfl
        exact ih ls (i + 1) (by omega) (by rw [hsz]; exact lv_sub hl [0, 2, 4, 5] rfl)
      | succ n2 ih2 =>
        have hbw : b * wd + wd ≤ 2 ^ V := by have := Nat.mul_le_mul_right wd (show b + 1 ≤ 2 ^ i by omega); rw [Nat.add_mul, Nat.one_mul] at this; omega
        refine lv_iload hx hb dX1_size_32 (lv_at hl 0 rfl) ?_
        refine lv_aload_n hx hb dX1_size_34 rfl (lv_at hl 4 rfl) ?_
        refine fr_gM 1 hx hb hw hown hK hP (by decide) mG_all rfl dX1_size_35 ?_
        refine lv_icmp_ge (tgt := 133) hx hb dX1_size_38 rfl (fun hcm => absurd hcm (nI_ge (show b * wd < 2 ^ V by omega) (by omega))) (fun hcm => ?_)
        refine lv_aload_n hx hb dX1_size_41 rfl (lv_at hl 4 rfl) ?_
        refine lv_iload_n hx hb dX1_size_42 rfl (lv_at hl 5 rfl) ?_
        refine lv_iload hx hb dX1_size_43 (lv_at hl 0 rfl) ?_
        refine lv_iload hx hb dX1_size_45 (lv_at hl 0 rfl) ?_
        refine lv_iload hx hb dX1_size_47 (lv_at hl 2 rfl) ?_
        refine lv_iconst (v := 2) hx hb dX1_size_49 (by decide) ?_
        refine lv_idiv hx hb dX1_size_50 (by decide) ?_
        refine fr_top (show ((nI wd / 2) : Int32) = nI (wd / 2) from pk_div (d := 2) (by omega) (by decide) (by decide)) ?_
        refine lv_iadd hx hb dX1_size_51 ?_
        refine fr_top (show nI (b * wd) + nI (wd / 2) = nI (b * wd + wd / 2) from nI_add _ _) ?_
        refine lv_iload hx hb dX1_size_52 (lv_at hl 2 rfl) ?_
        refine lv_iconst (v := 2) hx hb dX1_size_54 (by decide) ?_
        refine lv_idiv hx hb dX1_size_55 (by decide) ?_
        refine fr_top (show ((nI wd / 2) : Int32) = nI (wd / 2) from pk_div (d := 2) (by omega) (by decide) (by decide)) ?_
        refine fr_Mi (As := [.int (nI j), .int (nI (b * wd)), .int (nI (b * wd + wd / 2)), .int (nI (wd / 2))]) hS0 (cM_alike l D V bd kb row made F hM hV hV1 hinj j (b * wd) (b * wd + wd / 2) (wd / 2) hLj (by omega) (by omega)) (cw_M_alike hw ⟨Nat.le_of_ble_eq_true rfl, Nat.le_of_ble_eq_true rfl⟩) hK hP rfl hl.1 rfl (Nat.le_of_ble_eq_true rfl) dX1_size_56 ⟨Nat.zero_le _, Nat.zero_le _⟩ (fun b9 hb9 => ?_)
        subst hb9
        refine lv_if_ne (tgt := 66) hx hb dX1_size_59 rfl (fun hz => ?_) (fun hz => ?_)
        ·
          have hal : fr_al (F j) (b * wd) (b * wd + wd / 2) (wd / 2) = true := fr_bit hz
          refine lv_iconst (v := 0) hx hb dX1_size_66 (by decide) ?_
          refine lv_istore hx hb dX1_size_67 hl (by decide) rfl (fun ls hl => ?_)
          replace hl : lv_has ls 8 [(6, .int 0), (5, .int (nI (b * wd))), (2, .int (nI (fr_sz (F j) V i + fr_cn (fr_nw (F j) wd) b))), (4, .int (nI wd)), (3, .int (nI i)), (0, .ref (bd 0)), (1, .int (nI j))] := hl
          refine lv_iconst (v := 0) hx hb dX1_size_69 (by decide) ?_
          refine lv_istore hx hb dX1_size_70 hl (by decide) rfl (fun ls hl => ?_)
          replace hl : lv_has ls 8 [(7, .int 0), (6, .int 0), (5, .int (nI (b * wd))), (2, .int (nI (fr_sz (F j) V i + fr_cn (fr_nw (F j) wd) b))), (4, .int (nI wd)), (3, .int (nI i)), (0, .ref (bd 0)), (1, .int (nI j))] := hl
          obtain ⟨n3, a0, hin3, ha0⟩ : ∃ n3 a0 : Nat, a0 + n3 = b ∧ a0 = 0 := ⟨b, 0, by omega, rfl⟩
          obtain ⟨sn, hsn, hs0⟩ : ∃ sn : Bool, (sn = true ↔ fr_al (F j) (b * wd) (b * wd + wd / 2) (wd / 2) = false ∧ ∀ e, e < a0 → fr_al (F j) (b * wd) (e * wd) wd = false) ∧ sn = false := ⟨false, ⟨fun h => absurd h (by decide), fun h => absurd (hal.symm.trans h.1) (by decide)⟩, rfl⟩
          clear hal
          replace hl := lv_sub hl [0, 1, 2, 3, 4, 5, 6, 7] rfl
          replace hl : lv_has ls 8 [(7, .int (nI (a0 * wd))), (6, .int (fr_bi sn)), (5, .int (nI (b * wd))), (2, .int (nI (fr_sz (F j) V i + fr_cn (fr_nw (F j) wd) b))), (4, .int (nI wd)), (3, .int (nI i)), (0, .ref (bd 0)), (1, .int (nI j))] := by rw [ha0, hs0, Nat.zero_mul]; exact hl
          clear ha0 hs0
          induction n3 generalizing a0 ls sn with
          | zero =>
            have hab : a0 = b := by omega
            have hend : sn = true ↔ fr_al (F j) (b * wd) (b * wd + wd / 2) (wd / 2) = false ∧ ∀ e, e < b → fr_al (F j) (b * wd) (e * wd) wd = false := by rw [← hab]; rw [← hab] at hsn; exact hsn
            refine lv_iload hx hb dX1_size_72 (lv_at hl 0 rfl) ?_
            refine lv_iload hx hb dX1_size_74 (lv_at hl 2 rfl) ?_
            refine lv_icmp_ge (tgt := 115) hx hb dX1_size_76 rfl (fun hcm3 => ?_) (fun hcm3 => absurd (nI_le (show b * wd ≤ a0 * wd by rw [hab]; exact Nat.le_refl _) (by rw [hab]; omega)) hcm3)
            have hdone : sn = fr_nw (F j) wd b := by unfold fr_nw; rw [Bool.eq_iff_iff, hend, Bool.and_eq_true, Bool.not_eq_true', decide_eq_true_iff]
            refine lv_iload hx hb dX1_size_115 (lv_at hl 1 rfl) ?_
            refine lv_if_eq (tgt := 123) hx hb dX1_size_117 rfl (fun hq => ?_) (fun hq => ?_)
            ·
              have hsv : fr_nw (F j) wd b = false := by rw [← hdone]; exact fr_bi_ne0.mp hq
              have hcn : fr_cn (fr_nw (F j) wd) (b + 1) = fr_cn (fr_nw (F j) wd) b + 0 := by show fr_cn (fr_nw (F j) wd) b + (if fr_nw (F j) wd b = true then 1 else 0) = _; rw [hsv]; rfl
              refine lv_iload hx hb dX1_size_123 (lv_at hl 2 rfl) ?_
              refine lv_iload hx hb dX1_size_125 (lv_at hl 4 rfl) ?_
              refine lv_iadd hx hb dX1_size_127 ?_
              refine fr_top (show ((nI (b * wd) + nI wd) : Int32) = nI ((b + 1) * wd) from by rw [nI_add, Nat.add_mul, Nat.one_mul]) ?_
              refine lv_istore hx hb dX1_size_128 hl (by decide) rfl (fun ls hl => ?_)
              replace hl : lv_has ls 8 [(5, .int (nI ((b + 1) * wd))), (7, .int (nI (a0 * wd))), (6, .int (fr_bi sn)), (2, .int (nI (fr_sz (F j) V i + fr_cn (fr_nw (F j) wd) b))), (4, .int (nI wd)), (3, .int (nI i)), (0, .ref (bd 0)), (1, .int (nI j))] := hl
              refine lv_goto (tgt := 32) hx hb dX1_size_130 rfl ?_
              exact ih2 ls (b + 1) (by omega) (by rw [hcn]; exact lv_sub hl [0, 3, 4, 5, 6, 7] rfl)
            ·
              have hsv : fr_nw (F j) wd b = true := by rw [← hdone]; exact fr_bit hq
              have hcn : fr_cn (fr_nw (F j) wd) (b + 1) = fr_cn (fr_nw (F j) wd) b + 1 := by show fr_cn (fr_nw (F j) wd) b + (if fr_nw (F j) wd b = true then 1 else 0) = _; rw [hsv]; rfl
              refine lv_iinc (k := 3) (v := nI (fr_sz (F j) V i + fr_cn (fr_nw (F j) wd) b + 1)) hx hb dX1_size_120 hl rfl (fr_inc _) (by decide) rfl (fun ls hl => ?_)
              replace hl : lv_has ls 8 [(2, .int (nI (fr_sz (F j) V i + fr_cn (fr_nw (F j) wd) b + 1))), (7, .int (nI (a0 * wd))), (6, .int (fr_bi sn)), (5, .int (nI (b * wd))), (4, .int (nI wd)), (3, .int (nI i)), (0, .ref (bd 0)), (1, .int (nI j))] := hl
              refine lv_iload hx hb dX1_size_123 (lv_at hl 3 rfl) ?_
              refine lv_iload hx hb dX1_size_125 (lv_at hl 4 rfl) ?_
              refine lv_iadd hx hb dX1_size_127 ?_
              refine fr_top (show ((nI (b * wd) + nI wd) : Int32) = nI ((b + 1) * wd) from by rw [nI_add, Nat.add_mul, Nat.one_mul]) ?_
              refine lv_istore hx hb dX1_size_128 hl (by decide) rfl (fun ls hl => ?_)
              replace hl : lv_has ls 8 [(5, .int (nI ((b + 1) * wd))), (2, .int (nI (fr_sz (F j) V i + fr_cn (fr_nw (F j) wd) b + 1))), (7, .int (nI (a0 * wd))), (6, .int (fr_bi sn)), (4, .int (nI wd)), (3, .int (nI i)), (0, .ref (bd 0)), (1, .int (nI j))] := hl
              refine lv_goto (tgt := 32) hx hb dX1_size_130 rfl ?_
              exact ih2 ls (b + 1) (by omega) (by rw [hcn]; exact lv_sub hl [0, 1, 4, 5, 6, 7] rfl)
          | succ n3 ih3 =>
            have hay : a0 * wd + wd ≤ b * wd := by have := Nat.mul_le_mul_right wd (show a0 + 1 ≤ b by omega); rw [Nat.add_mul, Nat.one_mul] at this; omega
            refine lv_iload hx hb dX1_size_72 (lv_at hl 0 rfl) ?_
            refine lv_iload hx hb dX1_size_74 (lv_at hl 2 rfl) ?_
            refine lv_icmp_ge (tgt := 115) hx hb dX1_size_76 rfl (fun hcm3 => absurd hcm3 (nI_ge (show a0 * wd < b * wd by omega) (by omega))) (fun hcm3 => ?_)
            refine lv_iload hx hb dX1_size_79 (lv_at hl 1 rfl) ?_
            refine lv_if_eq (tgt := 115) hx hb dX1_size_81 rfl (fun hq0 => ?_) (fun hq0 => ?_)
            ·
              have hs1 : sn = false := fr_bi_ne0.mp hq0
              have hend : sn = true ↔ fr_al (F j) (b * wd) (b * wd + wd / 2) (wd / 2) = false ∧ ∀ e, e < b → fr_al (F j) (b * wd) (e * wd) wd = false := ⟨fun h => absurd (hs1.symm.trans h) (by decide), fun h => hsn.mpr ⟨h.1, fun e he => h.2 e (by omega)⟩⟩
              have hdone : sn = fr_nw (F j) wd b := by unfold fr_nw; rw [Bool.eq_iff_iff, hend, Bool.and_eq_true, Bool.not_eq_true', decide_eq_true_iff]
              refine lv_iload hx hb dX1_size_115 (lv_at hl 1 rfl) ?_
              refine lv_if_eq (tgt := 123) hx hb dX1_size_117 rfl (fun hq => ?_) (fun hq => ?_)
              ·
                have hsv : fr_nw (F j) wd b = false := by rw [← hdone]; exact fr_bi_ne0.mp hq
                have hcn : fr_cn (fr_nw (F j) wd) (b + 1) = fr_cn (fr_nw (F j) wd) b + 0 := by show fr_cn (fr_nw (F j) wd) b + (if fr_nw (F j) wd b = true then 1 else 0) = _; rw [hsv]; rfl
                refine lv_iload hx hb dX1_size_123 (lv_at hl 2 rfl) ?_
                refine lv_iload hx hb dX1_size_125 (lv_at hl 4 rfl) ?_
                refine lv_iadd hx hb dX1_size_127 ?_
                refine fr_top (show ((nI (b * wd) + nI wd) : Int32) = nI ((b + 1) * wd) from by rw [nI_add, Nat.add_mul, Nat.one_mul]) ?_
                refine lv_istore hx hb dX1_size_128 hl (by decide) rfl (fun ls hl => ?_)
                replace hl : lv_has ls 8 [(5, .int (nI ((b + 1) * wd))), (7, .int (nI (a0 * wd))), (6, .int (fr_bi sn)), (2, .int (nI (fr_sz (F j) V i + fr_cn (fr_nw (F j) wd) b))), (4, .int (nI wd)), (3, .int (nI i)), (0, .ref (bd 0)), (1, .int (nI j))] := hl
                refine lv_goto (tgt := 32) hx hb dX1_size_130 rfl ?_
                exact ih2 ls (b + 1) (by omega) (by rw [hcn]; exact lv_sub hl [0, 3, 4, 5, 6, 7] rfl)
              ·
                have hsv : fr_nw (F j) wd b = true := by rw [← hdone]; exact fr_bit hq
                have hcn : fr_cn (fr_nw (F j) wd) (b + 1) = fr_cn (fr_nw (F j) wd) b + 1 := by show fr_cn (fr_nw (F j) wd) b + (if fr_nw (F j) wd b = true then 1 else 0) = _; rw [hsv]; rfl
                refine lv_iinc (k := 3) (v := nI (fr_sz (F j) V i + fr_cn (fr_nw (F j) wd) b + 1)) hx hb dX1_size_120 hl rfl (fr_inc _) (by decide) rfl (fun ls hl => ?_)
                replace hl : lv_has ls 8 [(2, .int (nI (fr_sz (F j) V i + fr_cn (fr_nw (F j) wd) b + 1))), (7, .int (nI (a0 * wd))), (6, .int (fr_bi sn)), (5, .int (nI (b * wd))), (4, .int (nI wd)), (3, .int (nI i)), (0, .ref (bd 0)), (1, .int (nI j))] := hl
                refine lv_iload hx hb dX1_size_123 (lv_at hl 3 rfl) ?_
                refine lv_iload hx hb dX1_size_125 (lv_at hl 4 rfl) ?_
                refine lv_iadd hx hb dX1_size_127 ?_
                refine fr_top (show ((nI (b * wd) + nI wd) : Int32) = nI ((b + 1) * wd) from by rw [nI_add, Nat.add_mul, Nat.one_mul]) ?_
                refine lv_istore hx hb dX1_size_128 hl (by decide) rfl (fun ls hl => ?_)
                replace hl : lv_has ls 8 [(5, .int (nI ((b + 1) * wd))), (2, .int (nI (fr_sz (F j) V i + fr_cn (fr_nw (F j) wd) b + 1))), (7, .int (nI (a0 * wd))), (6, .int (fr_bi sn)), (4, .int (nI wd)), (3, .int (nI i)), (0, .ref (bd 0)), (1, .int (nI j))] := hl
                refine lv_goto (tgt := 32) hx hb dX1_size_130 rfl ?_
                exact ih2 ls (b + 1) (by omega) (by rw [hcn]; exact lv_sub hl [0, 1, 4, 5, 6, 7] rfl)
            ·
              have hs1 : sn = true := fr_bit hq0
              have hs2 := hsn.mp hs1
              refine lv_aload_n hx hb dX1_size_84 rfl (lv_at hl 6 rfl) ?_
              refine lv_iload_n hx hb dX1_size_85 rfl (lv_at hl 7 rfl) ?_
              refine lv_iload hx hb dX1_size_86 (lv_at hl 2 rfl) ?_
              refine lv_iload hx hb dX1_size_88 (lv_at hl 0 rfl) ?_
              refine lv_iload hx hb dX1_size_90 (lv_at hl 4 rfl) ?_
              refine fr_Mi (As := [.int (nI j), .int (nI (b * wd)), .int (nI (a0 * wd)), .int (nI wd)]) hS0 (cM_alike l D V bd kb row made F hM hV hV1 hinj j (b * wd) (a0 * wd) wd hLj (by omega) (by omega)) (cw_M_alike hw ⟨Nat.le_of_ble_eq_true rfl, Nat.le_of_ble_eq_true rfl⟩) hK hP rfl hl.1 rfl (Nat.le_of_ble_eq_true rfl) dX1_size_92 ⟨Nat.zero_le _, Nat.zero_le _⟩ (fun b9 hb9 => ?_)
              subst hb9
              refine lv_if_ne (tgt := 102) hx hb dX1_size_95 rfl (fun hz3 => ?_) (fun hz3 => ?_)
              ·
                have hl3 : fr_al (F j) (b * wd) (a0 * wd) wd = true := fr_bit hz3
                refine lv_iconst (v := 0) hx hb dX1_size_102 (by decide) ?_
                refine lv_istore hx hb dX1_size_103 hl (by decide) rfl (fun ls hl => ?_)
                replace hl : lv_has ls 8 [(6, .int 0), (7, .int (nI (a0 * wd))), (5, .int (nI (b * wd))), (2, .int (nI (fr_sz (F j) V i + fr_cn (fr_nw (F j) wd) b))), (4, .int (nI wd)), (3, .int (nI i)), (0, .ref (bd 0)), (1, .int (nI j))] := hl
                refine lv_iload hx hb dX1_size_105 (lv_at hl 1 rfl) ?_
                refine lv_iload hx hb dX1_size_107 (lv_at hl 4 rfl) ?_
                refine lv_iadd hx hb dX1_size_109 ?_
                refine fr_top (show ((nI (a0 * wd) + nI wd) : Int32) = nI ((a0 + 1) * wd) from by rw [nI_add, Nat.add_mul, Nat.one_mul]) ?_
                refine lv_istore hx hb dX1_size_110 hl (by decide) rfl (fun ls hl => ?_)
                replace hl : lv_has ls 8 [(7, .int (nI ((a0 + 1) * wd))), (6, .int 0), (5, .int (nI (b * wd))), (2, .int (nI (fr_sz (F j) V i + fr_cn (fr_nw (F j) wd) b))), (4, .int (nI wd)), (3, .int (nI i)), (0, .ref (bd 0)), (1, .int (nI j))] := hl
                refine lv_goto (tgt := 72) hx hb dX1_size_112 rfl ?_
                exact ih3 ls (a0 + 1) (by omega) false (⟨fun h => absurd h (by decide), fun h => absurd (hl3.symm.trans (h.2 a0 (by omega))) (by decide)⟩) (lv_sub hl [0, 1, 2, 3, 4, 5, 6, 7] rfl)
              ·
                have hl3 : fr_al (F j) (b * wd) (a0 * wd) wd = false := fr_bi_ne0.mp hz3
                refine lv_iconst (v := 1) hx hb dX1_size_98 (by decide) ?_
                refine lv_goto (tgt := 103) hx hb dX1_size_99 rfl ?_
                refine lv_istore hx hb dX1_size_103 hl (by decide) rfl (fun ls hl => ?_)
                replace hl : lv_has ls 8 [(6, .int 1), (7, .int (nI (a0 * wd))), (5, .int (nI (b * wd))), (2, .int (nI (fr_sz (F j) V i + fr_cn (fr_nw (F j) wd) b))), (4, .int (nI wd)), (3, .int (nI i)), (0, .ref (bd 0)), (1, .int (nI j))] := hl
                refine lv_iload hx hb dX1_size_105 (lv_at hl 1 rfl) ?_
                refine lv_iload hx hb dX1_size_107 (lv_at hl 4 rfl) ?_
                refine lv_iadd hx hb dX1_size_109 ?_
                refine fr_top (show ((nI (a0 * wd) + nI wd) : Int32) = nI ((a0 + 1) * wd) from by rw [nI_add, Nat.add_mul, Nat.one_mul]) ?_
                refine lv_istore hx hb dX1_size_110 hl (by decide) rfl (fun ls hl => ?_)
                replace hl : lv_has ls 8 [(7, .int (nI ((a0 + 1) * wd))), (6, .int 1), (5, .int (nI (b * wd))), (2, .int (nI (fr_sz (F j) V i + fr_cn (fr_nw (F j) wd) b))), (4, .int (nI wd)), (3, .int (nI i)), (0, .ref (bd 0)), (1, .int (nI j))] := hl
                refine lv_goto (tgt := 72) hx hb dX1_size_112 rfl ?_
                exact ih3 ls (a0 + 1) (by omega) true (⟨fun _ => ⟨hs2.1, lt_s hs2.2 hl3⟩, fun _ => rfl⟩) (lv_sub hl [0, 1, 2, 3, 4, 5, 6, 7] rfl)
        ·
          have hal : fr_al (F j) (b * wd) (b * wd + wd / 2) (wd / 2) = false := fr_bi_ne0.mp hz
          refine lv_iconst (v := 1) hx hb dX1_size_62 (by decide) ?_
          refine lv_goto (tgt := 67) hx hb dX1_size_63 rfl ?_
          refine lv_istore hx hb dX1_size_67 hl (by decide) rfl (fun ls hl => ?_)
          replace hl : lv_has ls 8 [(6, .int 1), (5, .int (nI (b * wd))), (2, .int (nI (fr_sz (F j) V i + fr_cn (fr_nw (F j) wd) b))), (4, .int (nI wd)), (3, .int (nI i)), (0, .ref (bd 0)), (1, .int (nI j))] := hl
          refine lv_iconst (v := 0) hx hb dX1_size_69 (by decide) ?_
          refine lv_istore hx hb dX1_size_70 hl (by decide) rfl (fun ls hl => ?_)
          replace hl : lv_has ls 8 [(7, .int 0), (6, .int 1), (5, .int (nI (b * wd))), (2, .int (nI (fr_sz (F j) V i + fr_cn (fr_nw (F j) wd) b))), (4, .int (nI wd)), (3, .int (nI i)), (0, .ref (bd 0)), (1, .int (nI j))] := hl
          obtain ⟨n3, a0, hin3, ha0⟩ : ∃ n3 a0 : Nat, a0 + n3 = b ∧ a0 = 0 := ⟨b, 0, by omega, rfl⟩
          obtain ⟨sn, hsn, hs0⟩ : ∃ sn : Bool, (sn = true ↔ fr_al (F j) (b * wd) (b * wd + wd / 2) (wd / 2) = false ∧ ∀ e, e < a0 → fr_al (F j) (b * wd) (e * wd) wd = false) ∧ sn = true := ⟨true, ⟨fun h => ⟨hal, fun e he => by omega⟩, fun h => rfl⟩, rfl⟩
          clear hal
          replace hl := lv_sub hl [0, 1, 2, 3, 4, 5, 6, 7] rfl
          replace hl : lv_has ls 8 [(7, .int (nI (a0 * wd))), (6, .int (fr_bi sn)), (5, .int (nI (b * wd))), (2, .int (nI (fr_sz (F j) V i + fr_cn (fr_nw (F j) wd) b))), (4, .int (nI wd)), (3, .int (nI i)), (0, .ref (bd 0)), (1, .int (nI j))] := by rw [ha0, hs0, Nat.zero_mul]; exact hl
          clear ha0 hs0
          induction n3 generalizing a0 ls sn with
          | zero =>
            have hab : a0 = b := by omega
            have hend : sn = true ↔ fr_al (F j) (b * wd) (b * wd + wd / 2) (wd / 2) = false ∧ ∀ e, e < b → fr_al (F j) (b * wd) (e * wd) wd = false := by rw [← hab]; rw [← hab] at hsn; exact hsn
            refine lv_iload hx hb dX1_size_72 (lv_at hl 0 rfl) ?_
            refine lv_iload hx hb dX1_size_74 (lv_at hl 2 rfl) ?_
            refine lv_icmp_ge (tgt := 115) hx hb dX1_size_76 rfl (fun hcm3 => ?_) (fun hcm3 => absurd (nI_le (show b * wd ≤ a0 * wd by rw [hab]; exact Nat.le_refl _) (by rw [hab]; omega)) hcm3)
            have hdone : sn = fr_nw (F j) wd b := by unfold fr_nw; rw [Bool.eq_iff_iff, hend, Bool.and_eq_true, Bool.not_eq_true', decide_eq_true_iff]
            refine lv_iload hx hb dX1_size_115 (lv_at hl 1 rfl) ?_
            refine lv_if_eq (tgt := 123) hx hb dX1_size_117 rfl (fun hq => ?_) (fun hq => ?_)
            ·
              have hsv : fr_nw (F j) wd b = false := by rw [← hdone]; exact fr_bi_ne0.mp hq
              have hcn : fr_cn (fr_nw (F j) wd) (b + 1) = fr_cn (fr_nw (F j) wd) b + 0 := by show fr_cn (fr_nw (F j) wd) b + (if fr_nw (F j) wd b = true then 1 else 0) = _; rw [hsv]; rfl
              refine lv_iload hx hb dX1_size_123 (lv_at hl 2 rfl) ?_
              refine lv_iload hx hb dX1_size_125 (lv_at hl 4 rfl) ?_
              refine lv_iadd hx hb dX1_size_127 ?_
              refine fr_top (show ((nI (b * wd) + nI wd) : Int32) = nI ((b + 1) * wd) from by rw [nI_add, Nat.add_mul, Nat.one_mul]) ?_
              refine lv_istore hx hb dX1_size_128 hl (by decide) rfl (fun ls hl => ?_)
              replace hl : lv_has ls 8 [(5, .int (nI ((b + 1) * wd))), (7, .int (nI (a0 * wd))), (6, .int (fr_bi sn)), (2, .int (nI (fr_sz (F j) V i + fr_cn (fr_nw (F j) wd) b))), (4, .int (nI wd)), (3, .int (nI i)), (0, .ref (bd 0)), (1, .int (nI j))] := hl
              refine lv_goto (tgt := 32) hx hb dX1_size_130 rfl ?_
              exact ih2 ls (b + 1) (by omega) (by rw [hcn]; exact lv_sub hl [0, 3, 4, 5, 6, 7] rfl)
            ·
              have hsv : fr_nw (F j) wd b = true := by rw [← hdone]; exact fr_bit hq
              have hcn : fr_cn (fr_nw (F j) wd) (b + 1) = fr_cn (fr_nw (F j) wd) b + 1 := by show fr_cn (fr_nw (F j) wd) b + (if fr_nw (F j) wd b = true then 1 else 0) = _; rw [hsv]; rfl
              refine lv_iinc (k := 3) (v := nI (fr_sz (F j) V i + fr_cn (fr_nw (F j) wd) b + 1)) hx hb dX1_size_120 hl rfl (fr_inc _) (by decide) rfl (fun ls hl => ?_)
              replace hl : lv_has ls 8 [(2, .int (nI (fr_sz (F j) V i + fr_cn (fr_nw (F j) wd) b + 1))), (7, .int (nI (a0 * wd))), (6, .int (fr_bi sn)), (5, .int (nI (b * wd))), (4, .int (nI wd)), (3, .int (nI i)), (0, .ref (bd 0)), (1, .int (nI j))] := hl
              refine lv_iload hx hb dX1_size_123 (lv_at hl 3 rfl) ?_
              refine lv_iload hx hb dX1_size_125 (lv_at hl 4 rfl) ?_
              refine lv_iadd hx hb dX1_size_127 ?_
              refine fr_top (show ((nI (b * wd) + nI wd) : Int32) = nI ((b + 1) * wd) from by rw [nI_add, Nat.add_mul, Nat.one_mul]) ?_
              refine lv_istore hx hb dX1_size_128 hl (by decide) rfl (fun ls hl => ?_)
              replace hl : lv_has ls 8 [(5, .int (nI ((b + 1) * wd))), (2, .int (nI (fr_sz (F j) V i + fr_cn (fr_nw (F j) wd) b + 1))), (7, .int (nI (a0 * wd))), (6, .int (fr_bi sn)), (4, .int (nI wd)), (3, .int (nI i)), (0, .ref (bd 0)), (1, .int (nI j))] := hl
              refine lv_goto (tgt := 32) hx hb dX1_size_130 rfl ?_
              exact ih2 ls (b + 1) (by omega) (by rw [hcn]; exact lv_sub hl [0, 1, 4, 5, 6, 7] rfl)
          | succ n3 ih3 =>
            have hay : a0 * wd + wd ≤ b * wd := by have := Nat.mul_le_mul_right wd (show a0 + 1 ≤ b by omega); rw [Nat.add_mul, Nat.one_mul] at this; omega
            refine lv_iload hx hb dX1_size_72 (lv_at hl 0 rfl) ?_
            refine lv_iload hx hb dX1_size_74 (lv_at hl 2 rfl) ?_
            refine lv_icmp_ge (tgt := 115) hx hb dX1_size_76 rfl (fun hcm3 => absurd hcm3 (nI_ge (show a0 * wd < b * wd by omega) (by omega))) (fun hcm3 => ?_)
            refine lv_iload hx hb dX1_size_79 (lv_at hl 1 rfl) ?_
            refine lv_if_eq (tgt := 115) hx hb dX1_size_81 rfl (fun hq0 => ?_) (fun hq0 => ?_)
            ·
              have hs1 : sn = false := fr_bi_ne0.mp hq0
              have hend : sn = true ↔ fr_al (F j) (b * wd) (b * wd + wd / 2) (wd / 2) = false ∧ ∀ e, e < b → fr_al (F j) (b * wd) (e * wd) wd = false := ⟨fun h => absurd (hs1.symm.trans h) (by decide), fun h => hsn.mpr ⟨h.1, fun e he => h.2 e (by omega)⟩⟩
              have hdone : sn = fr_nw (F j) wd b := by unfold fr_nw; rw [Bool.eq_iff_iff, hend, Bool.and_eq_true, Bool.not_eq_true', decide_eq_true_iff]
              refine lv_iload hx hb dX1_size_115 (lv_at hl 1 rfl) ?_
              refine lv_if_eq (tgt := 123) hx hb dX1_size_117 rfl (fun hq => ?_) (fun hq => ?_)
              ·
                have hsv : fr_nw (F j) wd b = false := by rw [← hdone]; exact fr_bi_ne0.mp hq
                have hcn : fr_cn (fr_nw (F j) wd) (b + 1) = fr_cn (fr_nw (F j) wd) b + 0 := by show fr_cn (fr_nw (F j) wd) b + (if fr_nw (F j) wd b = true then 1 else 0) = _; rw [hsv]; rfl
                refine lv_iload hx hb dX1_size_123 (lv_at hl 2 rfl) ?_
                refine lv_iload hx hb dX1_size_125 (lv_at hl 4 rfl) ?_
                refine lv_iadd hx hb dX1_size_127 ?_
                refine fr_top (show ((nI (b * wd) + nI wd) : Int32) = nI ((b + 1) * wd) from by rw [nI_add, Nat.add_mul, Nat.one_mul]) ?_
                refine lv_istore hx hb dX1_size_128 hl (by decide) rfl (fun ls hl => ?_)
                replace hl : lv_has ls 8 [(5, .int (nI ((b + 1) * wd))), (7, .int (nI (a0 * wd))), (6, .int (fr_bi sn)), (2, .int (nI (fr_sz (F j) V i + fr_cn (fr_nw (F j) wd) b))), (4, .int (nI wd)), (3, .int (nI i)), (0, .ref (bd 0)), (1, .int (nI j))] := hl
                refine lv_goto (tgt := 32) hx hb dX1_size_130 rfl ?_
                exact ih2 ls (b + 1) (by omega) (by rw [hcn]; exact lv_sub hl [0, 3, 4, 5, 6, 7] rfl)
              ·
                have hsv : fr_nw (F j) wd b = true := by rw [← hdone]; exact fr_bit hq
                have hcn : fr_cn (fr_nw (F j) wd) (b + 1) = fr_cn (fr_nw (F j) wd) b + 1 := by show fr_cn (fr_nw (F j) wd) b + (if fr_nw (F j) wd b = true then 1 else 0) = _; rw [hsv]; rfl
                refine lv_iinc (k := 3) (v := nI (fr_sz (F j) V i + fr_cn (fr_nw (F j) wd) b + 1)) hx hb dX1_size_120 hl rfl (fr_inc _) (by decide) rfl (fun ls hl => ?_)
                replace hl : lv_has ls 8 [(2, .int (nI (fr_sz (F j) V i + fr_cn (fr_nw (F j) wd) b + 1))), (7, .int (nI (a0 * wd))), (6, .int (fr_bi sn)), (5, .int (nI (b * wd))), (4, .int (nI wd)), (3, .int (nI i)), (0, .ref (bd 0)), (1, .int (nI j))] := hl
                refine lv_iload hx hb dX1_size_123 (lv_at hl 3 rfl) ?_
                refine lv_iload hx hb dX1_size_125 (lv_at hl 4 rfl) ?_
                refine lv_iadd hx hb dX1_size_127 ?_
                refine fr_top (show ((nI (b * wd) + nI wd) : Int32) = nI ((b + 1) * wd) from by rw [nI_add, Nat.add_mul, Nat.one_mul]) ?_
                refine lv_istore hx hb dX1_size_128 hl (by decide) rfl (fun ls hl => ?_)
                replace hl : lv_has ls 8 [(5, .int (nI ((b + 1) * wd))), (2, .int (nI (fr_sz (F j) V i + fr_cn (fr_nw (F j) wd) b + 1))), (7, .int (nI (a0 * wd))), (6, .int (fr_bi sn)), (4, .int (nI wd)), (3, .int (nI i)), (0, .ref (bd 0)), (1, .int (nI j))] := hl
                refine lv_goto (tgt := 32) hx hb dX1_size_130 rfl ?_
                exact ih2 ls (b + 1) (by omega) (by rw [hcn]; exact lv_sub hl [0, 1, 4, 5, 6, 7] rfl)
            ·
              have hs1 : sn = true := fr_bit hq0
              have hs2 := hsn.mp hs1
              refine lv_aload_n hx hb dX1_size_84 rfl (lv_at hl 6 rfl) ?_
              refine lv_iload_n hx hb dX1_size_85 rfl (lv_at hl 7 rfl) ?_
              refine lv_iload hx hb dX1_size_86 (lv_at hl 2 rfl) ?_
              refine lv_iload hx hb dX1_size_88 (lv_at hl 0 rfl) ?_
              refine lv_iload hx hb dX1_size_90 (lv_at hl 4 rfl) ?_
              refine fr_Mi (As := [.int (nI j), .int (nI (b * wd)), .int (nI (a0 * wd)), .int (nI wd)]) hS0 (cM_alike l D V bd kb row made F hM hV hV1 hinj j (b * wd) (a0 * wd) wd hLj (by omega) (by omega)) (cw_M_alike hw ⟨Nat.le_of_ble_eq_true rfl, Nat.le_of_ble_eq_true rfl⟩) hK hP rfl hl.1 rfl (Nat.le_of_ble_eq_true rfl) dX1_size_92 ⟨Nat.zero_le _, Nat.zero_le _⟩ (fun b9 hb9 => ?_)
              subst hb9
              refine lv_if_ne (tgt := 102) hx hb dX1_size_95 rfl (fun hz3 => ?_) (fun hz3 => ?_)
              ·
                have hl3 : fr_al (F j) (b * wd) (a0 * wd) wd = true := fr_bit hz3
                refine lv_iconst (v := 0) hx hb dX1_size_102 (by decide) ?_
                refine lv_istore hx hb dX1_size_103 hl (by decide) rfl (fun ls hl => ?_)
                replace hl : lv_has ls 8 [(6, .int 0), (7, .int (nI (a0 * wd))), (5, .int (nI (b * wd))), (2, .int (nI (fr_sz (F j) V i + fr_cn (fr_nw (F j) wd) b))), (4, .int (nI wd)), (3, .int (nI i)), (0, .ref (bd 0)), (1, .int (nI j))] := hl
                refine lv_iload hx hb dX1_size_105 (lv_at hl 1 rfl) ?_
                refine lv_iload hx hb dX1_size_107 (lv_at hl 4 rfl) ?_
                refine lv_iadd hx hb dX1_size_109 ?_
                refine fr_top (show ((nI (a0 * wd) + nI wd) : Int32) = nI ((a0 + 1) * wd) from by rw [nI_add, Nat.add_mul, Nat.one_mul]) ?_
                refine lv_istore hx hb dX1_size_110 hl (by decide) rfl (fun ls hl => ?_)
                replace hl : lv_has ls 8 [(7, .int (nI ((a0 + 1) * wd))), (6, .int 0), (5, .int (nI (b * wd))), (2, .int (nI (fr_sz (F j) V i + fr_cn (fr_nw (F j) wd) b))), (4, .int (nI wd)), (3, .int (nI i)), (0, .ref (bd 0)), (1, .int (nI j))] := hl
                refine lv_goto (tgt := 72) hx hb dX1_size_112 rfl ?_
                exact ih3 ls (a0 + 1) (by omega) false (⟨fun h => absurd h (by decide), fun h => absurd (hl3.symm.trans (h.2 a0 (by omega))) (by decide)⟩) (lv_sub hl [0, 1, 2, 3, 4, 5, 6, 7] rfl)
              ·
                have hl3 : fr_al (F j) (b * wd) (a0 * wd) wd = false := fr_bi_ne0.mp hz3
                refine lv_iconst (v := 1) hx hb dX1_size_98 (by decide) ?_
                refine lv_goto (tgt := 103) hx hb dX1_size_99 rfl ?_
                refine lv_istore hx hb dX1_size_103 hl (by decide) rfl (fun ls hl => ?_)
                replace hl : lv_has ls 8 [(6, .int 1), (7, .int (nI (a0 * wd))), (5, .int (nI (b * wd))), (2, .int (nI (fr_sz (F j) V i + fr_cn (fr_nw (F j) wd) b))), (4, .int (nI wd)), (3, .int (nI i)), (0, .ref (bd 0)), (1, .int (nI j))] := hl
                refine lv_iload hx hb dX1_size_105 (lv_at hl 1 rfl) ?_
                refine lv_iload hx hb dX1_size_107 (lv_at hl 4 rfl) ?_
                refine lv_iadd hx hb dX1_size_109 ?_
                refine fr_top (show ((nI (a0 * wd) + nI wd) : Int32) = nI ((a0 + 1) * wd) from by rw [nI_add, Nat.add_mul, Nat.one_mul]) ?_
                refine lv_istore hx hb dX1_size_110 hl (by decide) rfl (fun ls hl => ?_)
                replace hl : lv_has ls 8 [(7, .int (nI ((a0 + 1) * wd))), (6, .int 1), (5, .int (nI (b * wd))), (2, .int (nI (fr_sz (F j) V i + fr_cn (fr_nw (F j) wd) b))), (4, .int (nI wd)), (3, .int (nI i)), (0, .ref (bd 0)), (1, .int (nI j))] := hl
                refine lv_goto (tgt := 72) hx hb dX1_size_112 rfl ?_
                exact ih3 ls (a0 + 1) (by omega) true (⟨fun _ => ⟨hs2.1, lt_s hs2.2 hl3⟩, fun _ => rfl⟩) (lv_sub hl [0, 1, 2, 3, 4, 5, 6, 7] rfl)
  ·
    refine lv_if_ne (tgt := 9) hx hb dX1_size_4 rfl (fun hz => absurd rfl hz) (fun hz => ?_)
    refine lv_iconst (v := (-1)) hx hb dX1_size_7 (by decide) ?_
    exact W.iret (v := (-1)) hx hb hret (fun t ht hW => ⟨_, rfl, (if_neg (by rw [fr_okB_no (hno)]; decide)).symm, ht⟩) (fun q hq => by cases hq) dX1_size_8
