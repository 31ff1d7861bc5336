set_option maxHeartbeats 4000000 in
set_option maxRecDepth 100000 in
theorem cF_size (l : Launch) (D : va_G) (V : Nat) (ad : Nat → Nat) (ka : Nat → ClassId) (mk : Nat → Int64) (nm pt : Nat → Int32) (ro : Nat → Nat → Int64) (F : fr_F) (hF : fr_XR V F ro) (hV : V < 10) (hV1 : 1 ≤ V) (hinj : fr_inj ad) (r : Int32) : Met l yX0_size wsF_size rmF_size (va_Pc [.ref (ad 0), .int r] (fr_PX D V ad ka mk nm pt ro)) (va_Qi (fun res u => res = fr_sSize V F r ∧ fr_XR V F u.2.2.2) (fun u t => va_P D vwCl (fr_xu V ad ka u) t.heap) (fr_A ad)) 0 0 (fr_A ad) := by
  refine Met.ofW (cc := cX0_size) (maxL := 4) (ret := some .int) (by decide) rfl ?_
  intro p e s m args below meth c s₁ B hml hv
  obtain ⟨rfl, hP, hK, hT⟩ := hv
  have hx := B.exec
  have hb := B.bytes
  have hret := B.returns
  have hw := fun w (h : w ∈ WA) => atoms_spec (ws := wsF_size) B.pre w (List.mem_cons_of_mem _ h)
  have hown : s.vm.findClass "FunctionRoom" = some m.cls := findClass_of_methodNamed B.named
  have hlocks := B.notSynchronized
  have hS0 : CallFix p m c cX0_size 4 s _ WA "FunctionRoom" := ⟨hx, hb, hml, hown, hw⟩
  have hl := lv_entry ([.ref (ad 0), .int r]) (n := 4) (Nat.le_of_ble_eq_true rfl)
  rw [lg_entry_eq]
  generalize (lg_sl ([.ref (ad 0), .int r]) ++ List.replicate (4 - (lg_sl ([.ref (ad 0), .int r])).length) Slot.unset).toArray = ls at hl ⊢
  replace hl : lv_has ls 4 [(0, .ref (ad 0)), (1, .int r)] := hl
  have hw8 := (fr_wn_le V hV).2.1
  have h512 := fr_pow512 hV
  refine fr_gen (A := fr_A ad) hP (fun H locs hP2 hS => ?_)
  clear hP
  have hP := hP2
  clear hP2
  refine lv_iload_n hx hb dX0_size_0 rfl (lv_at hl 1 rfl) ?_
  refine fr_cSi (As := [.int r]) hS0 (cF_isRegister l r) (cw_F_isRegister hw ⟨Nat.le_of_ble_eq_true rfl, Nat.le_of_ble_eq_true rfl⟩) (fr_pre0) rfl hl.1 rfl (Nat.le_of_ble_eq_true rfl) dX0_size_1 ⟨Nat.zero_le _, Nat.zero_le _⟩ (fun b0 hb0 => ?_)
  rcases hb0 with ⟨rfl, hOj⟩ | ⟨rfl, hno⟩
  ·
    refine lv_if_ne (tgt := 9) hx hb dX0_size_4 rfl (fun hz => ?_) (fun hz => absurd hz (by decide))
    obtain ⟨j, hLj, rfl⟩ := fr_ok_ex (by decide) hOj
    refine lv_iconst (v := 0) hx hb dX0_size_9 (by decide) ?_
    refine lv_istore_n hx hb dX0_size_10 rfl hl (by decide) rfl (fun ls hl => ?_)
    replace hl : lv_has ls 4 [(2, .int 0), (0, .ref (ad 0)), (1, .int (nI j))] := hl
    obtain ⟨n, i, hin, hi0⟩ : ∃ n i : Nat, i + n = 2 ^ V ∧ i = 0 := ⟨2 ^ V, 0, Nat.zero_add _, rfl⟩
    replace hl : lv_has ls 4 [(2, .int (nI i)), (0, .ref (ad 0)), (1, .int (nI j))] := by rw [hi0]; exact hl
    have hg : ∀ x, x < i → nm x = fr_bi (F j x) := fun x h => absurd h (by omega)
    clear hi0
    induction n generalizing i ls H locs nm with
    | zero =>
      refine lv_iload_n hx hb dX0_size_11 rfl (lv_at hl 0 rfl) ?_
      refine lv_aload_n hx hb dX0_size_12 rfl (lv_at hl 1 rfl) ?_
      refine fr_gX 1 hx hb hw hown hK hP (by decide) mF_assignments rfl dX0_size_13 ?_
      refine lv_icmp_ge (tgt := 41) hx hb dX0_size_16 rfl (fun hcm => ?_) (fun hcm => absurd (nI_le (show 2 ^ V ≤ i by omega) (by omega)) hcm)
      have hN : ∀ x, x < 2 ^ V → nm x = nI ((fun x => if F j x = true then 1 else 0) x) := fun x h => by rw [hg x (by omega)]; show fr_bi (F j x) = nI (if F j x = true then 1 else 0); unfold fr_bi; cases F j x <;> rfl
      clear hg hin
      refine lv_iconst (v := 0) hx hb dX0_size_41 (by decide) ?_
      refine lv_istore_n hx hb dX0_size_42 rfl hl (by decide) rfl (fun ls hl => ?_)
      replace hl : lv_has ls 4 [(2, .int 0), (0, .ref (ad 0)), (1, .int (nI j))] := hl
      refine lv_aload_n hx hb dX0_size_43 rfl (lv_at hl 1 rfl) ?_
      refine fr_gX 0 hx hb hw hown hK hP (by decide) mF_variables rfl dX0_size_44 ?_
      refine lv_iconst (v := 1) hx hb dX0_size_47 (by decide) ?_
      refine lv_isub hx hb dX0_size_48 ?_
      refine lv_istore_n hx hb dX0_size_49 rfl hl (by decide) rfl (fun ls hl => ?_)
      replace hl : lv_has ls 4 [(3, .int ((nI V - 1))), (2, .int 0), (0, .ref (ad 0)), (1, .int (nI j))] := hl
      obtain ⟨n, fb, N, hn0, hN1, hNP, hfb, hfv⟩ : ∃ (n fb : Nat) (N : Nat → Nat), n ≤ V ∧ (∀ x, x < 2 ^ n → nm x = nI (N x)) ∧ fr_NP (F j) V (V - n) fb N ∧ fb = fr_up (F j) V (V - n) ∧ n = V ∧ fb = 0 := ⟨V, 0, _, Nat.le_refl V, hN, by rw [Nat.sub_self]; exact fr_NP_0, by rw [Nat.sub_self]; rfl, rfl, rfl⟩
      replace hl : lv_has ls 4 [(3, .int ((nI n - 1))), (2, .int (nI fb)), (0, .ref (ad 0)), (1, .int (nI j))] := by rw [hfv.1, hfv.2]; exact hl
      clear hfv hN
      induction n generalizing ls H locs nm pt fb N with
      | zero =>
        refine lv_iload_n hx hb dX0_size_50 rfl (lv_at hl 0 rfl) ?_
        refine lv_if_lt (tgt := 67) hx hb dX0_size_51 rfl (fun hcm => ?_) (fun hcm => absurd (by decide) hcm)
        have hsz := fr_up_sz (F j) V V (Nat.le_refl V)
        rw [Nat.sub_self] at hsz
        refine lv_iload_n hx hb dX0_size_67 rfl (lv_at hl 1 rfl) ?_
        exact W.iret (v := nI fb) hx hb hret (fun t ht hW => ⟨⟨_, (mk, nm, pt, ro), rfl, by refine ⟨?_, hF⟩; unfold fr_sSize; rw [if_pos (fr_okB_nI hLj (by decide)), fr_v_nI (show j < 2 ^ 31 by omega), hfb, Nat.sub_zero, ← hsz]; rfl, by show va_P D vwCl _ t.heap; rw [ht]; exact hP⟩, hS.F ht⟩) hS.2.2 dX0_size_68
      | succ n ih =>
        have hfl := fr_up_le (F j) V (V - (n + 1)) (by omega)
        rw [show V - (V - (n + 1)) = n + 1 by omega, ← hfb] at hfl
        have hp2 : 2 ^ (n + 1) = 2 * 2 ^ n := by rw [Nat.pow_succ]; omega
        replace hl : lv_has ls 4 [(3, .int (nI n)), (2, .int (nI fb)), (0, .ref (ad 0)), (1, .int (nI j))] := by rw [nI_pred] at hl; exact hl
        refine lv_iload_n hx hb dX0_size_50 rfl (lv_at hl 0 rfl) ?_
        refine lv_if_lt (tgt := 67) hx hb dX0_size_51 rfl (fun hcm => absurd hcm (nI_pos (by omega))) (fun hcm => ?_)
        refine lv_aload_n hx hb dX0_size_54 rfl (lv_at hl 2 rfl) ?_
        refine lv_iload_n hx hb dX0_size_55 rfl (lv_at hl 0 rfl) ?_
        refine lv_iload_n hx hb dX0_size_56 rfl (lv_at hl 1 rfl) ?_
        refine fr_Xm (As := [.int (nI n), .int (nI fb)]) hS0 (cF_joinHalves l D V ad ka mk nm pt ro hV hinj n fb N (by omega) hfl (fun x h => hN1 x (by omega)) (fun x h => hNP.1 x (by rw [show V - (V - (n + 1)) = n + 1 by omega]; omega))) (cw_F_joinHalves hw ⟨Nat.le_of_ble_eq_true rfl, Nat.le_of_ble_eq_true rfl⟩) hK hP hT hS rfl hl.1 rfl (Nat.le_of_ble_eq_true rfl) dX0_size_57 ⟨Nat.zero_le _, Nat.zero_le _⟩ (fun b u H2 locs2 hu hP2 hS2 => ?_)
        clear hP hS
        obtain ⟨fd, N', rfl, hu1, hu2, hJ⟩ := hu
        obtain ⟨mk2, nm2, pt2, ro2⟩ := u
        obtain rfl : mk2 = mk := hu1
        obtain rfl : ro2 = ro := hu2
        have hfd := hJ.2.2.1
        obtain ⟨hE1, hE2⟩ := fr_J_end (fun x h => hNP.1 x (by rw [show V - (V - (n + 1)) = n + 1 by omega]; omega)) (by omega) hJ
        have hst := fr_NP_step (d := V - (n + 1)) (by omega) hNP (by rw [show V - (V - (n + 1)) - 1 = n by omega]; exact hE1) (by rw [show V - (V - (n + 1)) - 1 = n by omega]; exact hE2)
        rw [show V - (V - (n + 1)) - 1 = n by omega, show V - (n + 1) + 1 = V - n by omega] at hst
        refine lv_istore_n hx hb dX0_size_60 rfl hl (by decide) rfl (fun ls hl => ?_)
        replace hl : lv_has ls 4 [(2, .int (nI fd)), (3, .int (nI n)), (0, .ref (ad 0)), (1, .int (nI j))] := hl
        refine lv_iinc (k := 1) (v := (nI n - 1)) hx hb dX0_size_61 hl rfl (fr_decm n) (by decide) rfl (fun ls hl => ?_)
        replace hl : lv_has ls 4 [(3, .int ((nI n - 1))), (2, .int (nI fd)), (0, .ref (ad 0)), (1, .int (nI j))] := hl
        refine lv_goto (tgt := 50) hx hb dX0_size_64 rfl ?_
        exact ih pt2 nm2 H2 locs2 hS2 hP2 ls fd N' (by omega) (fun x h => hJ.1 x h) hst.1 (by rw [hfd, hfb, show V - n = (V - (n + 1)) + 1 by omega]; show _ = fr_up (F j) V (V - (n + 1)) + fr_cn (fr_nw (F j) (2 ^ (V - (n + 1) + 1))) (2 ^ (V - (V - (n + 1)) - 1)); rw [show V - (V - (n + 1)) - 1 = n by omega, show V - (n + 1) + 1 = V - n by omega, fr_cn_congr _ hst.2]) (lv_sub hl [0, 1, 2, 3] rfl)
    | succ n ih =>
      refine lv_iload_n hx hb dX0_size_11 rfl (lv_at hl 0 rfl) ?_
      refine lv_aload_n hx hb dX0_size_12 rfl (lv_at hl 1 rfl) ?_
      refine fr_gX 1 hx hb hw hown hK hP (by decide) mF_assignments rfl dX0_size_13 ?_
      refine lv_icmp_ge (tgt := 41) hx hb dX0_size_16 rfl (fun hcm => absurd hcm (nI_ge (show i < 2 ^ V by omega) (by omega))) (fun hcm => ?_)
      have hi : i < 2 ^ V := by omega
      obtain ⟨hx6, hx7⟩ := fr_R_in hV (hF j hLj) hi
      refine lv_aload_n hx hb dX0_size_19 rfl (lv_at hl 1 rfl) ?_
      refine fr_gX 6 hx hb hw hown hK hP (by decide) mF_names rfl dX0_size_20 ?_
      refine lv_iload_n hx hb dX0_size_23 rfl (lv_at hl 0 rfl) ?_
      refine lv_aload_n hx hb dX0_size_24 rfl (lv_at hl 1 rfl) ?_
      refine fr_gX 4 hx hb hw hown hK hP (by decide) mF_rows rfl dX0_size_25 ?_
      refine lv_iload_n hx hb dX0_size_28 rfl (lv_at hl 2 rfl) ?_
      refine fr_aald hx hb hK hP 1 0 rfl rfl hLj (by decide) rfl dX0_size_29 ?_
      refine lv_iload_n hx hb dX0_size_30 rfl (lv_at hl 0 rfl) ?_
      refine fr_cSi (As := [.ref (ad (j + 5)), .int (nI i)]) hS0 (cF_valueAt l D (ad (j + 5)) (ka 1) (fr_wn V) (ro j) i (by omega) hx6 (by omega)) (cw_F_valueAt hw ⟨Nat.le_of_ble_eq_true rfl, Nat.le_of_ble_eq_true rfl⟩) (fr_preA hK hP (fr_row hLj) (tq := 1) rfl) rfl hl.1 rfl (Nat.le_of_ble_eq_true rfl) dX0_size_31 ⟨Nat.zero_le _, Nat.zero_le _⟩ (fun b hb1 => ?_)
      subst hb1
      rw [hx7]
      refine fr_iast (ws2 := fr_xw V ad ka mk (upd nm i (fr_bi (F j i))) pt ro) hx hb hK hP (fr_D hinj) hS 3 3 rfl rfl hi (by omega) dX0_size_34 rfl (fun H locs hP hS => ?_)
      refine lv_iinc (k := 0) (v := nI (i + 1)) hx hb dX0_size_35 hl rfl (fr_inc i) (by decide) rfl (fun ls hl => ?_)
      replace hl : lv_has ls 4 [(2, .int (nI (i + 1))), (0, .ref (ad 0)), (1, .int (nI j))] := hl
      refine lv_goto (tgt := 11) hx hb dX0_size_38 rfl ?_
      exact ih _ H locs hS hP ls (i + 1) (by omega) (lv_sub hl [0, 1, 2] rfl) (fr_updS hg)
  ·
    refine lv_if_ne (tgt := 9) hx hb dX0_size_4 rfl (fun hz => absurd rfl hz) (fun hz => ?_)
    refine lv_iconst (v := (-1)) hx hb dX0_size_7 (by decide) ?_
    exact W.iret (v := (-1)) hx hb hret (fun t ht hW => ⟨⟨_, (mk, nm, pt, ro), rfl, by refine ⟨?_, hF⟩; unfold fr_sSize; rw [if_neg (by rw [fr_okB_no hno]; decide)], by show va_P D vwCl _ t.heap; rw [ht]; exact hP⟩, hS.F ht⟩) hS.2.2 dX0_size_8
