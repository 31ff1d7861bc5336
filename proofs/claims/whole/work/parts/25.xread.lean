set_option maxHeartbeats 4000000 in
set_option maxRecDepth 100000 in
theorem cF_many (l : Launch) (D : va_G) (V : Nat) (ad : Nat → Nat) (ka : Nat → ClassId) (mk : Nat → Int64) (nm pt : Nat → Int32) (ro : Nat → Nat → Int64) (F : fr_F) (hF : fr_XR V F ro) (hV : V < 10) (hV1 : 1 ≤ V) (hinj : fr_inj ad) (r : Int32) : Met l yX0_many wsF_many rmF_many (va_Pc [.ref (ad 0), .int r] (fr_PX D V ad ka mk nm pt ro)) (vp_Si (fun res => res = fr_sMany V F r)) 0 0 (fun _ => False) := by
  refine Met.ofW (cc := cX0_many) (maxL := 2) (ret := some .int) (by decide) rfl ?_
  intro p e s m args below meth c s₁ B hml hv
  obtain ⟨rfl, hP, hK, hT⟩ := hv
  have hx := B.exec
  have hb := B.bytes
  have hret := B.returns
  have hw := fun w (h : w ∈ WA) => atoms_spec (ws := wsF_many) B.pre w (List.mem_cons_of_mem _ h)
  have hown : s.vm.findClass "FunctionRoom" = some m.cls := findClass_of_methodNamed B.named
  have hlocks := B.notSynchronized
  have hS0 : CallFix p m c cX0_many 2 s _ WA "FunctionRoom" := ⟨hx, hb, hml, hown, hw⟩
  have hl := lv_entry ([.ref (ad 0), .int r]) (n := 2) (Nat.le_of_ble_eq_true rfl)
  rw [lg_entry_eq]
  generalize (lg_sl ([.ref (ad 0), .int r]) ++ List.replicate (2 - (lg_sl ([.ref (ad 0), .int r])).length) Slot.unset).toArray = ls at hl ⊢
  replace hl : lv_has ls 2 [(0, .ref (ad 0)), (1, .int r)] := hl
  have hw8 := (fr_wn_le V hV).2.1
  have h512 := fr_pow512 hV
  have hS : va_S (fr_A ad) s.heap s.heap [] := va_S.rf
  refine lv_iload_n hx hb dX0_many_0 rfl (lv_at hl 1 rfl) ?_
  refine fr_cSi (As := [.int r]) hS0 (cF_isRegister l r) (cw_F_isRegister hw ⟨Nat.le_of_ble_eq_true rfl, Nat.le_of_ble_eq_true rfl⟩) (fr_pre0) rfl hl.1 rfl (Nat.le_of_ble_eq_true rfl) dX0_many_1 ⟨Nat.zero_le _, Nat.zero_le _⟩ (fun b0 hb0 => ?_)
  rcases hb0 with ⟨rfl, hOj⟩ | ⟨rfl, hno⟩
  ·
    refine lv_if_eq (tgt := 20) hx hb dX0_many_4 rfl (fun hz => absurd hz (by decide)) (fun hz => ?_)
    obtain ⟨j, hLj, rfl⟩ := fr_ok_ex (by decide) hOj
    refine lv_aload_n hx hb dX0_many_7 rfl (lv_at hl 0 rfl) ?_
    refine lv_aload_n hx hb dX0_many_8 rfl (lv_at hl 0 rfl) ?_
    refine fr_gX 4 hx hb hw hown hK hP (by decide) mF_rows rfl dX0_many_9 ?_
    refine lv_iload_n hx hb dX0_many_12 rfl (lv_at hl 1 rfl) ?_
    refine fr_aald hx hb hK hP 1 0 rfl rfl hLj (by decide) rfl dX0_many_13 ?_
    refine fr_Xi (As := [.ref (ad (j + 5))]) hS0 (cF_count l D V ad ka mk nm pt ro (j + 5) 1 (ad (j + 5)) (ka 1) (ro j) (fr_row hLj) rfl hV) (cw_F_count hw ⟨Nat.le_of_ble_eq_true rfl, Nat.le_of_ble_eq_true rfl⟩) hK hP hT hS rfl hl.1 rfl (Nat.le_of_ble_eq_true rfl) dX0_many_14 ⟨Nat.zero_le _, Nat.zero_le _⟩ (fun b hb1 => ?_)
    subst hb1
    refine lv_goto (tgt := 21) hx hb dX0_many_17 rfl ?_
    exact W.iret (v := nI (fr_ct (ro j) (fr_wn V))) hx hb hret (fun t ht hW => ⟨_, rfl, by unfold fr_sMany; rw [if_pos (fr_okB_nI hLj (by decide)), fr_v_nI (show j < 2 ^ 31 by omega), fr_ct_R hV (hF j hLj)], ht⟩) (fun q hq => by cases hq) dX0_many_21
  ·
    refine lv_if_eq (tgt := 20) hx hb dX0_many_4 rfl (fun hz => ?_) (fun hz => absurd rfl hz)
    refine lv_iconst (v := (-1)) hx hb dX0_many_20 (by decide) ?_
    exact W.iret (v := (-1)) hx hb hret (fun t ht hW => ⟨_, rfl, (if_neg (by rw [fr_okB_no (hno)]; decide)).symm, ht⟩) (fun q hq => by cases hq) dX0_many_21
set_option maxHeartbeats 4000000 in
set_option maxRecDepth 100000 in
theorem cF_value (l : Launch) (D : va_G) (V : Nat) (ad : Nat → Nat) (ka : Nat → ClassId) (mk : Nat → Int64) (nm pt : Nat → Int32) (ro : Nat → Nat → Int64) (F : fr_F) (hF : fr_XR V F ro) (hV : V < 10) (hV1 : 1 ≤ V) (hinj : fr_inj ad) (r x0 : Int32)  : Met l yX0_value wsF_value rmF_value (va_Pc [.ref (ad 0), .int r, .int x0] (fr_PX D V ad ka mk nm pt ro)) (vp_Si (fun res => res = fr_sValue V F r x0)) 0 0 (fun _ => False) := by
  refine Met.ofW (cc := cX0_value) (maxL := 3) (ret := some .int) (by decide) rfl ?_
  intro p e s m args below meth c s₁ B hml hv
  obtain ⟨rfl, hP, hK, hT⟩ := hv
  have hx := B.exec
  have hb := B.bytes
  have hret := B.returns
  have hw := fun w (h : w ∈ WA) => atoms_spec (ws := wsF_value) B.pre w (List.mem_cons_of_mem _ h)
  have hown : s.vm.findClass "FunctionRoom" = some m.cls := findClass_of_methodNamed B.named
  have hlocks := B.notSynchronized
  have hS0 : CallFix p m c cX0_value 3 s _ WA "FunctionRoom" := ⟨hx, hb, hml, hown, hw⟩
  have hl := lv_entry ([.ref (ad 0), .int r, .int x0]) (n := 3) (Nat.le_of_ble_eq_true rfl)
  rw [lg_entry_eq]
  generalize (lg_sl ([.ref (ad 0), .int r, .int x0]) ++ List.replicate (3 - (lg_sl ([.ref (ad 0), .int r, .int x0])).length) Slot.unset).toArray = ls at hl ⊢
  replace hl : lv_has ls 3 [(0, .ref (ad 0)), (1, .int r), (2, .int x0)] := hl
  have hw8 := (fr_wn_le V hV).2.1
  have h512 := fr_pow512 hV
  have hS : va_S (fr_A ad) s.heap s.heap [] := va_S.rf
  refine lv_iload_n hx hb dX0_value_0 rfl (lv_at hl 1 rfl) ?_
  refine fr_cSi (As := [.int r]) hS0 (cF_isRegister l r) (cw_F_isRegister hw ⟨Nat.le_of_ble_eq_true rfl, Nat.le_of_ble_eq_true rfl⟩) (fr_pre0) rfl hl.1 rfl (Nat.le_of_ble_eq_true rfl) dX0_value_1 ⟨Nat.zero_le _, Nat.zero_le _⟩ (fun b0 hb0 => ?_)
  rcases hb0 with ⟨rfl, hOj⟩ | ⟨rfl, hno⟩
  ·
    refine lv_if_eq (tgt := 19) hx hb dX0_value_4 rfl (fun hz => absurd hz (by decide)) (fun hz => ?_)
    obtain ⟨j, hLj, rfl⟩ := fr_ok_ex (by decide) hOj
    refine lv_iload_n hx hb dX0_value_7 rfl (lv_at hl 2 rfl) ?_
    refine lv_if_lt (tgt := 19) hx hb dX0_value_8 rfl (fun h1 => ?_) (fun h1 => ?_)
    ·
      refine lv_iconst (v := (-1)) hx hb dX0_value_19 (by decide) ?_
      exact W.iret (v := (-1)) hx hb hret (fun t ht hW => ⟨_, rfl, (if_neg (fr_and2 (Or.inr (fr_okB_no (fun z => z.1 h1))))).symm, ht⟩) (fun q hq => by cases hq) dX0_value_20
    ·
      refine lv_iload_n hx hb dX0_value_11 rfl (lv_at hl 2 rfl) ?_
      refine lv_aload_n hx hb dX0_value_12 rfl (lv_at hl 0 rfl) ?_
      refine fr_gX 1 hx hb hw hown hK hP (by decide) mF_assignments rfl dX0_value_13 ?_
      refine lv_icmp_lt (tgt := 21) hx hb dX0_value_16 rfl (fun h2 => ?_) (fun h2 => ?_)
      ·
        obtain ⟨x, hLx, rfl⟩ := fr_ok_ex (by omega) ⟨h1, fun z => fr_ltle h2 z⟩
        obtain ⟨hx6, hx7⟩ := fr_R_in hV (hF j hLj) hLx
        refine lv_aload_n hx hb dX0_value_21 rfl (lv_at hl 0 rfl) ?_
        refine fr_gX 4 hx hb hw hown hK hP (by decide) mF_rows rfl dX0_value_22 ?_
        refine lv_iload_n hx hb dX0_value_25 rfl (lv_at hl 1 rfl) ?_
        refine fr_aald hx hb hK hP 1 0 rfl rfl hLj (by decide) rfl dX0_value_26 ?_
        refine lv_iload_n hx hb dX0_value_27 rfl (lv_at hl 2 rfl) ?_
        refine fr_cSi (As := [.ref (ad (j + 5)), .int (nI x)]) hS0 (cF_valueAt l D (ad (j + 5)) (ka 1) (fr_wn V) (ro j) x (by omega) hx6 (by omega)) (cw_F_valueAt hw ⟨Nat.le_of_ble_eq_true rfl, Nat.le_of_ble_eq_true rfl⟩) (fr_preA hK hP (fr_row hLj) (tq := 1) rfl) rfl hl.1 rfl (Nat.le_of_ble_eq_true rfl) dX0_value_28 ⟨Nat.zero_le _, Nat.zero_le _⟩ (fun b hb1 => ?_)
        subst hb1
        exact W.iret (v := fr_bi (fr_b (ro j (x / 64)) (x % 64))) hx hb hret (fun t ht hW => ⟨_, rfl, by unfold fr_sValue; rw [if_pos (by rw [fr_okB_nI hLj (by decide), fr_okB_nI hLx (by omega)]; rfl), fr_v_nI (show j < 2 ^ 31 by omega), fr_v_nI (show x < 2 ^ 31 by omega), hx7], ht⟩) (fun q hq => by cases hq) dX0_value_31
      ·
        refine lv_iconst (v := (-1)) hx hb dX0_value_19 (by decide) ?_
        exact W.iret (v := (-1)) hx hb hret (fun t ht hW => ⟨_, rfl, (if_neg (fr_and2 (Or.inr (fr_okB_no (fun z => h2 (fr_nle z)))))).symm, ht⟩) (fun q hq => by cases hq) dX0_value_20
  ·
    refine lv_if_eq (tgt := 19) hx hb dX0_value_4 rfl (fun hz => ?_) (fun hz => absurd rfl hz)
    refine lv_iconst (v := (-1)) hx hb dX0_value_19 (by decide) ?_
    exact W.iret (v := (-1)) hx hb hret (fun t ht hW => ⟨_, rfl, (if_neg (fr_and2 (Or.inl (fr_okB_no (hno))))).symm, ht⟩) (fun q hq => by cases hq) dX0_value_20
set_option maxHeartbeats 4000000 in
set_option maxRecDepth 100000 in
theorem cF_same (l : Launch) (D : va_G) (V : Nat) (ad : Nat → Nat) (ka : Nat → ClassId) (mk : Nat → Int64) (nm pt : Nat → Int32) (ro : Nat → Nat → Int64) (F : fr_F) (hF : fr_XR V F ro) (hV : V < 10) (hV1 : 1 ≤ V) (hinj : fr_inj ad) (a b : Int32)  : Met l yX0_same wsF_same rmF_same (va_Pc [.ref (ad 0), .int a, .int b] (fr_PX D V ad ka mk nm pt ro)) (vp_Si (fun res => res = fr_sSame V F a b)) 0 0 (fun _ => False) := by
  refine Met.ofW (cc := cX0_same) (maxL := 4) (ret := some .boolean) (by decide) rfl ?_
  intro p e s m args below meth c s₁ B hml hv
  obtain ⟨rfl, hP, hK, hT⟩ := hv
  have hx := B.exec
  have hb := B.bytes
  have hret := B.returns
  have hw := fun w (h : w ∈ WA) => atoms_spec (ws := wsF_same) B.pre w (List.mem_cons_of_mem _ h)
  have hown : s.vm.findClass "FunctionRoom" = some m.cls := findClass_of_methodNamed B.named
  have hlocks := B.notSynchronized
  have hS0 : CallFix p m c cX0_same 4 s _ WA "FunctionRoom" := ⟨hx, hb, hml, hown, hw⟩
  have hl := lv_entry ([.ref (ad 0), .int a, .int b]) (n := 4) (Nat.le_of_ble_eq_true rfl)
  rw [lg_entry_eq]
  generalize (lg_sl ([.ref (ad 0), .int a, .int b]) ++ List.replicate (4 - (lg_sl ([.ref (ad 0), .int a, .int b])).length) Slot.unset).toArray = ls at hl ⊢
  replace hl : lv_has ls 4 [(0, .ref (ad 0)), (1, .int a), (2, .int b)] := hl
  have hw8 := (fr_wn_le V hV).2.1
  have h512 := fr_pow512 hV
  have hS : va_S (fr_A ad) s.heap s.heap [] := va_S.rf
  refine lv_iload_n hx hb dX0_same_0 rfl (lv_at hl 1 rfl) ?_
  refine fr_cSi (As := [.int a]) hS0 (cF_isRegister l a) (cw_F_isRegister hw ⟨Nat.le_of_ble_eq_true rfl, Nat.le_of_ble_eq_true rfl⟩) (fr_pre0) rfl hl.1 rfl (Nat.le_of_ble_eq_true rfl) dX0_same_1 ⟨Nat.zero_le _, Nat.zero_le _⟩ (fun b0 hb0 => ?_)
  rcases hb0 with ⟨rfl, hOx⟩ | ⟨rfl, hno⟩
  ·
    refine lv_if_eq (tgt := 14) hx hb dX0_same_4 rfl (fun hz => absurd hz (by decide)) (fun hz => ?_)
    obtain ⟨x, hLx, rfl⟩ := fr_ok_ex (by decide) hOx
    refine lv_iload_n hx hb dX0_same_7 rfl (lv_at hl 2 rfl) ?_
    refine fr_cSi (As := [.int b]) hS0 (cF_isRegister l b) (cw_F_isRegister hw ⟨Nat.le_of_ble_eq_true rfl, Nat.le_of_ble_eq_true rfl⟩) (fr_pre0) rfl hl.1 rfl (Nat.le_of_ble_eq_true rfl) dX0_same_8 ⟨Nat.zero_le _, Nat.zero_le _⟩ (fun b0 hb0 => ?_)
    rcases hb0 with ⟨rfl, hOy⟩ | ⟨rfl, hno⟩
    ·
      refine lv_if_ne (tgt := 16) hx hb dX0_same_11 rfl (fun hz => ?_) (fun hz => absurd hz (by decide))
      obtain ⟨y, hLy, rfl⟩ := fr_ok_ex (by decide) hOy
      refine lv_iconst (v := 0) hx hb dX0_same_16 (by decide) ?_
      refine lv_istore_n hx hb dX0_same_17 rfl hl (by decide) rfl (fun ls hl => ?_)
      replace hl : lv_has ls 4 [(3, .int 0), (0, .ref (ad 0)), (1, .int (nI x)), (2, .int (nI y))] := hl
      have hsm := fr_R_same hV (hF x hLx) (hF y hLy)
      have hsp : fr_sSame V F (nI x) (nI y) = fr_bi (fr_eqB V (F x) (F y)) := by unfold fr_sSame; rw [if_pos (by rw [fr_okB_nI hLx (by decide), fr_okB_nI hLy (by decide)]; rfl), fr_v_nI (show x < 2 ^ 31 by omega), fr_v_nI (show y < 2 ^ 31 by omega)]
      obtain ⟨n, i, hin, hi0⟩ : ∃ n i : Nat, i + n = fr_wn V ∧ i = 0 := ⟨fr_wn V, 0, Nat.zero_add _, rfl⟩
      replace hl : lv_has ls 4 [(3, .int (nI i)), (0, .ref (ad 0)), (1, .int (nI x)), (2, .int (nI y))] := by rw [hi0]; exact hl
      have hg : ∀ w, w < i → ro x w = ro y w := fun w h => absurd h (by omega)
      clear hi0
      induction n generalizing i ls  with
      | zero =>
        refine lv_iload_n hx hb dX0_same_18 rfl (lv_at hl 0 rfl) ?_
        refine lv_aload_n hx hb dX0_same_19 rfl (lv_at hl 1 rfl) ?_
        refine fr_gX 2 hx hb hw hown hK hP (by decide) mF_words rfl dX0_same_20 ?_
        refine lv_icmp_ge (tgt := 54) hx hb dX0_same_23 rfl (fun hcm => ?_) (fun hcm => absurd (nI_le (show fr_wn V ≤ i by omega) (by omega)) hcm)
        refine lv_iconst (v := 1) hx hb dX0_same_54 (by decide) ?_
        exact W.zret (v := 1) hx hb hret rfl (fun t ht hW => ⟨_, rfl, by rw [hsp, show fr_eqB V (F x) (F y) = true from decide_eq_true (hsm.mp (fun w h => hg w (by omega)))]; rfl, ht⟩) (fun q hq => by cases hq) dX0_same_55
      | succ n ih =>
        refine lv_iload_n hx hb dX0_same_18 rfl (lv_at hl 0 rfl) ?_
        refine lv_aload_n hx hb dX0_same_19 rfl (lv_at hl 1 rfl) ?_
        refine fr_gX 2 hx hb hw hown hK hP (by decide) mF_words rfl dX0_same_20 ?_
        refine lv_icmp_ge (tgt := 54) hx hb dX0_same_23 rfl (fun hcm => absurd hcm (nI_ge (show i < fr_wn V by omega) (by omega))) (fun hcm => ?_)
        have hi : i < fr_wn V := by omega
        refine lv_aload_n hx hb dX0_same_26 rfl (lv_at hl 1 rfl) ?_
        refine fr_gX 4 hx hb hw hown hK hP (by decide) mF_rows rfl dX0_same_27 ?_
        refine lv_iload_n hx hb dX0_same_30 rfl (lv_at hl 2 rfl) ?_
        refine fr_aald hx hb hK hP 1 0 rfl rfl hLx (by decide) rfl dX0_same_31 ?_
        refine lv_iload_n hx hb dX0_same_32 rfl (lv_at hl 0 rfl) ?_
        refine fr_lald hx hb hK hP (x + 5) 1 (fr_row hLx) rfl hi (by omega) dX0_same_33 ?_
        refine lv_aload_n hx hb dX0_same_34 rfl (lv_at hl 1 rfl) ?_
        refine fr_gX 4 hx hb hw hown hK hP (by decide) mF_rows rfl dX0_same_35 ?_
        refine lv_iload_n hx hb dX0_same_38 rfl (lv_at hl 3 rfl) ?_
        refine fr_aald hx hb hK hP 1 0 rfl rfl hLy (by decide) rfl dX0_same_39 ?_
        refine lv_iload_n hx hb dX0_same_40 rfl (lv_at hl 0 rfl) ?_
        refine fr_lald hx hb hK hP (y + 5) 1 (fr_row hLy) rfl hi (by omega) dX0_same_41 ?_
        refine W.lcmp hx hb dX0_same_42 ?_
        refine lv_if_eq (tgt := 48) hx hb dX0_same_43 rfl (fun h2 => ?_) (fun h2 => ?_)
        ·
          refine lv_iinc (k := 0) (v := nI (i + 1)) hx hb dX0_same_48 hl rfl (fr_inc i) (by decide) rfl (fun ls hl => ?_)
          replace hl : lv_has ls 4 [(3, .int (nI (i + 1))), (0, .ref (ad 0)), (1, .int (nI x)), (2, .int (nI y))] := hl
          refine lv_goto (tgt := 18) hx hb dX0_same_51 rfl ?_
          exact ih ls (i + 1) (by omega) (lv_sub hl [0, 1, 2, 3] rfl) (lt_s hg ((lg_cmp_eq _ _).mp h2))
        ·
          refine lv_iconst (v := 0) hx hb dX0_same_46 (by decide) ?_
          exact W.zret (v := 0) hx hb hret rfl (fun t ht hW => ⟨_, rfl, by rw [hsp, show fr_eqB V (F x) (F y) = false from decide_eq_false (fun z => h2 ((lg_cmp_eq _ _).mpr (hsm.mpr z i hi)))]; rfl, ht⟩) (fun q hq => by cases hq) dX0_same_47
    ·
      refine lv_if_ne (tgt := 16) hx hb dX0_same_11 rfl (fun hz => absurd rfl hz) (fun hz => ?_)
      refine lv_iconst (v := 0) hx hb dX0_same_14 (by decide) ?_
      exact W.zret (v := 0) hx hb hret rfl (fun t ht hW => ⟨_, rfl, (if_neg (fr_and2 (Or.inr (fr_okB_no (hno))))).symm, ht⟩) (fun q hq => by cases hq) dX0_same_15
  ·
    refine lv_if_eq (tgt := 14) hx hb dX0_same_4 rfl (fun hz => ?_) (fun hz => absurd rfl hz)
    refine lv_iconst (v := 0) hx hb dX0_same_14 (by decide) ?_
    exact W.zret (v := 0) hx hb hret rfl (fun t ht hW => ⟨_, rfl, (if_neg (fr_and2 (Or.inl (fr_okB_no (hno))))).symm, ht⟩) (fun q hq => by cases hq) dX0_same_15
set_option maxHeartbeats 4000000 in
set_option maxRecDepth 100000 in
theorem cF_nth (l : Launch) (D : va_G) (V : Nat) (ad : Nat → Nat) (ka : Nat → ClassId) (mk : Nat → Int64) (nm pt : Nat → Int32) (ro : Nat → Nat → Int64) (F : fr_F) (hF : fr_XR V F ro) (hV : V < 10) (hV1 : 1 ≤ V) (hinj : fr_inj ad) (r k : Int32)  : Met l yX0_nth wsF_nth rmF_nth (va_Pc [.ref (ad 0), .int r, .int k] (fr_PX D V ad ka mk nm pt ro)) (vp_Si (fun res => res = fr_sNth V F r k)) 0 0 (fun _ => False) := by
  refine Met.ofW (cc := cX0_nth) (maxL := 5) (ret := some .int) (by decide) rfl ?_
  intro p e s m args below meth c s₁ B hml hv
  obtain ⟨rfl, hP, hK, hT⟩ := hv
  have hx := B.exec
  have hb := B.bytes
  have hret := B.returns
  have hw := fun w (h : w ∈ WA) => atoms_spec (ws := wsF_nth) B.pre w (List.mem_cons_of_mem _ h)
  have hown : s.vm.findClass "FunctionRoom" = some m.cls := findClass_of_methodNamed B.named
  have hlocks := B.notSynchronized
  have hS0 : CallFix p m c cX0_nth 5 s _ WA "FunctionRoom" := ⟨hx, hb, hml, hown, hw⟩
  have hl := lv_entry ([.ref (ad 0), .int r, .int k]) (n := 5) (Nat.le_of_ble_eq_true rfl)
  rw [lg_entry_eq]
  generalize (lg_sl ([.ref (ad 0), .int r, .int k]) ++ List.replicate (5 - (lg_sl ([.ref (ad 0), .int r, .int k])).length) Slot.unset).toArray = ls at hl ⊢
  replace hl : lv_has ls 5 [(0, .ref (ad 0)), (1, .int r), (2, .int k)] := hl
  have hw8 := (fr_wn_le V hV).2.1
  have h512 := fr_pow512 hV
  have hS : va_S (fr_A ad) s.heap s.heap [] := va_S.rf
  refine lv_iload_n hx hb dX0_nth_0 rfl (lv_at hl 1 rfl) ?_
  refine fr_cSi (As := [.int r]) hS0 (cF_isRegister l r) (cw_F_isRegister hw ⟨Nat.le_of_ble_eq_true rfl, Nat.le_of_ble_eq_true rfl⟩) (fr_pre0) rfl hl.1 rfl (Nat.le_of_ble_eq_true rfl) dX0_nth_1 ⟨Nat.zero_le _, Nat.zero_le _⟩ (fun b0 hb0 => ?_)
  rcases hb0 with ⟨rfl, hOj⟩ | ⟨rfl, hno⟩
  ·
    refine lv_if_ne (tgt := 9) hx hb dX0_nth_4 rfl (fun hz => ?_) (fun hz => absurd hz (by decide))
    obtain ⟨j, hLj, rfl⟩ := fr_ok_ex (by decide) hOj
    refine lv_iconst (v := 0) hx hb dX0_nth_9 (by decide) ?_
    refine lv_istore_n hx hb dX0_nth_10 rfl hl (by decide) rfl (fun ls hl => ?_)
    replace hl : lv_has ls 5 [(3, .int 0), (0, .ref (ad 0)), (1, .int (nI j)), (2, .int k)] := hl
    refine lv_iconst (v := 0) hx hb dX0_nth_11 (by decide) ?_
    refine lv_istore hx hb dX0_nth_12 hl (by decide) rfl (fun ls hl => ?_)
    replace hl : lv_has ls 5 [(4, .int 0), (3, .int 0), (0, .ref (ad 0)), (1, .int (nI j)), (2, .int k)] := hl
    have hsp : fr_sNth V F (nI j) k = fr_nthS (F j) k (2 ^ V) 0 0 := by unfold fr_sNth; rw [if_pos (fr_okB_nI hLj (by decide)), fr_v_nI (show j < 2 ^ 31 by omega)]
    obtain ⟨n, i, c0, hin, hi0, hc0⟩ : ∃ n i c0 : Nat, i + n = 2 ^ V ∧ i = 0 ∧ c0 = 0 := ⟨2 ^ V, 0, 0, by omega, rfl, rfl⟩
    replace hl : lv_has ls 5 [(4, .int (nI i)), (3, .int (nI c0)), (0, .ref (ad 0)), (1, .int (nI j)), (2, .int k)] := by rw [hi0, hc0]; exact hl
    have hg : fr_nthS (F j) k n i c0 = fr_sNth V F (nI j) k := by rw [hsp, hi0, hc0, show n = 2 ^ V by omega]
    have hci : c0 ≤ i := by omega
    clear hi0 hc0 hsp
    induction n generalizing i ls c0 with
    | zero =>
      refine lv_iload hx hb dX0_nth_14 (lv_at hl 0 rfl) ?_
      refine lv_aload_n hx hb dX0_nth_16 rfl (lv_at hl 2 rfl) ?_
      refine fr_gX 1 hx hb hw hown hK hP (by decide) mF_assignments rfl dX0_nth_17 ?_
      refine lv_icmp_ge (tgt := 55) hx hb dX0_nth_20 rfl (fun hcm => ?_) (fun hcm => absurd (nI_le (show 2 ^ V ≤ i by omega) (by omega)) hcm)
      refine lv_bipush (v := (-2)) hx hb dX0_nth_55 (by decide) ?_
      exact W.iret (v := (-2)) hx hb hret (fun t ht hW => ⟨_, rfl, by rw [← hg]; rfl, ht⟩) (fun q hq => by cases hq) dX0_nth_57
    | succ n ih =>
      refine lv_iload hx hb dX0_nth_14 (lv_at hl 0 rfl) ?_
      refine lv_aload_n hx hb dX0_nth_16 rfl (lv_at hl 2 rfl) ?_
      refine fr_gX 1 hx hb hw hown hK hP (by decide) mF_assignments rfl dX0_nth_17 ?_
      refine lv_icmp_ge (tgt := 55) hx hb dX0_nth_20 rfl (fun hcm => absurd hcm (nI_ge (show i < 2 ^ V by omega) (by omega))) (fun hcm => ?_)
      have hi : i < 2 ^ V := by omega
      obtain ⟨hx6, hx7⟩ := fr_R_in hV (hF j hLj) hi
      refine lv_aload_n hx hb dX0_nth_23 rfl (lv_at hl 2 rfl) ?_
      refine fr_gX 4 hx hb hw hown hK hP (by decide) mF_rows rfl dX0_nth_24 ?_
      refine lv_iload_n hx hb dX0_nth_27 rfl (lv_at hl 3 rfl) ?_
      refine fr_aald hx hb hK hP 1 0 rfl rfl hLj (by decide) rfl dX0_nth_28 ?_
      refine lv_iload hx hb dX0_nth_29 (lv_at hl 0 rfl) ?_
      refine fr_cSi (As := [.ref (ad (j + 5)), .int (nI i)]) hS0 (cF_valueAt l D (ad (j + 5)) (ka 1) (fr_wn V) (ro j) i (by omega) hx6 (by omega)) (cw_F_valueAt hw ⟨Nat.le_of_ble_eq_true rfl, Nat.le_of_ble_eq_true rfl⟩) (fr_preA hK hP (fr_row hLj) (tq := 1) rfl) rfl hl.1 rfl (Nat.le_of_ble_eq_true rfl) dX0_nth_31 ⟨Nat.zero_le _, Nat.zero_le _⟩ (fun b hb1 => ?_)
      subst hb1
      rw [hx7]
      refine lv_iconst (v := 1) hx hb dX0_nth_34 (by decide) ?_
      refine lv_icmp_ne (tgt := 49) hx hb dX0_nth_35 rfl (fun h2 => ?_) (fun h2 => ?_)
      ·
        have h3 : F j i = false := by cases hq : F j i <;> simp_all [fr_bi]
        refine lv_iinc (k := 0) (v := nI (i + 1)) hx hb dX0_nth_49 hl rfl (fr_inc i) (by decide) rfl (fun ls hl => ?_)
        replace hl : lv_has ls 5 [(4, .int (nI (i + 1))), (3, .int (nI c0)), (0, .ref (ad 0)), (1, .int (nI j)), (2, .int k)] := hl
        refine lv_goto (tgt := 14) hx hb dX0_nth_52 rfl ?_
        exact ih ls (i + 1) c0 (by omega) (lv_sub hl [0, 1, 2, 3, 4] rfl) (by rw [← hg]; show _ = (if F j i = true then _ else _); rw [h3]; rfl) (by omega)
      ·
        have h3 : F j i = true := by cases hq : F j i <;> simp_all [fr_bi]
        refine lv_iload_n hx hb dX0_nth_38 rfl (lv_at hl 1 rfl) ?_
        refine lv_iload_n hx hb dX0_nth_39 rfl (lv_at hl 4 rfl) ?_
        refine lv_icmp_ne (tgt := 46) hx hb dX0_nth_40 rfl (fun h4 => ?_) (fun h4 => ?_)
        ·
          refine lv_iinc (k := 1) (v := nI (c0 + 1)) hx hb dX0_nth_46 hl rfl (fr_inc c0) (by decide) rfl (fun ls hl => ?_)
          replace hl : lv_has ls 5 [(3, .int (nI (c0 + 1))), (4, .int (nI i)), (0, .ref (ad 0)), (1, .int (nI j)), (2, .int k)] := hl
          refine lv_iinc (k := 1) (v := nI (i + 1)) hx hb dX0_nth_49 hl rfl (fr_inc i) (by decide) rfl (fun ls hl => ?_)
          replace hl : lv_has ls 5 [(4, .int (nI (i + 1))), (3, .int (nI (c0 + 1))), (0, .ref (ad 0)), (1, .int (nI j)), (2, .int k)] := hl
          refine lv_goto (tgt := 14) hx hb dX0_nth_52 rfl ?_
          exact ih ls (i + 1) (c0 + 1) (by omega) (lv_sub hl [0, 1, 2, 3, 4] rfl) (by rw [← hg]; show _ = (if F j i = true then (if nI c0 = k then _ else _) else _); rw [h3, if_pos rfl, if_neg h4]) (by omega)
        ·
          refine lv_iload hx hb dX0_nth_43 (lv_at hl 0 rfl) ?_
          exact W.iret (v := nI i) hx hb hret (fun t ht hW => ⟨_, rfl, by rw [← hg]; show _ = (if F j i = true then (if nI c0 = k then _ else _) else _); rw [h3, if_pos rfl, if_pos h4], ht⟩) (fun q hq => by cases hq) dX0_nth_45
  ·
    refine lv_if_ne (tgt := 9) hx hb dX0_nth_4 rfl (fun hz => absurd rfl hz) (fun hz => ?_)
    refine lv_iconst (v := (-1)) hx hb dX0_nth_7 (by decide) ?_
    exact W.iret (v := (-1)) hx hb hret (fun t ht hW => ⟨_, rfl, (if_neg (by rw [fr_okB_no (hno)]; decide)).symm, ht⟩) (fun q hq => by cases hq) dX0_nth_8
set_option maxHeartbeats 4000000 in
set_option maxRecDepth 100000 in
theorem cF_matters (l : Launch) (D : va_G) (V : Nat) (ad : Nat → Nat) (ka : Nat → ClassId) (mk : Nat → Int64) (nm pt : Nat → Int32) (ro : Nat → Nat → Int64) (F : fr_F) (hF : fr_XR V F ro) (hV : V < 10) (hV1 : 1 ≤ V) (hinj : fr_inj ad) (r : Int32) : Met l yX0_matters wsF_matters rmF_matters (va_Pc [.ref (ad 0), .int r] (fr_PX D V ad ka mk nm pt ro)) (vp_Si (fun res => res = fr_sMatters V F r)) 0 0 (fun _ => False) := by
  refine Met.ofW (cc := cX0_matters) (maxL := 4) (ret := some .int) (by decide) rfl ?_
  intro p e s m args below meth c s₁ B hml hv
  obtain ⟨rfl, hP, hK, hT⟩ := hv
  have hx := B.exec
  have hb := B.bytes
  have hret := B.returns
  have hw := fun w (h : w ∈ WA) => atoms_spec (ws := wsF_matters) B.pre w (List.mem_cons_of_mem _ h)
  have hown : s.vm.findClass "FunctionRoom" = some m.cls := findClass_of_methodNamed B.named
  have hlocks := B.notSynchronized
  have hS0 : CallFix p m c cX0_matters 4 s _ WA "FunctionRoom" := ⟨hx, hb, hml, hown, hw⟩
  have hl := lv_entry ([.ref (ad 0), .int r]) (n := 4) (Nat.le_of_ble_eq_true rfl)
  rw [lg_entry_eq]
  generalize (lg_sl ([.ref (ad 0), .int r]) ++ List.replicate (4 - (lg_sl ([.ref (ad 0), .int r])).length) Slot.unset).toArray = ls at hl ⊢
  replace hl : lv_has ls 4 [(0, .ref (ad 0)), (1, .int r)] := hl
  have hw8 := (fr_wn_le V hV).2.1
  have h512 := fr_pow512 hV
  have hS : va_S (fr_A ad) s.heap s.heap [] := va_S.rf
  refine lv_iload_n hx hb dX0_matters_0 rfl (lv_at hl 1 rfl) ?_
  refine fr_cSi (As := [.int r]) hS0 (cF_isRegister l r) (cw_F_isRegister hw ⟨Nat.le_of_ble_eq_true rfl, Nat.le_of_ble_eq_true rfl⟩) (fr_pre0) rfl hl.1 rfl (Nat.le_of_ble_eq_true rfl) dX0_matters_1 ⟨Nat.zero_le _, Nat.zero_le _⟩ (fun b0 hb0 => ?_)
  rcases hb0 with ⟨rfl, hOj⟩ | ⟨rfl, hno⟩
  ·
    refine lv_if_ne (tgt := 9) hx hb dX0_matters_4 rfl (fun hz => ?_) (fun hz => absurd hz (by decide))
    obtain ⟨j, hLj, rfl⟩ := fr_ok_ex (by decide) hOj
    refine lv_iconst (v := 0) hx hb dX0_matters_9 (by decide) ?_
    refine lv_istore_n hx hb dX0_matters_10 rfl hl (by decide) rfl (fun ls hl => ?_)
    replace hl : lv_has ls 4 [(2, .int 0), (0, .ref (ad 0)), (1, .int (nI j))] := hl
    refine lv_iconst (v := 0) hx hb dX0_matters_11 (by decide) ?_
    refine lv_istore_n hx hb dX0_matters_12 rfl hl (by decide) rfl (fun ls hl => ?_)
    replace hl : lv_has ls 4 [(3, .int 0), (2, .int 0), (0, .ref (ad 0)), (1, .int (nI j))] := hl
    obtain ⟨n, i, hin, hi0⟩ : ∃ n i : Nat, i + n = V ∧ i = 0 := ⟨V, 0, Nat.zero_add _, rfl⟩
    replace hl : lv_has ls 4 [(3, .int (nI i)), (2, .int (nI (fr_mt V (F j) i))), (0, .ref (ad 0)), (1, .int (nI j))] := by rw [hi0]; exact hl
    clear hi0
    induction n generalizing i ls  with
    | zero =>
      refine lv_iload_n hx hb dX0_matters_13 rfl (lv_at hl 0 rfl) ?_
      refine lv_aload_n hx hb dX0_matters_14 rfl (lv_at hl 2 rfl) ?_
      refine fr_gX 0 hx hb hw hown hK hP (by decide) mF_variables rfl dX0_matters_15 ?_
      refine lv_icmp_ge (tgt := 47) hx hb dX0_matters_18 rfl (fun hcm => ?_) (fun hcm => absurd (nI_le (show V ≤ i by omega) (by omega)) hcm)
      refine lv_iload_n hx hb dX0_matters_47 rfl (lv_at hl 1 rfl) ?_
      exact W.iret (v := nI (fr_mt V (F j) i)) hx hb hret (fun t ht hW => ⟨_, rfl, by unfold fr_sMatters; rw [if_pos (fr_okB_nI hLj (by decide)), fr_v_nI (show j < 2 ^ 31 by omega), show i = V by omega], ht⟩) (fun q hq => by cases hq) dX0_matters_48
    | succ n ih =>
      refine lv_iload_n hx hb dX0_matters_13 rfl (lv_at hl 0 rfl) ?_
      refine lv_aload_n hx hb dX0_matters_14 rfl (lv_at hl 2 rfl) ?_
      refine fr_gX 0 hx hb hw hown hK hP (by decide) mF_variables rfl dX0_matters_15 ?_
      refine lv_icmp_ge (tgt := 47) hx hb dX0_matters_18 rfl (fun hcm => absurd hcm (nI_ge (show i < V by omega) (by omega))) (fun hcm => ?_)
      have hi : i < V := by omega
      have hdp := fr_R_dep hV hi (hF j hLj)
      refine lv_aload_n hx hb dX0_matters_21 rfl (lv_at hl 2 rfl) ?_
      refine lv_aload_n hx hb dX0_matters_22 rfl (lv_at hl 2 rfl) ?_
      refine fr_gX 4 hx hb hw hown hK hP (by decide) mF_rows rfl dX0_matters_23 ?_
      refine lv_iload_n hx hb dX0_matters_26 rfl (lv_at hl 3 rfl) ?_
      refine fr_aald hx hb hK hP 1 0 rfl rfl hLj (by decide) rfl dX0_matters_27 ?_
      refine lv_iload_n hx hb dX0_matters_28 rfl (lv_at hl 0 rfl) ?_
      refine fr_Xi (As := [.ref (ad (j + 5)), .int (nI i)]) hS0 (cF_dependsOn l D V ad ka mk nm pt ro (j + 5) 1 (ad (j + 5)) (ka 1) (ro j) (fr_row hLj) rfl i hi hV) (cw_F_dependsOn hw ⟨Nat.le_of_ble_eq_true rfl, Nat.le_of_ble_eq_true rfl⟩) hK hP hT hS rfl hl.1 rfl (Nat.le_of_ble_eq_true rfl) dX0_matters_29 ⟨Nat.zero_le _, Nat.zero_le _⟩ (fun b2 hb2 => ?_)
      rcases hb2 with ⟨rfl, hd⟩ | ⟨rfl, hd⟩
      ·
        have he : fr_eqB V (F j) (fun x => F j (x ^^^ 2 ^ (V - 1 - i))) = false := decide_eq_false (fun z => hd (hdp.mpr z))
        refine lv_if_eq (tgt := 41) hx hb dX0_matters_32 rfl (fun hz => absurd hz (by decide)) (fun hz => ?_)
        refine lv_iload_n hx hb dX0_matters_35 rfl (lv_at hl 1 rfl) ?_
        refine lv_iconst (v := 1) hx hb dX0_matters_36 (by decide) ?_
        refine lv_iload_n hx hb dX0_matters_37 rfl (lv_at hl 0 rfl) ?_
        refine lv_ishl hx hb dX0_matters_38 ?_
        refine lv_ior hx hb dX0_matters_39 ?_
        refine fr_top (show ((nI (fr_mt V (F j) i) ||| (1 <<< (nI i &&& 31))) : Int32) = nI (fr_mt V (F j) (i + 1)) from by rw [fr_shl1 i (by omega)]; exact fr_mtor he) ?_
        refine lv_istore_n hx hb dX0_matters_40 rfl hl (by decide) rfl (fun ls hl => ?_)
        replace hl : lv_has ls 4 [(2, .int (nI (fr_mt V (F j) (i + 1)))), (3, .int (nI i)), (0, .ref (ad 0)), (1, .int (nI j))] := hl
        refine lv_iinc (k := 1) (v := nI (i + 1)) hx hb dX0_matters_41 hl rfl (fr_inc i) (by decide) rfl (fun ls hl => ?_)
        replace hl : lv_has ls 4 [(3, .int (nI (i + 1))), (2, .int (nI (fr_mt V (F j) (i + 1)))), (0, .ref (ad 0)), (1, .int (nI j))] := hl
        refine lv_goto (tgt := 13) hx hb dX0_matters_44 rfl ?_
        exact ih ls (i + 1) (by omega) (lv_sub hl [0, 1, 2, 3] rfl)
      ·
        have he : fr_eqB V (F j) (fun x => F j (x ^^^ 2 ^ (V - 1 - i))) = true := decide_eq_true (hdp.mp hd)
        refine lv_if_eq (tgt := 41) hx hb dX0_matters_32 rfl (fun hz => ?_) (fun hz => absurd rfl hz)
        refine lv_iinc (k := 0) (v := nI (i + 1)) hx hb dX0_matters_41 hl rfl (fr_inc i) (by decide) rfl (fun ls hl => ?_)
        replace hl : lv_has ls 4 [(3, .int (nI (i + 1))), (2, .int (nI (fr_mt V (F j) i))), (0, .ref (ad 0)), (1, .int (nI j))] := hl
        refine lv_goto (tgt := 13) hx hb dX0_matters_44 rfl ?_
        have hmt : fr_mt V (F j) (i + 1) = fr_mt V (F j) i := by show fr_mt V (F j) i + (if fr_eqB V (F j) (fun x => F j (x ^^^ 2 ^ (V - 1 - i))) = true then 0 else 2 ^ i) = _; rw [he]; rfl
        exact ih ls (i + 1) (by omega) (by rw [hmt]; exact lv_sub hl [0, 1, 2, 3] rfl)
  ·
    refine lv_if_ne (tgt := 9) hx hb dX0_matters_4 rfl (fun hz => absurd rfl hz) (fun hz => ?_)
    refine lv_iconst (v := (-1)) hx hb dX0_matters_7 (by decide) ?_
    exact W.iret (v := (-1)) hx hb hret (fun t ht hW => ⟨_, rfl, (if_neg (by rw [fr_okB_no (hno)]; decide)).symm, ht⟩) (fun q hq => by cases hq) dX0_matters_8
