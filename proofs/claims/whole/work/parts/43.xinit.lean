set_option maxHeartbeats 4000000 in
set_option maxRecDepth 100000 in
theorem cF_init (l : Launch) (D : va_G) (h0 sz : Nat) (v : Int32) : Met l yX0_init wsF_init rmF_init (va_Pc [.ref h0, .int v] (fun U => U.heap.size = sz ∧ va_P D vwCl [(h0, .inr (CIF, [.int 0, .int 0, .int 0, .long 0, .null, .null, .null, .null]))] U.heap ∧ va_K D vwCl [] U ∧ fm_ov .long U)) (va_Qv (fun u : (Nat → Nat) × (Nat → ClassId) => u.1 0 = h0 ∧ fr_inj u.1 ∧ ∀ i, i < 37 → va_A [(h0, .inr (CIF, [.int 0, .int 0, .int 0, .long 0, .null, .null, .null, .null]))] sz (u.1 i)) (fun u t => va_P D vwCl (fr_xw (fr_cl v) u.1 u.2 (fun _ => 0) (fun _ => 0) (fun _ => 0) (fun _ _ => 0)) t.heap ∧ va_K D vwCl (fr_ty u.2) t) (va_A [(h0, .inr (CIF, [.int 0, .int 0, .int 0, .long 0, .null, .null, .null, .null]))] sz)) 36 1400 (va_A [(h0, .inr (CIF, [.int 0, .int 0, .int 0, .long 0, .null, .null, .null, .null]))] sz) := by
  refine Met.ofW (cc := cX0_init) (maxL := 2) (ret := none) (by decide) rfl ?_
  intro p e s m args below meth c s₁ B hml hv
  obtain ⟨rfl, hsz, hP, hK, hov⟩ := hv
  have hx := B.exec
  have hb := B.bytes
  have hret := B.returns
  have hw := fun w (h : w ∈ WA) => atoms_spec (ws := wsF_init) B.pre w (List.mem_cons_of_mem _ h)
  have hown : s.vm.findClass "FunctionRoom" = some m.cls := findClass_of_methodNamed B.named
  have hlocks := B.notSynchronized
  have hin : meth.name = "<init>" := (name_of_methodNamed B.named B.method).1
  have hS0 : CallFix p m c cX0_init 2 s _ WA "FunctionRoom" := ⟨hx, hb, hml, hown, hw⟩
  subst hsz
  have hD := (fr_D1 (h0, (.inr (CIF, [.int 0, .int 0, .int 0, .long 0, .null, .null, .null, .null]) : va_E))).self (sz := s.heap.size)
  generalize hAe : va_A [(h0, .inr (CIF, [.int 0, .int 0, .int 0, .long 0, .null, .null, .null, .null]))] s.heap.size = A at hD ⊢
  have hA : ∀ q : Nat, s.heap.size ≤ q → A q := fun q h => by rw [← hAe]; exact Or.inr h
  have hS : va_S A s.heap s.heap [] := va_S.rf
  have hl := lv_entry ([.ref h0, .int v]) (n := 2) (Nat.le_of_ble_eq_true rfl)
  rw [lg_entry_eq]
  generalize (lg_sl ([.ref h0, .int v]) ++ List.replicate (2 - (lg_sl ([.ref h0, .int v])).length) Slot.unset).toArray = ls at hl ⊢
  replace hl : lv_has ls 2 [(0, .ref h0), (1, .int v)] := hl
  obtain ⟨hV1, hV⟩ := fr_cl_le v
  have hw8 := (fr_wn_le (fr_cl v) hV).2.1
  have h512 := fr_pow512 hV
  refine lv_aload_n hx hb dX0_init_0 rfl (lv_at hl 0 rfl) ?_
  refine W.objInit hx hb hown (hw _ mM_F_objinit) (hw _ mV_objinit) (hw _ mO_objinit) rfl (by rw [hml]; exact hl.1) rfl dX0_init_1 (Nat.le_of_ble_eq_true rfl) (Nat.le_of_ble_eq_true rfl) ?_
  refine W.eq (g2 := F0 m 4 ls []) rfl ?_
  refine lv_aload_n hx hb dX0_init_4 rfl (lv_at hl 0 rfl) ?_
  refine lv_iconst (v := 1) hx hb dX0_init_5 (by decide) ?_
  refine lv_bipush (v := 9) hx hb dX0_init_6 (by decide) ?_
  refine lv_iload_n hx hb dX0_init_8 rfl (lv_at hl 1 rfl) ?_
  refine va_mmin hx hb (by rw [hml, hl.1]) hown (hw _ mM_F_min) (hw _ mS_min) (hw _ mI_Math) (hw _ mO_min) (Nat.le_of_ble_eq_true rfl) (Nat.le_of_ble_eq_true rfl) (Nat.zero_le _) (Nat.zero_le _) dX0_init_9 ?_
  refine va_mmax hx hb (by rw [hml, hl.1]) hown (hw _ mM_F_max) (hw _ mS_max) (hw _ mI_Math) (hw _ mO_max) (Nat.le_of_ble_eq_true rfl) (Nat.le_of_ble_eq_true rfl) (Nat.zero_le _) (Nat.zero_le _) dX0_init_12 ?_
  refine fr_top (fr_clX v) ?_
  refine va_putF (D := D) (ci := CIF) (v := .int (nI (fr_cl v))) (ty := .int) (C := "FunctionRoom") (T := TF) (N := 8) hx hb hw hinF tyX0 tyX0_ok nmX0 hown hK hP hD hS 0 rfl rfl 0 (by decide) (hw _ mF_variables) (fun _ h9 => h9) rfl hin rfl (by decide +kernel) rfl rfl (Nat.le_of_ble_eq_true rfl) dX0_init_15 (fun H locs hP hD hS => ?_)
  replace hP : va_P D vwCl [(h0, .inr (CIF, [.int (nI (fr_cl v)), .int 0, .int 0, .long 0, .null, .null, .null, .null]))] H := hP
  replace hD : va_D A [(h0, .inr (CIF, [.int (nI (fr_cl v)), .int 0, .int 0, .long 0, .null, .null, .null, .null]))] := hD
  refine lv_aload_n hx hb dX0_init_18 rfl (lv_at hl 0 rfl) ?_
  refine lv_iconst (v := 1) hx hb dX0_init_19 (by decide) ?_
  refine lv_aload_n hx hb dX0_init_20 rfl (lv_at hl 0 rfl) ?_
  refine va_get (D := D) (ci := CIF) (v := .int (nI (fr_cl v))) (C := "FunctionRoom") (T := TF) (N := 8) hx hb hw hinF hown hK hP 0 rfl rfl 0 (by decide) (hw _ mF_variables) (fun _ h9 => h9) rfl dX0_init_21 ?_
  refine lv_ishl hx hb dX0_init_24 ?_
  refine fr_top (show ((1 <<< (nI (fr_cl v) &&& 31)) : Int32) = nI (2 ^ fr_cl v) from fr_shl1 _ hV) ?_
  refine va_putF (D := D) (ci := CIF) (v := .int (nI (2 ^ fr_cl v))) (ty := .int) (C := "FunctionRoom") (T := TF) (N := 8) hx hb hw hinF tyX0 tyX0_ok nmX0 hown hK hP hD hS 0 rfl rfl 1 (by decide) (hw _ mF_assignments) (fun _ h9 => h9) rfl hin rfl (by decide +kernel) rfl rfl (Nat.le_of_ble_eq_true rfl) dX0_init_25 (fun H locs hP hD hS => ?_)
  replace hP : va_P D vwCl [(h0, .inr (CIF, [.int (nI (fr_cl v)), .int (nI (2 ^ fr_cl v)), .int 0, .long 0, .null, .null, .null, .null]))] H := hP
  replace hD : va_D A [(h0, .inr (CIF, [.int (nI (fr_cl v)), .int (nI (2 ^ fr_cl v)), .int 0, .long 0, .null, .null, .null, .null]))] := hD
  refine lv_aload_n hx hb dX0_init_28 rfl (lv_at hl 0 rfl) ?_
  refine lv_iconst (v := 1) hx hb dX0_init_29 (by decide) ?_
  refine lv_aload_n hx hb dX0_init_30 rfl (lv_at hl 0 rfl) ?_
  refine va_get (D := D) (ci := CIF) (v := .int (nI (2 ^ fr_cl v))) (C := "FunctionRoom") (T := TF) (N := 8) hx hb hw hinF hown hK hP 0 rfl rfl 1 (by decide) (hw _ mF_assignments) (fun _ h9 => h9) rfl dX0_init_31 ?_
  refine lv_bipush (v := 6) hx hb dX0_init_34 (by decide) ?_
  refine lv_ishr hx hb dX0_init_36 ?_
  refine va_mmax hx hb (by rw [hml, hl.1]) hown (hw _ mM_F_max) (hw _ mS_max) (hw _ mI_Math) (hw _ mO_max) (Nat.le_of_ble_eq_true rfl) (Nat.le_of_ble_eq_true rfl) (Nat.zero_le _) (Nat.zero_le _) dX0_init_37 ?_
  refine fr_top (fr_wnX _ hV) ?_
  refine va_putF (D := D) (ci := CIF) (v := .int (nI (fr_wn (fr_cl v)))) (ty := .int) (C := "FunctionRoom") (T := TF) (N := 8) hx hb hw hinF tyX0 tyX0_ok nmX0 hown hK hP hD hS 0 rfl rfl 2 (by decide) (hw _ mF_words) (fun _ h9 => h9) rfl hin rfl (by decide +kernel) rfl rfl (Nat.le_of_ble_eq_true rfl) dX0_init_40 (fun H locs hP hD hS => ?_)
  replace hP : va_P D vwCl [(h0, .inr (CIF, [.int (nI (fr_cl v)), .int (nI (2 ^ fr_cl v)), .int (nI (fr_wn (fr_cl v))), .long 0, .null, .null, .null, .null]))] H := hP
  replace hD : va_D A [(h0, .inr (CIF, [.int (nI (fr_cl v)), .int (nI (2 ^ fr_cl v)), .int (nI (fr_wn (fr_cl v))), .long 0, .null, .null, .null, .null]))] := hD
  refine lv_aload_n hx hb dX0_init_43 rfl (lv_at hl 0 rfl) ?_
  refine lv_aload_n hx hb dX0_init_44 rfl (lv_at hl 0 rfl) ?_
  refine va_get (D := D) (ci := CIF) (v := .int (nI (fr_cl v))) (C := "FunctionRoom") (T := TF) (N := 8) hx hb hw hinF hown hK hP 0 rfl rfl 0 (by decide) (hw _ mF_variables) (fun _ h9 => h9) rfl dX0_init_45 ?_
  refine lv_bipush (v := 6) hx hb dX0_init_48 (by decide) ?_
  refine lv_icmp_ge (tgt := 64) hx hb dX0_init_50 rfl (fun h6 => ?_) (fun h6 => ?_)
  ·
    refine lv_ldc2 (v := (-1)) hx hb hown (hw _ mC_F_28) dX0_init_64 ?_
    refine fr_topl (show ((-1) : Int64) = fr_pl (fr_cl v) from by unfold fr_pl; rw [if_neg (fun z => absurd h6 (nI_ge z (by decide)))]) ?_
    refine va_putF (D := D) (ci := CIF) (v := .long (fr_pl (fr_cl v))) (ty := .long) (C := "FunctionRoom") (T := TF) (N := 8) hx hb hw hinF tyX0 tyX0_ok nmX0 hown hK hP hD hS 0 rfl rfl 3 (by decide) (hw _ mF_places) (fun _ h9 => h9) rfl hin rfl (by decide +kernel) rfl rfl (Nat.le_of_ble_eq_true rfl) dX0_init_67 (fun H locs hP hD hS => ?_)
    replace hP : va_P D vwCl [(h0, .inr (CIF, [.int (nI (fr_cl v)), .int (nI (2 ^ fr_cl v)), .int (nI (fr_wn (fr_cl v))), .long (fr_pl (fr_cl v)), .null, .null, .null, .null]))] H := hP
    replace hD : va_D A [(h0, .inr (CIF, [.int (nI (fr_cl v)), .int (nI (2 ^ fr_cl v)), .int (nI (fr_wn (fr_cl v))), .long (fr_pl (fr_cl v)), .null, .null, .null, .null]))] := hD
    refine lv_aload_n hx hb dX0_init_70 rfl (lv_at hl 0 rfl) ?_
    refine lv_bipush (v := 32) hx hb dX0_init_71 (by decide) ?_
    refine lv_aload_n hx hb dX0_init_73 rfl (lv_at hl 0 rfl) ?_
    refine va_get (D := D) (ci := CIF) (v := .int (nI (fr_wn (fr_cl v)))) (C := "FunctionRoom") (T := TF) (N := 8) hx hb hw hinF hown hK hP 0 rfl rfl 2 (by decide) (hw _ mF_words) (fun _ h9 => h9) rfl dX0_init_74 ?_
    refine fr_mna (K := fr_wn (fr_cl v)) hx hb hown (hw _ mK_F) hov (hw _ mA_long) hK hP hD hS hA hw8 (Nat.le_of_ble_eq_true rfl) (show 0 + (32 + 32 * fr_wn (fr_cl v)) ≤ 1400 by omega) dX0_init_77 (fun q cA comp H hK hP hD hS => ?_)
    refine va_putF (D := D) (ci := CIF) (v := .ref q) (ty := .array (.array .long)) (C := "FunctionRoom") (T := TF) (N := 8) hx hb hw hinF tyX0 tyX0_ok nmX0 hown hK hP hD hS 0 rfl rfl 4 (by decide) (hw _ mF_rows) (fun _ h9 => h9) rfl hin rfl (by decide +kernel) rfl rfl (Nat.le_of_ble_eq_true rfl) dX0_init_81 (fun H locs hP hD hS => ?_)
    replace hP : va_P D vwCl (fr_w2 [.int (nI (fr_cl v)), .int (nI (2 ^ fr_cl v)), .int (nI (fr_wn (fr_cl v))), .long (fr_pl (fr_cl v)), .ref q, .null, .null, .null] h0 q (fr_wn (fr_cl v)) cA comp) H := hP
    replace hD : va_D A (fr_w2 [.int (nI (fr_cl v)), .int (nI (2 ^ fr_cl v)), .int (nI (fr_wn (fr_cl v))), .long (fr_pl (fr_cl v)), .ref q, .null, .null, .null] h0 q (fr_wn (fr_cl v)) cA comp) := hD
    refine lv_aload_n hx hb dX0_init_84 rfl (lv_at hl 0 rfl) ?_
    refine lv_aload_n hx hb dX0_init_85 rfl (lv_at hl 0 rfl) ?_
    refine va_get (D := D) (ci := CIF) (v := .int (nI (fr_wn (fr_cl v)))) (C := "FunctionRoom") (T := TF) (N := 8) hx hb hw hinF hown hK hP 0 rfl rfl 2 (by decide) (hw _ mF_words) (fun _ h9 => h9) rfl dX0_init_86 ?_
    refine va_newa (atype := .long) (ty := .long) (a0 := (fr_wn (fr_cl v), .inr (.inl (fun _ => 0)))) (N' := fr_wn (fr_cl v)) hx hb (hw _ mA_long) rfl hK hP hD hS hA fr_zeroL (nI_pos (by omega)) (nI_clamp (by omega)) (by show _ * 8 ≤ _; omega) (Nat.le_of_ble_eq_true rfl) (show 0 + (32 + 32 * fr_wn (fr_cl v)) + fr_wn (fr_cl v) ≤ 1400 by omega) dX0_init_89 (fun q3 c3 H hK hP hD hS => ?_)
    replace hP : va_P D vwCl ((fr_w2 [.int (nI (fr_cl v)), .int (nI (2 ^ fr_cl v)), .int (nI (fr_wn (fr_cl v))), .long (fr_pl (fr_cl v)), .ref q, .null, .null, .null] h0 q (fr_wn (fr_cl v)) cA comp) ++ [(q3, .inl (c3, (fr_wn (fr_cl v), .inr (.inl (fun _ => 0)))))]) H := hP
    replace hD : va_D A ((fr_w2 [.int (nI (fr_cl v)), .int (nI (2 ^ fr_cl v)), .int (nI (fr_wn (fr_cl v))), .long (fr_pl (fr_cl v)), .ref q, .null, .null, .null] h0 q (fr_wn (fr_cl v)) cA comp) ++ [(q3, .inl (c3, (fr_wn (fr_cl v), .inr (.inl (fun _ => 0)))))]) := hD
    replace hK : va_K D vwCl [(cA, .array .long), (comp, .long), (c3, .long)] s := hK
    refine va_putF (D := D) (ci := CIF) (v := .ref q3) (ty := .array .long) (C := "FunctionRoom") (T := TF) (N := 8) hx hb hw hinF tyX0 tyX0_ok nmX0 hown hK hP hD hS 0 rfl rfl 5 (by decide) (hw _ mF_made) (fun _ h9 => h9) rfl hin rfl (by decide +kernel) rfl rfl (Nat.le_of_ble_eq_true rfl) dX0_init_91 (fun H locs hP hD hS => ?_)
    replace hP : va_P D vwCl ((fr_w2 [.int (nI (fr_cl v)), .int (nI (2 ^ fr_cl v)), .int (nI (fr_wn (fr_cl v))), .long (fr_pl (fr_cl v)), .ref q, .ref q3, .null, .null] h0 q (fr_wn (fr_cl v)) cA comp) ++ [(q3, .inl (c3, (fr_wn (fr_cl v), .inr (.inl (fun _ => 0)))))]) H := hP
    replace hD : va_D A ((fr_w2 [.int (nI (fr_cl v)), .int (nI (2 ^ fr_cl v)), .int (nI (fr_wn (fr_cl v))), .long (fr_pl (fr_cl v)), .ref q, .ref q3, .null, .null] h0 q (fr_wn (fr_cl v)) cA comp) ++ [(q3, .inl (c3, (fr_wn (fr_cl v), .inr (.inl (fun _ => 0)))))]) := hD
    refine lv_aload_n hx hb dX0_init_94 rfl (lv_at hl 0 rfl) ?_
    refine lv_aload_n hx hb dX0_init_95 rfl (lv_at hl 0 rfl) ?_
    refine va_get (D := D) (ci := CIF) (v := .int (nI (2 ^ fr_cl v))) (C := "FunctionRoom") (T := TF) (N := 8) hx hb hw hinF hown hK hP 0 rfl rfl 1 (by decide) (hw _ mF_assignments) (fun _ h9 => h9) rfl dX0_init_96 ?_
    refine va_newa (atype := .int) (ty := .int) (a0 := (2 ^ fr_cl v, .inl (fun _ => 0))) (N' := 2 ^ fr_cl v) hx hb (hw _ mA_int) rfl hK hP hD hS hA fr_zeroI (nI_pos (by omega)) (nI_clamp (by omega)) (by show _ * 4 ≤ _; omega) (Nat.le_of_ble_eq_true rfl) (show 0 + (32 + 32 * fr_wn (fr_cl v)) + fr_wn (fr_cl v) + 2 ^ fr_cl v ≤ 1400 by omega) dX0_init_99 (fun q4 c4 H hK hP hD hS => ?_)
    replace hP : va_P D vwCl (((fr_w2 [.int (nI (fr_cl v)), .int (nI (2 ^ fr_cl v)), .int (nI (fr_wn (fr_cl v))), .long (fr_pl (fr_cl v)), .ref q, .ref q3, .null, .null] h0 q (fr_wn (fr_cl v)) cA comp) ++ [(q3, .inl (c3, (fr_wn (fr_cl v), .inr (.inl (fun _ => 0)))))]) ++ [(q4, .inl (c4, (2 ^ fr_cl v, .inl (fun _ => 0))))]) H := hP
    replace hD : va_D A (((fr_w2 [.int (nI (fr_cl v)), .int (nI (2 ^ fr_cl v)), .int (nI (fr_wn (fr_cl v))), .long (fr_pl (fr_cl v)), .ref q, .ref q3, .null, .null] h0 q (fr_wn (fr_cl v)) cA comp) ++ [(q3, .inl (c3, (fr_wn (fr_cl v), .inr (.inl (fun _ => 0)))))]) ++ [(q4, .inl (c4, (2 ^ fr_cl v, .inl (fun _ => 0))))]) := hD
    replace hK : va_K D vwCl [(cA, .array .long), (comp, .long), (c3, .long), (c4, .int)] s := hK
    refine va_putF (D := D) (ci := CIF) (v := .ref q4) (ty := .array .int) (C := "FunctionRoom") (T := TF) (N := 8) hx hb hw hinF tyX0 tyX0_ok nmX0 hown hK hP hD hS 0 rfl rfl 6 (by decide) (hw _ mF_names) (fun _ h9 => h9) rfl hin rfl (by decide +kernel) rfl rfl (Nat.le_of_ble_eq_true rfl) dX0_init_101 (fun H locs hP hD hS => ?_)
    replace hP : va_P D vwCl (((fr_w2 [.int (nI (fr_cl v)), .int (nI (2 ^ fr_cl v)), .int (nI (fr_wn (fr_cl v))), .long (fr_pl (fr_cl v)), .ref q, .ref q3, .ref q4, .null] h0 q (fr_wn (fr_cl v)) cA comp) ++ [(q3, .inl (c3, (fr_wn (fr_cl v), .inr (.inl (fun _ => 0)))))]) ++ [(q4, .inl (c4, (2 ^ fr_cl v, .inl (fun _ => 0))))]) H := hP
    replace hD : va_D A (((fr_w2 [.int (nI (fr_cl v)), .int (nI (2 ^ fr_cl v)), .int (nI (fr_wn (fr_cl v))), .long (fr_pl (fr_cl v)), .ref q, .ref q3, .ref q4, .null] h0 q (fr_wn (fr_cl v)) cA comp) ++ [(q3, .inl (c3, (fr_wn (fr_cl v), .inr (.inl (fun _ => 0)))))]) ++ [(q4, .inl (c4, (2 ^ fr_cl v, .inl (fun _ => 0))))]) := hD
    refine lv_aload_n hx hb dX0_init_104 rfl (lv_at hl 0 rfl) ?_
    refine lv_aload_n hx hb dX0_init_105 rfl (lv_at hl 0 rfl) ?_
    refine va_get (D := D) (ci := CIF) (v := .int (nI (2 ^ fr_cl v))) (C := "FunctionRoom") (T := TF) (N := 8) hx hb hw hinF hown hK hP 0 rfl rfl 1 (by decide) (hw _ mF_assignments) (fun _ h9 => h9) rfl dX0_init_106 ?_
    refine va_newa (atype := .int) (ty := .int) (a0 := (2 ^ fr_cl v, .inl (fun _ => 0))) (N' := 2 ^ fr_cl v) hx hb (hw _ mA_int) rfl hK hP hD hS hA fr_zeroI (nI_pos (by omega)) (nI_clamp (by omega)) (by show _ * 4 ≤ _; omega) (Nat.le_of_ble_eq_true rfl) (show 0 + (32 + 32 * fr_wn (fr_cl v)) + fr_wn (fr_cl v) + 2 ^ fr_cl v + 2 ^ fr_cl v ≤ 1400 by omega) dX0_init_109 (fun q5 c5 H hK hP hD hS => ?_)
    replace hP : va_P D vwCl ((((fr_w2 [.int (nI (fr_cl v)), .int (nI (2 ^ fr_cl v)), .int (nI (fr_wn (fr_cl v))), .long (fr_pl (fr_cl v)), .ref q, .ref q3, .ref q4, .null] h0 q (fr_wn (fr_cl v)) cA comp) ++ [(q3, .inl (c3, (fr_wn (fr_cl v), .inr (.inl (fun _ => 0)))))]) ++ [(q4, .inl (c4, (2 ^ fr_cl v, .inl (fun _ => 0))))]) ++ [(q5, .inl (c5, (2 ^ fr_cl v, .inl (fun _ => 0))))]) H := hP
    replace hD : va_D A ((((fr_w2 [.int (nI (fr_cl v)), .int (nI (2 ^ fr_cl v)), .int (nI (fr_wn (fr_cl v))), .long (fr_pl (fr_cl v)), .ref q, .ref q3, .ref q4, .null] h0 q (fr_wn (fr_cl v)) cA comp) ++ [(q3, .inl (c3, (fr_wn (fr_cl v), .inr (.inl (fun _ => 0)))))]) ++ [(q4, .inl (c4, (2 ^ fr_cl v, .inl (fun _ => 0))))]) ++ [(q5, .inl (c5, (2 ^ fr_cl v, .inl (fun _ => 0))))]) := hD
    replace hK : va_K D vwCl [(cA, .array .long), (comp, .long), (c3, .long), (c4, .int), (c5, .int)] s := hK
    refine va_putF (D := D) (ci := CIF) (v := .ref q5) (ty := .array .int) (C := "FunctionRoom") (T := TF) (N := 8) hx hb hw hinF tyX0 tyX0_ok nmX0 hown hK hP hD hS 0 rfl rfl 7 (by decide) (hw _ mF_parts) (fun _ h9 => h9) rfl hin rfl (by decide +kernel) rfl rfl (Nat.le_of_ble_eq_true rfl) dX0_init_111 (fun H locs hP hD hS => ?_)
    replace hP : va_P D vwCl ((((fr_w2 [.int (nI (fr_cl v)), .int (nI (2 ^ fr_cl v)), .int (nI (fr_wn (fr_cl v))), .long (fr_pl (fr_cl v)), .ref q, .ref q3, .ref q4, .ref q5] h0 q (fr_wn (fr_cl v)) cA comp) ++ [(q3, .inl (c3, (fr_wn (fr_cl v), .inr (.inl (fun _ => 0)))))]) ++ [(q4, .inl (c4, (2 ^ fr_cl v, .inl (fun _ => 0))))]) ++ [(q5, .inl (c5, (2 ^ fr_cl v, .inl (fun _ => 0))))]) H := hP
    replace hD : va_D A ((((fr_w2 [.int (nI (fr_cl v)), .int (nI (2 ^ fr_cl v)), .int (nI (fr_wn (fr_cl v))), .long (fr_pl (fr_cl v)), .ref q, .ref q3, .ref q4, .ref q5] h0 q (fr_wn (fr_cl v)) cA comp) ++ [(q3, .inl (c3, (fr_wn (fr_cl v), .inr (.inl (fun _ => 0)))))]) ++ [(q4, .inl (c4, (2 ^ fr_cl v, .inl (fun _ => 0))))]) ++ [(q5, .inl (c5, (2 ^ fr_cl v, .inl (fun _ => 0))))]) := hD
    replace hP : va_P D vwCl (fr_Wf (fr_cl v) h0 q q3 q4 q5 cA comp c3 c4 c5) H := hP
    replace hD : va_D A (fr_Wf (fr_cl v) h0 q q3 q4 q5 cA comp c3 c4 c5) := hD
    refine W.widen (k := 36) (n := 1400) (by omega) (by omega) ?_
    exact W.vret hx hb hret (fun t ht hW => ⟨⟨(fr_adX h0 q q3 q4 q5, fr_kaX cA comp c3 c4 c5), rfl, ⟨rfl, fr_fin_inj hD, fr_fin_in hD⟩, by rw [ht]; exact fr_fin_P hP, va_K.moved hW.alike hK⟩, hS.F ht⟩) hS.2.2 dX0_init_114
  ·
    refine lv_lconst (v := 1) hx hb dX0_init_53 (by decide) ?_
    refine lv_aload_n hx hb dX0_init_54 rfl (lv_at hl 0 rfl) ?_
    refine va_get (D := D) (ci := CIF) (v := .int (nI (2 ^ fr_cl v))) (C := "FunctionRoom") (T := TF) (N := 8) hx hb hw hinF hown hK hP 0 rfl rfl 1 (by decide) (hw _ mF_assignments) (fun _ h9 => h9) rfl dX0_init_55 ?_
    refine lv_lshl hx hb dX0_init_58 rfl ?_
    refine lv_lconst (v := 1) hx hb dX0_init_59 (by decide) ?_
    refine lv_lsub hx hb dX0_init_60 ?_
    refine lv_goto (tgt := 67) hx hb dX0_init_61 rfl ?_
    refine fr_topl (show (((1 <<< ((nI (2 ^ fr_cl v)).toInt64 &&& 63)) - 1) : Int64) = fr_pl (fr_cl v) from fr_plX _ (Nat.lt_of_not_le fun z => h6 (nI_le z (by omega)))) ?_
    refine va_putF (D := D) (ci := CIF) (v := .long (fr_pl (fr_cl v))) (ty := .long) (C := "FunctionRoom") (T := TF) (N := 8) hx hb hw hinF tyX0 tyX0_ok nmX0 hown hK hP hD hS 0 rfl rfl 3 (by decide) (hw _ mF_places) (fun _ h9 => h9) rfl hin rfl (by decide +kernel) rfl rfl (Nat.le_of_ble_eq_true rfl) dX0_init_67 (fun H locs hP hD hS => ?_)
    replace hP : va_P D vwCl [(h0, .inr (CIF, [.int (nI (fr_cl v)), .int (nI (2 ^ fr_cl v)), .int (nI (fr_wn (fr_cl v))), .long (fr_pl (fr_cl v)), .null, .null, .null, .null]))] H := hP
    replace hD : va_D A [(h0, .inr (CIF, [.int (nI (fr_cl v)), .int (nI (2 ^ fr_cl v)), .int (nI (fr_wn (fr_cl v))), .long (fr_pl (fr_cl v)), .null, .null, .null, .null]))] := hD
    refine lv_aload_n hx hb dX0_init_70 rfl (lv_at hl 0 rfl) ?_
    refine lv_bipush (v := 32) hx hb dX0_init_71 (by decide) ?_
    refine lv_aload_n hx hb dX0_init_73 rfl (lv_at hl 0 rfl) ?_
    refine va_get (D := D) (ci := CIF) (v := .int (nI (fr_wn (fr_cl v)))) (C := "FunctionRoom") (T := TF) (N := 8) hx hb hw hinF hown hK hP 0 rfl rfl 2 (by decide) (hw _ mF_words) (fun _ h9 => h9) rfl dX0_init_74 ?_
    refine fr_mna (K := fr_wn (fr_cl v)) hx hb hown (hw _ mK_F) hov (hw _ mA_long) hK hP hD hS hA hw8 (Nat.le_of_ble_eq_true rfl) (show 0 + (32 + 32 * fr_wn (fr_cl v)) ≤ 1400 by omega) dX0_init_77 (fun q cA comp H hK hP hD hS => ?_)
    refine va_putF (D := D) (ci := CIF) (v := .ref q) (ty := .array (.array .long)) (C := "FunctionRoom") (T := TF) (N := 8) hx hb hw hinF tyX0 tyX0_ok nmX0 hown hK hP hD hS 0 rfl rfl 4 (by decide) (hw _ mF_rows) (fun _ h9 => h9) rfl hin rfl (by decide +kernel) rfl rfl (Nat.le_of_ble_eq_true rfl) dX0_init_81 (fun H locs hP hD hS => ?_)
    replace hP : va_P D vwCl (fr_w2 [.int (nI (fr_cl v)), .int (nI (2 ^ fr_cl v)), .int (nI (fr_wn (fr_cl v))), .long (fr_pl (fr_cl v)), .ref q, .null, .null, .null] h0 q (fr_wn (fr_cl v)) cA comp) H := hP
    replace hD : va_D A (fr_w2 [.int (nI (fr_cl v)), .int (nI (2 ^ fr_cl v)), .int (nI (fr_wn (fr_cl v))), .long (fr_pl (fr_cl v)), .ref q, .null, .null, .null] h0 q (fr_wn (fr_cl v)) cA comp) := hD
    refine lv_aload_n hx hb dX0_init_84 rfl (lv_at hl 0 rfl) ?_
    refine lv_aload_n hx hb dX0_init_85 rfl (lv_at hl 0 rfl) ?_
    refine va_get (D := D) (ci := CIF) (v := .int (nI (fr_wn (fr_cl v)))) (C := "FunctionRoom") (T := TF) (N := 8) hx hb hw hinF hown hK hP 0 rfl rfl 2 (by decide) (hw _ mF_words) (fun _ h9 => h9) rfl dX0_init_86 ?_
    refine va_newa (atype := .long) (ty := .long) (a0 := (fr_wn (fr_cl v), .inr (.inl (fun _ => 0)))) (N' := fr_wn (fr_cl v)) hx hb (hw _ mA_long) rfl hK hP hD hS hA fr_zeroL (nI_pos (by omega)) (nI_clamp (by omega)) (by show _ * 8 ≤ _; omega) (Nat.le_of_ble_eq_true rfl) (show 0 + (32 + 32 * fr_wn (fr_cl v)) + fr_wn (fr_cl v) ≤ 1400 by omega) dX0_init_89 (fun q3 c3 H hK hP hD hS => ?_)
    replace hP : va_P D vwCl ((fr_w2 [.int (nI (fr_cl v)), .int (nI (2 ^ fr_cl v)), .int (nI (fr_wn (fr_cl v))), .long (fr_pl (fr_cl v)), .ref q, .null, .null, .null] h0 q (fr_wn (fr_cl v)) cA comp) ++ [(q3, .inl (c3, (fr_wn (fr_cl v), .inr (.inl (fun _ => 0)))))]) H := hP
    replace hD : va_D A ((fr_w2 [.int (nI (fr_cl v)), .int (nI (2 ^ fr_cl v)), .int (nI (fr_wn (fr_cl v))), .long (fr_pl (fr_cl v)), .ref q, .null, .null, .null] h0 q (fr_wn (fr_cl v)) cA comp) ++ [(q3, .inl (c3, (fr_wn (fr_cl v), .inr (.inl (fun _ => 0)))))]) := hD
    replace hK : va_K D vwCl [(cA, .array .long), (comp, .long), (c3, .long)] s := hK
    refine va_putF (D := D) (ci := CIF) (v := .ref q3) (ty := .array .long) (C := "FunctionRoom") (T := TF) (N := 8) hx hb hw hinF tyX0 tyX0_ok nmX0 hown hK hP hD hS 0 rfl rfl 5 (by decide) (hw _ mF_made) (fun _ h9 => h9) rfl hin rfl (by decide +kernel) rfl rfl (Nat.le_of_ble_eq_true rfl) dX0_init_91 (fun H locs hP hD hS => ?_)
    replace hP : va_P D vwCl ((fr_w2 [.int (nI (fr_cl v)), .int (nI (2 ^ fr_cl v)), .int (nI (fr_wn (fr_cl v))), .long (fr_pl (fr_cl v)), .ref q, .ref q3, .null, .null] h0 q (fr_wn (fr_cl v)) cA comp) ++ [(q3, .inl (c3, (fr_wn (fr_cl v), .inr (.inl (fun _ => 0)))))]) H := hP
    replace hD : va_D A ((fr_w2 [.int (nI (fr_cl v)), .int (nI (2 ^ fr_cl v)), .int (nI (fr_wn (fr_cl v))), .long (fr_pl (fr_cl v)), .ref q, .ref q3, .null, .null] h0 q (fr_wn (fr_cl v)) cA comp) ++ [(q3, .inl (c3, (fr_wn (fr_cl v), .inr (.inl (fun _ => 0)))))]) := hD
    refine lv_aload_n hx hb dX0_init_94 rfl (lv_at hl 0 rfl) ?_
    refine lv_aload_n hx hb dX0_init_95 rfl (lv_at hl 0 rfl) ?_
    refine va_get (D := D) (ci := CIF) (v := .int (nI (2 ^ fr_cl v))) (C := "FunctionRoom") (T := TF) (N := 8) hx hb hw hinF hown hK hP 0 rfl rfl 1 (by decide) (hw _ mF_assignments) (fun _ h9 => h9) rfl dX0_init_96 ?_
    refine va_newa (atype := .int) (ty := .int) (a0 := (2 ^ fr_cl v, .inl (fun _ => 0))) (N' := 2 ^ fr_cl v) hx hb (hw _ mA_int) rfl hK hP hD hS hA fr_zeroI (nI_pos (by omega)) (nI_clamp (by omega)) (by show _ * 4 ≤ _; omega) (Nat.le_of_ble_eq_true rfl) (show 0 + (32 + 32 * fr_wn (fr_cl v)) + fr_wn (fr_cl v) + 2 ^ fr_cl v ≤ 1400 by omega) dX0_init_99 (fun q4 c4 H hK hP hD hS => ?_)
    replace hP : va_P D vwCl (((fr_w2 [.int (nI (fr_cl v)), .int (nI (2 ^ fr_cl v)), .int (nI (fr_wn (fr_cl v))), .long (fr_pl (fr_cl v)), .ref q, .ref q3, .null, .null] h0 q (fr_wn (fr_cl v)) cA comp) ++ [(q3, .inl (c3, (fr_wn (fr_cl v), .inr (.inl (fun _ => 0)))))]) ++ [(q4, .inl (c4, (2 ^ fr_cl v, .inl (fun _ => 0))))]) H := hP
    replace hD : va_D A (((fr_w2 [.int (nI (fr_cl v)), .int (nI (2 ^ fr_cl v)), .int (nI (fr_wn (fr_cl v))), .long (fr_pl (fr_cl v)), .ref q, .ref q3, .null, .null] h0 q (fr_wn (fr_cl v)) cA comp) ++ [(q3, .inl (c3, (fr_wn (fr_cl v), .inr (.inl (fun _ => 0)))))]) ++ [(q4, .inl (c4, (2 ^ fr_cl v, .inl (fun _ => 0))))]) := hD
    replace hK : va_K D vwCl [(cA, .array .long), (comp, .long), (c3, .long), (c4, .int)] s := hK
    refine va_putF (D := D) (ci := CIF) (v := .ref q4) (ty := .array .int) (C := "FunctionRoom") (T := TF) (N := 8) hx hb hw hinF tyX0 tyX0_ok nmX0 hown hK hP hD hS 0 rfl rfl 6 (by decide) (hw _ mF_names) (fun _ h9 => h9) rfl hin rfl (by decide +kernel) rfl rfl (Nat.le_of_ble_eq_true rfl) dX0_init_101 (fun H locs hP hD hS => ?_)
    replace hP : va_P D vwCl (((fr_w2 [.int (nI (fr_cl v)), .int (nI (2 ^ fr_cl v)), .int (nI (fr_wn (fr_cl v))), .long (fr_pl (fr_cl v)), .ref q, .ref q3, .ref q4, .null] h0 q (fr_wn (fr_cl v)) cA comp) ++ [(q3, .inl (c3, (fr_wn (fr_cl v), .inr (.inl (fun _ => 0)))))]) ++ [(q4, .inl (c4, (2 ^ fr_cl v, .inl (fun _ => 0))))]) H := hP
    replace hD : va_D A (((fr_w2 [.int (nI (fr_cl v)), .int (nI (2 ^ fr_cl v)), .int (nI (fr_wn (fr_cl v))), .long (fr_pl (fr_cl v)), .ref q, .ref q3, .ref q4, .null] h0 q (fr_wn (fr_cl v)) cA comp) ++ [(q3, .inl (c3, (fr_wn (fr_cl v), .inr (.inl (fun _ => 0)))))]) ++ [(q4, .inl (c4, (2 ^ fr_cl v, .inl (fun _ => 0))))]) := hD
    refine lv_aload_n hx hb dX0_init_104 rfl (lv_at hl 0 rfl) ?_
    refine lv_aload_n hx hb dX0_init_105 rfl (lv_at hl 0 rfl) ?_
    refine va_get (D := D) (ci := CIF) (v := .int (nI (2 ^ fr_cl v))) (C := "FunctionRoom") (T := TF) (N := 8) hx hb hw hinF hown hK hP 0 rfl rfl 1 (by decide) (hw _ mF_assignments) (fun _ h9 => h9) rfl dX0_init_106 ?_
    refine va_newa (atype := .int) (ty := .int) (a0 := (2 ^ fr_cl v, .inl (fun _ => 0))) (N' := 2 ^ fr_cl v) hx hb (hw _ mA_int) rfl hK hP hD hS hA fr_zeroI (nI_pos (by omega)) (nI_clamp (by omega)) (by show _ * 4 ≤ _; omega) (Nat.le_of_ble_eq_true rfl) (show 0 + (32 + 32 * fr_wn (fr_cl v)) + fr_wn (fr_cl v) + 2 ^ fr_cl v + 2 ^ fr_cl v ≤ 1400 by omega) dX0_init_109 (fun q5 c5 H hK hP hD hS => ?_)
    replace hP : va_P D vwCl ((((fr_w2 [.int (nI (fr_cl v)), .int (nI (2 ^ fr_cl v)), .int (nI (fr_wn (fr_cl v))), .long (fr_pl (fr_cl v)), .ref q, .ref q3, .ref q4, .null] h0 q (fr_wn (fr_cl v)) cA comp) ++ [(q3, .inl (c3, (fr_wn (fr_cl v), .inr (.inl (fun _ => 0)))))]) ++ [(q4, .inl (c4, (2 ^ fr_cl v, .inl (fun _ => 0))))]) ++ [(q5, .inl (c5, (2 ^ fr_cl v, .inl (fun _ => 0))))]) H := hP
    replace hD : va_D A ((((fr_w2 [.int (nI (fr_cl v)), .int (nI (2 ^ fr_cl v)), .int (nI (fr_wn (fr_cl v))), .long (fr_pl (fr_cl v)), .ref q, .ref q3, .ref q4, .null] h0 q (fr_wn (fr_cl v)) cA comp) ++ [(q3, .inl (c3, (fr_wn (fr_cl v), .inr (.inl (fun _ => 0)))))]) ++ [(q4, .inl (c4, (2 ^ fr_cl v, .inl (fun _ => 0))))]) ++ [(q5, .inl (c5, (2 ^ fr_cl v, .inl (fun _ => 0))))]) := hD
    replace hK : va_K D vwCl [(cA, .array .long), (comp, .long), (c3, .long), (c4, .int), (c5, .int)] s := hK
    refine va_putF (D := D) (ci := CIF) (v := .ref q5) (ty := .array .int) (C := "FunctionRoom") (T := TF) (N := 8) hx hb hw hinF tyX0 tyX0_ok nmX0 hown hK hP hD hS 0 rfl rfl 7 (by decide) (hw _ mF_parts) (fun _ h9 => h9) rfl hin rfl (by decide +kernel) rfl rfl (Nat.le_of_ble_eq_true rfl) dX0_init_111 (fun H locs hP hD hS => ?_)
    replace hP : va_P D vwCl ((((fr_w2 [.int (nI (fr_cl v)), .int (nI (2 ^ fr_cl v)), .int (nI (fr_wn (fr_cl v))), .long (fr_pl (fr_cl v)), .ref q, .ref q3, .ref q4, .ref q5] h0 q (fr_wn (fr_cl v)) cA comp) ++ [(q3, .inl (c3, (fr_wn (fr_cl v), .inr (.inl (fun _ => 0)))))]) ++ [(q4, .inl (c4, (2 ^ fr_cl v, .inl (fun _ => 0))))]) ++ [(q5, .inl (c5, (2 ^ fr_cl v, .inl (fun _ => 0))))]) H := hP
    replace hD : va_D A ((((fr_w2 [.int (nI (fr_cl v)), .int (nI (2 ^ fr_cl v)), .int (nI (fr_wn (fr_cl v))), .long (fr_pl (fr_cl v)), .ref q, .ref q3, .ref q4, .ref q5] h0 q (fr_wn (fr_cl v)) cA comp) ++ [(q3, .inl (c3, (fr_wn (fr_cl v), .inr (.inl (fun _ => 0)))))]) ++ [(q4, .inl (c4, (2 ^ fr_cl v, .inl (fun _ => 0))))]) ++ [(q5, .inl (c5, (2 ^ fr_cl v, .inl (fun _ => 0))))]) := hD
    replace hP : va_P D vwCl (fr_Wf (fr_cl v) h0 q q3 q4 q5 cA comp c3 c4 c5) H := hP
    replace hD : va_D A (fr_Wf (fr_cl v) h0 q q3 q4 q5 cA comp c3 c4 c5) := hD
    refine W.widen (k := 36) (n := 1400) (by omega) (by omega) ?_
    exact W.vret hx hb hret (fun t ht hW => ⟨⟨(fr_adX h0 q q3 q4 q5, fr_kaX cA comp c3 c4 c5), rfl, ⟨rfl, fr_fin_inj hD, fr_fin_in hD⟩, by rw [ht]; exact fr_fin_P hP, va_K.moved hW.alike hK⟩, hS.F ht⟩) hS.2.2 dX0_init_114
