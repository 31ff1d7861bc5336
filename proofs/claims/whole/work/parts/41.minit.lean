set_option maxHeartbeats 4000000 in
set_option maxRecDepth 100000 in
theorem cM_init (l : Launch) (D : va_G) (h0 sz : Nat) (v : Int32) : Met l yX1_init wsM_init rmM_init (va_Pc [.ref h0, .int v] (fun U => U.heap.size = sz ∧ va_P D vwCl [(h0, .inr (CIM, [.int 0, .int 0, .null, .null]))] U.heap ∧ va_K D vwCl [] U)) (va_Qv (fun u : (Nat → Nat) × (Nat → ClassId) => u.1 0 = h0 ∧ fr_injB u.1 ∧ ∀ i, i < 3 → va_A [(h0, .inr (CIM, [.int 0, .int 0, .null, .null]))] sz (u.1 i)) (fun u t => va_P D vwCl (fr_mw (fr_cl v) u.1 u.2 (fun _ => 0) (fun _ => 0)) t.heap ∧ va_K D vwCl (fr_mty u.2) t) (va_A [(h0, .inr (CIM, [.int 0, .int 0, .null, .null]))] sz)) 2 16896 (va_A [(h0, .inr (CIM, [.int 0, .int 0, .null, .null]))] sz) := by
  refine Met.ofW (cc := cX1_init) (maxL := 2) (ret := none) (by decide) rfl ?_
  intro p e s m args below meth c s₁ B hml hv
  obtain ⟨rfl, hsz, hP, hK⟩ := hv
  have hx := B.exec
  have hb := B.bytes
  have hret := B.returns
  have hw := fun w (h : w ∈ WA) => atoms_spec (ws := wsM_init) B.pre w (List.mem_cons_of_mem _ h)
  have hown : s.vm.findClass "FunctionRoomModel" = some m.cls := findClass_of_methodNamed B.named
  have hlocks := B.notSynchronized
  have hin : meth.name = "<init>" := (name_of_methodNamed B.named B.method).1
  have hS0 : CallFix p m c cX1_init 2 s _ WA "FunctionRoomModel" := ⟨hx, hb, hml, hown, hw⟩
  subst hsz
  have hD := (fr_D1 (h0, (.inr (CIM, [.int 0, .int 0, .null, .null]) : va_E))).self (sz := s.heap.size)
  generalize hAe : va_A [(h0, .inr (CIM, [.int 0, .int 0, .null, .null]))] s.heap.size = A at hD ⊢
  have hA : ∀ q : Nat, s.heap.size ≤ q → A q := fun q h => by rw [← hAe]; exact Or.inr h
  have hS : va_S A s.heap s.heap [] := va_S.rf
  have hl := lv_entry ([.ref h0, .int v]) (n := 2) (Nat.le_of_ble_eq_true rfl)
  rw [lg_entry_eq]
  generalize (lg_sl ([.ref h0, .int v]) ++ List.replicate (2 - (lg_sl ([.ref h0, .int v])).length) Slot.unset).toArray = ls at hl ⊢
  replace hl : lv_has ls 2 [(0, .ref h0), (1, .int v)] := hl
  refine lv_aload_n hx hb dX1_init_0 rfl (lv_at hl 0 rfl) ?_
  refine W.objInit hx hb hown (hw _ mM_M_objinit) (hw _ mV_objinit) (hw _ mO_objinit) rfl (by rw [hml]; exact hl.1) rfl dX1_init_1 (Nat.le_of_ble_eq_true rfl) (Nat.le_of_ble_eq_true rfl) ?_
  refine W.eq (g2 := F0 m 4 ls []) rfl ?_
  refine lv_aload_n hx hb dX1_init_4 rfl (lv_at hl 0 rfl) ?_
  refine lv_sipush (v := 16384) hx hb dX1_init_5 (by decide) ?_
  refine va_newa (atype := .boolean) (ty := .boolean) (a0 := (16384, .inl (fun _ => 0))) (N' := 16384) hx hb (hw _ mA_boolean) rfl hK hP hD hS hA fr_zeroZ (by decide) (by decide +kernel) (by decide +kernel) (Nat.le_of_ble_eq_true rfl) (Nat.le_of_ble_eq_true rfl) dX1_init_8 (fun q1 c1 H hK hP hD hS => ?_)
  replace hP : va_P D vwCl [(h0, .inr (CIM, [.int 0, .int 0, .null, .null])), (q1, .inl (c1, (16384, .inl (fun _ => 0))))] H := hP
  replace hD : va_D A [(h0, .inr (CIM, [.int 0, .int 0, .null, .null])), (q1, .inl (c1, (16384, .inl (fun _ => 0))))] := hD
  replace hK : va_K D vwCl [(c1, .boolean)] s := hK
  refine va_putF (D := D) (ci := CIM) (v := .ref q1) (ty := .array .boolean) (C := "FunctionRoomModel") (T := TM) (N := 4) hx hb hw hinM tyX1 tyX1_ok nmX1 hown hK hP hD hS 0 rfl rfl 2 (by decide) (hw _ mG_row) (fun _ h9 => h9) rfl hin rfl (by decide +kernel) rfl rfl (Nat.le_of_ble_eq_true rfl) dX1_init_10 (fun H locs hP hD hS => ?_)
  replace hP : va_P D vwCl [(h0, .inr (CIM, [.int 0, .int 0, .ref q1, .null])), (q1, .inl (c1, (16384, .inl (fun _ => 0))))] H := hP
  replace hD : va_D A [(h0, .inr (CIM, [.int 0, .int 0, .ref q1, .null])), (q1, .inl (c1, (16384, .inl (fun _ => 0))))] := hD
  refine lv_aload_n hx hb dX1_init_13 rfl (lv_at hl 0 rfl) ?_
  refine lv_sipush (v := 512) hx hb dX1_init_14 (by decide) ?_
  refine va_newa (atype := .boolean) (ty := .boolean) (a0 := (512, .inl (fun _ => 0))) (N' := 512) hx hb (hw _ mA_boolean) rfl hK hP hD hS hA fr_zeroZ (by decide) (by decide +kernel) (by decide +kernel) (Nat.le_of_ble_eq_true rfl) (Nat.le_of_ble_eq_true rfl) dX1_init_17 (fun q2 c2 H hK hP hD hS => ?_)
  replace hP : va_P D vwCl [(h0, .inr (CIM, [.int 0, .int 0, .ref q1, .null])), (q1, .inl (c1, (16384, .inl (fun _ => 0)))), (q2, .inl (c2, (512, .inl (fun _ => 0))))] H := hP
  replace hD : va_D A [(h0, .inr (CIM, [.int 0, .int 0, .ref q1, .null])), (q1, .inl (c1, (16384, .inl (fun _ => 0)))), (q2, .inl (c2, (512, .inl (fun _ => 0))))] := hD
  replace hK : va_K D vwCl [(c1, .boolean), (c2, .boolean)] s := hK
  refine va_putF (D := D) (ci := CIM) (v := .ref q2) (ty := .array .boolean) (C := "FunctionRoomModel") (T := TM) (N := 4) hx hb hw hinM tyX1 tyX1_ok nmX1 hown hK hP hD hS 0 rfl rfl 3 (by decide) (hw _ mG_made) (fun _ h9 => h9) rfl hin rfl (by decide +kernel) rfl rfl (Nat.le_of_ble_eq_true rfl) dX1_init_19 (fun H locs hP hD hS => ?_)
  replace hP : va_P D vwCl [(h0, .inr (CIM, [.int 0, .int 0, .ref q1, .ref q2])), (q1, .inl (c1, (16384, .inl (fun _ => 0)))), (q2, .inl (c2, (512, .inl (fun _ => 0))))] H := hP
  replace hD : va_D A [(h0, .inr (CIM, [.int 0, .int 0, .ref q1, .ref q2])), (q1, .inl (c1, (16384, .inl (fun _ => 0)))), (q2, .inl (c2, (512, .inl (fun _ => 0))))] := hD
  refine lv_aload_n hx hb dX1_init_22 rfl (lv_at hl 0 rfl) ?_
  refine lv_iload_n hx hb dX1_init_23 rfl (lv_at hl 1 rfl) ?_
  refine lv_iconst (v := 1) hx hb dX1_init_24 (by decide) ?_
  refine lv_icmp_ge (tgt := 32) hx hb dX1_init_25 rfl (fun h1 => ?_) (fun h1 => ?_)
  ·
    refine lv_iload_n hx hb dX1_init_32 rfl (lv_at hl 1 rfl) ?_
    refine lv_bipush (v := 9) hx hb dX1_init_33 (by decide) ?_
    refine lv_icmp_le (tgt := 43) hx hb dX1_init_35 rfl (fun h2 => ?_) (fun h2 => ?_)
    ·
      refine lv_iload_n hx hb dX1_init_43 rfl (lv_at hl 1 rfl) ?_
      have hcl : fr_cl v = v.toNatClampNeg := by unfold fr_cl; rw [if_neg (fun z => fr_ltle z h1), if_neg (fun z => fr_ltle z h2)]
      refine fr_top (show (v : Int32) = nI (fr_cl v) from by rw [hcl]; exact (fr_clv h1).symm) ?_
      refine va_putF (D := D) (ci := CIM) (v := .int (nI (fr_cl v))) (ty := .int) (C := "FunctionRoomModel") (T := TM) (N := 4) hx hb hw hinM tyX1 tyX1_ok nmX1 hown hK hP hD hS 0 rfl rfl 0 (by decide) (hw _ mG_variables) (fun _ h9 => h9) rfl hin rfl (by decide +kernel) rfl rfl (Nat.le_of_ble_eq_true rfl) dX1_init_44 (fun H locs hP hD hS => ?_)
      replace hP : va_P D vwCl [(h0, .inr (CIM, [.int (nI (fr_cl v)), .int 0, .ref q1, .ref q2])), (q1, .inl (c1, (16384, .inl (fun _ => 0)))), (q2, .inl (c2, (512, .inl (fun _ => 0))))] H := hP
      replace hD : va_D A [(h0, .inr (CIM, [.int (nI (fr_cl v)), .int 0, .ref q1, .ref q2])), (q1, .inl (c1, (16384, .inl (fun _ => 0)))), (q2, .inl (c2, (512, .inl (fun _ => 0))))] := hD
      refine lv_aload_n hx hb dX1_init_47 rfl (lv_at hl 0 rfl) ?_
      refine lv_iconst (v := 1) hx hb dX1_init_48 (by decide) ?_
      refine lv_aload_n hx hb dX1_init_49 rfl (lv_at hl 0 rfl) ?_
      refine va_get (D := D) (ci := CIM) (v := .int (nI (fr_cl v))) (C := "FunctionRoomModel") (T := TM) (N := 4) hx hb hw hinM hown hK hP 0 rfl rfl 0 (by decide) (hw _ mG_variables) (fun _ h9 => h9) rfl dX1_init_50 ?_
      refine lv_ishl hx hb dX1_init_53 ?_
      refine fr_top (show ((1 <<< (nI (fr_cl v) &&& 31)) : Int32) = nI (2 ^ fr_cl v) from fr_shl1 _ (fr_cl_le v).2) ?_
      refine va_putF (D := D) (ci := CIM) (v := .int (nI (2 ^ fr_cl v))) (ty := .int) (C := "FunctionRoomModel") (T := TM) (N := 4) hx hb hw hinM tyX1 tyX1_ok nmX1 hown hK hP hD hS 0 rfl rfl 1 (by decide) (hw _ mG_all) (fun _ h9 => h9) rfl hin rfl (by decide +kernel) rfl rfl (Nat.le_of_ble_eq_true rfl) dX1_init_54 (fun H locs hP hD hS => ?_)
      replace hP : va_P D vwCl [(h0, .inr (CIM, [.int (nI (fr_cl v)), .int (nI (2 ^ fr_cl v)), .ref q1, .ref q2])), (q1, .inl (c1, (16384, .inl (fun _ => 0)))), (q2, .inl (c2, (512, .inl (fun _ => 0))))] H := hP
      replace hD : va_D A [(h0, .inr (CIM, [.int (nI (fr_cl v)), .int (nI (2 ^ fr_cl v)), .ref q1, .ref q2])), (q1, .inl (c1, (16384, .inl (fun _ => 0)))), (q2, .inl (c2, (512, .inl (fun _ => 0))))] := hD
      have hin3 : fr_injB (fr_a3 h0 q1 q2) := fr_a3_inj hD
      refine W.widen (k := 2) (n := 16896) (by omega) (by omega) ?_
      exact W.vret hx hb hret (fun t ht hW => ⟨⟨(fr_a3 h0 q1 q2, fun i => if i = 0 then c1 else c2), rfl, ⟨rfl, hin3, fr_a3_in hD⟩, by rw [ht]; exact hP, va_K.moved hW.alike hK⟩, hS.F ht⟩) hS.2.2 dX1_init_57
    ·
      refine lv_bipush (v := 9) hx hb dX1_init_38 (by decide) ?_
      refine lv_goto (tgt := 44) hx hb dX1_init_40 rfl ?_
      have hcl : fr_cl v = 9 := by unfold fr_cl; rw [if_neg (fun z => fr_ltle z h1), if_pos (fr_nlelt h2)]
      refine fr_top (show (9 : Int32) = nI (fr_cl v) from by rw [hcl]; rfl) ?_
      refine va_putF (D := D) (ci := CIM) (v := .int (nI (fr_cl v))) (ty := .int) (C := "FunctionRoomModel") (T := TM) (N := 4) hx hb hw hinM tyX1 tyX1_ok nmX1 hown hK hP hD hS 0 rfl rfl 0 (by decide) (hw _ mG_variables) (fun _ h9 => h9) rfl hin rfl (by decide +kernel) rfl rfl (Nat.le_of_ble_eq_true rfl) dX1_init_44 (fun H locs hP hD hS => ?_)
      replace hP : va_P D vwCl [(h0, .inr (CIM, [.int (nI (fr_cl v)), .int 0, .ref q1, .ref q2])), (q1, .inl (c1, (16384, .inl (fun _ => 0)))), (q2, .inl (c2, (512, .inl (fun _ => 0))))] H := hP
      replace hD : va_D A [(h0, .inr (CIM, [.int (nI (fr_cl v)), .int 0, .ref q1, .ref q2])), (q1, .inl (c1, (16384, .inl (fun _ => 0)))), (q2, .inl (c2, (512, .inl (fun _ => 0))))] := hD
      refine lv_aload_n hx hb dX1_init_47 rfl (lv_at hl 0 rfl) ?_
      refine lv_iconst (v := 1) hx hb dX1_init_48 (by decide) ?_
      refine lv_aload_n hx hb dX1_init_49 rfl (lv_at hl 0 rfl) ?_
      refine va_get (D := D) (ci := CIM) (v := .int (nI (fr_cl v))) (C := "FunctionRoomModel") (T := TM) (N := 4) hx hb hw hinM hown hK hP 0 rfl rfl 0 (by decide) (hw _ mG_variables) (fun _ h9 => h9) rfl dX1_init_50 ?_
      refine lv_ishl hx hb dX1_init_53 ?_
      refine fr_top (show ((1 <<< (nI (fr_cl v) &&& 31)) : Int32) = nI (2 ^ fr_cl v) from fr_shl1 _ (fr_cl_le v).2) ?_
      refine va_putF (D := D) (ci := CIM) (v := .int (nI (2 ^ fr_cl v))) (ty := .int) (C := "FunctionRoomModel") (T := TM) (N := 4) hx hb hw hinM tyX1 tyX1_ok nmX1 hown hK hP hD hS 0 rfl rfl 1 (by decide) (hw _ mG_all) (fun _ h9 => h9) rfl hin rfl (by decide +kernel) rfl rfl (Nat.le_of_ble_eq_true rfl) dX1_init_54 (fun H locs hP hD hS => ?_)
      replace hP : va_P D vwCl [(h0, .inr (CIM, [.int (nI (fr_cl v)), .int (nI (2 ^ fr_cl v)), .ref q1, .ref q2])), (q1, .inl (c1, (16384, .inl (fun _ => 0)))), (q2, .inl (c2, (512, .inl (fun _ => 0))))] H := hP
      replace hD : va_D A [(h0, .inr (CIM, [.int (nI (fr_cl v)), .int (nI (2 ^ fr_cl v)), .ref q1, .ref q2])), (q1, .inl (c1, (16384, .inl (fun _ => 0)))), (q2, .inl (c2, (512, .inl (fun _ => 0))))] := hD
      have hin3 : fr_injB (fr_a3 h0 q1 q2) := fr_a3_inj hD
      refine W.widen (k := 2) (n := 16896) (by omega) (by omega) ?_
      exact W.vret hx hb hret (fun t ht hW => ⟨⟨(fr_a3 h0 q1 q2, fun i => if i = 0 then c1 else c2), rfl, ⟨rfl, hin3, fr_a3_in hD⟩, by rw [ht]; exact hP, va_K.moved hW.alike hK⟩, hS.F ht⟩) hS.2.2 dX1_init_57
  ·
    refine lv_iconst (v := 1) hx hb dX1_init_28 (by decide) ?_
    refine lv_goto (tgt := 44) hx hb dX1_init_29 rfl ?_
    have hcl : fr_cl v = 1 := by unfold fr_cl; rw [if_pos (fr_nlelt h1)]
    refine fr_top (show (1 : Int32) = nI (fr_cl v) from by rw [hcl]; rfl) ?_
    refine va_putF (D := D) (ci := CIM) (v := .int (nI (fr_cl v))) (ty := .int) (C := "FunctionRoomModel") (T := TM) (N := 4) hx hb hw hinM tyX1 tyX1_ok nmX1 hown hK hP hD hS 0 rfl rfl 0 (by decide) (hw _ mG_variables) (fun _ h9 => h9) rfl hin rfl (by decide +kernel) rfl rfl (Nat.le_of_ble_eq_true rfl) dX1_init_44 (fun H locs hP hD hS => ?_)
    replace hP : va_P D vwCl [(h0, .inr (CIM, [.int (nI (fr_cl v)), .int 0, .ref q1, .ref q2])), (q1, .inl (c1, (16384, .inl (fun _ => 0)))), (q2, .inl (c2, (512, .inl (fun _ => 0))))] H := hP
    replace hD : va_D A [(h0, .inr (CIM, [.int (nI (fr_cl v)), .int 0, .ref q1, .ref q2])), (q1, .inl (c1, (16384, .inl (fun _ => 0)))), (q2, .inl (c2, (512, .inl (fun _ => 0))))] := hD
    refine lv_aload_n hx hb dX1_init_47 rfl (lv_at hl 0 rfl) ?_
    refine lv_iconst (v := 1) hx hb dX1_init_48 (by decide) ?_
    refine lv_aload_n hx hb dX1_init_49 rfl (lv_at hl 0 rfl) ?_
    refine va_get (D := D) (ci := CIM) (v := .int (nI (fr_cl v))) (C := "FunctionRoomModel") (T := TM) (N := 4) hx hb hw hinM hown hK hP 0 rfl rfl 0 (by decide) (hw _ mG_variables) (fun _ h9 => h9) rfl dX1_init_50 ?_
    refine lv_ishl hx hb dX1_init_53 ?_
    refine fr_top (show ((1 <<< (nI (fr_cl v) &&& 31)) : Int32) = nI (2 ^ fr_cl v) from fr_shl1 _ (fr_cl_le v).2) ?_
    refine va_putF (D := D) (ci := CIM) (v := .int (nI (2 ^ fr_cl v))) (ty := .int) (C := "FunctionRoomModel") (T := TM) (N := 4) hx hb hw hinM tyX1 tyX1_ok nmX1 hown hK hP hD hS 0 rfl rfl 1 (by decide) (hw _ mG_all) (fun _ h9 => h9) rfl hin rfl (by decide +kernel) rfl rfl (Nat.le_of_ble_eq_true rfl) dX1_init_54 (fun H locs hP hD hS => ?_)
    replace hP : va_P D vwCl [(h0, .inr (CIM, [.int (nI (fr_cl v)), .int (nI (2 ^ fr_cl v)), .ref q1, .ref q2])), (q1, .inl (c1, (16384, .inl (fun _ => 0)))), (q2, .inl (c2, (512, .inl (fun _ => 0))))] H := hP
    replace hD : va_D A [(h0, .inr (CIM, [.int (nI (fr_cl v)), .int (nI (2 ^ fr_cl v)), .ref q1, .ref q2])), (q1, .inl (c1, (16384, .inl (fun _ => 0)))), (q2, .inl (c2, (512, .inl (fun _ => 0))))] := hD
    have hin3 : fr_injB (fr_a3 h0 q1 q2) := fr_a3_inj hD
    refine W.widen (k := 2) (n := 16896) (by omega) (by omega) ?_
    exact W.vret hx hb hret (fun t ht hW => ⟨⟨(fr_a3 h0 q1 q2, fun i => if i = 0 then c1 else c2), rfl, ⟨rfl, hin3, fr_a3_in hD⟩, by rw [ht]; exact hP, va_K.moved hW.alike hK⟩, hS.F ht⟩) hS.2.2 dX1_init_57
