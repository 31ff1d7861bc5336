set_option maxHeartbeats 4000000 in
set_option maxRecDepth 100000 in
theorem cF_turned (l : Launch) (D : va_G) (V : Nat) (ad : Nat → Nat) (ka : Nat → ClassId) (mk : Nat → Int64) (nm pt : Nat → Int32) (ro : Nat → Nat → Int64) (q tq a : Nat) (cq : ClassId) (g : Nat → Int64) (hq : (fr_xw V ad ka mk nm pt ro)[q]? = some (a, .inl (cq, fr_wn V, .inr (.inl g)))) (htq : (fr_ty ka)[tq]? = some (cq, .long)) (k i : Nat) (hk : k < V) (hV : V < 10) (hi : i < fr_wn V) : Met l yX0_turned wsF_turned rmF_turned (va_Pc [.ref (ad 0), .ref a, .int (nI k), .int (nI i)] (fr_PX D V ad ka mk nm pt ro)) (vp_Sl (fun b => b = fr_tn V g k i)) 0 0 (fun _ => False) := by
  refine Met.ofW (cc := cX0_turned) (maxL := 8) (ret := some .long) (by decide) rfl ?_
  intro p e s m args below meth c s₁ B hml hv
  obtain ⟨rfl, hP, hK, hT⟩ := hv
  have hx := B.exec
  have hb := B.bytes
  have hret := B.returns
  have hw := fun w (h : w ∈ WA) => atoms_spec (ws := wsF_turned) B.pre w (List.mem_cons_of_mem _ h)
  have hown : s.vm.findClass "FunctionRoom" = some m.cls := findClass_of_methodNamed B.named
  have hlocks := B.notSynchronized
  have hS0 : CallFix p m c cX0_turned 8 s _ WA "FunctionRoom" := ⟨hx, hb, hml, hown, hw⟩
  have hl := lv_entry ([.ref (ad 0), .ref a, .int (nI k), .int (nI i)]) (n := 8) (Nat.le_of_ble_eq_true rfl)
  rw [lg_entry_eq]
  generalize (lg_sl ([.ref (ad 0), .ref a, .int (nI k), .int (nI i)]) ++ List.replicate (8 - (lg_sl ([.ref (ad 0), .ref a, .int (nI k), .int (nI i)])).length) Slot.unset).toArray = ls at hl ⊢
  replace hl : lv_has ls 8 [(0, .ref (ad 0)), (1, .ref a), (2, .int (nI k)), (3, .int (nI i))] := hl
  have hS : va_S (fr_A ad) s.heap s.heap [] := va_S.rf
  have hw8 := (fr_wn_le V hV).2.1
  refine lv_aload_n hx hb dX0_turned_0 rfl (lv_at hl 0 rfl) ?_
  refine lv_iload_n hx hb dX0_turned_1 rfl (lv_at hl 2 rfl) ?_
  refine fr_Xi (As := [.int (nI k)]) hS0 (cF_bitOf l D V ad ka mk nm pt ro k hk hV) (cw_F_bitOf hw ⟨Nat.le_of_ble_eq_true rfl, Nat.le_of_ble_eq_true rfl⟩) hK hP hT hS rfl hl.1 rfl (Nat.le_of_ble_eq_true rfl) dX0_turned_2 ⟨Nat.zero_le _, Nat.zero_le _⟩ (fun b hb1 => ?_)
  subst hb1
  refine lv_istore hx hb dX0_turned_5 hl (by decide) rfl (fun ls hl => ?_)
  replace hl : lv_has ls 8 [(4, .int (nI (V - 1 - k))), (0, .ref (ad 0)), (1, .ref a), (2, .int (nI k)), (3, .int (nI i))] := hl
  refine lv_iload hx hb dX0_turned_7 (lv_at hl 0 rfl) ?_
  refine lv_bipush (v := 6) hx hb dX0_turned_9 (by decide) ?_
  refine lv_icmp_lt (tgt := 26) hx hb dX0_turned_11 rfl (fun h1 => ?_) (fun h1 => ?_)
  ·
    have hb6 : V - 1 - k < 6 := Nat.lt_of_not_le fun z => nI_nlt z (by omega) h1
    refine lv_iconst (v := 1) hx hb dX0_turned_26 (by decide) ?_
    refine lv_iload hx hb dX0_turned_27 (lv_at hl 0 rfl) ?_
    refine lv_ishl hx hb dX0_turned_29 ?_
    refine fr_top (show ((1 <<< (nI (V - 1 - k) &&& 31)) : Int32) = nI (2 ^ (V - 1 - k)) from fr_shl1 _ (by omega)) ?_
    refine lv_istore hx hb dX0_turned_30 hl (by decide) rfl (fun ls hl => ?_)
    replace hl : lv_has ls 8 [(5, .int (nI (2 ^ (V - 1 - k)))), (4, .int (nI (V - 1 - k))), (0, .ref (ad 0)), (1, .ref a), (2, .int (nI k)), (3, .int (nI i))] := hl
    obtain ⟨tb, hz1, hz2⟩ := hT
    refine va_gets hx hb hz1 hS hown (hw _ mF_PLACES) (fun _ h9 => h9) dX0_turned_32 ?_
    refine lv_iload hx hb dX0_turned_35 (lv_at hl 1 rfl) ?_
    refine va_tl (v := .long (fr_pb (V - 1 - k))) hx hb hz2 hS (vp_in_nI hb6 (by decide)) (by rw [nI_clamp (by omega)]) dX0_turned_37 ?_
    refine lv_lstore hx hb dX0_turned_38 hl (by decide) rfl (fun ls hl => ?_)
    replace hl : lv_has ls 8 [(6, .long (fr_pb (V - 1 - k))), (5, .int (nI (2 ^ (V - 1 - k)))), (4, .int (nI (V - 1 - k))), (0, .ref (ad 0)), (1, .ref a), (2, .int (nI k)), (3, .int (nI i))] := hl
    refine lv_aload_n hx hb dX0_turned_40 rfl (lv_at hl 4 rfl) ?_
    refine lv_iload_n hx hb dX0_turned_41 rfl (lv_at hl 6 rfl) ?_
    refine fr_lald hx hb hK hP q tq hq htq hi (by omega) dX0_turned_42 ?_
    refine lv_lload hx hb dX0_turned_43 (lv_at hl 0 rfl) ?_
    refine lv_land hx hb dX0_turned_45 ?_
    refine lv_iload hx hb dX0_turned_46 (lv_at hl 1 rfl) ?_
    refine lv_lushr hx hb dX0_turned_48 rfl ?_
    refine lv_aload_n hx hb dX0_turned_49 rfl (lv_at hl 4 rfl) ?_
    refine lv_iload_n hx hb dX0_turned_50 rfl (lv_at hl 6 rfl) ?_
    refine fr_lald hx hb hK hP q tq hq htq hi (by omega) dX0_turned_51 ?_
    refine lv_lload hx hb dX0_turned_52 (lv_at hl 0 rfl) ?_
    refine lv_ldc2 (v := (-1)) hx hb hown (hw _ mC_F_28) dX0_turned_54 ?_
    refine lv_lxor hx hb dX0_turned_57 ?_
    refine lv_land hx hb dX0_turned_58 ?_
    refine lv_iload hx hb dX0_turned_59 (lv_at hl 1 rfl) ?_
    refine lv_lshl hx hb dX0_turned_61 rfl ?_
    refine lv_lor hx hb dX0_turned_62 ?_
    exact W.lret (v := (((((g i) &&& fr_pb (V - 1 - k))).toUInt64 >>> ((nI (2 ^ (V - 1 - k))).toInt64.toUInt64 &&& Int64.toUInt64 63)).toInt64 ||| (((g i) &&& (fr_pb (V - 1 - k) ^^^ (-1))) <<< ((nI (2 ^ (V - 1 - k))).toInt64 &&& 63)))) hx hb hret (fun t ht hW => ⟨_, rfl, by unfold fr_tn; rw [if_pos hb6], ht⟩) (fun q hq => by cases hq) dX0_turned_63
  ·
    have hb6 : ¬ V - 1 - k < 6 := fun z => h1 (nI_lt z (by decide))
    refine lv_aload_n hx hb dX0_turned_14 rfl (lv_at hl 2 rfl) ?_
    refine lv_iload_n hx hb dX0_turned_15 rfl (lv_at hl 4 rfl) ?_
    refine lv_iconst (v := 1) hx hb dX0_turned_16 (by decide) ?_
    refine lv_iload hx hb dX0_turned_17 (lv_at hl 0 rfl) ?_
    refine lv_bipush (v := 6) hx hb dX0_turned_19 (by decide) ?_
    refine lv_isub hx hb dX0_turned_21 ?_
    refine fr_top (show ((nI (V - 1 - k) - 6) : Int32) = nI (V - 1 - k - 6) from pk_sub (b := 6) (by omega)) ?_
    refine lv_ishl hx hb dX0_turned_22 ?_
    refine lv_ixor hx hb dX0_turned_23 ?_
    refine fr_top (show ((nI i ^^^ (1 <<< (nI (V - 1 - k - 6) &&& 31))) : Int32) = nI (i ^^^ 2 ^ (V - 1 - k - 6)) from fr_tnx _ (by omega) _ (by omega)) ?_
    refine fr_lald hx hb hK hP q tq hq htq (fr_turn_in hV hi (by omega)) (by omega) dX0_turned_24 ?_
    exact W.lret (v := (g (i ^^^ 2 ^ (V - 1 - k - 6)))) hx hb hret (fun t ht hW => ⟨_, rfl, by unfold fr_tn; rw [if_neg hb6], ht⟩) (fun q hq => by cases hq) dX0_turned_25
set_option maxHeartbeats 4000000 in
set_option maxRecDepth 100000 in
theorem cF_narrowed (l : Launch) (D : va_G) (V : Nat) (ad : Nat → Nat) (ka : Nat → ClassId) (mk : Nat → Int64) (nm pt : Nat → Int32) (ro : Nat → Nat → Int64) (q tq a : Nat) (cq : ClassId) (g : Nat → Int64) (hq : (fr_xw V ad ka mk nm pt ro)[q]? = some (a, .inl (cq, fr_wn V, .inr (.inl g)))) (htq : (fr_ty ka)[tq]? = some (cq, .long)) (k i : Nat) (one : Bool) (hk : k < V) (hV : V < 10) (hi : i < fr_wn V) : Met l yX0_narrowed wsF_narrowed rmF_narrowed (va_Pc [.ref (ad 0), .ref a, .int (nI k), .int (fr_bi one), .int (nI i)] (fr_PX D V ad ka mk nm pt ro)) (vp_Sl (fun b => b = fr_nr V g k one i)) 0 0 (fun _ => False) := by
  refine Met.ofW (cc := cX0_narrowed) (maxL := 9) (ret := some .long) (by decide) rfl ?_
  intro p e s m args below meth c s₁ B hml hv
  obtain ⟨rfl, hP, hK, hT⟩ := hv
  have hx := B.exec
  have hb := B.bytes
  have hret := B.returns
  have hw := fun w (h : w ∈ WA) => atoms_spec (ws := wsF_narrowed) B.pre w (List.mem_cons_of_mem _ h)
  have hown : s.vm.findClass "FunctionRoom" = some m.cls := findClass_of_methodNamed B.named
  have hlocks := B.notSynchronized
  have hS0 : CallFix p m c cX0_narrowed 9 s _ WA "FunctionRoom" := ⟨hx, hb, hml, hown, hw⟩
  have hl := lv_entry ([.ref (ad 0), .ref a, .int (nI k), .int (fr_bi one), .int (nI i)]) (n := 9) (Nat.le_of_ble_eq_true rfl)
  rw [lg_entry_eq]
  generalize (lg_sl ([.ref (ad 0), .ref a, .int (nI k), .int (fr_bi one), .int (nI i)]) ++ List.replicate (9 - (lg_sl ([.ref (ad 0), .ref a, .int (nI k), .int (fr_bi one), .int (nI i)])).length) Slot.unset).toArray = ls at hl ⊢
  replace hl : lv_has ls 9 [(0, .ref (ad 0)), (1, .ref a), (2, .int (nI k)), (3, .int (fr_bi one)), (4, .int (nI i))] := hl
  have hS : va_S (fr_A ad) s.heap s.heap [] := va_S.rf
  have hw8 := (fr_wn_le V hV).2.1
  refine lv_aload_n hx hb dX0_narrowed_0 rfl (lv_at hl 0 rfl) ?_
  refine lv_iload_n hx hb dX0_narrowed_1 rfl (lv_at hl 2 rfl) ?_
  refine lv_iload hx hb dX0_narrowed_2 (lv_at hl 4 rfl) ?_
  refine fr_Xl (As := [.int (nI k), .int (nI i)]) hS0 (cF_placesWhereOne l D V ad ka mk nm pt ro k i hk hV hi) (cw_F_placesWhereOne hw ⟨Nat.le_of_ble_eq_true rfl, Nat.le_of_ble_eq_true rfl⟩) hK hP hT hS rfl hl.1 rfl (Nat.le_of_ble_eq_true rfl) dX0_narrowed_4 ⟨Nat.zero_le _, Nat.zero_le _⟩ (fun b hb1 => ?_)
  subst hb1
  refine lv_lstore hx hb dX0_narrowed_7 hl (by decide) rfl (fun ls hl => ?_)
  replace hl : lv_has ls 9 [(5, .long (fr_pw V k i)), (0, .ref (ad 0)), (1, .ref a), (2, .int (nI k)), (3, .int (fr_bi one)), (4, .int (nI i))] := hl
  refine lv_iload_n hx hb dX0_narrowed_9 rfl (lv_at hl 4 rfl) ?_
  refine lv_if_eq (tgt := 18) hx hb dX0_narrowed_10 rfl (fun h1 => ?_) (fun h1 => ?_)
  ·
    have h3 : one = false := by cases one <;> simp_all [fr_bi]
    refine lv_lload hx hb dX0_narrowed_18 (lv_at hl 0 rfl) ?_
    refine lv_ldc2 (v := (-1)) hx hb hown (hw _ mC_F_28) dX0_narrowed_20 ?_
    refine lv_lxor hx hb dX0_narrowed_23 ?_
    refine fr_topl (show ((fr_pw V k i ^^^ (-1)) : Int64) = fr_rt V k i one from by rw [h3]; rfl) ?_
    refine lv_lstore hx hb dX0_narrowed_24 hl (by decide) rfl (fun ls hl => ?_)
    replace hl : lv_has ls 9 [(7, .long (fr_rt V k i one)), (5, .long (fr_pw V k i)), (0, .ref (ad 0)), (1, .ref a), (2, .int (nI k)), (3, .int (fr_bi one)), (4, .int (nI i))] := hl
    refine lv_aload_n hx hb dX0_narrowed_26 rfl (lv_at hl 3 rfl) ?_
    refine lv_iload hx hb dX0_narrowed_27 (lv_at hl 6 rfl) ?_
    refine fr_lald hx hb hK hP q tq hq htq hi (by omega) dX0_narrowed_29 ?_
    refine lv_lload hx hb dX0_narrowed_30 (lv_at hl 0 rfl) ?_
    refine lv_land hx hb dX0_narrowed_32 ?_
    refine lv_aload_n hx hb dX0_narrowed_33 rfl (lv_at hl 2 rfl) ?_
    refine lv_aload_n hx hb dX0_narrowed_34 rfl (lv_at hl 3 rfl) ?_
    refine lv_iload_n hx hb dX0_narrowed_35 rfl (lv_at hl 4 rfl) ?_
    refine lv_iload hx hb dX0_narrowed_36 (lv_at hl 6 rfl) ?_
    refine fr_Xl (As := [.ref a, .int (nI k), .int (nI i)]) hS0 (cF_turned l D V ad ka mk nm pt ro q tq a cq g hq htq k i hk hV hi) (cw_F_turned hw ⟨Nat.le_of_ble_eq_true rfl, Nat.le_of_ble_eq_true rfl⟩) hK hP hT hS rfl hl.1 rfl (Nat.le_of_ble_eq_true rfl) dX0_narrowed_38 ⟨Nat.zero_le _, Nat.zero_le _⟩ (fun b2 hb2 => ?_)
    subst hb2
    refine lv_lload hx hb dX0_narrowed_41 (lv_at hl 0 rfl) ?_
    refine lv_ldc2 (v := (-1)) hx hb hown (hw _ mC_F_28) dX0_narrowed_43 ?_
    refine lv_lxor hx hb dX0_narrowed_46 ?_
    refine lv_land hx hb dX0_narrowed_47 ?_
    refine lv_lor hx hb dX0_narrowed_48 ?_
    exact W.lret (v := (((g i) &&& fr_rt V k i one) ||| (fr_tn V g k i &&& (fr_rt V k i one ^^^ (-1))))) hx hb hret (fun t ht hW => ⟨_, rfl, rfl, ht⟩) (fun q hq => by cases hq) dX0_narrowed_49
  ·
    have h3 : one = true := by cases one <;> simp_all [fr_bi]
    refine lv_lload hx hb dX0_narrowed_13 (lv_at hl 0 rfl) ?_
    refine lv_goto (tgt := 24) hx hb dX0_narrowed_15 rfl ?_
    refine fr_topl (show (fr_pw V k i : Int64) = fr_rt V k i one from by rw [h3]; rfl) ?_
    refine lv_lstore hx hb dX0_narrowed_24 hl (by decide) rfl (fun ls hl => ?_)
    replace hl : lv_has ls 9 [(7, .long (fr_rt V k i one)), (5, .long (fr_pw V k i)), (0, .ref (ad 0)), (1, .ref a), (2, .int (nI k)), (3, .int (fr_bi one)), (4, .int (nI i))] := hl
    refine lv_aload_n hx hb dX0_narrowed_26 rfl (lv_at hl 3 rfl) ?_
    refine lv_iload hx hb dX0_narrowed_27 (lv_at hl 6 rfl) ?_
    refine fr_lald hx hb hK hP q tq hq htq hi (by omega) dX0_narrowed_29 ?_
    refine lv_lload hx hb dX0_narrowed_30 (lv_at hl 0 rfl) ?_
    refine lv_land hx hb dX0_narrowed_32 ?_
    refine lv_aload_n hx hb dX0_narrowed_33 rfl (lv_at hl 2 rfl) ?_
    refine lv_aload_n hx hb dX0_narrowed_34 rfl (lv_at hl 3 rfl) ?_
    refine lv_iload_n hx hb dX0_narrowed_35 rfl (lv_at hl 4 rfl) ?_
    refine lv_iload hx hb dX0_narrowed_36 (lv_at hl 6 rfl) ?_
    refine fr_Xl (As := [.ref a, .int (nI k), .int (nI i)]) hS0 (cF_turned l D V ad ka mk nm pt ro q tq a cq g hq htq k i hk hV hi) (cw_F_turned hw ⟨Nat.le_of_ble_eq_true rfl, Nat.le_of_ble_eq_true rfl⟩) hK hP hT hS rfl hl.1 rfl (Nat.le_of_ble_eq_true rfl) dX0_narrowed_38 ⟨Nat.zero_le _, Nat.zero_le _⟩ (fun b2 hb2 => ?_)
    subst hb2
    refine lv_lload hx hb dX0_narrowed_41 (lv_at hl 0 rfl) ?_
    refine lv_ldc2 (v := (-1)) hx hb hown (hw _ mC_F_28) dX0_narrowed_43 ?_
    refine lv_lxor hx hb dX0_narrowed_46 ?_
    refine lv_land hx hb dX0_narrowed_47 ?_
    refine lv_lor hx hb dX0_narrowed_48 ?_
    exact W.lret (v := (((g i) &&& fr_rt V k i one) ||| (fr_tn V g k i &&& (fr_rt V k i one ^^^ (-1))))) hx hb hret (fun t ht hW => ⟨_, rfl, rfl, ht⟩) (fun q hq => by cases hq) dX0_narrowed_49
set_option maxHeartbeats 4000000 in
set_option maxRecDepth 100000 in
theorem cF_dependsOn (l : Launch) (D : va_G) (V : Nat) (ad : Nat → Nat) (ka : Nat → ClassId) (mk : Nat → Int64) (nm pt : Nat → Int32) (ro : Nat → Nat → Int64) (q tq a : Nat) (cq : ClassId) (g : Nat → Int64) (hq : (fr_xw V ad ka mk nm pt ro)[q]? = some (a, .inl (cq, fr_wn V, .inr (.inl g)))) (htq : (fr_ty ka)[tq]? = some (cq, .long)) (k : Nat) (hk : k < V) (hV : V < 10) : Met l yX0_dependsOn wsF_dependsOn rmF_dependsOn (va_Pc [.ref (ad 0), .ref a, .int (nI k)] (fr_PX D V ad ka mk nm pt ro)) (vp_Si (fun b => (b = 1 ∧ ¬ ∀ w, w < fr_wn V → g w = fr_tn V g k w) ∨ (b = 0 ∧ ∀ w, w < fr_wn V → g w = fr_tn V g k w))) 0 0 (fun _ => False) := by
  refine Met.ofW (cc := cX0_dependsOn) (maxL := 4) (ret := some .boolean) (by decide) rfl ?_
  intro p e s m args below meth c s₁ B hml hv
  obtain ⟨rfl, hP, hK, hT⟩ := hv
  have hx := B.exec
  have hb := B.bytes
  have hret := B.returns
  have hw := fun w (h : w ∈ WA) => atoms_spec (ws := wsF_dependsOn) B.pre w (List.mem_cons_of_mem _ h)
  have hown : s.vm.findClass "FunctionRoom" = some m.cls := findClass_of_methodNamed B.named
  have hlocks := B.notSynchronized
  have hS0 : CallFix p m c cX0_dependsOn 4 s _ WA "FunctionRoom" := ⟨hx, hb, hml, hown, hw⟩
  have hl := lv_entry ([.ref (ad 0), .ref a, .int (nI k)]) (n := 4) (Nat.le_of_ble_eq_true rfl)
  rw [lg_entry_eq]
  generalize (lg_sl ([.ref (ad 0), .ref a, .int (nI k)]) ++ List.replicate (4 - (lg_sl ([.ref (ad 0), .ref a, .int (nI k)])).length) Slot.unset).toArray = ls at hl ⊢
  replace hl : lv_has ls 4 [(0, .ref (ad 0)), (1, .ref a), (2, .int (nI k))] := hl
  have hS : va_S (fr_A ad) s.heap s.heap [] := va_S.rf
  have hw8 := (fr_wn_le V hV).2.1
  refine lv_iconst (v := 0) hx hb dX0_dependsOn_0 (by decide) ?_
  refine lv_istore_n hx hb dX0_dependsOn_1 rfl hl (by decide) rfl (fun ls hl => ?_)
  replace hl : lv_has ls 4 [(3, .int 0), (0, .ref (ad 0)), (1, .ref a), (2, .int (nI k))] := hl
  obtain ⟨n, i, hin, hi0⟩ : ∃ n i : Nat, i + n = fr_wn V ∧ i = 0 := ⟨fr_wn V, 0, Nat.zero_add _, rfl⟩
  replace hl : lv_has ls 4 [(3, .int (nI i)), (0, .ref (ad 0)), (1, .ref a), (2, .int (nI k))] := by rw [hi0]; exact hl
  have hg : ∀ w, w < i → g w = fr_tn V g k w := fun w h => absurd h (by omega)
  clear hi0
  induction n generalizing i ls  with
  | zero =>
    refine lv_iload_n hx hb dX0_dependsOn_2 rfl (lv_at hl 0 rfl) ?_
    refine lv_aload_n hx hb dX0_dependsOn_3 rfl (lv_at hl 1 rfl) ?_
    refine fr_gX 2 hx hb hw hown hK hP (by decide) mF_words rfl dX0_dependsOn_4 ?_
    refine lv_icmp_ge (tgt := 32) hx hb dX0_dependsOn_7 rfl (fun h1 => ?_) (fun h1 => absurd (nI_le (show fr_wn V ≤ i by omega) (by omega)) h1)
    refine lv_iconst (v := 0) hx hb dX0_dependsOn_32 (by decide) ?_
    exact W.zret (v := 0) hx hb hret rfl (fun t ht hW => ⟨_, rfl, Or.inr ⟨rfl, fun w h => hg w (by omega)⟩, ht⟩) (fun q hq => by cases hq) dX0_dependsOn_33
  | succ n ih =>
    refine lv_iload_n hx hb dX0_dependsOn_2 rfl (lv_at hl 0 rfl) ?_
    refine lv_aload_n hx hb dX0_dependsOn_3 rfl (lv_at hl 1 rfl) ?_
    refine fr_gX 2 hx hb hw hown hK hP (by decide) mF_words rfl dX0_dependsOn_4 ?_
    refine lv_icmp_ge (tgt := 32) hx hb dX0_dependsOn_7 rfl (fun h1 => absurd h1 (nI_ge (show i < fr_wn V by omega) (by omega))) (fun h1 => ?_)
    refine lv_aload_n hx hb dX0_dependsOn_10 rfl (lv_at hl 2 rfl) ?_
    refine lv_iload_n hx hb dX0_dependsOn_11 rfl (lv_at hl 0 rfl) ?_
    refine fr_lald hx hb hK hP q tq hq htq (by omega) (by omega) dX0_dependsOn_12 ?_
    refine lv_aload_n hx hb dX0_dependsOn_13 rfl (lv_at hl 1 rfl) ?_
    refine lv_aload_n hx hb dX0_dependsOn_14 rfl (lv_at hl 2 rfl) ?_
    refine lv_iload_n hx hb dX0_dependsOn_15 rfl (lv_at hl 3 rfl) ?_
    refine lv_iload_n hx hb dX0_dependsOn_16 rfl (lv_at hl 0 rfl) ?_
    refine fr_Xl (As := [.ref a, .int (nI k), .int (nI i)]) hS0 (cF_turned l D V ad ka mk nm pt ro q tq a cq g hq htq k i hk hV (by omega)) (cw_F_turned hw ⟨Nat.le_of_ble_eq_true rfl, Nat.le_of_ble_eq_true rfl⟩) hK hP hT hS rfl hl.1 rfl (Nat.le_of_ble_eq_true rfl) dX0_dependsOn_17 ⟨Nat.zero_le _, Nat.zero_le _⟩ (fun b2 hb2 => ?_)
    subst hb2
    refine W.lcmp hx hb dX0_dependsOn_20 ?_
    refine lv_if_eq (tgt := 26) hx hb dX0_dependsOn_21 rfl (fun h2 => ?_) (fun h2 => ?_)
    ·
      refine lv_iinc (k := 0) (v := nI (i + 1)) hx hb dX0_dependsOn_26 hl rfl (fr_inc i) (by decide) rfl (fun ls hl => ?_)
      replace hl : lv_has ls 4 [(3, .int (nI (i + 1))), (0, .ref (ad 0)), (1, .ref a), (2, .int (nI k))] := hl
      refine lv_goto (tgt := 2) hx hb dX0_dependsOn_29 rfl ?_
      exact ih ls (i + 1) (by omega) hl (lt_s hg ((lg_cmp_eq _ _).mp h2))
    ·
      refine lv_iconst (v := 1) hx hb dX0_dependsOn_24 (by decide) ?_
      exact W.zret (v := 1) hx hb hret rfl (fun t ht hW => ⟨_, rfl, Or.inl ⟨rfl, fun z => h2 ((lg_cmp_eq _ _).mpr (z i (by omega)))⟩, ht⟩) (fun q hq => by cases hq) dX0_dependsOn_25
set_option maxHeartbeats 4000000 in
set_option maxRecDepth 100000 in
theorem cF_count (l : Launch) (D : va_G) (V : Nat) (ad : Nat → Nat) (ka : Nat → ClassId) (mk : Nat → Int64) (nm pt : Nat → Int32) (ro : Nat → Nat → Int64) (q tq a : Nat) (cq : ClassId) (g : Nat → Int64) (hq : (fr_xw V ad ka mk nm pt ro)[q]? = some (a, .inl (cq, fr_wn V, .inr (.inl g)))) (htq : (fr_ty ka)[tq]? = some (cq, .long)) (hV : V < 10) : Met l yX0_count wsF_count rmF_count (va_Pc [.ref (ad 0), .ref a] (fr_PX D V ad ka mk nm pt ro)) (vp_Si (fun b => b = nI (fr_ct g (fr_wn V)))) 0 0 (fun _ => False) := by
  refine Met.ofW (cc := cX0_count) (maxL := 4) (ret := some .int) (by decide) rfl ?_
  intro p e s m args below meth c s₁ B hml hv
  obtain ⟨rfl, hP, hK, hT⟩ := hv
  have hx := B.exec
  have hb := B.bytes
  have hret := B.returns
  have hw := fun w (h : w ∈ WA) => atoms_spec (ws := wsF_count) B.pre w (List.mem_cons_of_mem _ h)
  have hown : s.vm.findClass "FunctionRoom" = some m.cls := findClass_of_methodNamed B.named
  have hlocks := B.notSynchronized
  have hS0 : CallFix p m c cX0_count 4 s _ WA "FunctionRoom" := ⟨hx, hb, hml, hown, hw⟩
  have hl := lv_entry ([.ref (ad 0), .ref a]) (n := 4) (Nat.le_of_ble_eq_true rfl)
  rw [lg_entry_eq]
  generalize (lg_sl ([.ref (ad 0), .ref a]) ++ List.replicate (4 - (lg_sl ([.ref (ad 0), .ref a])).length) Slot.unset).toArray = ls at hl ⊢
  replace hl : lv_has ls 4 [(0, .ref (ad 0)), (1, .ref a)] := hl
  have hS : va_S (fr_A ad) s.heap s.heap [] := va_S.rf
  have hw8 := (fr_wn_le V hV).2.1
  refine lv_iconst (v := 0) hx hb dX0_count_0 (by decide) ?_
  refine lv_istore_n hx hb dX0_count_1 rfl hl (by decide) rfl (fun ls hl => ?_)
  replace hl : lv_has ls 4 [(2, .int 0), (0, .ref (ad 0)), (1, .ref a)] := hl
  refine lv_iconst (v := 0) hx hb dX0_count_2 (by decide) ?_
  refine lv_istore_n hx hb dX0_count_3 rfl hl (by decide) rfl (fun ls hl => ?_)
  replace hl : lv_has ls 4 [(3, .int 0), (2, .int 0), (0, .ref (ad 0)), (1, .ref a)] := hl
  obtain ⟨n, i, hin, hi0⟩ : ∃ n i : Nat, i + n = fr_wn V ∧ i = 0 := ⟨fr_wn V, 0, Nat.zero_add _, rfl⟩
  replace hl : lv_has ls 4 [(3, .int (nI i)), (2, .int (nI (fr_ct g i))), (0, .ref (ad 0)), (1, .ref a)] := by rw [hi0]; exact hl
  clear hi0
  induction n generalizing i ls  with
  | zero =>
    refine lv_iload_n hx hb dX0_count_4 rfl (lv_at hl 0 rfl) ?_
    refine lv_aload_n hx hb dX0_count_5 rfl (lv_at hl 2 rfl) ?_
    refine fr_gX 2 hx hb hw hown hK hP (by decide) mF_words rfl dX0_count_6 ?_
    refine lv_icmp_ge (tgt := 27) hx hb dX0_count_9 rfl (fun h1 => ?_) (fun h1 => absurd (nI_le (show fr_wn V ≤ i by omega) (by omega)) h1)
    refine lv_iload_n hx hb dX0_count_27 rfl (lv_at hl 1 rfl) ?_
    exact W.iret (v := nI (fr_ct g i)) hx hb hret (fun t ht hW => ⟨_, rfl, by rw [show i = fr_wn V by omega], ht⟩) (fun q hq => by cases hq) dX0_count_28
  | succ n ih =>
    refine lv_iload_n hx hb dX0_count_4 rfl (lv_at hl 0 rfl) ?_
    refine lv_aload_n hx hb dX0_count_5 rfl (lv_at hl 2 rfl) ?_
    refine fr_gX 2 hx hb hw hown hK hP (by decide) mF_words rfl dX0_count_6 ?_
    refine lv_icmp_ge (tgt := 27) hx hb dX0_count_9 rfl (fun h1 => absurd h1 (nI_ge (show i < fr_wn V by omega) (by omega))) (fun h1 => ?_)
    refine lv_iload_n hx hb dX0_count_12 rfl (lv_at hl 1 rfl) ?_
    refine lv_aload_n hx hb dX0_count_13 rfl (lv_at hl 3 rfl) ?_
    refine lv_iload_n hx hb dX0_count_14 rfl (lv_at hl 0 rfl) ?_
    refine fr_lald hx hb hK hP q tq hq htq (by omega) (by omega) dX0_count_15 ?_
    refine fr_cSi (As := [.long ((g i))]) hS0 (cL_bitCount l (g i)) (cw_L_bitCount hw ⟨Nat.le_of_ble_eq_true rfl, Nat.le_of_ble_eq_true rfl⟩) (fr_pre0) rfl hl.1 rfl (Nat.le_of_ble_eq_true rfl) dX0_count_16 ⟨Nat.zero_le _, Nat.zero_le _⟩ (fun b2 hb2 => ?_)
    subst hb2
    refine lv_iadd hx hb dX0_count_19 ?_
    refine fr_top (show ((nI (fr_ct g i) + nI (fr_po (uN (g i)) 64)) : Int32) = nI (fr_ct g (i + 1)) from nI_add _ _) ?_
    refine lv_istore_n hx hb dX0_count_20 rfl hl (by decide) rfl (fun ls hl => ?_)
    replace hl : lv_has ls 4 [(2, .int (nI (fr_ct g (i + 1)))), (3, .int (nI i)), (0, .ref (ad 0)), (1, .ref a)] := hl
    refine lv_iinc (k := 1) (v := nI (i + 1)) hx hb dX0_count_21 hl rfl (fr_inc i) (by decide) rfl (fun ls hl => ?_)
    replace hl : lv_has ls 4 [(3, .int (nI (i + 1))), (2, .int (nI (fr_ct g (i + 1)))), (0, .ref (ad 0)), (1, .ref a)] := hl
    refine lv_goto (tgt := 4) hx hb dX0_count_24 rfl ?_
    exact ih ls (i + 1) (by omega) hl
