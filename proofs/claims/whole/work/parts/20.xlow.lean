set_option maxHeartbeats 4000000 in
set_option maxRecDepth 100000 in
theorem cL_bitCount (l : Launch) (x : Int64) : Met l yJ13_bitCount_95d88 wsL_bitCount rmL_bitCount (va_Pc [.long x] (fun _ => True)) (vp_Si (fun b => b = nI (fr_po (uN x) 64))) 0 0 (fun _ => False) := by
  refine Met.ofW (cc := cJ13_bitCount_95d88) (maxL := 2) (ret := some .int) (by decide) rfl ?_
  intro p e s m args below meth c s₁ B hml hv
  obtain ⟨rfl, hv⟩ := hv
  have hx := B.exec
  have hb := B.bytes
  have hret := B.returns
  have hw := fun w (h : w ∈ WA) => atoms_spec (ws := wsL_bitCount) B.pre w (List.mem_cons_of_mem _ h)
  have hown : s.vm.findClass "java/lang/Long" = some m.cls := findClass_of_methodNamed B.named
  have hlocks := B.notSynchronized
  have hS0 : CallFix p m c cJ13_bitCount_95d88 2 s _ WA "java/lang/Long" := ⟨hx, hb, hml, hown, hw⟩
  have hl := lv_entry ([.long x]) (n := 2) (Nat.le_of_ble_eq_true rfl)
  rw [lg_entry_eq]
  generalize (lg_sl ([.long x]) ++ List.replicate (2 - (lg_sl ([.long x])).length) Slot.unset).toArray = ls at hl ⊢
  replace hl : lv_has ls 2 [(0, .long x)] := hl
  refine lv_lload_n hx hb dJ13_bitCount_95d88_0 rfl (lv_at hl 0 rfl) ?_
  refine lv_lload_n hx hb dJ13_bitCount_95d88_1 rfl (lv_at hl 0 rfl) ?_
  refine lv_iconst (v := 1) hx hb dJ13_bitCount_95d88_2 (by decide) ?_
  refine lv_lushr hx hb dJ13_bitCount_95d88_3 rfl ?_
  refine lv_ldc2 (v := 6148914691236517205) hx hb hown (hw _ mC_L_316) dJ13_bitCount_95d88_4 ?_
  refine lv_land hx hb dJ13_bitCount_95d88_7 ?_
  refine lv_lsub hx hb dJ13_bitCount_95d88_8 ?_
  refine lv_topl (fun x1 e1 => ?_)
  refine lv_lstore_n hx hb dJ13_bitCount_95d88_9 rfl hl (by decide) rfl (fun ls hl => ?_)
  replace hl : lv_has ls 2 [(0, .long x1)] := hl
  refine lv_lload_n hx hb dJ13_bitCount_95d88_10 rfl (lv_at hl 0 rfl) ?_
  refine lv_ldc2 (v := 3689348814741910323) hx hb hown (hw _ mC_L_318) dJ13_bitCount_95d88_11 ?_
  refine lv_land hx hb dJ13_bitCount_95d88_14 ?_
  refine lv_lload_n hx hb dJ13_bitCount_95d88_15 rfl (lv_at hl 0 rfl) ?_
  refine lv_iconst (v := 2) hx hb dJ13_bitCount_95d88_16 (by decide) ?_
  refine lv_lushr hx hb dJ13_bitCount_95d88_17 rfl ?_
  refine lv_ldc2 (v := 3689348814741910323) hx hb hown (hw _ mC_L_318) dJ13_bitCount_95d88_18 ?_
  refine lv_land hx hb dJ13_bitCount_95d88_21 ?_
  refine lv_ladd hx hb dJ13_bitCount_95d88_22 ?_
  refine lv_topl (fun x2 e2 => ?_)
  refine lv_lstore_n hx hb dJ13_bitCount_95d88_23 rfl hl (by decide) rfl (fun ls hl => ?_)
  replace hl : lv_has ls 2 [(0, .long x2)] := hl
  refine lv_lload_n hx hb dJ13_bitCount_95d88_24 rfl (lv_at hl 0 rfl) ?_
  refine lv_lload_n hx hb dJ13_bitCount_95d88_25 rfl (lv_at hl 0 rfl) ?_
  refine lv_iconst (v := 4) hx hb dJ13_bitCount_95d88_26 (by decide) ?_
  refine lv_lushr hx hb dJ13_bitCount_95d88_27 rfl ?_
  refine lv_ladd hx hb dJ13_bitCount_95d88_28 ?_
  refine lv_ldc2 (v := 1085102592571150095) hx hb hown (hw _ mC_L_320) dJ13_bitCount_95d88_29 ?_
  refine lv_land hx hb dJ13_bitCount_95d88_32 ?_
  refine lv_topl (fun x3 e3 => ?_)
  refine lv_lstore_n hx hb dJ13_bitCount_95d88_33 rfl hl (by decide) rfl (fun ls hl => ?_)
  replace hl : lv_has ls 2 [(0, .long x3)] := hl
  refine lv_lload_n hx hb dJ13_bitCount_95d88_34 rfl (lv_at hl 0 rfl) ?_
  refine lv_lload_n hx hb dJ13_bitCount_95d88_35 rfl (lv_at hl 0 rfl) ?_
  refine lv_bipush (v := 8) hx hb dJ13_bitCount_95d88_36 (by decide) ?_
  refine lv_lushr hx hb dJ13_bitCount_95d88_38 rfl ?_
  refine lv_ladd hx hb dJ13_bitCount_95d88_39 ?_
  refine lv_topl (fun x4 e4 => ?_)
  refine lv_lstore_n hx hb dJ13_bitCount_95d88_40 rfl hl (by decide) rfl (fun ls hl => ?_)
  replace hl : lv_has ls 2 [(0, .long x4)] := hl
  refine lv_lload_n hx hb dJ13_bitCount_95d88_41 rfl (lv_at hl 0 rfl) ?_
  refine lv_lload_n hx hb dJ13_bitCount_95d88_42 rfl (lv_at hl 0 rfl) ?_
  refine lv_bipush (v := 16) hx hb dJ13_bitCount_95d88_43 (by decide) ?_
  refine lv_lushr hx hb dJ13_bitCount_95d88_45 rfl ?_
  refine lv_ladd hx hb dJ13_bitCount_95d88_46 ?_
  refine lv_topl (fun x5 e5 => ?_)
  refine lv_lstore_n hx hb dJ13_bitCount_95d88_47 rfl hl (by decide) rfl (fun ls hl => ?_)
  replace hl : lv_has ls 2 [(0, .long x5)] := hl
  refine lv_lload_n hx hb dJ13_bitCount_95d88_48 rfl (lv_at hl 0 rfl) ?_
  refine lv_lload_n hx hb dJ13_bitCount_95d88_49 rfl (lv_at hl 0 rfl) ?_
  refine lv_bipush (v := 32) hx hb dJ13_bitCount_95d88_50 (by decide) ?_
  refine lv_lushr hx hb dJ13_bitCount_95d88_52 rfl ?_
  refine lv_ladd hx hb dJ13_bitCount_95d88_53 ?_
  refine lv_topl (fun x6 e6 => ?_)
  refine lv_lstore_n hx hb dJ13_bitCount_95d88_54 rfl hl (by decide) rfl (fun ls hl => ?_)
  replace hl : lv_has ls 2 [(0, .long x6)] := hl
  refine lv_lload_n hx hb dJ13_bitCount_95d88_55 rfl (lv_at hl 0 rfl) ?_
  refine lv_l2i hx hb dJ13_bitCount_95d88_56 rfl ?_
  refine lv_bipush (v := 127) hx hb dJ13_bitCount_95d88_57 (by decide) ?_
  refine lv_iand hx hb dJ13_bitCount_95d88_59 ?_
  refine fr_top (show (((x6).toInt32 &&& 127) : Int32) = nI (fr_po (uN x) 64) from fr_bitCount x x1 x2 x3 x4 x5 x6 e1 e2 e3 e4 e5 e6) ?_
  exact W.iret (v := nI (fr_po (uN x) 64)) hx hb hret (fun t ht hW => ⟨_, rfl, rfl, ht⟩) (fun q hq => by cases hq) dJ13_bitCount_95d88_60
set_option maxHeartbeats 4000000 in
set_option maxRecDepth 100000 in
theorem cF_isRegister (l : Launch) (r : Int32) : Met l yX0_isRegister wsF_isRegister rmF_isRegister (va_Pc [.int r] (fun _ => True)) (vp_Si (fun b => (b = 1 ∧ fr_ok r 32) ∨ (b = 0 ∧ ¬ fr_ok r 32))) 0 0 (fun _ => False) := by
  refine Met.ofW (cc := cX0_isRegister) (maxL := 1) (ret := some .boolean) (by decide) rfl ?_
  intro p e s m args below meth c s₁ B hml hv
  obtain ⟨rfl, hv⟩ := hv
  have hx := B.exec
  have hb := B.bytes
  have hret := B.returns
  have hw := fun w (h : w ∈ WA) => atoms_spec (ws := wsF_isRegister) B.pre w (List.mem_cons_of_mem _ h)
  have hown : s.vm.findClass "FunctionRoom" = some m.cls := findClass_of_methodNamed B.named
  have hlocks := B.notSynchronized
  have hS0 : CallFix p m c cX0_isRegister 1 s _ WA "FunctionRoom" := ⟨hx, hb, hml, hown, hw⟩
  have hl := lv_entry ([.int r]) (n := 1) (Nat.le_of_ble_eq_true rfl)
  rw [lg_entry_eq]
  generalize (lg_sl ([.int r]) ++ List.replicate (1 - (lg_sl ([.int r])).length) Slot.unset).toArray = ls at hl ⊢
  replace hl : lv_has ls 1 [(0, .int r)] := hl
  refine lv_iload_n hx hb dX0_isRegister_0 rfl (lv_at hl 0 rfl) ?_
  refine lv_if_lt (tgt := 14) hx hb dX0_isRegister_1 rfl (fun h1 => ?_) (fun h1 => ?_)
  ·
    refine lv_iconst (v := 0) hx hb dX0_isRegister_14 (by decide) ?_
    exact W.zret (v := 0) hx hb hret rfl (fun t ht hW => ⟨_, rfl, Or.inr ⟨rfl, fun z => z.1 h1⟩, ht⟩) (fun q hq => by cases hq) dX0_isRegister_15
  ·
    refine lv_iload_n hx hb dX0_isRegister_4 rfl (lv_at hl 0 rfl) ?_
    refine lv_bipush (v := 32) hx hb dX0_isRegister_5 (by decide) ?_
    refine lv_icmp_ge (tgt := 14) hx hb dX0_isRegister_7 rfl (fun h2 => ?_) (fun h2 => ?_)
    ·
      refine lv_iconst (v := 0) hx hb dX0_isRegister_14 (by decide) ?_
      exact W.zret (v := 0) hx hb hret rfl (fun t ht hW => ⟨_, rfl, Or.inr ⟨rfl, fun z => z.2 h2⟩, ht⟩) (fun q hq => by cases hq) dX0_isRegister_15
    ·
      refine lv_iconst (v := 1) hx hb dX0_isRegister_10 (by decide) ?_
      refine lv_goto (tgt := 15) hx hb dX0_isRegister_11 rfl ?_
      exact W.zret (v := 1) hx hb hret rfl (fun t ht hW => ⟨_, rfl, Or.inl ⟨rfl, h1, h2⟩, ht⟩) (fun q hq => by cases hq) dX0_isRegister_15
set_option maxHeartbeats 4000000 in
set_option maxRecDepth 100000 in
theorem cF_isVariable (l : Launch) (D : va_G) (V : Nat) (ad : Nat → Nat) (ka : Nat → ClassId) (mk : Nat → Int64) (nm pt : Nat → Int32) (ro : Nat → Nat → Int64) (v : Int32) : Met l yX0_isVariable wsF_isVariable rmF_isVariable (va_Pc [.ref (ad 0), .int v] (fr_PX D V ad ka mk nm pt ro)) (vp_Si (fun b => (b = 1 ∧ fr_ok v V) ∨ (b = 0 ∧ ¬ fr_ok v V))) 0 0 (fun _ => False) := by
  refine Met.ofW (cc := cX0_isVariable) (maxL := 2) (ret := some .boolean) (by decide) rfl ?_
  intro p e s m args below meth c s₁ B hml hv
  obtain ⟨rfl, hP, hK, hT⟩ := hv
  have hx := B.exec
  have hb := B.bytes
  have hret := B.returns
  have hw := fun w (h : w ∈ WA) => atoms_spec (ws := wsF_isVariable) B.pre w (List.mem_cons_of_mem _ h)
  have hown : s.vm.findClass "FunctionRoom" = some m.cls := findClass_of_methodNamed B.named
  have hlocks := B.notSynchronized
  have hS0 : CallFix p m c cX0_isVariable 2 s _ WA "FunctionRoom" := ⟨hx, hb, hml, hown, hw⟩
  have hl := lv_entry ([.ref (ad 0), .int v]) (n := 2) (Nat.le_of_ble_eq_true rfl)
  rw [lg_entry_eq]
  generalize (lg_sl ([.ref (ad 0), .int v]) ++ List.replicate (2 - (lg_sl ([.ref (ad 0), .int v])).length) Slot.unset).toArray = ls at hl ⊢
  replace hl : lv_has ls 2 [(0, .ref (ad 0)), (1, .int v)] := hl
  refine lv_iload_n hx hb dX0_isVariable_0 rfl (lv_at hl 1 rfl) ?_
  refine lv_if_lt (tgt := 16) hx hb dX0_isVariable_1 rfl (fun h1 => ?_) (fun h1 => ?_)
  ·
    refine lv_iconst (v := 0) hx hb dX0_isVariable_16 (by decide) ?_
    exact W.zret (v := 0) hx hb hret rfl (fun t ht hW => ⟨_, rfl, Or.inr ⟨rfl, fun z => z.1 h1⟩, ht⟩) (fun q hq => by cases hq) dX0_isVariable_17
  ·
    refine lv_iload_n hx hb dX0_isVariable_4 rfl (lv_at hl 1 rfl) ?_
    refine lv_aload_n hx hb dX0_isVariable_5 rfl (lv_at hl 0 rfl) ?_
    refine fr_gX 0 hx hb hw hown hK hP (by decide) mF_variables rfl dX0_isVariable_6 ?_
    refine lv_icmp_ge (tgt := 16) hx hb dX0_isVariable_9 rfl (fun h2 => ?_) (fun h2 => ?_)
    ·
      refine lv_iconst (v := 0) hx hb dX0_isVariable_16 (by decide) ?_
      exact W.zret (v := 0) hx hb hret rfl (fun t ht hW => ⟨_, rfl, Or.inr ⟨rfl, fun z => z.2 h2⟩, ht⟩) (fun q hq => by cases hq) dX0_isVariable_17
    ·
      refine lv_iconst (v := 1) hx hb dX0_isVariable_12 (by decide) ?_
      refine lv_goto (tgt := 17) hx hb dX0_isVariable_13 rfl ?_
      exact W.zret (v := 1) hx hb hret rfl (fun t ht hW => ⟨_, rfl, Or.inl ⟨rfl, h1, h2⟩, ht⟩) (fun q hq => by cases hq) dX0_isVariable_17
set_option maxHeartbeats 4000000 in
set_option maxRecDepth 100000 in
theorem cF_bitOf (l : Launch) (D : va_G) (V : Nat) (ad : Nat → Nat) (ka : Nat → ClassId) (mk : Nat → Int64) (nm pt : Nat → Int32) (ro : Nat → Nat → Int64) (k : Nat) (hk : k < V) (hV : V < 10) : Met l yX0_bitOf wsF_bitOf rmF_bitOf (va_Pc [.ref (ad 0), .int (nI k)] (fr_PX D V ad ka mk nm pt ro)) (vp_Si (fun b => b = nI (V - 1 - k))) 0 0 (fun _ => False) := by
  refine Met.ofW (cc := cX0_bitOf) (maxL := 2) (ret := some .int) (by decide) rfl ?_
  intro p e s m args below meth c s₁ B hml hv
  obtain ⟨rfl, hP, hK, hT⟩ := hv
  have hx := B.exec
  have hb := B.bytes
  have hret := B.returns
  have hw := fun w (h : w ∈ WA) => atoms_spec (ws := wsF_bitOf) B.pre w (List.mem_cons_of_mem _ h)
  have hown : s.vm.findClass "FunctionRoom" = some m.cls := findClass_of_methodNamed B.named
  have hlocks := B.notSynchronized
  have hS0 : CallFix p m c cX0_bitOf 2 s _ WA "FunctionRoom" := ⟨hx, hb, hml, hown, hw⟩
  have hl := lv_entry ([.ref (ad 0), .int (nI k)]) (n := 2) (Nat.le_of_ble_eq_true rfl)
  rw [lg_entry_eq]
  generalize (lg_sl ([.ref (ad 0), .int (nI k)]) ++ List.replicate (2 - (lg_sl ([.ref (ad 0), .int (nI k)])).length) Slot.unset).toArray = ls at hl ⊢
  replace hl : lv_has ls 2 [(0, .ref (ad 0)), (1, .int (nI k))] := hl
  refine lv_aload_n hx hb dX0_bitOf_0 rfl (lv_at hl 0 rfl) ?_
  refine fr_gX 0 hx hb hw hown hK hP (by decide) mF_variables rfl dX0_bitOf_1 ?_
  refine lv_iconst (v := 1) hx hb dX0_bitOf_4 (by decide) ?_
  refine lv_isub hx hb dX0_bitOf_5 ?_
  refine lv_iload_n hx hb dX0_bitOf_6 rfl (lv_at hl 1 rfl) ?_
  refine lv_isub hx hb dX0_bitOf_7 ?_
  refine fr_top (show (((nI V - 1) - nI k) : Int32) = nI (V - 1 - k) from by rw [show (1 : Int32) = nI 1 from rfl, pk_sub (by omega), pk_sub (by omega)]) ?_
  exact W.iret (v := nI (V - 1 - k)) hx hb hret (fun t ht hW => ⟨_, rfl, rfl, ht⟩) (fun q hq => by cases hq) dX0_bitOf_8
set_option maxHeartbeats 4000000 in
set_option maxRecDepth 100000 in
theorem cF_valueAt (l : Launch) (D : va_G) (a : Nat) (cA : ClassId) (n : Nat) (g : Nat → Int64) (x : Nat) (hx5 : x < 512) (hx6 : x / 64 < n) (hn : n < 2 ^ 31) : Met l yX0_valueAt wsF_valueAt rmF_valueAt (va_Pc [.ref a, .int (nI x)] (fun U => va_P D vwCl [(a, .inl (cA, n, .inr (.inl g)))] U.heap ∧ va_K D vwCl [(cA, .long)] U)) (vp_Si (fun b => b = fr_bi (fr_b (g (x / 64)) (x % 64)))) 0 0 (fun _ => False) := by
  refine Met.ofW (cc := cX0_valueAt) (maxL := 2) (ret := some .int) (by decide) rfl ?_
  intro p e s m args below meth c s₁ B hml hv
  obtain ⟨rfl, hv⟩ := hv
  have hx := B.exec
  have hb := B.bytes
  have hret := B.returns
  have hw := fun w (h : w ∈ WA) => atoms_spec (ws := wsF_valueAt) B.pre w (List.mem_cons_of_mem _ h)
  have hown : s.vm.findClass "FunctionRoom" = some m.cls := findClass_of_methodNamed B.named
  have hlocks := B.notSynchronized
  have hS0 : CallFix p m c cX0_valueAt 2 s _ WA "FunctionRoom" := ⟨hx, hb, hml, hown, hw⟩
  have hl := lv_entry ([.ref a, .int (nI x)]) (n := 2) (Nat.le_of_ble_eq_true rfl)
  rw [lg_entry_eq]
  generalize (lg_sl ([.ref a, .int (nI x)]) ++ List.replicate (2 - (lg_sl ([.ref a, .int (nI x)])).length) Slot.unset).toArray = ls at hl ⊢
  replace hl : lv_has ls 2 [(0, .ref a), (1, .int (nI x))] := hl
  obtain ⟨hP, hK⟩ := hv
  refine lv_aload_n hx hb dX0_valueAt_0 rfl (lv_at hl 0 rfl) ?_
  refine lv_iload_n hx hb dX0_valueAt_1 rfl (lv_at hl 1 rfl) ?_
  refine lv_bipush (v := 6) hx hb dX0_valueAt_2 (by decide) ?_
  refine lv_ishr hx hb dX0_valueAt_4 ?_
  refine fr_top (show ((nI x >>> (6 &&& 31)) : Int32) = nI (x / 64) from by rw [pk_shrN (by omega) _ 6 (by decide)]) ?_
  refine fr_lald hx hb hK hP 0 0 rfl rfl hx6 hn dX0_valueAt_5 ?_
  refine lv_iload_n hx hb dX0_valueAt_6 rfl (lv_at hl 1 rfl) ?_
  refine lv_lushr hx hb dX0_valueAt_7 rfl ?_
  refine lv_l2i hx hb dX0_valueAt_8 rfl ?_
  refine lv_iconst (v := 1) hx hb dX0_valueAt_9 (by decide) ?_
  refine lv_iand hx hb dX0_valueAt_10 ?_
  refine fr_top (show ((((((g (x / 64))).toUInt64 >>> ((nI x).toInt64.toUInt64 &&& Int64.toUInt64 63)).toInt64).toInt32 &&& 1) : Int32) = fr_bi (fr_b (g (x / 64)) (x % 64)) from fr_valueAt _ (by omega)) ?_
  exact W.iret (v := fr_bi (fr_b (g (x / 64)) (x % 64))) hx hb hret (fun t ht hW => ⟨_, rfl, rfl, ht⟩) (fun q hq => by cases hq) dX0_valueAt_11
set_option maxHeartbeats 4000000 in
set_option maxRecDepth 100000 in
theorem cF_combined (l : Launch) (o : Nat) (x y : Int64) (ho : o < 5) : Met l yX0_combined wsF_combined rmF_combined (va_Pc [.int (nI o), .long x, .long y] (fun _ => True)) (vp_Sl (fun b => b = fr_cb o x y)) 0 0 (fun _ => False) := by
  refine Met.ofW (cc := cX0_combined) (maxL := 5) (ret := some .long) (by decide) rfl ?_
  intro p e s m args below meth c s₁ B hml hv
  obtain ⟨rfl, hv⟩ := hv
  have hx := B.exec
  have hb := B.bytes
  have hret := B.returns
  have hw := fun w (h : w ∈ WA) => atoms_spec (ws := wsF_combined) B.pre w (List.mem_cons_of_mem _ h)
  have hown : s.vm.findClass "FunctionRoom" = some m.cls := findClass_of_methodNamed B.named
  have hlocks := B.notSynchronized
  have hS0 : CallFix p m c cX0_combined 5 s _ WA "FunctionRoom" := ⟨hx, hb, hml, hown, hw⟩
  have hl := lv_entry ([.int (nI o), .long x, .long y]) (n := 5) (Nat.le_of_ble_eq_true rfl)
  rw [lg_entry_eq]
  generalize (lg_sl ([.int (nI o), .long x, .long y]) ++ List.replicate (5 - (lg_sl ([.int (nI o), .long x, .long y])).length) Slot.unset).toArray = ls at hl ⊢
  replace hl : lv_has ls 5 [(0, .int (nI o)), (1, .long x), (3, .long y)] := hl
  refine lv_iload_n hx hb dX0_combined_0 rfl (lv_at hl 0 rfl) ?_
  have hi : (nI o).toInt = (o : Int) := nI_toInt (by omega)
  rcases (show o = 0 ∨ o = 1 ∨ o = 2 ∨ o = 3 ∨ o = 4 by omega) with rfl | rfl | rfl | rfl | rfl
  ·
    refine lv_tableIn (tgt := 32) hx hb dX0_combined_1 (by rw [hi]; decide) (by rw [hi]; decide) (by rw [hi]; rfl) rfl ?_
    refine lv_lload_n hx hb dX0_combined_32 rfl (lv_at hl 1 rfl) ?_
    refine lv_lload_n hx hb dX0_combined_33 rfl (lv_at hl 2 rfl) ?_
    refine lv_land hx hb dX0_combined_34 ?_
    exact W.lret (v := (x &&& y)) hx hb hret (fun t ht hW => ⟨_, rfl, rfl, ht⟩) (fun q hq => by cases hq) dX0_combined_35
  ·
    refine lv_tableIn (tgt := 36) hx hb dX0_combined_1 (by rw [hi]; decide) (by rw [hi]; decide) (by rw [hi]; rfl) rfl ?_
    refine lv_lload_n hx hb dX0_combined_36 rfl (lv_at hl 1 rfl) ?_
    refine lv_lload_n hx hb dX0_combined_37 rfl (lv_at hl 2 rfl) ?_
    refine lv_lor hx hb dX0_combined_38 ?_
    exact W.lret (v := (x ||| y)) hx hb hret (fun t ht hW => ⟨_, rfl, rfl, ht⟩) (fun q hq => by cases hq) dX0_combined_39
  ·
    refine lv_tableIn (tgt := 40) hx hb dX0_combined_1 (by rw [hi]; decide) (by rw [hi]; decide) (by rw [hi]; rfl) rfl ?_
    refine lv_lload_n hx hb dX0_combined_40 rfl (lv_at hl 1 rfl) ?_
    refine lv_lload_n hx hb dX0_combined_41 rfl (lv_at hl 2 rfl) ?_
    refine lv_lxor hx hb dX0_combined_42 ?_
    exact W.lret (v := (x ^^^ y)) hx hb hret (fun t ht hW => ⟨_, rfl, rfl, ht⟩) (fun q hq => by cases hq) dX0_combined_43
  ·
    refine lv_tableIn (tgt := 44) hx hb dX0_combined_1 (by rw [hi]; decide) (by rw [hi]; decide) (by rw [hi]; rfl) rfl ?_
    refine lv_lload_n hx hb dX0_combined_44 rfl (lv_at hl 1 rfl) ?_
    refine lv_lload_n hx hb dX0_combined_45 rfl (lv_at hl 2 rfl) ?_
    refine lv_ldc2 (v := (-1)) hx hb hown (hw _ mC_F_28) dX0_combined_46 ?_
    refine lv_lxor hx hb dX0_combined_49 ?_
    refine lv_land hx hb dX0_combined_50 ?_
    exact W.lret (v := (x &&& (y ^^^ (-1)))) hx hb hret (fun t ht hW => ⟨_, rfl, rfl, ht⟩) (fun q hq => by cases hq) dX0_combined_51
  ·
    refine lv_tableOut (tgt := 52) hx hb dX0_combined_1 (by rw [hi]; decide) rfl ?_
    refine lv_lload_n hx hb dX0_combined_52 rfl (lv_at hl 1 rfl) ?_
    refine lv_ldc2 (v := (-1)) hx hb hown (hw _ mC_F_28) dX0_combined_53 ?_
    refine lv_lxor hx hb dX0_combined_56 ?_
    refine lv_lload_n hx hb dX0_combined_57 rfl (lv_at hl 2 rfl) ?_
    refine lv_lor hx hb dX0_combined_58 ?_
    exact W.lret (v := ((x ^^^ (-1)) ||| y)) hx hb hret (fun t ht hW => ⟨_, rfl, rfl, ht⟩) (fun q hq => by cases hq) dX0_combined_59
set_option maxHeartbeats 4000000 in
set_option maxRecDepth 100000 in
theorem cF_placesWhereOne (l : Launch) (D : va_G) (V : Nat) (ad : Nat → Nat) (ka : Nat → ClassId) (mk : Nat → Int64) (nm pt : Nat → Int32) (ro : Nat → Nat → Int64) (k i : Nat) (hk : k < V) (hV : V < 10) (hi : i < fr_wn V) : Met l yX0_placesWhereOne wsF_placesWhereOne rmF_placesWhereOne (va_Pc [.ref (ad 0), .int (nI k), .int (nI i)] (fr_PX D V ad ka mk nm pt ro)) (vp_Sl (fun b => b = fr_pw V k i)) 0 0 (fun _ => False) := by
  refine Met.ofW (cc := cX0_placesWhereOne) (maxL := 4) (ret := some .long) (by decide) rfl ?_
  intro p e s m args below meth c s₁ B hml hv
  obtain ⟨rfl, hP, hK, hT⟩ := hv
  have hx := B.exec
  have hb := B.bytes
  have hret := B.returns
  have hw := fun w (h : w ∈ WA) => atoms_spec (ws := wsF_placesWhereOne) B.pre w (List.mem_cons_of_mem _ h)
  have hown : s.vm.findClass "FunctionRoom" = some m.cls := findClass_of_methodNamed B.named
  have hlocks := B.notSynchronized
  have hS0 : CallFix p m c cX0_placesWhereOne 4 s _ WA "FunctionRoom" := ⟨hx, hb, hml, hown, hw⟩
  have hl := lv_entry ([.ref (ad 0), .int (nI k), .int (nI i)]) (n := 4) (Nat.le_of_ble_eq_true rfl)
  rw [lg_entry_eq]
  generalize (lg_sl ([.ref (ad 0), .int (nI k), .int (nI i)]) ++ List.replicate (4 - (lg_sl ([.ref (ad 0), .int (nI k), .int (nI i)])).length) Slot.unset).toArray = ls at hl ⊢
  replace hl : lv_has ls 4 [(0, .ref (ad 0)), (1, .int (nI k)), (2, .int (nI i))] := hl
  have hS : va_S (fr_A ad) s.heap s.heap [] := va_S.rf
  have hw8 := (fr_wn_le V hV).2.1
  refine lv_aload_n hx hb dX0_placesWhereOne_0 rfl (lv_at hl 0 rfl) ?_
  refine lv_iload_n hx hb dX0_placesWhereOne_1 rfl (lv_at hl 1 rfl) ?_
  refine fr_Xi (As := [.int (nI k)]) hS0 (cF_bitOf l D V ad ka mk nm pt ro k hk hV) (cw_F_bitOf hw ⟨Nat.le_of_ble_eq_true rfl, Nat.le_of_ble_eq_true rfl⟩) hK hP hT hS rfl hl.1 rfl (Nat.le_of_ble_eq_true rfl) dX0_placesWhereOne_2 ⟨Nat.zero_le _, Nat.zero_le _⟩ (fun b hb1 => ?_)
  subst hb1
  refine lv_istore_n hx hb dX0_placesWhereOne_5 rfl hl (by decide) rfl (fun ls hl => ?_)
  replace hl : lv_has ls 4 [(3, .int (nI (V - 1 - k))), (0, .ref (ad 0)), (1, .int (nI k)), (2, .int (nI i))] := hl
  refine lv_iload_n hx hb dX0_placesWhereOne_6 rfl (lv_at hl 0 rfl) ?_
  refine lv_bipush (v := 6) hx hb dX0_placesWhereOne_7 (by decide) ?_
  refine lv_icmp_ge (tgt := 23) hx hb dX0_placesWhereOne_9 rfl (fun h1 => ?_) (fun h1 => ?_)
  ·
    have hb6 : ¬ V - 1 - k < 6 := fun z => nI_ge (b := 6) z (by decide) h1
    refine lv_iload_n hx hb dX0_placesWhereOne_23 rfl (lv_at hl 3 rfl) ?_
    refine lv_iload_n hx hb dX0_placesWhereOne_24 rfl (lv_at hl 0 rfl) ?_
    refine lv_bipush (v := 6) hx hb dX0_placesWhereOne_25 (by decide) ?_
    refine lv_isub hx hb dX0_placesWhereOne_27 ?_
    refine fr_top (show ((nI (V - 1 - k) - 6) : Int32) = nI (V - 1 - k - 6) from pk_sub (b := 6) (by omega)) ?_
    refine lv_ishr hx hb dX0_placesWhereOne_28 ?_
    refine lv_iconst (v := 1) hx hb dX0_placesWhereOne_29 (by decide) ?_
    refine lv_iand hx hb dX0_placesWhereOne_30 ?_
    refine fr_top (show (((nI i >>> (nI (V - 1 - k - 6) &&& 31)) &&& 1) : Int32) = fr_bi (i.testBit (V - 1 - k - 6)) from fr_pwt _ (by omega) _ (by omega)) ?_
    refine lv_iconst (v := 1) hx hb dX0_placesWhereOne_31 (by decide) ?_
    refine lv_icmp_ne (tgt := 42) hx hb dX0_placesWhereOne_32 rfl (fun h2 => ?_) (fun h2 => ?_)
    ·
      have h3 : i.testBit (V - 1 - k - 6) = false := by cases hq : i.testBit (V - 1 - k - 6) <;> simp_all [fr_bi]
      refine lv_lconst (v := 0) hx hb dX0_placesWhereOne_42 (by decide) ?_
      exact W.lret (v := 0) hx hb hret (fun t ht hW => ⟨_, rfl, by unfold fr_pw; rw [if_neg hb6, h3]; rfl, ht⟩) (fun q hq => by cases hq) dX0_placesWhereOne_43
    ·
      have h3 : i.testBit (V - 1 - k - 6) = true := by cases hq : i.testBit (V - 1 - k - 6) <;> simp_all [fr_bi]
      refine lv_aload_n hx hb dX0_placesWhereOne_35 rfl (lv_at hl 1 rfl) ?_
      refine fr_gX 3 hx hb hw hown hK hP (by decide) mF_places rfl dX0_placesWhereOne_36 ?_
      refine lv_goto (tgt := 43) hx hb dX0_placesWhereOne_39 rfl ?_
      exact W.lret (v := fr_pl V) hx hb hret (fun t ht hW => ⟨_, rfl, by unfold fr_pw; rw [if_neg hb6, h3]; rfl, ht⟩) (fun q hq => by cases hq) dX0_placesWhereOne_43
  ·
    have hb6 : V - 1 - k < 6 := Nat.lt_of_not_le fun z => h1 (nI_le z (by omega))
    obtain ⟨tb, hz1, hz2⟩ := hT
    refine va_gets hx hb hz1 hS hown (hw _ mF_PLACES) (fun _ h9 => h9) dX0_placesWhereOne_12 ?_
    refine lv_iload_n hx hb dX0_placesWhereOne_15 rfl (lv_at hl 0 rfl) ?_
    refine va_tl (v := .long (fr_pb (V - 1 - k))) hx hb hz2 hS (vp_in_nI hb6 (by decide)) (by rw [nI_clamp (by omega)]) dX0_placesWhereOne_16 ?_
    refine lv_aload_n hx hb dX0_placesWhereOne_17 rfl (lv_at hl 1 rfl) ?_
    refine fr_gX 3 hx hb hw hown hK hP (by decide) mF_places rfl dX0_placesWhereOne_18 ?_
    refine lv_land hx hb dX0_placesWhereOne_21 ?_
    exact W.lret (v := fr_pb (V - 1 - k) &&& fr_pl V) hx hb hret (fun t ht hW => ⟨_, rfl, by unfold fr_pw; rw [if_pos hb6], ht⟩) (fun q hq => by cases hq) dX0_placesWhereOne_22
