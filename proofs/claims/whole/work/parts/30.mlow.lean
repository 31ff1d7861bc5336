set_option maxHeartbeats 4000000 in
set_option maxRecDepth 100000 in
theorem cM_is (l : Launch) (r : Int32) : Met l yX1_is wsM_is rmM_is (va_Pc [.int r] (fun _ => True)) (vp_Si (fun b => (b = 1 ∧ fr_ok r 32) ∨ (b = 0 ∧ ¬ fr_ok r 32))) 0 0 (fun _ => False) := by
  refine Met.ofW (cc := cX1_is) (maxL := 1) (ret := some .boolean) (by decide) rfl ?_
  intro p e s m args below meth c s₁ B hml hv
  obtain ⟨rfl, hv⟩ := hv
  have hx := B.exec
  have hb := B.bytes
  have hret := B.returns
  have hw := fun w (h : w ∈ WA) => atoms_spec (ws := wsM_is) B.pre w (List.mem_cons_of_mem _ h)
  have hown : s.vm.findClass "FunctionRoomModel" = some m.cls := findClass_of_methodNamed B.named
  have hlocks := B.notSynchronized
  have hS0 : CallFix p m c cX1_is 1 s _ WA "FunctionRoomModel" := ⟨hx, hb, hml, hown, hw⟩
  have hl := lv_entry ([.int r]) (n := 1) (Nat.le_of_ble_eq_true rfl)
  rw [lg_entry_eq]
  generalize (lg_sl ([.int r]) ++ List.replicate (1 - (lg_sl ([.int r])).length) Slot.unset).toArray = ls at hl ⊢
  replace hl : lv_has ls 1 [(0, .int r)] := hl
  refine lv_iload_n hx hb dX1_is_0 rfl (lv_at hl 0 rfl) ?_
  refine lv_if_lt (tgt := 14) hx hb dX1_is_1 rfl (fun h1 => ?_) (fun h1 => ?_)
  ·
    refine lv_iconst (v := 0) hx hb dX1_is_14 (by decide) ?_
    exact W.zret (v := 0) hx hb hret rfl (fun t ht hW => ⟨_, rfl, Or.inr ⟨rfl, fun z => z.1 h1⟩, ht⟩) (fun q hq => by cases hq) dX1_is_15
  ·
    refine lv_iload_n hx hb dX1_is_4 rfl (lv_at hl 0 rfl) ?_
    refine lv_bipush (v := 32) hx hb dX1_is_5 (by decide) ?_
    refine lv_icmp_ge (tgt := 14) hx hb dX1_is_7 rfl (fun h2 => ?_) (fun h2 => ?_)
    ·
      refine lv_iconst (v := 0) hx hb dX1_is_14 (by decide) ?_
      exact W.zret (v := 0) hx hb hret rfl (fun t ht hW => ⟨_, rfl, Or.inr ⟨rfl, fun z => z.2 h2⟩, ht⟩) (fun q hq => by cases hq) dX1_is_15
    ·
      refine lv_iconst (v := 1) hx hb dX1_is_10 (by decide) ?_
      refine lv_goto (tgt := 15) hx hb dX1_is_11 rfl ?_
      exact W.zret (v := 1) hx hb hret rfl (fun t ht hW => ⟨_, rfl, Or.inl ⟨rfl, h1, h2⟩, ht⟩) (fun q hq => by cases hq) dX1_is_15
set_option maxHeartbeats 4000000 in
set_option maxRecDepth 100000 in
theorem cM_var (l : Launch) (D : va_G) (V : Nat) (bd : Nat → Nat) (kb : Nat → ClassId) (row made : Nat → Int32) (v : Int32) : Met l yX1_var wsM_var rmM_var (va_Pc [.ref (bd 0), .int v] (fr_PM D V bd kb row made)) (vp_Si (fun b => (b = 1 ∧ fr_ok v V) ∨ (b = 0 ∧ ¬ fr_ok v V))) 0 0 (fun _ => False) := by
  refine Met.ofW (cc := cX1_var) (maxL := 2) (ret := some .boolean) (by decide) rfl ?_
  intro p e s m args below meth c s₁ B hml hv
  obtain ⟨rfl, hP, hK, -⟩ := hv
  have hx := B.exec
  have hb := B.bytes
  have hret := B.returns
  have hw := fun w (h : w ∈ WA) => atoms_spec (ws := wsM_var) B.pre w (List.mem_cons_of_mem _ h)
  have hown : s.vm.findClass "FunctionRoomModel" = some m.cls := findClass_of_methodNamed B.named
  have hlocks := B.notSynchronized
  have hS0 : CallFix p m c cX1_var 2 s _ WA "FunctionRoomModel" := ⟨hx, hb, hml, hown, hw⟩
  have hl := lv_entry ([.ref (bd 0), .int v]) (n := 2) (Nat.le_of_ble_eq_true rfl)
  rw [lg_entry_eq]
  generalize (lg_sl ([.ref (bd 0), .int v]) ++ List.replicate (2 - (lg_sl ([.ref (bd 0), .int v])).length) Slot.unset).toArray = ls at hl ⊢
  replace hl : lv_has ls 2 [(0, .ref (bd 0)), (1, .int v)] := hl
  refine lv_iload_n hx hb dX1_var_0 rfl (lv_at hl 1 rfl) ?_
  refine lv_if_lt (tgt := 16) hx hb dX1_var_1 rfl (fun h1 => ?_) (fun h1 => ?_)
  ·
    refine lv_iconst (v := 0) hx hb dX1_var_16 (by decide) ?_
    exact W.zret (v := 0) hx hb hret rfl (fun t ht hW => ⟨_, rfl, Or.inr ⟨rfl, fun z => z.1 h1⟩, ht⟩) (fun q hq => by cases hq) dX1_var_17
  ·
    refine lv_iload_n hx hb dX1_var_4 rfl (lv_at hl 1 rfl) ?_
    refine lv_aload_n hx hb dX1_var_5 rfl (lv_at hl 0 rfl) ?_
    refine fr_gM 0 hx hb hw hown hK hP (by decide) mG_variables rfl dX1_var_6 ?_
    refine lv_icmp_ge (tgt := 16) hx hb dX1_var_9 rfl (fun h2 => ?_) (fun h2 => ?_)
    ·
      refine lv_iconst (v := 0) hx hb dX1_var_16 (by decide) ?_
      exact W.zret (v := 0) hx hb hret rfl (fun t ht hW => ⟨_, rfl, Or.inr ⟨rfl, fun z => z.2 h2⟩, ht⟩) (fun q hq => by cases hq) dX1_var_17
    ·
      refine lv_iconst (v := 1) hx hb dX1_var_12 (by decide) ?_
      refine lv_goto (tgt := 17) hx hb dX1_var_13 rfl ?_
      exact W.zret (v := 1) hx hb hret rfl (fun t ht hW => ⟨_, rfl, Or.inl ⟨rfl, h1, h2⟩, ht⟩) (fun q hq => by cases hq) dX1_var_17
set_option maxHeartbeats 4000000 in
set_option maxRecDepth 100000 in
theorem cM_bit (l : Launch) (D : va_G) (V : Nat) (bd : Nat → Nat) (kb : Nat → ClassId) (row made : Nat → Int32) (k : Nat) (hk : k < V) (hV : V < 10) : Met l yX1_bit wsM_bit rmM_bit (va_Pc [.ref (bd 0), .int (nI k)] (fr_PM D V bd kb row made)) (vp_Si (fun b => b = nI (2 ^ (V - 1 - k)))) 0 0 (fun _ => False) := by
  refine Met.ofW (cc := cX1_bit) (maxL := 2) (ret := some .int) (by decide) rfl ?_
  intro p e s m args below meth c s₁ B hml hv
  obtain ⟨rfl, hP, hK, -⟩ := hv
  have hx := B.exec
  have hb := B.bytes
  have hret := B.returns
  have hw := fun w (h : w ∈ WA) => atoms_spec (ws := wsM_bit) B.pre w (List.mem_cons_of_mem _ h)
  have hown : s.vm.findClass "FunctionRoomModel" = some m.cls := findClass_of_methodNamed B.named
  have hlocks := B.notSynchronized
  have hS0 : CallFix p m c cX1_bit 2 s _ WA "FunctionRoomModel" := ⟨hx, hb, hml, hown, hw⟩
  have hl := lv_entry ([.ref (bd 0), .int (nI k)]) (n := 2) (Nat.le_of_ble_eq_true rfl)
  rw [lg_entry_eq]
  generalize (lg_sl ([.ref (bd 0), .int (nI k)]) ++ List.replicate (2 - (lg_sl ([.ref (bd 0), .int (nI k)])).length) Slot.unset).toArray = ls at hl ⊢
  replace hl : lv_has ls 2 [(0, .ref (bd 0)), (1, .int (nI k))] := hl
  refine lv_iconst (v := 1) hx hb dX1_bit_0 (by decide) ?_
  refine lv_aload_n hx hb dX1_bit_1 rfl (lv_at hl 0 rfl) ?_
  refine fr_gM 0 hx hb hw hown hK hP (by decide) mG_variables rfl dX1_bit_2 ?_
  refine lv_iconst (v := 1) hx hb dX1_bit_5 (by decide) ?_
  refine lv_isub hx hb dX1_bit_6 ?_
  refine lv_iload_n hx hb dX1_bit_7 rfl (lv_at hl 1 rfl) ?_
  refine lv_isub hx hb dX1_bit_8 ?_
  refine fr_top (show (((nI V - 1) - nI k) : Int32) = nI (V - 1 - k) from by rw [show (1 : Int32) = nI 1 from rfl, pk_sub (by omega), pk_sub (by omega)]) ?_
  refine lv_ishl hx hb dX1_bit_9 ?_
  refine fr_top (show ((1 <<< (nI (V - 1 - k) &&& 31)) : Int32) = nI (2 ^ (V - 1 - k)) from fr_shl1 _ (by omega)) ?_
  exact W.iret (v := nI (2 ^ (V - 1 - k))) hx hb hret (fun t ht hW => ⟨_, rfl, rfl, ht⟩) (fun q hq => by cases hq) dX1_bit_10
