set_option maxHeartbeats 4000000 in
set_option maxRecDepth 100000 in
theorem cF_keep (l : Launch) (D : va_G) (V : Nat) (ad : Nat → Nat) (ka : Nat → ClassId) (mk : Nat → Int64) (nm pt : Nat → Int32) (ro : Nat → Nat → Int64) (hV : V < 10) (hinj : fr_inj ad) (j : Nat) (hLj : j < 32) : Met l yX0_keep wsF_keep rmF_keep (va_Pc [.ref (ad 0), .int (nI j)] (fr_PX D V ad ka mk nm pt ro)) (va_Qi (fun res u => res = nI (fr_ct mk (fr_wn V)) ∧ u = (mk, nm, pt, va_up ro j (va_cpy mk (ro j) 0 0 (fr_wn V)))) (fun u t => va_P D vwCl (fr_xu V ad ka u) t.heap) (fr_A ad)) 0 0 (fr_A ad) := by
  refine Met.ofW (cc := cX0_keep) (maxL := 2) (ret := some .int) (by decide) rfl ?_
  intro p e s m args below meth c s₁ B hml hv
  obtain ⟨rfl, hP, hK, hT⟩ := hv
  have hx := B.exec
  have hb := B.bytes
  have hret := B.returns
  have hw := fun w (h : w ∈ WA) => atoms_spec (ws := wsF_keep) B.pre w (List.mem_cons_of_mem _ h)
  have hown : s.vm.findClass "FunctionRoom" = some m.cls := findClass_of_methodNamed B.named
  have hlocks := B.notSynchronized
  have hS0 : CallFix p m c cX0_keep 2 s _ WA "FunctionRoom" := ⟨hx, hb, hml, hown, hw⟩
  have hl := lv_entry ([.ref (ad 0), .int (nI j)]) (n := 2) (Nat.le_of_ble_eq_true rfl)
  rw [lg_entry_eq]
  generalize (lg_sl ([.ref (ad 0), .int (nI j)]) ++ List.replicate (2 - (lg_sl ([.ref (ad 0), .int (nI j)])).length) Slot.unset).toArray = ls at hl ⊢
  replace hl : lv_has ls 2 [(0, .ref (ad 0)), (1, .int (nI j))] := hl
  have hw8 := (fr_wn_le V hV).2.1
  refine fr_gen (A := fr_A ad) hP (fun H locs hP2 hS => ?_)
  clear hP
  have hP := hP2
  clear hP2
  refine lv_aload_n hx hb dX0_keep_0 rfl (lv_at hl 0 rfl) ?_
  refine fr_gX 5 hx hb hw hown hK hP (by decide) mF_made rfl dX0_keep_1 ?_
  refine lv_iconst (v := 0) hx hb dX0_keep_4 (by decide) ?_
  refine lv_aload_n hx hb dX0_keep_5 rfl (lv_at hl 0 rfl) ?_
  refine fr_gX 4 hx hb hw hown hK hP (by decide) mF_rows rfl dX0_keep_6 ?_
  refine lv_iload_n hx hb dX0_keep_9 rfl (lv_at hl 1 rfl) ?_
  refine fr_aald hx hb hK hP 1 0 rfl rfl hLj (by decide) rfl dX0_keep_10 ?_
  refine lv_iconst (v := 0) hx hb dX0_keep_11 (by decide) ?_
  refine lv_aload_n hx hb dX0_keep_12 rfl (lv_at hl 0 rfl) ?_
  refine fr_gX 2 hx hb hw hown hK hP (by decide) mF_words rfl dX0_keep_13 ?_
  refine va_copyl hx hb (by rw [hml, hl.1]) hown (hw _ mM_F_arraycopy) (hw _ mN_arraycopy) (hw _ mS_arraycopy) (hw _ mI_System) hK hP (fr_D hinj) hS 2 (j + 5) 2 1 rfl (fr_row hLj) rfl rfl rfl (by decide) (by decide) (nI_pos (by omega)) (by rw [nI_clamp (by omega)]; show 0 + _ ≤ _; omega) (by rw [nI_clamp (by omega)]; show 0 + _ ≤ _; omega) (fun _ _ => rfl) (Nat.le_of_ble_eq_true rfl) (Nat.le_of_ble_eq_true rfl) dX0_keep_16 (fun H locs hP _ hS => ?_)
  rw [nI_clamp (show fr_wn V < 2 ^ 31 by omega)] at hP
  replace hP : va_P D vwCl ((fr_xw V ad ka mk nm pt ro).set (j + 5) (ad (j + 5), .inl (ka 1, fr_wn V, .inr (.inl (va_cpy mk (ro j) 0 0 (fr_wn V)))))) H := hP
  rw [fr_rowset hLj] at hP
  refine lv_aload_n hx hb dX0_keep_19 rfl (lv_at hl 0 rfl) ?_
  refine lv_aload_n hx hb dX0_keep_20 rfl (lv_at hl 0 rfl) ?_
  refine fr_gX 5 hx hb hw hown hK hP (by decide) mF_made rfl dX0_keep_21 ?_
  refine fr_Xi (As := [.ref (ad 2)]) hS0 (cF_count l D V ad ka mk nm pt (va_up ro j (va_cpy mk (ro j) 0 0 (fr_wn V))) 2 2 (ad 2) (ka 2) mk rfl rfl hV) (cw_F_count hw ⟨Nat.le_of_ble_eq_true rfl, Nat.le_of_ble_eq_true rfl⟩) hK hP hT hS rfl hl.1 rfl (Nat.le_of_ble_eq_true rfl) dX0_keep_24 ⟨Nat.zero_le _, Nat.zero_le _⟩ (fun b hb1 => ?_)
  subst hb1
  exact W.iret (v := nI (fr_ct mk (fr_wn V))) hx hb hret (fun t ht hW => ⟨⟨_, (mk, nm, pt, va_up ro j (va_cpy mk (ro j) 0 0 (fr_wn V))), rfl, ⟨rfl, rfl⟩, by show va_P D vwCl _ t.heap; rw [ht]; exact hP⟩, hS.F ht⟩) hS.2.2 dX0_keep_27
