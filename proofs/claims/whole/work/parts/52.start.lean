/-! the law's entry: both objects are made, then the loop -/
theorem fr_TS_of {s : State} {args : Array Value} (hw : ∀ w ∈ lw_tbl, w.before args s = true) (hg : (Jvm.Cond.and given_1 narrow_1).before args s = true) : fr_TS s := by
  have hs := flat_of_before _ hg
  have hA : ∀ a : Nat, a < s.heap.size → ¬ s.heap.size ≤ a := fun a h => by omega
  have hlen := va_eqt (hs (Cond.eq (.length (.static "FunctionRoom" "PLACES_WITH_BIT" "[J")) (.int 6)) (by decide +kernel))
  have h0 := va_eqtl (hs (Cond.eq (.elem (.static "FunctionRoom" "PLACES_WITH_BIT" "[J") (.int 0)) (.long (-6148914691236517206))) (by decide +kernel))
  have h1 := va_eqtl (hs (Cond.eq (.elem (.static "FunctionRoom" "PLACES_WITH_BIT" "[J") (.int 1)) (.long (-3689348814741910324))) (by decide +kernel))
  have h2 := va_eqtl (hs (Cond.eq (.elem (.static "FunctionRoom" "PLACES_WITH_BIT" "[J") (.int 2)) (.long (-1085102592571150096))) (by decide +kernel))
  have h3 := va_eqtl (hs (Cond.eq (.elem (.static "FunctionRoom" "PLACES_WITH_BIT" "[J") (.int 3)) (.long (-71777214294589696))) (by decide +kernel))
  have h4 := va_eqtl (hs (Cond.eq (.elem (.static "FunctionRoom" "PLACES_WITH_BIT" "[J") (.int 4)) (.long (-281470681808896))) (by decide +kernel))
  have h5 := va_eqtl (hs (Cond.eq (.elem (.static "FunctionRoom" "PLACES_WITH_BIT" "[J") (.int 5)) (.long (-4294967296))) (by decide +kernel))
  obtain ⟨t, ht, hT⟩ := va_Tof (tm := .static "FunctionRoom" "PLACES_WITH_BIT" "[J") (ty := .long) (N := 6) (f := fun j => .long (fr_pb j)) (A := fun q => s.heap.size ≤ q) (by decide) (hs (Cond.arrayOf (.static "FunctionRoom" "PLACES_WITH_BIT" "[J") .long) (by decide +kernel)) hlen (fun j hj => by
    rcases (show j = 0 ∨ j = 1 ∨ j = 2 ∨ j = 3 ∨ j = 4 ∨ j = 5 by omega) with rfl | rfl | rfl | rfl | rfl | rfl
    · exact h0
    · exact h1
    · exact h2
    · exact h3
    · exact h4
    · exact h5) hA
  exact ⟨t, va_Zref (hw (Cond.laysStatic "FunctionRoom" "PLACES_WITH_BIT" "[J") (List.mem_append_right _ (List.mem_of_getElem? (i := 70) rfl))) (hw (Cond.initialized "FunctionRoom") (WA_tbl _ mI_F)) ht hA, hT⟩
theorem fr_preX {s : State} {H : Heap} {b L : Nat} {xs : Nat → Int32} {As : List Value} (hX : va_X b L xs s s.heap) (hq : H[b]? = s.heap[b]?) : PreS s H (va_Pc As (fun U => va_X b L xs U U.heap)) As :=
  ⟨fun a U g mk q => ⟨q.1, va_X.moved (u := U) (U := U.calling g mk a) (Vm.Alike.refl U.vm) q.2⟩, fun U hU hW => ⟨rfl, by show va_X b L xs U U.heap; rw [hU]; exact va_X.moved hW.alike (hX.kept hq)⟩⟩
theorem fr_xlt {D : va_G} {V : Nat} {ad : Nat → Nat} {ka : Nat → ClassId} {mk : Nat → Int64} {nm pt : Nat → Int32} {ro : Nat → Nat → Int64} {H : Heap} (hP : va_P D vwCl (fr_xw V ad ka mk nm pt ro) H) : ∀ i, i < 37 → ad i < H.size
  | 0, _ => (hP 0 _ rfl).lt
  | 1, _ => (hP 1 _ rfl).lt
  | 2, _ => (hP 2 _ rfl).lt
  | 3, _ => (hP 3 _ rfl).lt
  | 4, _ => (hP 4 _ rfl).lt
  | k + 5, h => (hP (k + 5) _ (fr_row (show k < 32 by omega))).lt
theorem fr_xlen {V : Nat} {ad : Nat → Nat} {ka : Nat → ClassId} {mk : Nat → Int64} {nm pt : Nat → Int32} {ro : Nat → Nat → Int64} : (fr_xw V ad ka mk nm pt ro).length = 37 := by
  simp [fr_xw]
theorem fr_xget {V : Nat} {ad : Nat → Nat} {ka : Nat → ClassId} {mk : Nat → Int64} {nm pt : Nat → Int32} {ro : Nat → Nat → Int64} : ∀ i, i < 37 → ∃ x, (fr_xw V ad ka mk nm pt ro)[i]? = some (ad i, x)
  | 0, _ => ⟨_, rfl⟩
  | 1, _ => ⟨_, rfl⟩
  | 2, _ => ⟨_, rfl⟩
  | 3, _ => ⟨_, rfl⟩
  | 4, _ => ⟨_, rfl⟩
  | k + 5, h => ⟨_, fr_row (show k < 32 by omega)⟩
/-- behind the second 'new': the class's world, the new object, apart -/
theorem fr_split {D : va_G} {A : Nat → Prop} {V : Nat} {ad : Nat → Nat} {ka : Nat → ClassId} {mk : Nat → Int64} {nm pt : Nat → Int32} {ro : Nat → Nat → Int64} {H : Heap} {q : Nat} {x : va_E} (hP : va_P D vwCl (fr_xw V ad ka mk nm pt ro ++ [(q, x)]) H) (hD : va_D A (fr_xw V ad ka mk nm pt ro ++ [(q, x)])) : va_P D vwCl (fr_xw V ad ka mk nm pt ro) H ∧ va_P D vwCl [(q, x)] H ∧ (∀ i, i < 37 → ad i ≠ q) ∧ A q := by
  have hl : (fr_xw V ad ka mk nm pt ro ++ [(q, x)])[37]? = some (q, x) := by
    rw [List.getElem?_append_right (by rw [fr_xlen]; exact Nat.le_refl _), fr_xlen]
    rfl
  have hp : ∀ (k : Nat) (y : Nat × va_E), (fr_xw V ad ka mk nm pt ro)[k]? = some y → (fr_xw V ad ka mk nm pt ro ++ [(q, x)])[k]? = some y := fun k y h => by
    rw [List.getElem?_append_left (List.getElem?_eq_some_iff.mp h).1]
    exact h
  refine ⟨fun k y h => hP k y (hp k y h), fun k y h => ?_, fun i hi e => ?_, hD.2 37 _ hl⟩
  · have hk : k < 1 := (List.getElem?_eq_some_iff.mp h).1
    rw [show k = 0 by omega] at h
    obtain rfl : (q, x) = y := Option.some.inj h
    exact hP 37 _ hl
  · obtain ⟨y, hy⟩ := fr_xget (V := V) (ad := ad) (ka := ka) (mk := mk) (nm := nm) (pt := pt) (ro := ro) i hi
    have := hD.1 i 37 _ _ (hp i _ hy) hl e
    omega
set_option maxHeartbeats 4000000 in
set_option maxRecDepth 100000 in
theorem cW_cell (l : Launch) (b L : Nat) (xs : Nat → Int32) (hL : L < 2 ^ 31) : Met l yL_cell wsW_cell rmW_cell (va_Pc [.ref b, .int 0] (fun U => va_X b L xs U U.heap)) (vp_Si (fun r => r = if 0 < L then xs 0 else 0)) 0 0 (fun _ => False) := by
  refine Met.ofW (cc := cL_cell) (maxL := 2) (ret := some .int) (by decide) rfl ?_
  intro p e s m args below meth c s₁ B hml hv
  obtain ⟨rfl, hv⟩ := hv
  have hx := B.exec
  have hb := B.bytes
  have hret := B.returns
  have hw := fun w (h : w ∈ WA) => atoms_spec (ws := wsW_cell) B.pre w (List.mem_cons_of_mem _ h)
  have hown : s.vm.findClass "FunctionRoomLaw" = some m.cls := findClass_of_methodNamed B.named
  have hlocks := B.notSynchronized
  have hS0 : CallFix p m c cL_cell 2 s _ WA "FunctionRoomLaw" := ⟨hx, hb, hml, hown, hw⟩
  have hl := lv_entry ([.ref b, .int 0]) (n := 2) (Nat.le_of_ble_eq_true rfl)
  rw [lg_entry_eq]
  generalize (lg_sl ([.ref b, .int 0]) ++ List.replicate (2 - (lg_sl ([.ref b, .int 0])).length) Slot.unset).toArray = ls at hl ⊢
  replace hl : lv_has ls 2 [(0, .ref b), (1, .int 0)] := hl
  have hS : va_S (fun _ => False) s.heap s.heap [] := va_S.rf
  have hbl : b < s.heap.size := by obtain ⟨scr, h1, -⟩ := hv; exact (Array.getElem?_eq_some_iff.mp h1).1
  refine lv_iload_n hx hb dL_cell_0 rfl (lv_at hl 1 rfl) ?_
  refine lv_aload_n hx hb dL_cell_1 rfl (lv_at hl 0 rfl) ?_
  refine va_slen hx hb hv hbl (fun z => z) hS dL_cell_2 ?_
  refine lv_icmp_ge (tgt := 12) hx hb dL_cell_3 rfl (fun h1 => ?_) (fun h1 => ?_)
  ·
    refine lv_iconst (v := 0) hx hb dL_cell_12 (by decide) ?_
    exact W.iret (v := 0) hx hb hret (fun t ht hW => ⟨_, rfl, by rw [if_neg (fun z => absurd h1 (nI_ge (a := 0) z (by omega)))], ht⟩) (fun q hq => by cases hq) dL_cell_13
  ·
    refine lv_aload_n hx hb dL_cell_6 rfl (lv_at hl 0 rfl) ?_
    refine lv_iload_n hx hb dL_cell_7 rfl (lv_at hl 1 rfl) ?_
    have h0 : 0 < L := Nat.lt_of_not_le fun z => h1 (nI_le (b := 0) z (by decide))
    refine fr_sld (i := 0) hx hb hv hbl (fun z => z) hS h0 (by omega) dL_cell_8 ?_
    refine lv_goto (tgt := 13) hx hb dL_cell_9 rfl ?_
    exact W.iret (v := xs 0) hx hb hret (fun t ht hW => ⟨_, rfl, by rw [if_pos h0], ht⟩) (fun q hq => by cases hq) dL_cell_13
set_option maxHeartbeats 4000000 in
set_option maxRecDepth 100000 in
theorem whole_start {p : Program} {e : Env} {s : State} {m : MethodId} {below : List Frame} {meth : Method} {c : Code} (l : Launch) {b L : Nat} {xs : Nat → Int32} (hL : L ≤ 2561) (C0 : lw_At p s m meth c b L xs) : W p l e room_1 s m #[Value.ref b] below meth c s.heap [] 0 0 (lw_Z below #[Value.ref b] s) (entryFrame m ([Value.ref b] : List Value).toArray 4) := by
  obtain ⟨hx, hb, hret, hml, hown, hts, hX, hbl, hlocks, hgv⟩ := C0
  have hw : ∀ w ∈ WA, w.before #[Value.ref b] s = true := fun w h => hts w (WA_tbl w h)
  have hT : fr_TS s := fr_TS_of hts hgv
  have hS0 : CallFix p m c code 4 s #[Value.ref b] WA "FunctionRoomLaw" := ⟨hx, hb, hml, hown, hw⟩
  have hin0 : (Cond.instantiable "FunctionRoom" 8).before #[Value.ref b] s = true := hts _ (List.mem_append_right _ (List.mem_of_getElem? (i := 7) rfl))
  have hin1 : (Cond.instantiable "FunctionRoomModel" 4).before #[Value.ref b] s = true := hts _ (List.mem_append_right _ (List.mem_of_getElem? (i := 162) rfl))
  have hov : fm_ov .long s := fm_over (args := #[Value.ref b]) (hts (Cond.arrayOver (.array .long)) (List.mem_append_right _ (List.mem_of_getElem? (i := 22) rfl)))
  obtain ⟨d0, i0, hk0⟩ := u_known hw hinF hin0
  obtain ⟨d1, i1, hk1⟩ := u_known hw hinM hin1
  obtain ⟨D, hDe⟩ : ∃ D : va_G, D = (fun k => if k = 0 then d0 else d1, fun k => if k = 0 then i0 else i1) := ⟨_, rfl⟩
  have hK : va_K D vwCl [] s := by
    refine ⟨fun k q hq => ?_, fun k q hq => by simp at hq⟩
    rw [hDe]
    match k, hq with
    | 0, hq => cases hq; exact hk0
    | 1, hq => cases hq; exact hk1
    | k + 2, hq => exact absurd hq (by simp)
  have hbA : ¬ s.heap.size ≤ b := by omega
  have hA : ∀ q : Nat, s.heap.size ≤ q → s.heap.size ≤ q := fun _ h => h
  have hP : va_P D vwCl [] s.heap := fun k q hq => by simp at hq
  have hD : va_D (fun q => s.heap.size ≤ q) [] := ⟨fun i j p q hp => by simp at hp, fun k q hq => by simp at hq⟩
  have hS : va_S (fun q => s.heap.size ≤ q) s.heap s.heap [] := va_S.rf
  have hl := lv_entry ([.ref b]) (n := 4) (Nat.le_of_ble_eq_true rfl)
  rw [lg_entry_eq]
  generalize (lg_sl ([.ref b]) ++ List.replicate (4 - (lg_sl ([.ref b])).length) Slot.unset).toArray = ls at hl ⊢
  replace hl : lv_has ls 4 [(0, .ref b)] := hl
  refine va_new (ci := CIF) (fs := [.int 0, .int 0, .int 0, .long 0, .null, .null, .null, .null]) (C := "FunctionRoom") (T := TF) (N := 8) hx hb hw hinF tyX0 tyX0_ok hown (hw _ (mW 6 rfl rfl)) hin0 (hw _ mI_F) hK hP hD hS hA rfl (fun j hj => by rcases (show j = 0 ∨ j = 1 ∨ j = 2 ∨ j = 3 ∨ j = 4 ∨ j = 5 ∨ j = 6 ∨ j = 7 by omega) with rfl | rfl | rfl | rfl | rfl | rfl | rfl | rfl <;> rfl) (Nat.le_of_ble_eq_true rfl) (Nat.le_of_ble_eq_true rfl) dL_law_0 (fun q0 H hP hD hS => ?_)
  replace hP : va_P D vwCl [(q0, .inr (CIF, [.int 0, .int 0, .int 0, .long 0, .null, .null, .null, .null]))] H := hP
  replace hD : va_D (fun q => s.heap.size ≤ q) [(q0, .inr (CIF, [.int 0, .int 0, .int 0, .long 0, .null, .null, .null, .null]))] := hD
  refine lv_dup hx hb dL_law_3 rfl ?_
  refine lv_aload_n hx hb dL_law_4 rfl (lv_at hl 0 rfl) ?_
  refine lv_iconst (v := 0) hx hb dL_law_5 (by decide) ?_
  refine fr_cSi (As := [.ref b, .int 0]) hS0 (cW_cell l b L xs (by omega)) (cw_W_cell hw ⟨Nat.le_of_ble_eq_true rfl, Nat.le_of_ble_eq_true rfl⟩) (fr_preX hX (hS.2.1 b hbl hbA)) rfl hl.1 rfl (Nat.le_of_ble_eq_true rfl) dL_law_6 ⟨Nat.le_of_ble_eq_true rfl, Nat.le_of_ble_eq_true rfl⟩ (fun v hv => ?_)
  rw [hv]
  clear hv v
  obtain ⟨v, hv⟩ : ∃ v, v = (if 0 < L then xs 0 else 0) := ⟨_, rfl⟩
  rw [← hv]
  have hFc := va_free (wc := [(q0, .inr (CIF, [.int 0, .int 0, .int 0, .long 0, .null, .null, .null, .null]))]) hD hS hA [0] rfl
  refine va_callv (va_runI (As := [.int v]) (rest := [.ref q0]) hS0 (cF_init l D q0 H.size v) (cw_W_F_init hw ⟨Nat.le_of_ble_eq_true rfl, Nat.le_of_ble_eq_true rfl⟩) ⟨fun a U g mk q => by obtain ⟨e0, e1, eP, eK, eO⟩ := q; exact ⟨e0, e1, eP, va_K.moved (u := U) (U := U.calling g mk a) (Vm.Alike.refl U.vm) eK, fm_ov.moved (u := U) (U := U.calling g mk a) (Vm.Alike.refl U.vm) eO⟩, fun U hU hW => ⟨rfl, by rw [hU], by rw [hU]; exact hP, va_K.moved hW.alike hK, fm_ov.moved hW.alike hov⟩⟩ rfl rfl hl.1 rfl (lv_room (Nat.le_of_ble_eq_true rfl)) dL_law_9 ⟨Nat.le_of_ble_eq_true rfl, Nat.le_of_ble_eq_true rfl⟩) hS (fun q _ h => hFc q h) hFc (fun u t H1 locs ht hvm hu hB hz1 hk1 hS => ?_)
  obtain ⟨ad, ka⟩ := u
  obtain ⟨had0, hinj, hadA⟩ := hu
  obtain ⟨hP1, hK1⟩ := hB
  replace had0 : ad 0 = q0 := had0
  replace hinj : fr_inj ad := hinj
  have had : ∀ i, i < 37 → s.heap.size ≤ ad i := fun i hi => hFc _ (hadA i hi)
  replace hK1 : va_K D vwCl (fr_ty ka) s := va_K.moved hvm.symm hK1
  replace hP1 : va_P D vwCl (fr_xw (fr_cl v) ad ka (fun _ => 0) (fun _ => 0) (fun _ => 0) (fun _ _ => 0)) H1 := by rw [← ht]; exact hP1
  subst had0
  clear hP hD hFc hz1 hk1 hadA
  refine lv_astore_n hx hb dL_law_12 rfl hl (by decide) rfl (fun ls hl => ?_)
  replace hl : lv_has ls 4 [(1, .ref (ad 0)), (0, .ref b)] := hl
  have hP := hP1
  have hD : va_D (fun q => s.heap.size ≤ q) (fr_xw (fr_cl v) ad ka (fun _ => 0) (fun _ => 0) (fun _ => 0) (fun _ _ => 0)) := (fr_D hinj).weaken (fun k q hk h => by obtain ⟨i, hi, e⟩ := h; rw [e]; exact had i hi)
  refine va_new (ci := CIM) (fs := [.int 0, .int 0, .null, .null]) (C := "FunctionRoomModel") (T := TM) (N := 4) hx hb hw hinM tyX1 tyX1_ok hown (hw _ (mW 161 rfl rfl)) hin1 (hw _ mI_M) hK hP hD hS hA rfl (fun j hj => by rcases (show j = 0 ∨ j = 1 ∨ j = 2 ∨ j = 3 by omega) with rfl | rfl | rfl | rfl <;> rfl) (Nat.le_of_ble_eq_true rfl) (Nat.le_of_ble_eq_true rfl) dL_law_13 (fun q2 H hP hD hS => ?_)
  obtain ⟨hPX, hPM, hne⟩ := fr_split hP hD
  clear hP hD hP1
  refine lv_dup hx hb dL_law_16 rfl ?_
  refine lv_aload_n hx hb dL_law_17 rfl (lv_at hl 1 rfl) ?_
  refine lv_iconst (v := 0) hx hb dL_law_18 (by decide) ?_
  refine fr_cSi (As := [.ref b, .int 0]) hS0 (cW_cell l b L xs (by omega)) (cw_W_cell hw ⟨Nat.le_of_ble_eq_true rfl, Nat.le_of_ble_eq_true rfl⟩) (fr_preX hX (hS.2.1 b hbl hbA)) rfl hl.1 rfl (Nat.le_of_ble_eq_true rfl) dL_law_19 ⟨Nat.le_of_ble_eq_true rfl, Nat.le_of_ble_eq_true rfl⟩ (fun v hv => ?_)
  rw [hv]
  clear hv v
  rw [← hv]
  have hD2 : va_D (fun q => s.heap.size ≤ q) [(q2, .inr (CIM, [.int 0, .int 0, .null, .null]))] := (fr_D1 _).weaken (fun k q hk _ => by have hk1 : k < 1 := (List.getElem?_eq_some_iff.mp hk).1; rw [show k = 0 by omega] at hk; cases hk; exact hne.2)
  have hFc := va_free (wc := [(q2, .inr (CIM, [.int 0, .int 0, .null, .null]))]) hD2 hS hA [0] rfl
  refine va_callv (va_runI (As := [.int v]) (rest := [.ref q2]) hS0 (cM_init l D q2 H.size v) (cw_W_M_init hw ⟨Nat.le_of_ble_eq_true rfl, Nat.le_of_ble_eq_true rfl⟩) ⟨fun a U g mk q => by obtain ⟨e0, e1, eP, eK⟩ := q; exact ⟨e0, e1, eP, va_K.moved (u := U) (U := U.calling g mk a) (Vm.Alike.refl U.vm) eK⟩, fun U hU hW => ⟨rfl, by rw [hU], by rw [hU]; exact hPM, va_K.moved hW.alike hK⟩⟩ rfl rfl hl.1 rfl (lv_room (Nat.le_of_ble_eq_true rfl)) dL_law_22 ⟨Nat.le_of_ble_eq_true rfl, Nat.le_of_ble_eq_true rfl⟩) hS (fun q _ h => hFc q h) hFc (fun u t H2 locs ht hvm hu hB hz1 hk1 hS => ?_)
  obtain ⟨bd, kb⟩ := u
  obtain ⟨hbd0, hinjB, hbdA⟩ := hu
  obtain ⟨hP2, hK2⟩ := hB
  replace hbd0 : bd 0 = q2 := hbd0
  replace hinjB : fr_injB bd := hinjB
  have hbd : ∀ i, i < 3 → s.heap.size ≤ bd i := fun i hi => hFc _ (hbdA i hi)
  replace hK2 : va_K D vwCl (fr_mty kb) s := va_K.moved hvm.symm hK2
  replace hP2 : va_P D vwCl (fr_mw (fr_cl v) bd kb (fun _ => 0) (fun _ => 0)) H2 := by rw [← ht]; exact hP2
  have hnA : ∀ i, i < 37 → ad i < H.size ∧ ¬ va_A [(q2, .inr (CIM, [.int 0, .int 0, .null, .null]))] H.size (ad i) := by
    intro i hi
    refine ⟨fr_xlt hPX i hi, fun z => ?_⟩
    rcases z with ⟨k, e, z⟩ | z
    · have hk1 : k < 1 := (List.getElem?_eq_some_iff.mp z).1
      rw [show k = 0 by omega] at z
      exact hne.1 i hi (congrArg Prod.fst (Option.some.inj z)).symm
    · have := fr_xlt hPX i hi
      omega
  have hPX2 : va_P D vwCl (fr_xw (fr_cl v) ad ka (fun _ => 0) (fun _ => 0) (fun _ => 0) (fun _ _ => 0)) H2 := hPX.kept (fun k q hk => by obtain ⟨h37, e⟩ := fr_addr k q hk; rw [e]; exact hk1 _ (hnA k h37).1 (hnA k h37).2)
  have hdis : ∀ i k, i < 37 → k < 3 → ad i ≠ bd k := fun i k hi hk z => (hnA i hi).2 (by rw [z]; exact hbdA k hk)
  obtain ⟨hV1, hV⟩ := fr_cl_le v
  subst hbd0
  refine lv_astore_n hx hb dL_law_25 rfl hl (by decide) rfl (fun ls hl => ?_)
  replace hl : lv_has ls 4 [(2, .ref (bd 0)), (1, .ref (ad 0)), (0, .ref b)] := hl
  refine lv_iconst (v := 1) hx hb dL_law_26 (by decide) ?_
  refine lv_istore_n hx hb dL_law_27 rfl hl (by decide) rfl (fun ls hl => ?_)
  replace hl : lv_has ls 4 [(3, .int 1), (2, .ref (bd 0)), (1, .ref (ad 0)), (0, .ref b)] := hl
  refine W.widen (k := 40) (n := 18400) (Nat.le_of_ble_eq_true rfl) (Nat.le_of_ble_eq_true rfl) ?_
  exact fr_lawloop l hL hx hb hret hS0 hw hX hbl hbA hlocks hT D (fr_cl v) hV hV1 ad bd ka kb hK1 hK2 hinj hinjB had hbd hdis L 1 H2 locs ls _ _ _ _ _ _ (fun _ _ => false) (by omega) (by omega) (lv_sub hl [0, 3, 2, 1] rfl) hPX2 hP2 (fun j _ => fr_R_const hV false (fun w _ => rfl)) (fun j x _ _ => rfl) hS
