/-! worlds of the class and of the reference; calls and array rows over small naturals -/
def fr_rw1 (V : Nat) (ad : Nat → Nat) (ka : Nat → ClassId) (ro : Nat → Nat → Int64) (i : Nat) : Nat × va_E := (ad (i + 5), .inl (ka 1, fr_wn V, .inr (.inl (ro i))))
def fr_xw (V : Nat) (ad : Nat → Nat) (ka : Nat → ClassId) (mk : Nat → Int64) (nm pt : Nat → Int32) (ro : Nat → Nat → Int64) : va_W :=
  (ad 0, .inr (CIF, [.int (nI V), .int (nI (2 ^ V)), .int (nI (fr_wn V)), .long (fr_pl V), .ref (ad 1), .ref (ad 2), .ref (ad 3), .ref (ad 4)])) ::
  (ad 1, .inl (ka 0, 32, .inr (.inr (.inr (.inr (fun i => some (ad (i + 5)))))))) ::
  (ad 2, .inl (ka 2, fr_wn V, .inr (.inl mk))) ::
  (ad 3, .inl (ka 3, 2 ^ V, .inl nm)) ::
  (ad 4, .inl (ka 4, 2 ^ V, .inl pt)) ::
  (List.range 32).map (fr_rw1 V ad ka ro)
def fr_ty (ka : Nat → ClassId) : List (ClassId × FieldType) := [(ka 0, .array .long), (ka 1, .long), (ka 2, .long), (ka 3, .int), (ka 4, .int)]
def fr_A (ad : Nat → Nat) : Nat → Prop := fun q => ∃ i, i < 37 ∧ q = ad i
def fr_inj (ad : Nat → Nat) : Prop := ∀ i j, i < 37 → j < 37 → ad i = ad j → i = j
section FRX
variable {V : Nat} {ad : Nat → Nat} {ka : Nat → ClassId} {mk : Nat → Int64} {nm pt : Nat → Int32} {ro : Nat → Nat → Int64}
theorem fr_row {r : Nat} (hr : r < 32) : (fr_xw V ad ka mk nm pt ro)[r + 5]? = some (ad (r + 5), .inl (ka 1, fr_wn V, .inr (.inl (ro r)))) := by
  show ((List.range 32).map (fr_rw1 V ad ka ro))[r]? = _
  rw [List.getElem?_map, List.getElem?_range hr]
  rfl
theorem fr_rowset {r : Nat} (hr : r < 32) (g : Nat → Int64) : (fr_xw V ad ka mk nm pt ro).set (r + 5) (ad (r + 5), .inl (ka 1, fr_wn V, .inr (.inl g))) = fr_xw V ad ka mk nm pt (va_up ro r g) := by
  have h : ((List.range 32).map (fr_rw1 V ad ka ro)).set r (ad (r + 5), .inl (ka 1, fr_wn V, .inr (.inl g))) = (List.range 32).map (fr_rw1 V ad ka (va_up ro r g)) := by
    apply List.ext_getElem?
    intro k
    by_cases hk : k = r
    · subst hk
      rw [List.getElem?_set_self (by simpa using hr), List.getElem?_map, List.getElem?_range hr]
      simp [fr_rw1, va_up_self]
    · rw [List.getElem?_set_ne (Ne.symm hk), List.getElem?_map, List.getElem?_map]
      by_cases h32 : k < 32
      · rw [List.getElem?_range h32]
        simp [fr_rw1, va_up_ne _ _ hk]
      · rw [List.getElem?_eq_none (by simpa using h32)]
        rfl
  exact congrArg (fun L => (ad 0, (.inr (CIF, [.int (nI V), .int (nI (2 ^ V)), .int (nI (fr_wn V)), .long (fr_pl V), .ref (ad 1), .ref (ad 2), .ref (ad 3), .ref (ad 4)]) : va_E)) :: (ad 1, .inl (ka 0, 32, .inr (.inr (.inr (.inr (fun i => some (ad (i + 5)))))))) :: (ad 2, .inl (ka 2, fr_wn V, .inr (.inl mk))) :: (ad 3, .inl (ka 3, 2 ^ V, .inl nm)) :: (ad 4, .inl (ka 4, 2 ^ V, .inl pt)) :: L) h
theorem fr_addr : ∀ (k : Nat) (q : Nat × va_E), (fr_xw V ad ka mk nm pt ro)[k]? = some q → k < 37 ∧ q.1 = ad k
  | 0, q, h => by rw [← Option.some.inj h]; exact ⟨by decide, rfl⟩
  | 1, q, h => by rw [← Option.some.inj h]; exact ⟨by decide, rfl⟩
  | 2, q, h => by rw [← Option.some.inj h]; exact ⟨by decide, rfl⟩
  | 3, q, h => by rw [← Option.some.inj h]; exact ⟨by decide, rfl⟩
  | 4, q, h => by rw [← Option.some.inj h]; exact ⟨by decide, rfl⟩
  | k + 5, q, h => by
    have h : ((List.range 32).map (fr_rw1 V ad ka ro))[k]? = some q := h
    rw [List.getElem?_map] at h
    by_cases hk : k < 32
    · rw [List.getElem?_range hk] at h
      rw [← Option.some.inj h]
      exact ⟨by omega, rfl⟩
    · rw [List.getElem?_eq_none (by simpa using hk)] at h
      cases h
theorem fr_D (hj : fr_inj ad) : va_D (fr_A ad) (fr_xw V ad ka mk nm pt ro) := by
  refine ⟨fun i j p q hp hq e => ?_, fun k q hk => ?_⟩
  · obtain ⟨a1, a2⟩ := fr_addr i p hp
    obtain ⟨b1, b2⟩ := fr_addr j q hq
    exact hj i j a1 b1 (by rw [← a2, ← b2]; exact e)
  · obtain ⟨a1, a2⟩ := fr_addr k q hk
    exact ⟨k, a1, a2⟩
end FRX
/-- the table PLACES_WITH_BIT -/
def fr_T (ad : Nat → Nat) (U : State) (H : Heap) : Prop := ∃ t : Nat, va_Z "FunctionRoom" "PLACES_WITH_BIT" "[J" (.ref t) (fr_A ad) U H ∧ va_T .long t 6 (fun j => .long (fr_pb j)) (fr_A ad) U H
theorem fr_T_at {ad : Nat → Nat} {s : State} {H : Heap} {locs : List Loc} (hT : fr_T ad s s.heap) (hS : va_S (fr_A ad) s.heap H locs) (U : State) (hU : U.heap = H) (hvm : s.vm.Alike U.vm) : fr_T ad U U.heap := by
  obtain ⟨t, z1, z2⟩ := hT
  rw [hU]
  exact ⟨t, va_Z.moved hvm (z1.kept hS.2.1), va_T.moved hvm (z2.kept hS.2.1)⟩
theorem fr_T_blind {ad : Nat → Nat} (U : State) (g : JFrame) (mk : MethodId) (a : Array Value) (h : fr_T ad U U.heap) : fr_T ad (U.calling g mk a) (U.calling g mk a).heap := by
  obtain ⟨t, z1, z2⟩ := h
  exact ⟨t, va_Z.moved (u := U) (U := U.calling g mk a) (Vm.Alike.refl U.vm) z1, va_T.moved (u := U) (U := U.calling g mk a) (Vm.Alike.refl U.vm) z2⟩
/-- a method's start: the world, the classes, what else -/
def fr_G (D : va_G) (tys : List (ClassId × FieldType)) (ws : va_W) (E : State → Prop) (U : State) : Prop := va_P D vwCl ws U.heap ∧ va_K D vwCl tys U ∧ E U
theorem fr_pre {D : va_G} {tys : List (ClassId × FieldType)} {ws : va_W} {E : State → Prop} {av : List Value} {H : Heap} {s : State} (hK : va_K D vwCl tys s) (hP : va_P D vwCl ws H) (hE : ∀ U : State, U.heap = H → s.vm.Alike U.vm → E U) (hEb : ∀ (U : State) (g : JFrame) (mk : MethodId) (a : Array Value), E U → E (U.calling g mk a)) : PreS s H (va_Pc av (fr_G D tys ws E)) av :=
  ⟨fun a U g mk q => by
    obtain ⟨q0, qP, qK, qE⟩ := q
    exact ⟨q0, qP, va_K.moved (u := U) (U := U.calling g mk a) (Vm.Alike.refl U.vm) qK, hEb U g mk a qE⟩,
   fun U hU hW => ⟨rfl, by rw [hU]; exact hP, va_K.moved hW.alike hK, hE U hU hW.alike⟩⟩
abbrev fr_PX (D : va_G) (V : Nat) (ad : Nat → Nat) (ka : Nat → ClassId) (mk : Nat → Int64) (nm pt : Nat → Int32) (ro : Nat → Nat → Int64) : State → Prop := fr_G D (fr_ty ka) (fr_xw V ad ka mk nm pt ro) (fun U => fr_T ad U U.heap)
/-! the reference's world -/
def fr_mw (V : Nat) (bd : Nat → Nat) (kb : Nat → ClassId) (row made : Nat → Int32) : va_W :=
  [(bd 0, .inr (CIM, [.int (nI V), .int (nI (2 ^ V)), .ref (bd 1), .ref (bd 2)])), (bd 1, .inl (kb 0, 16384, .inl row)), (bd 2, .inl (kb 1, 512, .inl made))]
def fr_mty (kb : Nat → ClassId) : List (ClassId × FieldType) := [(kb 0, .boolean), (kb 1, .boolean)]
def fr_B (bd : Nat → Nat) : Nat → Prop := fun q => ∃ i, i < 3 ∧ q = bd i
def fr_injB (bd : Nat → Nat) : Prop := ∀ i j, i < 3 → j < 3 → bd i = bd j → i = j
theorem fr_addrB {V : Nat} {bd : Nat → Nat} {kb : Nat → ClassId} {row made : Nat → Int32} : ∀ (k : Nat) (q : Nat × va_E), (fr_mw V bd kb row made)[k]? = some q → k < 3 ∧ q.1 = bd k
  | 0, q, h => by rw [← Option.some.inj h]; exact ⟨by decide, rfl⟩
  | 1, q, h => by rw [← Option.some.inj h]; exact ⟨by decide, rfl⟩
  | 2, q, h => by rw [← Option.some.inj h]; exact ⟨by decide, rfl⟩
  | k + 3, q, h => by
    have h : ([] : va_W)[k]? = some q := h
    simp at h
theorem fr_DB {V : Nat} {bd : Nat → Nat} {kb : Nat → ClassId} {row made : Nat → Int32} (hj : fr_injB bd) : va_D (fr_B bd) (fr_mw V bd kb row made) := by
  refine ⟨fun i j p q hp hq e => ?_, fun k q hk => ?_⟩
  · obtain ⟨a1, a2⟩ := fr_addrB i p hp
    obtain ⟨b1, b2⟩ := fr_addrB j q hq
    exact hj i j a1 b1 (by rw [← a2, ← b2]; exact e)
  · obtain ⟨a1, a2⟩ := fr_addrB k q hk
    exact ⟨k, a1, a2⟩
abbrev fr_PM (D : va_G) (V : Nat) (bd : Nat → Nat) (kb : Nat → ClassId) (row made : Nat → Int32) : State → Prop := fr_G D (fr_mty kb) (fr_mw V bd kb row made) (fun _ => True)
section FRW
variable {p : Program} {l : Launch} {e : Env} {R : Room} {s : State} {m : MethodId} {args : Array Value} {below : List Frame} {meth : Method} {c : Code} {H : Heap} {locs : List Loc} {cells slots : Nat} {Q : State → Prop}
variable {cc : ByteArray} {pc : Nat} {ls : Array Slot} {rest : List Value} {D : va_G} {A : Nat → Prop} {a : Nat} {tys : List (ClassId × FieldType)} {ws : va_W} {H0 : Heap}
theorem fr_top {x y : Int32} (h : x = y) (k : W p l e R s m args below meth c H locs cells slots Q (F0 m pc ls (.int y :: rest))) : W p l e R s m args below meth c H locs cells slots Q (F0 m pc ls (.int x :: rest)) := by
  rw [h]
  exact k
theorem fr_topl {x y : Int64} (h : x = y) (k : W p l e R s m args below meth c H locs cells slots Q (F0 m pc ls (.long y :: rest))) : W p l e R s m args below meth c H locs cells slots Q (F0 m pc ls (.long x :: rest)) := by
  rw [h]
  exact k
/-- a place of the rows' array -/
theorem fr_aald (hexec : p.tables.exec = Jvm.exec) (hb : c.code = cc) (hK : va_K D vwCl tys s) (hP : va_P D vwCl ws H) (q0 t0 : Nat) {cA : ClassId} {ty : FieldType} {n : Nat} {f : Nat → Option Nat} (ha : ws[q0]? = some (a, .inl (cA, n, .inr (.inr (.inr (.inr f)))))) (ht : tys[t0]? = some (cA, .array ty)) {i b : Nat} (hi : i < n) (hn : n < 2 ^ 31) (hf : f i = some b) (hdg : decode cc pc = .ok (.aaload, 1))
    (kk : W p l e R s m args below meth c H locs cells slots Q (F0 m (pc + 1) ls (.ref b :: rest))) : W p l e R s m args below meth c H locs cells slots Q (F0 m pc ls (.int (nI i) :: .ref a :: rest)) := by
  have hc : (nI i).toNatClampNeg = i := nI_clamp (by omega)
  refine W.aald (v := .ref b) (ty := .array ty) hexec hb (hP q0 _ ha) ((hK.2 t0 _ ht).1 n (fun j => va_rf (f j))) rfl (fun q => by cases q) (by show ¬ (nI i < 0 ∨ (arrV _ _ _).slots.size ≤ _); rw [arrV_size]; exact vp_in_nI hi hn) ?_ rfl rfl hdg kk
  show (arrV _ _ _).slots[_]? = _
  rw [hc, arrV_read _ _ hi, hf]
  rfl
theorem fr_lald (hexec : p.tables.exec = Jvm.exec) (hb : c.code = cc) (hK : va_K D vwCl tys s) (hP : va_P D vwCl ws H) (q0 t0 : Nat) {cA : ClassId} {n : Nat} {f : Nat → Int64} (ha : ws[q0]? = some (a, .inl (cA, n, .inr (.inl f)))) (ht : tys[t0]? = some (cA, .long)) {i : Nat} (hi : i < n) (hn : n < 2 ^ 31) (hdg : decode cc pc = .ok (.laload, 1))
    (kk : W p l e R s m args below meth c H locs cells slots Q (F0 m (pc + 1) ls (.long (f i) :: rest))) : W p l e R s m args below meth c H locs cells slots Q (F0 m pc ls (.int (nI i) :: .ref a :: rest)) := by
  have hc : (nI i).toNatClampNeg = i := nI_clamp (by omega)
  refine va_lald hexec hb hK hP q0 t0 ha ht (vp_in_nI hi hn) hdg ?_
  rw [hc]
  exact kk
theorem fr_iald (hexec : p.tables.exec = Jvm.exec) (hb : c.code = cc) (hK : va_K D vwCl tys s) (hP : va_P D vwCl ws H) (q0 t0 : Nat) {cA : ClassId} {n : Nat} {f : Nat → Int32} (ha : ws[q0]? = some (a, .inl (cA, n, .inl f))) (ht : tys[t0]? = some (cA, .int)) {i : Nat} (hi : i < n) (hn : n < 2 ^ 31) (hdg : decode cc pc = .ok (.iaload, 1))
    (kk : W p l e R s m args below meth c H locs cells slots Q (F0 m (pc + 1) ls (.int (f i) :: rest))) : W p l e R s m args below meth c H locs cells slots Q (F0 m pc ls (.int (nI i) :: .ref a :: rest)) := by
  have hc : (nI i).toNatClampNeg = i := nI_clamp (by omega)
  refine va_iald hexec hb hK hP q0 t0 ha ht (vp_in_nI hi hn) hdg ?_
  rw [hc]
  exact kk
theorem fr_zald (hexec : p.tables.exec = Jvm.exec) (hb : c.code = cc) (hK : va_K D vwCl tys s) (hP : va_P D vwCl ws H) (q0 t0 : Nat) {cA : ClassId} {n : Nat} {f : Nat → Int32} (ha : ws[q0]? = some (a, .inl (cA, n, .inl f))) (ht : tys[t0]? = some (cA, .boolean)) {i : Nat} (hi : i < n) (hn : n < 2 ^ 31) (hdg : decode cc pc = .ok (.baload, 1))
    (kk : W p l e R s m args below meth c H locs cells slots Q (F0 m (pc + 1) ls (.int (f i) :: rest))) : W p l e R s m args below meth c H locs cells slots Q (F0 m pc ls (.int (nI i) :: .ref a :: rest)) := by
  have hc : (nI i).toNatClampNeg = i := nI_clamp (by omega)
  refine va_zald hexec hb hK hP q0 t0 ha ht (vp_in_nI hi hn) hdg ?_
  rw [hc]
  exact kk
theorem fr_last (hexec : p.tables.exec = Jvm.exec) (hb : c.code = cc) (hK : va_K D vwCl tys s) (hP : va_P D vwCl ws H) (hD : va_D A ws) (hS : va_S A H0 H locs) (q0 t0 : Nat) {cA : ClassId} {n : Nat} {f : Nat → Int64} (ha : ws[q0]? = some (a, .inl (cA, n, .inr (.inl f)))) (ht : tys[t0]? = some (cA, .long)) {i : Nat} {x : Int64} (hi : i < n) (hn : n < 2 ^ 31) (hdg : decode cc pc = .ok (.lastore, 1)) {ws2 : va_W} (hw : ws.set q0 (a, .inl (cA, n, .inr (.inl (vp_updL f i x)))) = ws2)
    (kk : ∀ (H1 : Heap) (locs1 : List Loc), va_P D vwCl ws2 H1 → va_S A H0 H1 locs1 → W p l e R s m args below meth c H1 locs1 cells slots Q (F0 m (pc + 1) ls rest)) : W p l e R s m args below meth c H locs cells slots Q (F0 m pc ls (.long x :: .int (nI i) :: .ref a :: rest)) := by
  have hc : (nI i).toNatClampNeg = i := nI_clamp (by omega)
  refine va_last hexec hb hK hP hD hS q0 t0 ha ht (vp_in_nI hi hn) hdg (fun H1 locs1 h1 _ h3 => ?_)
  rw [hc, hw] at h1
  exact kk H1 locs1 h1 h3
theorem fr_iast (hexec : p.tables.exec = Jvm.exec) (hb : c.code = cc) (hK : va_K D vwCl tys s) (hP : va_P D vwCl ws H) (hD : va_D A ws) (hS : va_S A H0 H locs) (q0 t0 : Nat) {cA : ClassId} {n : Nat} {f : Nat → Int32} (ha : ws[q0]? = some (a, .inl (cA, n, .inl f))) (ht : tys[t0]? = some (cA, .int)) {i : Nat} {x : Int32} (hi : i < n) (hn : n < 2 ^ 31) (hdg : decode cc pc = .ok (.iastore, 1)) {ws2 : va_W} (hw : ws.set q0 (a, .inl (cA, n, .inl (upd f i x))) = ws2)
    (kk : ∀ (H1 : Heap) (locs1 : List Loc), va_P D vwCl ws2 H1 → va_S A H0 H1 locs1 → W p l e R s m args below meth c H1 locs1 cells slots Q (F0 m (pc + 1) ls rest)) : W p l e R s m args below meth c H locs cells slots Q (F0 m pc ls (.int x :: .int (nI i) :: .ref a :: rest)) := by
  have hc : (nI i).toNatClampNeg = i := nI_clamp (by omega)
  refine va_iast hexec hb hK hP hD hS q0 t0 ha ht (vp_in_nI hi hn) hdg (fun H1 locs1 h1 _ h3 => ?_)
  rw [hc, hw] at h1
  exact kk H1 locs1 h1 h3
theorem fr_zast (hexec : p.tables.exec = Jvm.exec) (hb : c.code = cc) (hK : va_K D vwCl tys s) (hP : va_P D vwCl ws H) (hD : va_D A ws) (hS : va_S A H0 H locs) (q0 t0 : Nat) {cA : ClassId} {n : Nat} {f : Nat → Int32} (ha : ws[q0]? = some (a, .inl (cA, n, .inl f))) (ht : tys[t0]? = some (cA, .boolean)) {i : Nat} {x : Int32} (hi : i < n) (hn : n < 2 ^ 31) (hx : vp_nar .boolean x = x) (hdg : decode cc pc = .ok (.bastore, 1)) {ws2 : va_W} (hw : ws.set q0 (a, .inl (cA, n, .inl (upd f i x))) = ws2)
    (kk : ∀ (H1 : Heap) (locs1 : List Loc), va_P D vwCl ws2 H1 → va_S A H0 H1 locs1 → W p l e R s m args below meth c H1 locs1 cells slots Q (F0 m (pc + 1) ls rest)) : W p l e R s m args below meth c H locs cells slots Q (F0 m pc ls (.int x :: .int (nI i) :: .ref a :: rest)) := by
  have hc : (nI i).toNatClampNeg = i := nI_clamp (by omega)
  refine va_zast hexec hb hK hP hD hS q0 t0 ha ht (vp_in_nI hi hn) hdg (fun H1 locs1 h1 _ h3 => ?_)
  rw [hc, hx, hw] at h1
  exact kk H1 locs1 h1 h3
/-! calls -/
variable {y : MethodName} {bytes : ByteArray} {maxL nL n index : Nat} {ret : Option FieldType} {wsy : List Cond} {rm : Room} {Ts : List Cond} {own C : String} {As st0 : List Value} {E : State → Prop} {b : Nat} {q0 ci : Nat} {fs : List Value} {q : vw_C}
theorem fr_cVi {post : Int32 → Prop} (S : CallFix p m c cc nL s args Ts own) (hM : Met l y wsy rm (va_Pc (.ref b :: As) (fr_G D tys ws E)) (vp_Si post) 0 0 (fun _ => False)) (cw : CallW R s args own C index y bytes maxL ret wsy rm 0 0 n) (hK : va_K D vwCl tys s) (hP : va_P D vwCl ws H) (hc : vwCl[ci]? = some q) (hq : q.1 = C) (he : ws[q0]? = some (b, .inr (ci, fs)))
    (hE : ∀ U : State, U.heap = H → s.vm.Alike U.vm → E U) (hEb : ∀ (U : State) (g : JFrame) (mk : MethodId) (a : Array Value), E U → E (U.calling g mk a)) (hn : As.length = n) (hsize : ls.size = nL) (hst : st0 = As.reverse ++ .ref b :: rest) (hW : (rest.map fun v => v.category).sum ≤ 8) (hdg : decode cc pc = .ok (.invokevirtual index, 3)) (hf : cells ≤ R.cells ∧ slots ≤ R.slots)
    (kk : ∀ r, post r → W p l e R s m args below meth c H locs cells slots Q (F0 m (pc + 3) ls (.int r :: rest))) : W p l e R s m args below meth c H locs cells slots Q (F0 m pc ls st0) := by
  subst hst
  refine vp_callSi (W.runV S hM cw ⟨(fr_pre hK hP hE hEb).1, ?_, (fr_pre hK hP hE hEb).2⟩ rfl hn hsize rfl (lv_room hW) hdg hf) kk
  obtain ⟨cell, c1, c2, c3⟩ := va_recv hK hP hc he
  exact ⟨cell, c1, c2, by rw [← hq]; exact c3⟩
theorem fr_cVl {post : Int64 → Prop} (S : CallFix p m c cc nL s args Ts own) (hM : Met l y wsy rm (va_Pc (.ref b :: As) (fr_G D tys ws E)) (vp_Sl post) 0 0 (fun _ => False)) (cw : CallW R s args own C index y bytes maxL ret wsy rm 0 0 n) (hK : va_K D vwCl tys s) (hP : va_P D vwCl ws H) (hc : vwCl[ci]? = some q) (hq : q.1 = C) (he : ws[q0]? = some (b, .inr (ci, fs)))
    (hE : ∀ U : State, U.heap = H → s.vm.Alike U.vm → E U) (hEb : ∀ (U : State) (g : JFrame) (mk : MethodId) (a : Array Value), E U → E (U.calling g mk a)) (hn : As.length = n) (hsize : ls.size = nL) (hst : st0 = As.reverse ++ .ref b :: rest) (hW : (rest.map fun v => v.category).sum ≤ 8) (hdg : decode cc pc = .ok (.invokevirtual index, 3)) (hf : cells ≤ R.cells ∧ slots ≤ R.slots)
    (kk : ∀ r, post r → W p l e R s m args below meth c H locs cells slots Q (F0 m (pc + 3) ls (.long r :: rest))) : W p l e R s m args below meth c H locs cells slots Q (F0 m pc ls st0) := by
  subst hst
  refine vp_callSl (W.runV S hM cw ⟨(fr_pre hK hP hE hEb).1, ?_, (fr_pre hK hP hE hEb).2⟩ rfl hn hsize rfl (lv_room hW) hdg hf) kk
  obtain ⟨cell, c1, c2, c3⟩ := va_recv hK hP hc he
  exact ⟨cell, c1, c2, by rw [← hq]; exact c3⟩
theorem fr_cSi {post : Int32 → Prop} {Pc : Array Value → State → Prop} (S : CallFix p m c cc nL s args Ts own) (hM : Met l y wsy rm Pc (vp_Si post) 0 0 (fun _ => False)) (cw : CallB R s args own index y bytes maxL ret wsy rm 0 0 n ∧ (Cond.static y).before args s = true) (hp : PreS s H Pc As) (hn : As.length = n) (hsize : ls.size = nL) (hst : st0 = As.reverse ++ rest) (hW : (rest.map fun v => v.category).sum ≤ 8) (hdg : decode cc pc = .ok (.invokestatic index, 3)) (hf : cells ≤ R.cells ∧ slots ≤ R.slots)
    (kk : ∀ r, post r → W p l e R s m args below meth c H locs cells slots Q (F0 m (pc + 3) ls (.int r :: rest))) : W p l e R s m args below meth c H locs cells slots Q (F0 m pc ls st0) := by
  subst hst
  exact vp_callSi (W.runS S hM cw hp rfl hn hsize rfl (lv_room hW) hdg hf) kk
theorem fr_cSl {post : Int64 → Prop} {Pc : Array Value → State → Prop} (S : CallFix p m c cc nL s args Ts own) (hM : Met l y wsy rm Pc (vp_Sl post) 0 0 (fun _ => False)) (cw : CallB R s args own index y bytes maxL ret wsy rm 0 0 n ∧ (Cond.static y).before args s = true) (hp : PreS s H Pc As) (hn : As.length = n) (hsize : ls.size = nL) (hst : st0 = As.reverse ++ rest) (hW : (rest.map fun v => v.category).sum ≤ 8) (hdg : decode cc pc = .ok (.invokestatic index, 3)) (hf : cells ≤ R.cells ∧ slots ≤ R.slots)
    (kk : ∀ r, post r → W p l e R s m args below meth c H locs cells slots Q (F0 m (pc + 3) ls (.long r :: rest))) : W p l e R s m args below meth c H locs cells slots Q (F0 m pc ls st0) := by
  subst hst
  exact vp_callSl (W.runS S hM cw hp rfl hn hsize rfl (lv_room hW) hdg hf) kk
theorem fr_cVm {S0 : Type} {post : Int32 → S0 → Prop} {wf : S0 → va_W} {A0 : Nat → Prop} (S : CallFix p m c cc nL s args Ts own) (hM : Met l y wsy rm (va_Pc (.ref b :: As) (fr_G D tys ws E)) (va_Qi post (fun u t => va_P D vwCl (wf u) t.heap) A) 0 0 A) (cw : CallW R s args own C index y bytes maxL ret wsy rm 0 0 n) (hK : va_K D vwCl tys s) (hP : va_P D vwCl ws H) (hc : vwCl[ci]? = some q) (hq : q.1 = C) (he : ws[q0]? = some (b, .inr (ci, fs)))
    (hE : ∀ U : State, U.heap = H → s.vm.Alike U.vm → E U) (hEb : ∀ (U : State) (g : JFrame) (mk : MethodId) (a : Array Value), E U → E (U.calling g mk a)) (hn : As.length = n) (hsize : ls.size = nL) (hst : st0 = As.reverse ++ .ref b :: rest) (hW : (rest.map fun v => v.category).sum ≤ 8) (hdg : decode cc pc = .ok (.invokevirtual index, 3)) (hf : cells ≤ R.cells ∧ slots ≤ R.slots) (hA : ∀ q, A q → A0 q) (hS : va_S A0 H0 H locs)
    (kk : ∀ (r : Int32) (u : S0) (H1 : Heap) (locs1 : List Loc), post r u → va_P D vwCl (wf u) H1 → (∀ q : Nat, q < H.size → ¬ A q → H1[q]? = H[q]?) → va_S A0 H0 H1 locs1 → W p l e R s m args below meth c H1 locs1 cells slots Q (F0 m (pc + 3) ls (.int r :: rest))) : W p l e R s m args below meth c H locs cells slots Q (F0 m pc ls st0) := by
  subst hst
  refine va_calli (va_runV S hM cw ⟨(fr_pre hK hP hE hEb).1, ?_, (fr_pre hK hP hE hEb).2⟩ rfl hn hsize rfl (lv_room hW) hdg hf) hS (fun q _ h => hA q h) hA (fun r u t H1 locs1 ht _ hp hB _ hk hS1 => kk r u H1 locs1 hp (by rw [← ht]; exact hB) hk hS1)
  obtain ⟨cell, c1, c2, c3⟩ := va_recv hK hP hc he
  exact ⟨cell, c1, c2, by rw [← hq]; exact c3⟩
end FRW
