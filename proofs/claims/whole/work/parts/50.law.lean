/-! the law's loop: rows for its calls -/
theorem fr_keepM {D : va_G} {V : Nat} {ad bd : Nat → Nat} {kb : Nat → ClassId} {row made : Nat → Int32} {H H1 : Heap} (hP : va_P D vwCl (fr_mw V bd kb row made) H) (hdis : ∀ i k, i < 37 → k < 3 → ad i ≠ bd k) (hfr : ∀ q : Nat, q < H.size → ¬ fr_A ad q → H1[q]? = H[q]?) : va_P D vwCl (fr_mw V bd kb row made) H1 := by
  refine hP.kept (fun k q hk => ?_)
  obtain ⟨k3, e⟩ := fr_addrB k q hk
  refine hfr q.1 (hP k q hk).lt ?_
  rw [e]
  rintro ⟨i, hi, z⟩
  exact hdis i k hi k3 z.symm
theorem fr_keepX {D : va_G} {V : Nat} {ad bd : Nat → Nat} {ka : Nat → ClassId} {mk : Nat → Int64} {nm pt : Nat → Int32} {ro : Nat → Nat → Int64} {H H1 : Heap} (hP : va_P D vwCl (fr_xw V ad ka mk nm pt ro) H) (hdis : ∀ i k, i < 37 → k < 3 → ad i ≠ bd k) (hfr : ∀ q : Nat, q < H.size → ¬ fr_B bd q → H1[q]? = H[q]?) : va_P D vwCl (fr_xw V ad ka mk nm pt ro) H1 := by
  refine hP.kept (fun k q hk => ?_)
  obtain ⟨k3, e⟩ := fr_addr k q hk
  refine hfr q.1 (hP k q hk).lt ?_
  rw [e]
  rintro ⟨i, hi, z⟩
  exact hdis k i k3 hi z
/-- the table, at the law's start; nothing old is written -/
def fr_TS (s : State) : Prop := ∃ t : Nat, va_Z "FunctionRoom" "PLACES_WITH_BIT" "[J" (.ref t) (fun q => s.heap.size ≤ q) s s.heap ∧ va_T .long t 6 (fun j => .long (fr_pb j)) (fun q => s.heap.size ≤ q) s s.heap
theorem fr_TS_at {s : State} {H : Heap} {locs : List Loc} {ad : Nat → Nat} (hT : fr_TS s) (hS : va_S (fun q => s.heap.size ≤ q) s.heap H locs) (had : ∀ i, i < 37 → s.heap.size ≤ ad i) (U : State) (hU : U.heap = H) (hvm : s.vm.Alike U.vm) : fr_T ad U U.heap := by
  obtain ⟨t, z1, z2⟩ := hT
  rw [hU]
  have hn : ∀ q, fr_A ad q → s.heap.size ≤ q := by
    rintro q ⟨i, hi, rfl⟩
    exact had i hi
  exact ⟨t, va_Z.narrow (va_Z.moved hvm (z1.kept hS.2.1)) hn, va_T.narrow (va_T.moved hvm (z2.kept hS.2.1)) hn⟩
section FRL
variable {p : Program} {l : Launch} {e : Env} {R : Room} {s : State} {m : MethodId} {args : Array Value} {below : List Frame} {meth : Method} {c : Code} {H : Heap} {locs : List Loc} {cells slots : Nat} {Q : State → Prop}
variable {cc : ByteArray} {pc : Nat} {ls : Array Slot} {rest : List Value} {D : va_G}
variable {V : Nat} {ad : Nat → Nat} {ka : Nat → ClassId} {mk : Nat → Int64} {nm pt : Nat → Int32} {ro : Nat → Nat → Int64} {bd : Nat → Nat} {kb : Nat → ClassId} {row made : Nat → Int32}
variable {y : MethodName} {bytes : ByteArray} {maxL nL n index : Nat} {ret : Option FieldType} {wsy : List Cond} {rm : Room} {Ts : List Cond} {own : String} {As st0 : List Value}
theorem fr_sld {A : Nat → Prop} {H0 : Heap} (hexec : p.tables.exec = Jvm.exec) (hb : c.code = cc) {b L : Nat} {xs : Nat → Int32} (hX : va_X b L xs s H0) (hbl : b < H0.size) (hbA : ¬ A b) (hS : va_S A H0 H locs) {i : Nat} (hi : i < L) (hL : L < 2 ^ 31) (hdg : decode cc pc = .ok (.iaload, 1))
    (kk : W p l e R s m args below meth c H locs cells slots Q (F0 m (pc + 1) ls (.int (xs i) :: rest))) : W p l e R s m args below meth c H locs cells slots Q (F0 m pc ls (.int (nI i) :: .ref b :: rest)) := by
  have hc : (nI i).toNatClampNeg = i := nI_clamp (by omega)
  refine va_sld hexec hb hX hbl hbA hS (vp_in_nI hi hL) hdg ?_
  rw [hc]
  exact kk
/-- a call of the class that may write: the reference's world stays -/
theorem fr_lawX {sp : Int32 × fr_F} (S : CallFix p m c cc nL s args Ts own) (hM : Met l y wsy rm (va_Pc (.ref (ad 0) :: As) (fr_PX D V ad ka mk nm pt ro)) (va_Qi (fun res u => res = sp.1 ∧ fr_XR V sp.2 u.2.2.2) (fun u t => va_P D vwCl (fr_xu V ad ka u) t.heap) (fr_A ad)) 0 0 (fr_A ad)) (cw : CallW R s args own "FunctionRoom" index y bytes maxL ret wsy rm 0 0 n)
    (hK : va_K D vwCl (fr_ty ka) s) (hP : va_P D vwCl (fr_xw V ad ka mk nm pt ro) H) (hP2 : va_P D vwCl (fr_mw V bd kb row made) H) (hT : fr_TS s) (hS : va_S (fun q => s.heap.size ≤ q) s.heap H locs) (had : ∀ i, i < 37 → s.heap.size ≤ ad i) (hdis : ∀ i k, i < 37 → k < 3 → ad i ≠ bd k)
    (hn : As.length = n) (hsize : ls.size = nL) (hst : st0 = As.reverse ++ .ref (ad 0) :: rest) (hW : (rest.map fun v => v.category).sum ≤ 8) (hdg : decode cc pc = .ok (.invokevirtual index, 3)) (hf : cells ≤ R.cells ∧ slots ≤ R.slots)
    (kk : ∀ (H1 : Heap) (locs1 : List Loc) (mk : Nat → Int64) (nm pt : Nat → Int32) (ro : Nat → Nat → Int64), va_P D vwCl (fr_xw V ad ka mk nm pt ro) H1 → va_P D vwCl (fr_mw V bd kb row made) H1 → fr_XR V sp.2 ro → va_S (fun q => s.heap.size ≤ q) s.heap H1 locs1 → W p l e R s m args below meth c H1 locs1 cells slots Q (F0 m (pc + 3) ls (.int sp.1 :: rest))) : W p l e R s m args below meth c H locs cells slots Q (F0 m pc ls st0) := by
  refine fr_cVm (ci := CIF) (q0 := 0) S hM cw hK hP rfl rfl rfl (fr_TS_at hT hS had) fr_T_blind hn hsize hst hW hdg hf (fun q h => by obtain ⟨i, hi, rfl⟩ := h; exact had i hi) hS (fun r u H1 locs1 h1 h2 h3 h4 => ?_)
  obtain ⟨rfl, h5⟩ := h1
  exact kk H1 locs1 u.1 u.2.1 u.2.2.1 u.2.2.2 h2 (fr_keepM hP2 hdis h3) h5 h4
theorem fr_lawM {sp : Int32 × fr_F} (S : CallFix p m c cc nL s args Ts own) (hM : Met l y wsy rm (va_Pc (.ref (bd 0) :: As) (fr_PM D V bd kb row made)) (va_Qi (fun (res : Int32) (u : (Nat → Int32) × (Nat → Int32)) => res = sp.1 ∧ fr_MR V sp.2 u.1) (fun u t => va_P D vwCl (fr_mw V bd kb u.1 u.2) t.heap) (fr_B bd)) 0 0 (fr_B bd)) (cw : CallW R s args own "FunctionRoomModel" index y bytes maxL ret wsy rm 0 0 n)
    (hK : va_K D vwCl (fr_mty kb) s) (hP : va_P D vwCl (fr_xw V ad ka mk nm pt ro) H) (hP2 : va_P D vwCl (fr_mw V bd kb row made) H) (hS : va_S (fun q => s.heap.size ≤ q) s.heap H locs) (hbd : ∀ i, i < 3 → s.heap.size ≤ bd i) (hdis : ∀ i k, i < 37 → k < 3 → ad i ≠ bd k)
    (hn : As.length = n) (hsize : ls.size = nL) (hst : st0 = As.reverse ++ .ref (bd 0) :: rest) (hW : (rest.map fun v => v.category).sum ≤ 8) (hdg : decode cc pc = .ok (.invokevirtual index, 3)) (hf : cells ≤ R.cells ∧ slots ≤ R.slots)
    (kk : ∀ (H1 : Heap) (locs1 : List Loc) (row made : Nat → Int32), va_P D vwCl (fr_xw V ad ka mk nm pt ro) H1 → va_P D vwCl (fr_mw V bd kb row made) H1 → fr_MR V sp.2 row → va_S (fun q => s.heap.size ≤ q) s.heap H1 locs1 → W p l e R s m args below meth c H1 locs1 cells slots Q (F0 m (pc + 3) ls (.int sp.1 :: rest))) : W p l e R s m args below meth c H locs cells slots Q (F0 m pc ls st0) := by
  refine fr_cVm (ci := CIM) (q0 := 0) S hM cw hK hP2 rfl rfl rfl (fun _ _ _ => trivial) (fun _ _ _ _ _ => trivial) hn hsize hst hW hdg hf (fun q h => by obtain ⟨i, hi, rfl⟩ := h; exact hbd i hi) hS (fun r u H1 locs1 h1 h2 h3 h4 => ?_)
  obtain ⟨rfl, h5⟩ := h1
  exact kk H1 locs1 u.1 u.2 (fr_keepX hP hdis h3) h2 h5 h4
/-- size: it writes, but no row -/
theorem fr_lawZ {v : Int32} {F : fr_F} (S : CallFix p m c cc nL s args Ts own) (hM : Met l y wsy rm (va_Pc (.ref (ad 0) :: As) (fr_PX D V ad ka mk nm pt ro)) (va_Qi (fun res u => res = v ∧ fr_XR V F u.2.2.2) (fun u t => va_P D vwCl (fr_xu V ad ka u) t.heap) (fr_A ad)) 0 0 (fr_A ad)) (cw : CallW R s args own "FunctionRoom" index y bytes maxL ret wsy rm 0 0 n)
    (hK : va_K D vwCl (fr_ty ka) s) (hP : va_P D vwCl (fr_xw V ad ka mk nm pt ro) H) (hP2 : va_P D vwCl (fr_mw V bd kb row made) H) (hT : fr_TS s) (hS : va_S (fun q => s.heap.size ≤ q) s.heap H locs) (had : ∀ i, i < 37 → s.heap.size ≤ ad i) (hdis : ∀ i k, i < 37 → k < 3 → ad i ≠ bd k)
    (hn : As.length = n) (hsize : ls.size = nL) (hst : st0 = As.reverse ++ .ref (ad 0) :: rest) (hW : (rest.map fun v => v.category).sum ≤ 8) (hdg : decode cc pc = .ok (.invokevirtual index, 3)) (hf : cells ≤ R.cells ∧ slots ≤ R.slots)
    (kk : ∀ (H1 : Heap) (locs1 : List Loc) (mk : Nat → Int64) (nm pt : Nat → Int32) (ro : Nat → Nat → Int64), va_P D vwCl (fr_xw V ad ka mk nm pt ro) H1 → va_P D vwCl (fr_mw V bd kb row made) H1 → fr_XR V F ro → va_S (fun q => s.heap.size ≤ q) s.heap H1 locs1 → W p l e R s m args below meth c H1 locs1 cells slots Q (F0 m (pc + 3) ls (.int v :: rest))) : W p l e R s m args below meth c H locs cells slots Q (F0 m pc ls st0) :=
  fr_lawX (sp := (v, F)) S hM cw hK hP hP2 hT hS had hdis hn hsize hst hW hdg hf kk
/-- calls that only read -/
theorem fr_lawXr {v : Int32} (S : CallFix p m c cc nL s args Ts own) (hM : Met l y wsy rm (va_Pc (.ref (ad 0) :: As) (fr_PX D V ad ka mk nm pt ro)) (vp_Si (fun res => res = v)) 0 0 (fun _ => False)) (cw : CallW R s args own "FunctionRoom" index y bytes maxL ret wsy rm 0 0 n)
    (hK : va_K D vwCl (fr_ty ka) s) (hP : va_P D vwCl (fr_xw V ad ka mk nm pt ro) H) (hT : fr_TS s) (hS : va_S (fun q => s.heap.size ≤ q) s.heap H locs) (had : ∀ i, i < 37 → s.heap.size ≤ ad i)
    (hn : As.length = n) (hsize : ls.size = nL) (hst : st0 = As.reverse ++ .ref (ad 0) :: rest) (hW : (rest.map fun v => v.category).sum ≤ 8) (hdg : decode cc pc = .ok (.invokevirtual index, 3)) (hf : cells ≤ R.cells ∧ slots ≤ R.slots)
    (kk : W p l e R s m args below meth c H locs cells slots Q (F0 m (pc + 3) ls (.int v :: rest))) : W p l e R s m args below meth c H locs cells slots Q (F0 m pc ls st0) :=
  fr_cVi (ci := CIF) (q0 := 0) S hM cw hK hP rfl rfl rfl (fr_TS_at hT hS had) fr_T_blind hn hsize hst hW hdg hf (fun r hr => by rw [hr]; exact kk)
theorem fr_lawMr {v : Int32} (S : CallFix p m c cc nL s args Ts own) (hM : Met l y wsy rm (va_Pc (.ref (bd 0) :: As) (fr_PM D V bd kb row made)) (vp_Si (fun res => res = v)) 0 0 (fun _ => False)) (cw : CallW R s args own "FunctionRoomModel" index y bytes maxL ret wsy rm 0 0 n)
    (hK : va_K D vwCl (fr_mty kb) s) (hP2 : va_P D vwCl (fr_mw V bd kb row made) H)
    (hn : As.length = n) (hsize : ls.size = nL) (hst : st0 = As.reverse ++ .ref (bd 0) :: rest) (hW : (rest.map fun v => v.category).sum ≤ 8) (hdg : decode cc pc = .ok (.invokevirtual index, 3)) (hf : cells ≤ R.cells ∧ slots ≤ R.slots)
    (kk : W p l e R s m args below meth c H locs cells slots Q (F0 m (pc + 3) ls (.int v :: rest))) : W p l e R s m args below meth c H locs cells slots Q (F0 m pc ls st0) :=
  fr_cVi (ci := CIM) (q0 := 0) S hM cw hK hP2 rfl rfl rfl (fun _ _ _ => trivial) (fun _ _ _ _ _ => trivial) hn hsize hst hW hdg hf (fun r hr => by rw [hr]; exact kk)
end FRL
theorem fr_l5 {L : Nat} (h : L < 2 ^ 30) : (nI L - 5).toInt = (L : Int) - 5 := pk_sub_toInt (b := 5) h (by decide)
theorem fr_exit {L i : Nat} (hL : L < 2 ^ 30) (hi : i < 2 ^ 30) (h : L < i + 5) : nI L - 5 < nI i := by
  rw [Int32.lt_iff_toInt_lt, fr_l5 hL, nI_toInt (by omega)]
  omega
theorem fr_noexit {L i : Nat} (hL : L < 2 ^ 30) (hi : i < 2 ^ 30) (h : i + 5 ≤ L) : ¬ nI L - 5 < nI i := by
  rw [Int32.lt_iff_toInt_lt, fr_l5 hL, nI_toInt (by omega)]
  omega
