/-! a new array of arrays: multianewarray of two dimensions, over the machine -/
/-- the outer array, its first i places laid -/
def fm_o (cA : ClassId) (N h i : Nat) : Cell := arrV cA N (fun j => if j < i then .ref (h + 1 + j) else .null)
theorem fm_o_set (cA : ClassId) (N h i : Nat) : (fm_o cA N h i).setSlot i (.ref (h + 1 + i)) = fm_o cA N h (i + 1) := by
  refine (arrV_store cA N i _ _).trans (congrArg (arrV cA N) (funext fun j => ?_))
  show (if j = i then Value.ref (h + 1 + i) else if j < i then Value.ref (h + 1 + j) else Value.null) = if j < i + 1 then Value.ref (h + 1 + j) else Value.null
  rcases Nat.lt_trichotomy j i with hj | hj | hj
  · rw [if_neg (by omega), if_pos hj, if_pos (by omega)]
  · rw [if_pos hj, if_pos (by omega), hj]
  · rw [if_neg (by omega), if_neg (by omega), if_neg (by omega)]
/-- the state when i rows are made: each a cell behind the last, then its place in the outer array -/
def fm_s (T : State) (cA comp : ClassId) (N K : Nat) (dv : Value) : Nat → State
  | 0 => T.pushCell (fm_o cA N T.heap.size 0)
  | i + 1 => ((fm_s T cA comp N K dv i).pushCell (arrV comp K (fun _ => dv))).setCell T.heap.size (fm_o cA N T.heap.size (i + 1))
theorem fm_top (T : State) (f : JFrame) (cA comp : ClassId) (N K : Nat) (dv : Value) : ∀ i, fm_s (T.setTop f) cA comp N K dv i = (fm_s T cA comp N K dv i).setTop f
  | 0 => rfl
  | i + 1 => by
    show ((fm_s (T.setTop f) cA comp N K dv i).pushCell _).setCell _ _ = _
    rw [fm_top T f cA comp N K dv i, State.pushCell_setTop, State.setCell_setTop]
    rfl
section FM
variable {p : Program} {l : Launch} {e : Env} {R : Room} {s : State} {m : MethodId} {args : Array Value} {below : List Frame} {meth : Method} {c : Code} {T : State} {H : Heap} {locs : List Loc} {cells slots : Nat} {Q : State → Prop}
variable {cc : ByteArray} {pc : Nat} {ls : Array Slot} {rest : List Value}
/-- what stands in the midst of it -/
def fm_at (p : Program) (l : Launch) (e : Env) (R : Room) (s : State) (m : MethodId) (args : Array Value) (below : List Frame) (meth : Method) (c : Code) (locs : List Loc) (cells slots N K : Nat) (T0 : State) (cA comp : ClassId) (dv : Value) (i : Nat) (T : State) : Prop :=
  Stand p l e R s m args below meth c T locs (cells + (1 + i)) (slots + (N + i * K)) ∧ T.vm = T0.vm ∧ T.heap.size = T0.heap.size + (1 + i) ∧ T.heap[T0.heap.size]? = some (fm_o cA N T0.heap.size i) ∧ (∀ j : Nat, j < i → T.heap[T0.heap.size + 1 + j]? = some (arrV comp K (fun _ => dv))) ∧ ∀ a : Nat, a < T0.heap.size → T.heap[a]? = T0.heap[a]?
theorem fm_run (X : Stand p l e R s m args below meth c T locs cells slots) (cA comp : ClassId) (N K : Nat) (dv : Value) : ∀ i, fm_at p l e R s m args below meth c locs cells slots N K T cA comp dv i (fm_s T cA comp N K dv i)
  | 0 => by
    have h := X.pushed (fm_o cA N T.heap.size 0)
    rw [show (fm_o cA N T.heap.size 0).slots.size = N from arrV_size _ _ _] at h
    refine ⟨?_, rfl, size_pushCell _ _, State.heap_pushCell_size _ _, fun j hj => absurd hj (Nat.not_lt_zero j), fun a ha => State.heap_pushCell_of_lt _ _ ha⟩
    rw [Nat.zero_mul]
    exact h
  | i + 1 => by
    obtain ⟨Xi, v1, z1, o1, r1, k1⟩ := fm_run X cA comp N K dv i
    generalize hU : fm_s T cA comp N K dv i = U at Xi v1 z1 o1 r1 k1
    have hUs : fm_s T cA comp N K dv (i + 1) = (U.pushCell (arrV comp K (fun _ => dv))).setCell T.heap.size (fm_o cA N T.heap.size (i + 1)) := by rw [← hU]; rfl
    rw [hUs]
    have hold : ∀ a : Nat, a < U.heap.size → (U.pushCell (arrV comp K (fun _ => dv))).heap[a]? = U.heap[a]? := fun a ha => State.heap_pushCell_of_lt _ _ ha
    have hcell : (U.pushCell (arrV comp K (fun _ => dv))).heap[T.heap.size]? = some (fm_o cA N T.heap.size i) := (hold _ (by omega)).trans o1
    have hne : ∀ a : Nat, a ≠ T.heap.size → ((U.pushCell (arrV comp K (fun _ => dv))).setCell T.heap.size (fm_o cA N T.heap.size (i + 1))).heap[a]? = (U.pushCell (arrV comp K (fun _ => dv))).heap[a]? := fun a ha => State.heap_setCell_other (Ne.symm ha)
    have h := (Xi.pushed (arrV comp K (fun _ => dv))).stored hcell i (.ref (T.heap.size + 1 + i))
    rw [arrV_size, fm_o_set] at h
    refine ⟨?_, v1, by rw [size_setCell, size_pushCell, z1]; omega, State.heap_setCell_self hcell, fun j hj => ?_, fun a ha => ?_⟩
    · have h2 := h.dropFresh (fun x hx => by
        rw [List.mem_singleton] at hx
        rw [hx]
        exact X.heapGrown)
      rw [show cells + (1 + (i + 1)) = cells + (1 + i) + 1 by omega, show slots + (N + (i + 1) * K) = slots + (N + i * K) + K by rw [Nat.succ_mul]; omega]
      exact h2
    · rw [hne _ (by omega)]
      rcases Nat.lt_or_ge j i with hj2 | hj2
      · rw [hold _ (by omega)]
        exact r1 j hj2
      · rw [show T.heap.size + 1 + j = U.heap.size by omega]
        exact State.heap_pushCell_size _ _
    · rw [hne _ (by omega), hold _ (by omega)]
      exact k1 a ha
/-- the rows made one behind another: what 'make' does -/
theorem fm_make {E : CtlPost} {d : Bool} {acts : List Action} {cA comp cq : ClassId} {kA kC : Class} {ty : FieldType} {n k : Int32} {N K : Nat} {f : JFrame} (X : Stand p l e R s m args below meth c T locs cells slots) (hN : n.toNatClampNeg = N) (hK : k.toNatClampNeg = K) (hkA : T.vm.classes[cA]? = some kA) (hkindA : kA.kind = .array comp (.array ty)) (hkC : T.vm.classes[comp]? = some kC) (hkindC : kC.kind = .array cq ty) (hn : ¬ n < 0) (hk : ¬ k < 0)
    (hl1 : ¬ N > e.platform.arrayLengthLimit) (hh1 : ¬ N * componentBytes (.array ty) > e.platform.maxHeapBytes) (hl2 : ¬ K > e.platform.arrayLengthLimit) (hh2 : ¬ K * componentBytes ty > e.platform.maxHeapBytes) (hdf : fits ty (defaultValue ty) = true) (hcells : cells + (1 + N) ≤ R.cells) (hslots : slots + (N + N * K) ≤ R.slots)
    {Qa : Addr → Pre} (hq : ∀ d' acts', Qa T.heap.size d' acts' ((fm_s T cA comp N K (defaultValue ty) N).setTop f)) : wp (multianewarray.make cA [n, k]) Qa E e d acts (T.setTop f) := by
  subst hN hK
  have hkA' : (T.setTop f).vm.classes[cA]? = some kA := hkA
  obtain ⟨r1, r2⟩ := X.roomAbove (a := 1) (b := n.toNatClampNeg) (by omega) (by have := Nat.zero_le (n.toNatClampNeg * k.toNatClampNeg); omega)
  rw [multianewarray.make]
  simp only [wp_bind', W.ite, hn, if_false, wp_pure', W.theClass, hkA', hkindA, Option.some.injEq, exists_eq_left']
  refine W.newArray_of hkA' hkindA hl1 hh1 r1 r2 rfl (fun acts1 => ?_)
  rw [arrV_new, show ([k].find? (· < 0)) = none by simp [hk]]
  have h0 : (T.setTop f).pushCell (arrV cA n.toNatClampNeg (fun _ => .null)) = (fm_s T cA comp n.toNatClampNeg k.toNatClampNeg (defaultValue ty) 0).setTop f := by
    rw [State.pushCell_setTop]
    rfl
  rw [h0]
  simp only [ite_self]
  rw [wp_bind', Std.Legacy.Range.forIn_eq_forIn_range']
  refine wp_forIn_inv (fun todo U => ∃ i, todo = List.range' i (n.toNatClampNeg - i) ∧ i ≤ n.toNatClampNeg ∧ U = (fm_s T cA comp n.toNatClampNeg k.toNatClampNeg (defaultValue ty) i).setTop f) _ _ ⟨0, by simp [Std.Legacy.Range.size], Nat.zero_le _, rfl⟩ ?_ ?_
  · rintro x todo U d1 acts1 Q1 ⟨i, hr, hi, rfl⟩ hnext
    rcases Nat.lt_or_ge i n.toNatClampNeg with hlt | hge
    · obtain ⟨j, hj⟩ : ∃ j, n.toNatClampNeg - i = j + 1 := ⟨n.toNatClampNeg - i - 1, by omega⟩
      rw [hj, List.range'_succ] at hr
      obtain ⟨rfl, rfl⟩ := List.cons.inj hr
      obtain ⟨Xi, v1, z1, o1, -, -⟩ := fm_run X cA comp n.toNatClampNeg k.toNatClampNeg (defaultValue ty) x
      have hmul : x * k.toNatClampNeg + k.toNatClampNeg ≤ n.toNatClampNeg * k.toNatClampNeg := by
        rw [← Nat.succ_mul]
        exact Nat.mul_le_mul_right _ hlt
      obtain ⟨s1, s2⟩ := Xi.roomAbove (a := 1) (b := k.toNatClampNeg) (by omega) (by omega)
      have hkC' : ((fm_s T cA comp n.toNatClampNeg k.toNatClampNeg (defaultValue ty) x).setTop f).vm.classes[comp]? = some kC := by
        show (fm_s T cA comp n.toNatClampNeg k.toNatClampNeg (defaultValue ty) x).vm.classes[comp]? = some kC
        rw [v1]
        exact hkC
      simp only [wp_bind']
      rw [multianewarray.make]
      simp only [wp_bind', W.ite, hk, if_false, wp_pure', W.theClass, hkC', hkindC, Option.some.injEq, exists_eq_left']
      refine W.newArray_of hkC' hkindC hl2 hh2 s1 s2 hdf (fun acts2 => ?_)
      rw [arrV_new, State.pushCell_setTop]
      simp only [wp_bind', W.writeLoc, wp_pure']
      refine ⟨fm_o cA n.toNatClampNeg T.heap.size x, ?_, fun z => (by cases z), ?_, ?_, hnext _ _ _ ⟨x + 1, ?_, hlt, ?_⟩⟩
      · have hz : T.heap.size < (fm_s T cA comp n.toNatClampNeg k.toNatClampNeg (defaultValue ty) x).heap.size := by
          rw [z1]
          omega
        exact (State.heap_pushCell_of_lt _ _ hz).trans o1
      · rw [show (fm_o cA n.toNatClampNeg T.heap.size x).slots.size = n.toNatClampNeg from arrV_size _ _ _]
        exact hlt
      · have hv : ((fm_s T cA comp n.toNatClampNeg k.toNatClampNeg (defaultValue ty) x).pushCell (arrV comp k.toNatClampNeg (fun _ => defaultValue ty))).vm.classes[cA]? = some kA := by
          show (fm_s T cA comp n.toNatClampNeg k.toNatClampNeg (defaultValue ty) x).vm.classes[cA]? = some kA
          rw [v1]
          exact hkA
        show State.fitsSlot _ cA .none x _ = true
        simp [State.fitsSlot, State.slotType?, v1, hkA, hkindA, fits]
      · rw [show n.toNatClampNeg - (x + 1) = j by omega]
      · show ((_ : State).setTop f).setCell _ _ = _
        rw [State.setCell_setTop]
        refine congrArg (fun z : State => z.setTop f) ?_
        have e1 : (fm_s T cA comp n.toNatClampNeg k.toNatClampNeg (defaultValue ty) x).heap.size = T.heap.size + 1 + x := by omega
        show State.setCell _ _ ((fm_o cA n.toNatClampNeg T.heap.size x).setSlot x (.ref (fm_s T cA comp n.toNatClampNeg k.toNatClampNeg (defaultValue ty) x).heap.size)) = _
        rw [e1, fm_o_set]
        rfl
    · rw [show n.toNatClampNeg - i = 0 by omega] at hr
      cases hr
  · rintro U d1 acts1 ⟨i, hr, hi, rfl⟩
    have hiN : i = n.toNatClampNeg := by
      have hl := congrArg List.length hr
      rw [List.length_range', List.length_nil] at hl
      omega
    subst hiN
    simp only [wp_pure']
    exact hq _ _
/-- what the tables say of arrays of arrays, in a form that stays -/
def fm_ov (t : FieldType) (U : State) : Prop := ∃ (comp c : ClassId) (k : Class), U.vm.findClass (FieldType.array t).toString = some comp ∧ U.vm.classes[c]? = some k ∧ k.kind = .array comp (.array t) ∧ U.vm.findClass ("[" ++ (FieldType.array t).toString) = some c
theorem fm_ov.moved {t : FieldType} {u U : State} (hvm : u.vm.Alike U.vm) (h : fm_ov t u) : fm_ov t U := by
  obtain ⟨comp, c, k, h1, h2, h3, h4⟩ := h
  obtain ⟨k', hk', he⟩ := hvm.2.2 _ _ h2
  exact ⟨comp, c, k', by rw [hvm.findClass]; exact h1, hk', by rw [he]; exact h3, by rw [hvm.findClass]; exact h4⟩
theorem fm_over {t : FieldType} (h : (Cond.arrayOver (.array t)).before args s = true) : fm_ov t s := by
  simp only [Cond.before, Cond.holds, Cond.value, beq_iff_eq, Option.bind_eq_some_iff, Option.map_eq_some_iff] at h
  obtain ⟨comp, hc, i, hi, k, hk, hb⟩ := h
  obtain ⟨hlt, hp, -⟩ := Array.findIdx?_eq_some_iff_getElem.mp hi
  rw [(Array.getElem?_eq_some_iff.mp hk).2] at hp
  split at hb
  · rename_i c2 t2 hkd
    rw [hkd] at hp
    simp only [beq_iff_eq, Bool.and_eq_true, decide_eq_true_eq] at hp hb
    exact ⟨comp, i, k, hc, hk, by rw [hkd, hp, hb.1], hb.2⟩
  · cases hb
theorem fm_row (hexec : p.tables.exec = Jvm.exec) (hb : c.code = cc) {own : String} {index : Nat} {ty : FieldType} (hown : s.vm.findClass own = some m.cls) (hclink : (Cond.classLink own index ("[" ++ (FieldType.array ty).toString)).before args s = true) (hover : fm_ov ty s) (harr : (Cond.arrayClass ty).before args s = true)
    {n k : Int32} {N K : Nat} (hn : ¬ n < 0) (hk : ¬ k < 0) (hN : n.toNatClampNeg = N) (hK : k.toNatClampNeg = K) (hb1 : N * 4 ≤ 536870912) (hb2 : K * componentBytes ty ≤ 536870912) (hb3 : K ≤ 536870912) (hdf : fits ty (defaultValue ty) = true) (hcells : cells + (1 + N) ≤ R.cells) (hslots : slots + (N + N * K) ≤ R.slots) (hdg : decode cc pc = .ok (.multianewarray index 2, 4))
    (kk : ∀ (H' : Heap) (cA comp : ClassId), H'.size = H.size + (1 + N) → H'[H.size]? = some (fm_o cA N H.size N) → (∀ j : Nat, j < N → H'[H.size + 1 + j]? = some (arrV comp K (fun _ => defaultValue ty))) → (∀ q : Nat, q < H.size → H'[q]? = H[q]?) → ArrOfT s cA (.array ty) → ArrOfT s comp ty → s.vm.findClass ("[" ++ (FieldType.array ty).toString) = some cA → s.vm.findClass (FieldType.array ty).toString = some comp →
      W p l e R s m args below meth c H' locs (cells + (1 + N)) (slots + (N + N * K)) Q (F0 m (pc + 4) ls (.ref H.size :: rest))) : W p l e R s m args below meth c H locs cells slots Q (F0 m pc ls (.int k :: .int n :: rest)) := by
  intro T hT X
  subst hT
  obtain ⟨comp, cA, kA, hcomp, hkA, hkindA, hnameA⟩ := hover
  obtain ⟨comp2, kC, cq, hcomp2, hkC, hkindC⟩ := Cond.arrayClass_spec harr
  cases hcomp.symm.trans hcomp2
  obtain ⟨c0, hfc0, hcl⟩ := Cond.classLink_spec hown hclink e.platform (by rw [X.admits.platform])
  cases hnameA.symm.trans hfc0
  obtain ⟨hg₁, hwarm₁, -⟩ := State.classEntry (e := e) X.warmed hcl
  generalize T.vm.noted m.cls index (.cls cA) = vm₁ at hg₁ hwarm₁
  obtain ⟨kA₁, hkA₁, heA⟩ := hwarm₁.alike.2.2 _ _ hkA
  obtain ⟨kC₁, hkC₁, heC⟩ := hwarm₁.alike.2.2 _ _ hkC
  have X₁ := X.noted hwarm₁
  obtain ⟨XF, -, f1, f2, f3, f4⟩ := fm_run X₁ cA comp N K (defaultValue ty) N
  obtain ⟨t, a1, b1⟩ := kk (fm_s (T.setVm vm₁) cA comp N K (defaultValue ty) N).heap cA comp f1 f2 f3 f4 (fun _ _ => ⟨(fun x h => by cases h), kA, hkA, comp, hkindA⟩) (fun _ _ => ⟨(fun x h => by cases h), kC, hkC, cq, hkindC⟩) hnameA hcomp _ rfl XF
  refine ⟨t, ?_, b1⟩
  have lim := Launch.admits_arrayLengthLimit X.admits
  have hp := Launch.admits_maxHeapBytes X.admits
  jvm_step X.here [hexec, hb, hdg]
  simp only [multianewarray.sem, wp_bind', W.resolveClassAt_links (State.method?_setTop (F0 m pc ls (.int k :: .int n :: rest)) X.here.top) hg₁]
  rw [W.popN, if_neg (by decide)]
  refine ⟨_, State.topJava?_setTop' (s := T.setVm vm₁) _ X.here.top, [.int n, .int k], rest, rfl, rfl, ?_⟩
  simp only [List.mapM_cons, List.mapM_nil, wp_bind', wp_pure']
  rw [show ((T.setTop (F0 m pc ls (.int k :: .int n :: rest))).setVm vm₁).setTop { (F0 m pc ls (.int k :: .int n :: rest)) with stack := rest } = (T.setVm vm₁).setTop { (F0 m pc ls (.int k :: .int n :: rest)) with stack := rest } from State.setTop_setTop (s := T.setVm vm₁) _ _]
  refine fm_make (kA := kA₁) (kC := kC₁) (comp := comp) (cq := cq) (ty := ty) X₁ hN hK hkA₁ (by rw [heA]; exact hkindA) hkC₁ (by rw [heC]; exact hkindC) hn hk (by rw [lim]; omega) (by rw [hp]; show ¬ N * 4 > _; omega) (by rw [lim]; omega) (by rw [hp]; omega) hdf hcells hslots (fun d' acts' => ?_)
  have top := State.topJava?_setTop' { (F0 m pc ls (.int k :: .int n :: rest)) with stack := rest } XF.here.top
  rw [wp_bind', W.mark, W.pushRef]
  refine ⟨_, top, fun more => ?_⟩
  rw [State.setTop_setTop]
  simp [jvm, XF.here.top]
  exact a1
end FM
