/-! a new array of arrays: the machine's multianewarray of two dimensions, told by arrV cells -/
def fm_o (cA : ClassId) (N h i : Nat) : Cell := arrV cA N (fun j => if j < i then .ref (h + 1 + j) else .null)
def fm_s (s : State) (cA comp : ClassId) (N M : Nat) (dv : Value) : Nat → State
  | 0 => s.pushCell (fm_o cA N s.heap.size 0)
  | i + 1 => ((fm_s s cA comp N M dv i).pushCell (arrV comp M (fun _ => dv))).setCell s.heap.size (fm_o cA N s.heap.size (i + 1))
theorem fm_o_set (cA : ClassId) (N h i : Nat) : (fm_o cA N h i).setSlot i (.ref (h + 1 + i)) = fm_o cA N h (i + 1) := by
  unfold fm_o
  rw [arrV_store]
  congr 1
  funext j
  unfold updV
  by_cases e : j = i
  · subst e
    rw [if_pos rfl, if_pos (by omega)]
  · rw [if_neg e]
    show (if j < i then Value.ref (h + 1 + j) else Value.null) = _
    by_cases hji : j < i
    · rw [if_pos hji, if_pos (by omega)]
    · rw [if_neg hji, if_neg (by omega)]
theorem fm_facts (s : State) (cA comp : ClassId) (N M : Nat) (dv : Value) : ∀ i, (fm_s s cA comp N M dv i).heap.size = s.heap.size + 1 + i ∧ (fm_s s cA comp N M dv i).heap[s.heap.size]? = some (fm_o cA N s.heap.size i) ∧ (fm_s s cA comp N M dv i).vm = s.vm ∧ (fm_s s cA comp N M dv i).slotsUsed = s.slotsUsed + N + i * M ∧
    (∀ a : Nat, a < s.heap.size → (fm_s s cA comp N M dv i).heap[a]? = s.heap[a]?) ∧ ∀ j : Nat, j < i → (fm_s s cA comp N M dv i).heap[s.heap.size + 1 + j]? = some (arrV comp M (fun _ => dv))
  | 0 => ⟨by simp [fm_s], by simp [fm_s], rfl, by simp [fm_s, fm_o, arrV], fun a ha => State.heap_pushCell_of_lt _ _ ha, fun j hj => absurd hj (Nat.not_lt_zero j)⟩
  | i + 1 => by
    obtain ⟨f1, f2, f3, f4, f5, f6⟩ := fm_facts s cA comp N M dv i
    have hlt : s.heap.size < (fm_s s cA comp N M dv i).heap.size := by omega
    have hb : ((fm_s s cA comp N M dv i).pushCell (arrV comp M (fun _ => dv))).heap[s.heap.size]? = some (fm_o cA N s.heap.size i) := by
      rw [State.heap_pushCell_of_lt (h := hlt)]
      exact f2
    refine ⟨?_, State.heap_setCell_self hb, by simp [fm_s, f3], ?_, fun a ha => ?_, fun j hj => ?_⟩
    · simp [fm_s, State.setCell, f1]
      omega
    · simp [fm_s, f4, arrV, Nat.succ_mul]
      omega
    · have ha2 : a < (fm_s s cA comp N M dv i).heap.size := Nat.lt_of_lt_of_le ha (by omega)
      show (((fm_s s cA comp N M dv i).pushCell _).setCell s.heap.size _).heap[a]? = _
      rw [State.heap_setCell_other (Nat.ne_of_gt ha), State.heap_pushCell_of_lt (h := ha2)]
      exact f5 a ha
    · show (((fm_s s cA comp N M dv i).pushCell _).setCell s.heap.size _).heap[s.heap.size + 1 + j]? = _
      rw [State.heap_setCell_other (show s.heap.size ≠ s.heap.size + 1 + j by omega)]
      by_cases e : j < i
      · have h2 : s.heap.size + 1 + j < (fm_s s cA comp N M dv i).heap.size := by omega
        rw [State.heap_pushCell_of_lt (h := h2)]
        exact f6 j e
      · have e2 : s.heap.size + 1 + j = (fm_s s cA comp N M dv i).heap.size := by omega
        rw [e2]
        exact State.heap_pushCell_size _ _
theorem fm_top (s : State) (f : JFrame) (cA comp : ClassId) (N M : Nat) (dv : Value) : ∀ i, fm_s (s.setTop f) cA comp N M dv i = (fm_s s cA comp N M dv i).setTop f
  | 0 => rfl
  | i + 1 => by simp only [fm_s, fm_top s f cA comp N M dv i, State.heap_setTop, State.pushCell_setTop, State.setCell_setTop]
section FM1
variable {E : CtlPost} {e : Env} {d : Bool} {acts : List Action} {s : State}
theorem fm_new {cA comp : ClassId} {k : Class} {ty : FieldType} {n : Nat} {v : Value} (hk : s.vm.classes[cA]? = some k) (hkind : k.kind = .array comp ty) (h1 : ¬ n > e.platform.arrayLengthLimit) (h2 : ¬ n * componentBytes ty > e.platform.maxHeapBytes) (hfit : fits ty v = true) (hdef : v.isDefault = true) {Q : Addr → Pre}
    (h3 : s.heap.size < e.platform.maxCells) (h4 : s.slotsUsed + n ≤ e.platform.maxSlots) (hq : Q s.heap.size d acts (s.pushCell (arrV cA n (fun _ => v)))) : wp (Jvm.newArray cA n v) Q E e d acts s := by
  have hf : ∀ i w, (Array.replicate n v)[i]? = some w → s.fitsSlot cA .none i w = true := by
    intro i w hw
    rw [Array.getElem?_replicate] at hw
    split at hw
    · cases hw
      simp [State.fitsSlot, State.slotType?, hk, hkind, hfit]
    · cases hw
  have ha : allocActs (Array.replicate n v) s.heap.size acts = acts := by
    have hall : ((Array.replicate n v).all (·.isDefault)) = true := by
      rw [Array.all_replicate]
      split <;> simp [hdef]
    unfold allocActs
    rw [if_pos hall]
  rw [← arrV_new] at hq
  simp only [Jvm.newArray, Jvm.arrayFits, wp_bind', W.ask, W.ite, h1, if_false, wp_pure', W.theClass, hk, hkind, h2, W.alloc, W.stop, Option.some.injEq, exists_eq_left', Array.size_replicate, ha]
  rw [if_neg (by omega)]
  exact ⟨h3, h4, hf, hq⟩
theorem fm_make {cA comp cc : ClassId} {k kc : Class} {t0 ty : FieldType} {n m : Int32} {N M : Nat} (hN : n.toNatClampNeg = N) (hM : m.toNatClampNeg = M) (hk : s.vm.classes[cA]? = some k) (hkind : k.kind = .array comp t0) (href : t0.isReference = true) (hf0 : ∀ v : Value, v = .null ∨ (∃ a, v = .ref a) → fits t0 v = true)
    (hkc : s.vm.classes[comp]? = some kc) (hkindc : kc.kind = .array cc ty) (hn : ¬ n < 0) (hm : ¬ m < 0) (hl1 : ¬ N > e.platform.arrayLengthLimit) (hh1 : ¬ N * componentBytes t0 > e.platform.maxHeapBytes) (hl2 : ¬ M > e.platform.arrayLengthLimit) (hh2 : ¬ M * componentBytes ty > e.platform.maxHeapBytes)
    (hdf : fits ty (defaultValue ty) = true) (hdd : (defaultValue ty).isDefault = true) (hc : s.heap.size + 1 + N ≤ e.platform.maxCells) (hs : s.slotsUsed + N + N * M ≤ e.platform.maxSlots) {Q : Addr → Pre} (hq : ∀ d' acts', Q s.heap.size d' acts' (fm_s s cA comp N M (defaultValue ty) N)) : wp (multianewarray.make cA [n, m]) Q E e d acts s := by
  subst hN hM
  have hfind : ([m].find? (· < 0)) = none := by simp [hm]
  rw [multianewarray.make]
  simp only [wp_bind', W.ite, hn, if_false, wp_pure', W.theClass, hk, hkind, Option.some.injEq, exists_eq_left']
  refine fm_new hk hkind hl1 hh1 (hf0 _ (Or.inl rfl)) rfl (by omega) (by have := Nat.zero_le (n.toNatClampNeg * m.toNatClampNeg); omega) ?_
  simp only [hfind]
  rw [ite_self, wp_bind', Std.Legacy.Range.forIn_eq_forIn_range']
  have hsz : ([:n.toNatClampNeg] : Std.Legacy.Range).size = n.toNatClampNeg := by simp [Std.Legacy.Range.size]
  rw [hsz]
  show wp (forIn (List.range' 0 n.toNatClampNeg 1) PUnit.unit _) _ E e d acts _
  refine wp_forIn_inv (fun rest s' => ∃ i, i ≤ n.toNatClampNeg ∧ rest = List.range' i (n.toNatClampNeg - i) ∧ s' = fm_s s cA comp n.toNatClampNeg m.toNatClampNeg (defaultValue ty) i) _ _ ⟨0, Nat.zero_le _, rfl, rfl⟩ ?_ ?_
  · rintro x rest s' d' acts' Q' ⟨i, hi, hl, rfl⟩ hnext
    have hlt : i < n.toNatClampNeg := by
      rcases Nat.lt_or_ge i n.toNatClampNeg with h | h
      · exact h
      · rw [show n.toNatClampNeg - i = 0 by omega] at hl
        simp at hl
    rw [show n.toNatClampNeg - i = (n.toNatClampNeg - (i + 1)) + 1 by omega, List.range'_succ] at hl
    obtain ⟨rfl, hrest⟩ := List.cons.inj hl
    obtain ⟨f1, f2, f3, f4, -, -⟩ := fm_facts s cA comp n.toNatClampNeg m.toNatClampNeg (defaultValue ty) x
    have hmul : x * m.toNatClampNeg + m.toNatClampNeg ≤ n.toNatClampNeg * m.toNatClampNeg := by
      have h := Nat.mul_le_mul_right m.toNatClampNeg (show x + 1 ≤ n.toNatClampNeg from hlt)
      rw [Nat.succ_mul] at h
      exact h
    simp only [wp_bind']
    rw [multianewarray.make]
    simp only [wp_bind', W.ite, hm, if_false, wp_pure', W.theClass, show (fm_s s cA comp n.toNatClampNeg m.toNatClampNeg (defaultValue ty) x).vm.classes[comp]? = some kc by rw [f3]; exact hkc, hkindc, Option.some.injEq, exists_eq_left']
    refine fm_new (by rw [f3]; exact hkc) hkindc hl2 hh2 hdf hdd (by rw [f1]; omega) (by rw [f4]; omega) ?_
    have hlt0 : s.heap.size < (fm_s s cA comp n.toNatClampNeg m.toNatClampNeg (defaultValue ty) x).heap.size := by rw [f1]; omega
    simp only [wp_bind', W.writeLoc, wp_pure']
    refine ⟨fm_o cA n.toNatClampNeg s.heap.size x, by rw [State.heap_pushCell_of_lt (h := hlt0)]; exact f2, by simp [fm_o, arrV], by simp [fm_o, arrV]; exact hlt, ?_, hnext _ _ _ ⟨x + 1, hlt, hrest, ?_⟩⟩
    · show State.fitsSlot _ cA .none x _ = true
      simp [State.fitsSlot, State.slotType?, f3, hk, hkind, hf0 _ (Or.inr ⟨_, rfl⟩)]
    · rw [f1, fm_o_set]
      rfl
  · rintro s' d' acts' ⟨i, hi, hl, rfl⟩
    have hiN : i = n.toNatClampNeg := by
      rcases Nat.lt_or_ge i n.toNatClampNeg with h | h
      · rw [show n.toNatClampNeg - i = (n.toNatClampNeg - (i + 1)) + 1 by omega, List.range'_succ] at hl
        cases hl
      · omega
    subst hiN
    simp only [wp_pure']
    exact hq _ _
end FM1
section FM2
variable {p : Program} {l : Launch} {e : Env} {R : Room} {s : State} {m : MethodId} {args : Array Value} {below : List Frame} {meth : Method} {c : Code} {T : State} {H : Heap} {locs : List Loc} {cells slots : Nat} {Q : State → Prop}
variable {cc : ByteArray} {pc : Nat} {ls : Array Slot} {rest : List Value}
theorem fm_stand (X : Stand p l e R s m args below meth c T locs cells slots) (cA comp : ClassId) (N M : Nat) (dv : Value) : ∀ i, Stand p l e R s m args below meth c (fm_s T cA comp N M dv i) (locs ++ (List.range i).map fun j => (⟨T.heap.size, j⟩ : Loc)) (cells + 1 + i) (slots + N + i * M)
  | 0 => by
    have h := X.pushed (fm_o cA N T.heap.size 0)
    rw [show (fm_o cA N T.heap.size 0).slots.size = N from arrV_size _ _ _] at h
    simpa [fm_s] using h
  | i + 1 => by
    have Xi := fm_stand X cA comp N M dv i
    obtain ⟨f1, f2, -, -, -, -⟩ := fm_facts T cA comp N M dv i
    have hlt : T.heap.size < (fm_s T cA comp N M dv i).heap.size := by omega
    have hcell : ((fm_s T cA comp N M dv i).pushCell (arrV comp M (fun _ => dv))).heap[T.heap.size]? = some (fm_o cA N T.heap.size i) := by
      rw [State.heap_pushCell_of_lt (h := hlt)]
      exact f2
    have h := (Xi.pushed (arrV comp M (fun _ => dv))).stored hcell i (.ref (T.heap.size + 1 + i))
    rw [arrV_size, fm_o_set] at h
    have e2 : (locs ++ (List.range (i + 1)).map fun j => (⟨T.heap.size, j⟩ : Loc)) = (locs ++ (List.range i).map fun j => (⟨T.heap.size, j⟩ : Loc)) ++ [⟨T.heap.size, i⟩] := by simp [List.range_succ, List.append_assoc]
    have e3 : slots + N + (i + 1) * M = slots + N + i * M + M := by rw [Nat.succ_mul]; omega
    rw [e2, e3]
    exact h
/-- what the tables say of arrays of arrays, in a form that stays -/
def fm_ov (t : FieldType) (U : State) : Prop := ∃ (comp c : ClassId) (k : Class), U.vm.findClass (FieldType.array t).toString = some comp ∧ U.vm.classes[c]? = some k ∧ k.kind = .array comp (.array t) ∧ U.vm.findClass ("[" ++ (FieldType.array t).toString) = some c
theorem fm_ov.moved {t : FieldType} {u U : State} (hvm : u.vm.Alike U.vm) (h : fm_ov t u) : fm_ov t U := by
  obtain ⟨comp, c, k, h1, h2, h3, h4⟩ := h
  obtain ⟨k', hk', he⟩ := hvm.2.2 _ _ h2
  exact ⟨comp, c, k', by rw [hvm.findClass]; exact h1, hk', by rw [he]; exact h3, by rw [hvm.findClass]; exact h4⟩
theorem fm_over {t : FieldType} (h : (Cond.arrayOver (.array t)).before args s = true) : fm_ov t s := by
  simp only [Cond.before, Cond.holds, Cond.value, beq_iff_eq] at h
  cases hc : s.vm.findClass (FieldType.array t).toString with
  | none => simp [hc] at h
  | some comp =>
    simp only [hc, Option.bind_some, Option.bind_eq_some_iff, Option.map_eq_some_iff] at h
    obtain ⟨c, hi, k, hk, hb⟩ := h
    obtain ⟨hlt, hp, -⟩ := Array.findIdx?_eq_some_iff_getElem.mp hi
    have hkk : s.vm.classes[c] = k := (Array.getElem?_eq_some_iff.mp hk).2
    rw [hkk] at hp
    cases hkind : k.kind with
    | array component ty =>
      rw [hkind] at hb hp
      simp at hb hp
      exact ⟨comp, c, k, hc, hk, by rw [hkind, hp, hb.1], hb.2⟩
    | _ => rw [hkind] at hb; simp at hb
theorem fm_row (hexec : p.tables.exec = Jvm.exec) (hb : c.code = cc) {own : String} {index : Nat} {ty : FieldType} (hown : s.vm.findClass own = some m.cls) (hclink : (Cond.classLink own index ("[" ++ (FieldType.array ty).toString)).before args s = true) (hover : fm_ov ty s) (harr : (Cond.arrayClass ty).before args s = true)
    {n k : Int32} {N K : Nat} (hn : ¬ n < 0) (hk : ¬ k < 0) (hN : n.toNatClampNeg = N) (hK : k.toNatClampNeg = K) (hb1 : N * 4 ≤ 536870912) (hb2 : K * componentBytes ty ≤ 536870912) (hb3 : K ≤ 536870912) (hdf : fits ty (defaultValue ty) = true) (hdd : (defaultValue ty).isDefault = true) (hcells : cells + (1 + N) ≤ R.cells) (hslots : slots + (N + N * K) ≤ R.slots) (hdg : decode cc pc = .ok (.multianewarray index 2, 4))
    (kk : ∀ (H' : Heap) (cA comp : ClassId), H'.size = H.size + 1 + N → H'[H.size]? = some (arrV cA N (fun j => .ref (H.size + 1 + j))) → (∀ j : Nat, j < N → H'[H.size + 1 + j]? = some (arrV comp K (fun _ => defaultValue ty))) → (∀ q : Nat, q < H.size → H'[q]? = H[q]?) → ArrOfT s cA (.array ty) → ArrOfT s comp ty → s.vm.findClass ("[" ++ (FieldType.array ty).toString) = some cA → s.vm.findClass (FieldType.array ty).toString = some comp →
      W p l e R s m args below meth c H' locs (cells + (1 + N)) (slots + (N + N * K)) Q (F0 m (pc + 4) ls (.ref H.size :: rest))) : W p l e R s m args below meth c H locs cells slots Q (F0 m pc ls (.int k :: .int n :: rest)) := by
  intro T hT X
  subst hN hK hT
  have hpl : e.platform.magicAccessors = ({} : Platform).magicAccessors := by rw [X.admits.platform]
  obtain ⟨comp, cA, kA, hcomp, hkA, hkindA, hnameA⟩ := hover
  obtain ⟨comp', kC, cq, hcomp', hkC, hkindC⟩ := Cond.arrayClass_spec harr
  obtain rfl : comp' = comp := Option.some.inj (hcomp'.symm.trans hcomp)
  obtain ⟨c0, hfc0, hcl⟩ := Cond.classLink_spec hown hclink e.platform hpl
  cases hnameA.symm.trans hfc0
  obtain ⟨hg₁, hwarm₁, hready₁⟩ := State.classEntry (e := e) X.warmed hcl
  generalize T.vm.noted m.cls index (.cls cA) = vm₁ at hg₁ hwarm₁ hready₁
  have hal : s.vm.Alike vm₁ := hwarm₁.alike
  obtain ⟨kA₁, hkA₁, heA⟩ := hal.2.2 _ _ hkA
  obtain ⟨kC₁, hkC₁, heC⟩ := hal.2.2 _ _ hkC
  have hkindA₁ : kA₁.kind = .array comp' (.array ty) := by rw [heA]; exact hkindA
  have hkindC₁ : kC₁.kind = .array cq ty := by rw [heC]; exact hkindC
  have X₁ := X.noted hwarm₁
  obtain ⟨hr1, hr2⟩ := X.roomAbove hcells hslots
  have hl1 : ¬ n.toNatClampNeg > e.platform.arrayLengthLimit := by rw [Launch.admits_arrayLengthLimit X.admits]; omega
  have hh1 : ¬ n.toNatClampNeg * componentBytes (.array ty) > e.platform.maxHeapBytes := by
    rw [Launch.admits_maxHeapBytes X.admits]; show ¬ n.toNatClampNeg * 4 > 536870912; omega
  have hl2 : ¬ k.toNatClampNeg > e.platform.arrayLengthLimit := by rw [Launch.admits_arrayLengthLimit X.admits]; omega
  have hh2 : ¬ k.toNatClampNeg * componentBytes ty > e.platform.maxHeapBytes := by rw [Launch.admits_maxHeapBytes X.admits]; omega
  have XF := fm_stand X₁ cA comp' n.toNatClampNeg k.toNatClampNeg (defaultValue ty) n.toNatClampNeg
  have XG := XF.dropFresh (fun x hx => by
    obtain ⟨j, -, rfl⟩ := List.mem_map.mp hx
    exact X.heapGrown)
  obtain ⟨f1, f2, -, -, f5, f6⟩ := fm_facts (T.setVm vm₁) cA comp' n.toNatClampNeg k.toNatClampNeg (defaultValue ty) n.toNatClampNeg
  have hcell : fm_o cA n.toNatClampNeg T.heap.size n.toNatClampNeg = arrV cA n.toNatClampNeg (fun j => .ref (T.heap.size + 1 + j)) := by
    unfold fm_o arrV
    congr 2
    funext j
    exact if_pos j.isLt
  rw [show slots + n.toNatClampNeg + n.toNatClampNeg * k.toNatClampNeg = slots + (n.toNatClampNeg + n.toNatClampNeg * k.toNatClampNeg) by omega, show cells + 1 + n.toNatClampNeg = cells + (1 + n.toNatClampNeg) by omega] at XG
  obtain ⟨t, a1, b1⟩ := kk (fm_s (T.setVm vm₁) cA comp' n.toNatClampNeg k.toNatClampNeg (defaultValue ty) n.toNatClampNeg).heap cA comp' f1 (by rw [← hcell]; exact f2) f6 f5
    (fun N z => ⟨(fun x h => by cases h), kA, hkA, comp', hkindA⟩) (fun N z => ⟨(fun x h => by cases h), kC, hkC, cq, hkindC⟩) hnameA hcomp _ rfl XG
  refine ⟨t, ?_, b1⟩
  jvm_step X.here [hexec, hb, hdg]
  simp only [multianewarray.sem, wp_bind', W.resolveClassAt_links (State.method?_setTop (F0 m pc ls (.int k :: .int n :: rest)) X.here.top) hg₁]
  rw [W.popN, if_neg (by decide)]
  refine ⟨F0 m pc ls (.int k :: .int n :: rest), State.topJava?_setTop' (s := T.setVm vm₁) _ X.here.top, [.int n, .int k], rest, rfl, rfl, ?_⟩
  simp only [List.mapM_cons, List.mapM_nil, wp_bind', wp_pure']
  refine fm_make (k := kA₁) (kc := kC₁) (comp := comp') (cc := cq) (t0 := .array ty) (ty := ty) rfl rfl hkA₁ hkindA₁ rfl (fun v hv => by rcases hv with rfl | ⟨a, rfl⟩ <;> rfl) hkC₁ hkindC₁ hn hk hl1 hh1 hl2 hh2 hdf hdd (by show T.heap.size + 1 + _ ≤ _; omega) (by show T.slotsUsed + _ + _ ≤ _; omega) (fun d' acts' => ?_)
  have eS : ((T.setTop (F0 m pc ls (.int k :: .int n :: rest))).setVm vm₁).setTop { (F0 m pc ls (.int k :: .int n :: rest)) with stack := rest } = (T.setVm vm₁).setTop { (F0 m pc ls (.int k :: .int n :: rest)) with stack := rest } := by
    show ((T.setVm vm₁).setTop _).setTop _ = _
    rw [State.setTop_setTop]
  rw [eS, fm_top]
  simp only [wp_bind', W.mark, W.pushRef, State.topJava?_setTop' _ XF.here.top, Option.some.injEq, exists_eq_left', State.setTop_setTop, State.heap_setTop]
  intro acts
  simp [jvm, XF.here.top]
  exact a1
end FM2
