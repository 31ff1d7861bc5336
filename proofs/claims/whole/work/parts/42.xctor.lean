/-! for the class's constructor -/
theorem fr_clX (v : Int32) : (if (1 : Int32) < (if v < 9 then v else 9) then (if v < 9 then v else 9) else 1) = nI (fr_cl v) := by
  have e1 : (1 : Int32).toInt = 1 := by decide
  have e9 : (9 : Int32).toInt = 9 := by decide
  unfold fr_cl
  by_cases h9 : v < 9
  · rw [if_pos h9]
    rw [Int32.lt_iff_toInt_lt, e9] at h9
    by_cases h1 : v < 1
    · rw [if_pos h1, if_neg (fun z => by rw [Int32.lt_iff_toInt_lt, e1] at z h1; omega)]
      rfl
    · rw [if_neg h1, if_neg (show ¬ (9 : Int32) < v from fun z => by rw [Int32.lt_iff_toInt_lt, e9] at z; omega)]
      have h1' : (1 : Int32) ≤ v := by
        rw [Int32.lt_iff_toInt_lt, e1] at h1
        rw [Int32.le_iff_toInt_le, e1]
        omega
      rw [fr_clv h1']
      by_cases h2 : (1 : Int32) < v
      · rw [if_pos h2]
      · rw [if_neg h2]
        apply Int32.toInt_inj.mp
        rw [Int32.lt_iff_toInt_lt, e1] at h1 h2
        rw [e1]
        omega
  · rw [if_neg h9, if_pos (by decide)]
    rw [Int32.lt_iff_toInt_lt, e9] at h9
    rw [if_neg (fun z => by rw [Int32.lt_iff_toInt_lt, e1] at z; omega)]
    by_cases h2 : (9 : Int32) < v
    · rw [if_pos h2]
      rfl
    · rw [if_neg h2]
      have h3 : v = 9 := by
        apply Int32.toInt_inj.mp
        rw [Int32.lt_iff_toInt_lt, e9] at h2
        rw [e9]
        omega
      rw [h3]
      rfl
theorem fr_wnX : ∀ V, V < 10 → (if (1 : Int32) < (nI (2 ^ V) >>> ((6 : Int32) &&& 31)) then (nI (2 ^ V) >>> ((6 : Int32) &&& 31)) else 1) = nI (fr_wn V) := by decide +kernel
theorem fr_plX : ∀ V, V < 6 → ((1 : Int64) <<< ((nI (2 ^ V)).toInt64 &&& 63)) - 1 = fr_pl V := by decide +kernel
def fr_objX (V h1 h2 h3 h4 : Nat) : List Value := [.int (nI V), .int (nI (2 ^ V)), .int (nI (fr_wn V)), .long (fr_pl V), .ref h1, .ref h2, .ref h3, .ref h4]
def fr_w2 (o : List Value) (h0 q K : Nat) (cA comp : ClassId) : va_W :=
  (h0, .inr (CIF, o)) :: (q, .inl (cA, 32, .inr (.inr (.inr (.inr (fun i => some (q + 1 + i))))))) :: (List.range 32).map (fun i => ((q + 1 + i, .inl (comp, K, .inr (.inl (fun _ => 0)))) : Nat × va_E))
def fr_Wf (V h0 q q3 q4 q5 : Nat) (cA comp c3 c4 c5 : ClassId) : va_W :=
  ((fr_w2 (fr_objX V q q3 q4 q5) h0 q (fr_wn V) cA comp ++ [(q3, .inl (c3, fr_wn V, .inr (.inl (fun _ => 0))))]) ++ [(q4, .inl (c4, 2 ^ V, .inl (fun _ => 0)))]) ++ [(q5, .inl (c5, 2 ^ V, .inl (fun _ => 0)))]
def fr_adX (h0 q q3 q4 q5 : Nat) : Nat → Nat := fun i => match i with
  | 0 => h0
  | 1 => q
  | 2 => q3
  | 3 => q4
  | 4 => q5
  | k + 5 => q + 1 + k
def fr_kaX (cA comp c3 c4 c5 : ClassId) : Nat → ClassId := fun i => match i with
  | 0 => cA
  | 1 => comp
  | 2 => c3
  | 3 => c4
  | _ => c5
def fr_pi : Nat → Nat := fun i => match i with
  | 0 => 0
  | 1 => 1
  | 2 => 34
  | 3 => 35
  | 4 => 36
  | k + 5 => k + 2
theorem fr_w2_len (o : List Value) (h0 q K : Nat) (cA comp : ClassId) : (fr_w2 o h0 q K cA comp).length = 34 := by
  simp [fr_w2]
theorem fr_key {V h0 q q3 q4 q5 : Nat} {cA comp c3 c4 c5 : ClassId} : ∀ i, i < 37 → ∃ e, (fr_Wf V h0 q q3 q4 q5 cA comp c3 c4 c5)[fr_pi i]? = some (fr_adX h0 q q3 q4 q5 i, e) ∧ (fr_xw V (fr_adX h0 q q3 q4 q5) (fr_kaX cA comp c3 c4 c5) (fun _ => 0) (fun _ => 0) (fun _ => 0) (fun _ _ => 0))[i]? = some (fr_adX h0 q q3 q4 q5 i, e)
  | 0, _ => ⟨_, rfl, rfl⟩
  | 1, _ => ⟨_, rfl, rfl⟩
  | 2, _ => by
    refine ⟨_, ?_, rfl⟩
    show (fr_Wf V h0 q q3 q4 q5 cA comp c3 c4 c5)[34]? = _
    unfold fr_Wf
    rw [List.getElem?_append_left (by simp [fr_w2_len]), List.getElem?_append_left (by simp [fr_w2_len]), List.getElem?_append_right (by simp [fr_w2_len]), fr_w2_len]
    rfl
  | 3, _ => by
    refine ⟨_, ?_, rfl⟩
    show (fr_Wf V h0 q q3 q4 q5 cA comp c3 c4 c5)[35]? = _
    unfold fr_Wf
    rw [List.getElem?_append_left (by simp [fr_w2_len]), List.getElem?_append_right (by simp [fr_w2_len])]
    simp [fr_w2_len]
    exact ⟨rfl, rfl⟩
  | 4, _ => by
    refine ⟨_, ?_, rfl⟩
    show (fr_Wf V h0 q q3 q4 q5 cA comp c3 c4 c5)[36]? = _
    unfold fr_Wf
    rw [List.getElem?_append_right (by simp [fr_w2_len])]
    simp [fr_w2_len]
    exact ⟨rfl, rfl⟩
  | k + 5, h => by
    have hk : k < 32 := by omega
    refine ⟨_, ?_, fr_row hk⟩
    show (fr_Wf V h0 q q3 q4 q5 cA comp c3 c4 c5)[k + 2]? = _
    unfold fr_Wf
    rw [List.getElem?_append_left (by simp [fr_w2_len]; omega), List.getElem?_append_left (by simp [fr_w2_len]; omega), List.getElem?_append_left (by simp [fr_w2_len]; omega)]
    show ((List.range 32).map _)[k]? = _
    rw [List.getElem?_map, List.getElem?_range hk]
    rfl
theorem fr_pi_inj : ∀ i, i < 37 → ∀ j, j < 37 → fr_pi i = fr_pi j → i = j := by decide +kernel
theorem fr_fin_P {D : va_G} {H : Heap} {V h0 q q3 q4 q5 : Nat} {cA comp c3 c4 c5 : ClassId} (hP : va_P D vwCl (fr_Wf V h0 q q3 q4 q5 cA comp c3 c4 c5) H) : va_P D vwCl (fr_xw V (fr_adX h0 q q3 q4 q5) (fr_kaX cA comp c3 c4 c5) (fun _ => 0) (fun _ => 0) (fun _ => 0) (fun _ _ => 0)) H := by
  intro k x hx
  obtain ⟨hk, -⟩ := fr_addr k x hx
  obtain ⟨e, h1, h2⟩ := fr_key (V := V) (h0 := h0) (q := q) (q3 := q3) (q4 := q4) (q5 := q5) (cA := cA) (comp := comp) (c3 := c3) (c4 := c4) (c5 := c5) k hk
  obtain rfl : x = _ := Option.some.inj (hx.symm.trans h2)
  exact hP _ _ h1
theorem fr_fin_inj {A : Nat → Prop} {V h0 q q3 q4 q5 : Nat} {cA comp c3 c4 c5 : ClassId} (hD : va_D A (fr_Wf V h0 q q3 q4 q5 cA comp c3 c4 c5)) : fr_inj (fr_adX h0 q q3 q4 q5) := by
  intro i j hi hj e
  obtain ⟨x, h1, -⟩ := fr_key (V := V) (h0 := h0) (q := q) (q3 := q3) (q4 := q4) (q5 := q5) (cA := cA) (comp := comp) (c3 := c3) (c4 := c4) (c5 := c5) i hi
  obtain ⟨y, h2, -⟩ := fr_key (V := V) (h0 := h0) (q := q) (q3 := q3) (q4 := q4) (q5 := q5) (cA := cA) (comp := comp) (c3 := c3) (c4 := c4) (c5 := c5) j hj
  exact fr_pi_inj i hi j hj (hD.1 _ _ _ _ h1 h2 e)
theorem fr_fin_in {A : Nat → Prop} {V h0 q q3 q4 q5 : Nat} {cA comp c3 c4 c5 : ClassId} (hD : va_D A (fr_Wf V h0 q q3 q4 q5 cA comp c3 c4 c5)) : ∀ i, i < 37 → A (fr_adX h0 q q3 q4 q5 i) := by
  intro i hi
  obtain ⟨x, h1, -⟩ := fr_key (V := V) (h0 := h0) (q := q) (q3 := q3) (q4 := q4) (q5 := q5) (cA := cA) (comp := comp) (c3 := c3) (c4 := c4) (c5 := c5) i hi
  exact hD.2 _ _ h1
theorem fr_full (cA : ClassId) (N h : Nat) : fm_o cA N h N = arrV cA N (fun j => .ref (h + 1 + j)) := by
  unfold fm_o arrV
  congr 2
  funext j
  exact if_pos j.isLt
section FRC
variable {p : Program} {l : Launch} {e : Env} {R : Room} {s : State} {m : MethodId} {args : Array Value} {below : List Frame} {meth : Method} {c : Code} {H : Heap} {locs : List Loc} {cells slots : Nat} {Q : State → Prop}
variable {cc : ByteArray} {pc : Nat} {ls : Array Slot} {rest : List Value} {D : va_G} {A : Nat → Prop}
/-- new long[32][K]: the object, the outer array, the rows -/
theorem fr_mna {o : List Value} {h0 K : Nat} (hexec : p.tables.exec = Jvm.exec) (hb : c.code = cc) {own : String} {index : Nat} (hown : s.vm.findClass own = some m.cls) (hclink : (Cond.classLink own index "[[J").before args s = true) (hover : fm_ov .long s) (harr : (Cond.arrayClass .long).before args s = true) (hK : va_K D vwCl [] s) (hP : va_P D vwCl [(h0, .inr (CIF, o))] H) (hD : va_D A [(h0, .inr (CIF, o))]) (hS : va_S A s.heap H locs) (hA : ∀ q, s.heap.size ≤ q → A q)
    (hK8 : K ≤ 8) (hcells : cells + (1 + 32) ≤ R.cells) (hslots : slots + (32 + 32 * K) ≤ R.slots) (hdg : decode cc pc = .ok (.multianewarray index 2, 4))
    (kk : ∀ (q : Nat) (cA comp : ClassId) (H1 : Heap), va_K D vwCl [(cA, .array .long), (comp, .long)] s → va_P D vwCl (fr_w2 o h0 q K cA comp) H1 → va_D A (fr_w2 o h0 q K cA comp) → va_S A s.heap H1 locs → W p l e R s m args below meth c H1 locs (cells + (1 + 32)) (slots + (32 + 32 * K)) Q (F0 m (pc + 4) ls (.ref q :: rest))) : W p l e R s m args below meth c H locs cells slots Q (F0 m pc ls (.int (nI K) :: .int 32 :: rest)) := by
  refine fm_row (ty := .long) (N := 32) (K := K) hexec hb hown hclink hover harr (by decide) (nI_pos (by omega)) (by decide) (nI_clamp (by omega)) (by decide) (by show K * 8 ≤ _; omega) (by omega) rfl hcells hslots hdg (fun H1 cA comp z1 f1 f2 f3 a1 a2 n1 n2 => ?_)
  have hlt : h0 < H.size := (hP 0 _ rfl).lt
  refine kk H.size cA comp H1 ⟨hK.1, fun k x hx => ?_⟩ (fun k x hx => ?_) ⟨fun i j x y hx hy hxy => ?_, fun k x hx => ?_⟩ ⟨by have := hS.1; omega, fun q h1 h2 => (f3 q (Nat.lt_of_lt_of_le h1 hS.1)).trans (hS.2.1 q h1 h2), hS.2.2⟩
  · match k, hx with
    | 0, hx => cases hx; exact ⟨a1, n1⟩
    | 1, hx => cases hx; exact ⟨a2, n2⟩
    | k + 2, hx => exact absurd hx (by simp)
  · match k, hx with
    | 0, hx => cases hx; exact (hP 0 _ rfl).kept (f3 h0 hlt)
    | 1, hx => cases hx; show H1[H.size]? = some (vp_cell _ _); rw [f1, fr_full, vp_cell_q]; rfl
    | k + 2, hx =>
      have hx : ((List.range 32).map (fun i => ((H.size + 1 + i, .inl (comp, K, .inr (.inl (fun _ => 0)))) : Nat × va_E)))[k]? = some x := hx
      rw [List.getElem?_map] at hx
      by_cases h32 : k < 32
      · rw [List.getElem?_range h32] at hx
        cases hx
        show H1[H.size + 1 + k]? = some (vp_cell _ _)
        rw [f2 k h32, fr_zeroL]
      · rw [List.getElem?_eq_none (by simpa using h32)] at hx
        cases hx
  · have key : ∀ (k : Nat) (x : Nat × va_E), (fr_w2 o h0 H.size K cA comp)[k]? = some x → (k = 0 ∧ x.1 = h0) ∨ (1 ≤ k ∧ x.1 = H.size + (k - 1)) := by
      intro k x hx
      match k, hx with
      | 0, hx => cases hx; exact Or.inl ⟨rfl, rfl⟩
      | 1, hx => cases hx; exact Or.inr ⟨by decide, rfl⟩
      | k + 2, hx =>
        have hx : ((List.range 32).map (fun i => ((H.size + 1 + i, .inl (comp, K, .inr (.inl (fun _ => 0)))) : Nat × va_E)))[k]? = some x := hx
        rw [List.getElem?_map] at hx
        by_cases h32 : k < 32
        · rw [List.getElem?_range h32] at hx
          cases hx
          exact Or.inr ⟨by omega, by show H.size + 1 + k = _; omega⟩
        · rw [List.getElem?_eq_none (by simpa using h32)] at hx
          cases hx
    rcases key i x hx with ⟨a, b⟩ | ⟨a, b⟩ <;> rcases key j y hy with ⟨c, d⟩ | ⟨c, d⟩ <;> omega
  · match k, hx with
    | 0, hx => cases hx; exact hD.2 0 _ rfl
    | 1, hx => cases hx; exact hA _ hS.1
    | k + 2, hx =>
      have hx : ((List.range 32).map (fun i => ((H.size + 1 + i, .inl (comp, K, .inr (.inl (fun _ => 0)))) : Nat × va_E)))[k]? = some x := hx
      rw [List.getElem?_map] at hx
      by_cases h32 : k < 32
      · rw [List.getElem?_range h32] at hx
        cases hx
        exact hA _ (by have := hS.1; show s.heap.size ≤ H.size + 1 + k; omega)
      · rw [List.getElem?_eq_none (by simpa using h32)] at hx
        cases hx
end FRC
