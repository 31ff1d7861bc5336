/-! for the constructors -/
def fr_cl (x : Int32) : Nat := if x < 1 then 1 else if 9 < x then 9 else x.toNatClampNeg
theorem fr_nlelt {x y : Int32} (h : ¬ x ≤ y) : y < x := by
  rw [Int32.le_iff_toInt_le] at h
  rw [Int32.lt_iff_toInt_lt]
  omega
theorem fr_clv {x : Int32} (h : 1 ≤ x) : nI x.toNatClampNeg = x := by
  have e1 : (1 : Int32).toInt = 1 := by decide
  rw [Int32.le_iff_toInt_le, e1] at h
  have e0 : (0 : Int32).toInt = 0 := by decide
  obtain ⟨j, hj, rfl⟩ := nI_of (x := x) (fun z => by rw [Int32.lt_iff_toInt_lt, e0] at z; omega)
  rw [nI_clamp hj]
theorem fr_cl_le (x : Int32) : 1 ≤ fr_cl x ∧ fr_cl x < 10 := by
  unfold fr_cl
  have e1 : (1 : Int32).toInt = 1 := by decide
  have e9 : (9 : Int32).toInt = 9 := by decide
  have e0 : (0 : Int32).toInt = 0 := by decide
  by_cases h1 : x < 1
  · rw [if_pos h1]
    omega
  · rw [if_neg h1]
    by_cases h9 : 9 < x
    · rw [if_pos h9]
      omega
    · rw [if_neg h9]
      rw [Int32.lt_iff_toInt_lt, e1] at h1
      rw [Int32.lt_iff_toInt_lt, e9] at h9
      obtain ⟨j, hj, rfl⟩ := nI_of (x := x) (fun z => by rw [Int32.lt_iff_toInt_lt, e0] at z; omega)
      rw [nI_clamp hj]
      rw [nI_toInt hj] at h1 h9
      omega
theorem fr_D1 (q : Nat × va_E) : va_D (fun _ => True) [q] := by
  refine ⟨fun i j p r hp hr _ => ?_, fun _ _ _ => trivial⟩
  have h1 : i < 1 := (List.getElem?_eq_some_iff.mp hp).1
  have h2 : j < 1 := (List.getElem?_eq_some_iff.mp hr).1
  omega
def fr_a3 (a b c : Nat) : Nat → Nat := fun i => if i = 0 then a else if i = 1 then b else c
theorem fr_a3_inj {A : Nat → Prop} {a b c : Nat} {x y z : va_E} (hD : va_D A [(a, x), (b, y), (c, z)]) : fr_injB (fr_a3 a b c) := by
  have key : ∀ i, i < 3 → ∃ q, [(a, x), (b, y), (c, z)][i]? = some q ∧ q.1 = fr_a3 a b c i := by
    intro i hi
    rcases (show i = 0 ∨ i = 1 ∨ i = 2 by omega) with rfl | rfl | rfl
    · exact ⟨_, rfl, rfl⟩
    · exact ⟨_, rfl, rfl⟩
    · exact ⟨_, rfl, rfl⟩
  intro i j hi hj e
  obtain ⟨p, p1, p2⟩ := key i hi
  obtain ⟨q, q1, q2⟩ := key j hj
  exact hD.1 i j p q p1 q1 (by rw [p2, q2]; exact e)
theorem fr_a3_in {A : Nat → Prop} {a b c : Nat} {x y z : va_E} (hD : va_D A [(a, x), (b, y), (c, z)]) : ∀ i, i < 3 → A (fr_a3 a b c i) := by
  intro i hi
  rcases (show i = 0 ∨ i = 1 ∨ i = 2 by omega) with rfl | rfl | rfl
  · exact hD.2 0 _ rfl
  · exact hD.2 1 _ rfl
  · exact hD.2 2 _ rfl
theorem fr_zeroZ {N : Nat} (cA : ClassId) : vp_cell cA (N, .inl (fun _ => 0)) = arrV cA N (fun _ => defaultValue .boolean) := by
  rw [vp_cell_i]
  rfl
theorem fr_zeroI {N : Nat} (cA : ClassId) : vp_cell cA (N, .inl (fun _ => 0)) = arrV cA N (fun _ => defaultValue .int) := by
  rw [vp_cell_i]
  rfl
theorem fr_zeroL {N : Nat} (cA : ClassId) : vp_cell cA (N, .inr (.inl (fun _ => 0))) = arrV cA N (fun _ => defaultValue .long) := by
  rw [vp_cell_l]
  rfl
