/-! rows for the reference -/
theorem fr_bit {b : Bool} (h : ¬ fr_bi b = 0) : b = true := by
  cases b
  · exact absurd rfl h
  · rfl
theorem fr_bxor {a b : Bool} (h : ¬ fr_bi a = fr_bi b) : (a ^^ b) = true := by
  cases a <;> cases b <;> first | rfl | exact absurd rfl h
theorem fr_MRs {V j : Nat} {F : fr_F} {f : Nat → Bool} {row : Nat → Int32} (h1 : ∀ x, x < 2 ^ V → row (512 * j + x) = fr_bi (f x)) (h2 : ∀ q x, q < 32 → q ≠ j → x < 2 ^ V → row (512 * q + x) = fr_bi (F q x)) : fr_MR V (va_up F j f) row := by
  intro q x hq hx
  by_cases e : q = j
  · subst e
    rw [va_up_self]
    exact h1 x hx
  · rw [va_up_ne _ _ e]
    exact h2 q x hq e hx
theorem fr_updK {j i : Nat} {f : Nat → Bool} {row : Nat → Int32} (hg : ∀ x, x < i → row (512 * j + x) = fr_bi (f x)) : ∀ x, x < i + 1 → upd row (512 * j + i) (fr_bi (f i)) (512 * j + x) = fr_bi (f x) := by
  intro x hx
  by_cases e : x = i
  · subst e
    rw [pk_us]
  · rw [pk_un (by omega)]
    exact hg x (by omega)
theorem fr_updZ {made E : Nat → Int32} {i : Nat} {x : Int32} (hg : ∀ w, w < i → made w = E w) (he : x = E i) : ∀ w, w < i + 1 → upd made i x w = E w := by
  intro w hw
  by_cases e : w = i
  · subst e
    rw [pk_us, he]
  · rw [pk_un e]
    exact hg w (by omega)
theorem fr_ldm {what : Int32} : (what = -2 ↔ what.toInt = -2) ∧ (what = -1 ↔ what.toInt = -1) ∧ (what < -2 ↔ what.toInt < -2) ∧ (what < 0 ↔ what.toInt < 0) := by
  have e2 : (-2 : Int32).toInt = -2 := by decide
  have e1 : (-1 : Int32).toInt = -1 := by decide
  have e0 : (0 : Int32).toInt = 0 := by decide
  rw [← Int32.toInt_inj, ← Int32.toInt_inj, Int32.lt_iff_toInt_lt, Int32.lt_iff_toInt_lt, e2, e1, e0]
  exact ⟨Iff.rfl, Iff.rfl, Iff.rfl, Iff.rfl⟩
theorem fr_ld1 {what : Int32} {j V : Nat} (h : what < -2) : ¬ (fr_okB (nI j) 32 && (decide (what = -2) || decide (what = -1) || fr_okB what V)) = true := by
  obtain ⟨a, b, c, d⟩ := @fr_ldm what
  have h3 := c.mp h
  have n2 : ¬ what = -2 := fun z => by have := a.mp z; omega
  have n1 : ¬ what = -1 := fun z => by have := b.mp z; omega
  have n0 : what < 0 := d.mpr (by omega)
  rw [decide_eq_false n2, decide_eq_false n1, fr_okB_no (fun z => z.1 n0)]
  simp
theorem fr_ld2 {what : Int32} {j V : Nat} (h1 : ¬ what < -2) (h2 : ¬ what < nI V) (hV : V < 10 := by omega) : ¬ (fr_okB (nI j) 32 && (decide (what = -2) || decide (what = -1) || fr_okB what V)) = true := by
  obtain ⟨a, b, c, d⟩ := @fr_ldm what
  have e : (nI V).toInt = (V : Int) := nI_toInt (by omega)
  have h3 : (V : Int) ≤ what.toInt := by
    rw [Int32.lt_iff_toInt_lt, e] at h2
    omega
  have n2 : ¬ what = -2 := fun z => by have := a.mp z; omega
  have n1 : ¬ what = -1 := fun z => by have := b.mp z; omega
  have n0 : nI V ≤ what := by
    rw [Int32.le_iff_toInt_le, e]
    exact h3
  rw [decide_eq_false n2, decide_eq_false n1, fr_okB_no (fun z => z.2 n0)]
  simp
theorem fr_ld3 {what : Int32} {V : Nat} (h1 : ¬ what < -2) (h2 : what < nI V) (hV : V < 10) : ∃ fn : Nat → Bool, ((decide (what = -2) || decide (what = -1) || fr_okB what V) = true ∧ (if what = -2 then fun _ => false else if what = -1 then fun _ => true else fun x => x.testBit (V - 1 - fr_v what)) = fn) ∧
    ((what = -1 → fn = fun _ => true) ∧ (¬ what = -1 → what < 0 → fn = fun _ => false) ∧ (¬ what < 0 → ∃ k, k < V ∧ what = nI k ∧ fn = fun x => x.testBit (V - 1 - k))) := by
  obtain ⟨a, b, c, d⟩ := @fr_ldm what
  have e : (nI V).toInt = (V : Int) := nI_toInt (by omega)
  have h4 : what.toInt < V := by
    rw [Int32.lt_iff_toInt_lt, e] at h2
    exact h2
  by_cases q2 : what = -2
  · refine ⟨_, ⟨by rw [decide_eq_true q2]; simp, rfl⟩, fun z => ?_, fun _ _ => ?_, fun z => ?_⟩
    · have := a.mp q2; have := b.mp z; omega
    · rw [if_pos q2]
    · exact absurd (d.mpr (by have := a.mp q2; omega)) z
  · by_cases q1 : what = -1
    · refine ⟨_, ⟨by rw [decide_eq_true q1]; simp, rfl⟩, fun _ => ?_, fun z => absurd q1 z, fun z => ?_⟩
      · rw [if_neg q2, if_pos q1]
      · exact absurd (d.mpr (by have := b.mp q1; omega)) z
    · have n0 : ¬ what < 0 := fun z => by
        have z1 := d.mp z
        have z2 : ¬ what.toInt < -2 := fun y => h1 (c.mpr y)
        have z3 : ¬ what.toInt = -2 := fun y => q2 (a.mpr y)
        have z4 : ¬ what.toInt = -1 := fun y => q1 (b.mpr y)
        omega
      have ok : fr_ok what V := ⟨n0, fun z => by rw [Int32.le_iff_toInt_le, e] at z; omega⟩
      refine ⟨_, ⟨by rw [fr_okB_iff.mpr ok]; simp, rfl⟩, fun z => absurd z q1, fun _ z => absurd z n0, fun _ => ?_⟩
      obtain ⟨k, hk, rfl⟩ := fr_ok_ex (by omega) ok
      exact ⟨k, hk, rfl, by rw [if_neg q2, if_neg q1, fr_v_nI (by omega)]⟩
theorem fr_nand (a b : Nat) : nI a &&& nI b = nI (a &&& b) := by
  apply Int32.toBitVec_inj.1
  show BitVec.ofNat 32 a &&& BitVec.ofNat 32 b = BitVec.ofNat 32 (a &&& b)
  apply BitVec.eq_of_getLsbD_eq
  intro i hi
  simp [hi]
theorem fr_nxor (a b : Nat) : nI a ^^^ nI b = nI (a ^^^ b) := by
  apply Int32.toBitVec_inj.1
  show BitVec.ofNat 32 a ^^^ BitVec.ofNat 32 b = BitVec.ofNat 32 (a ^^^ b)
  apply BitVec.eq_of_getLsbD_eq
  intro i hi
  simp [hi]
theorem fr_and2p (i b : Nat) : i &&& 2 ^ b = if i.testBit b = true then 2 ^ b else 0 := by
  apply Nat.eq_of_testBit_eq
  intro k
  rw [Nat.testBit_and, Nat.testBit_two_pow]
  by_cases e : b = k
  · subst e
    cases i.testBit b <;> simp
  · rw [decide_eq_false e, Bool.and_false]
    split
    · rw [Nat.testBit_two_pow_of_ne e]
    · simp
theorem fr_tbz {i b : Nat} (hi : i < 512) : nI (i &&& 2 ^ b) = 0 ↔ i.testBit b = false := by
  have hle : i &&& 2 ^ b ≤ i := Nat.and_le_left
  rw [show (0 : Int32) = nI 0 from rfl, nI_eq (by omega) (by decide), fr_and2p]
  have := Nat.two_pow_pos b
  cases i.testBit b
  · simp
  · simp
theorem fr_tbn {i b : Nat} (hi : i < 512) (h : ¬ nI (i &&& 2 ^ b) = 0) : i.testBit b = true := by
  cases e : i.testBit b
  · exact absurd ((fr_tbz hi).mpr e) h
  · rfl
theorem fr_sbT : ∀ i, i < 512 → ∀ b, b < 9 → nI i ||| nI (2 ^ b) = nI (fr_sb i b true) := by decide +kernel
theorem fr_sbF : ∀ i, i < 512 → ∀ b, b < 9 → nI i &&& (nI (2 ^ b) ^^^ (-1)) = nI (fr_sb i b false) := by decide +kernel
theorem fr_bindeq {f : Nat → Bool} {x b : Nat} {all : Bool} : (if all = true then f x && f (x ^^^ 2 ^ b) else f x || f (x ^^^ 2 ^ b)) = if all = true then f (fr_sb x b true) && f (fr_sb x b false) else f (fr_sb x b true) || f (fr_sb x b false) := by
  unfold fr_sb
  cases x.testBit b
  · simp [Bool.and_comm, Bool.or_comm]
  · simp
theorem fr_mts {V i : Nat} {f : Nat → Bool} {sn : Bool} (h : sn = false ↔ ∀ y, y < 2 ^ V → f y = f (y ^^^ 2 ^ (V - 1 - i))) : fr_mt V f (i + 1) = fr_mt V f i + (if sn = true then 2 ^ i else 0) := by
  show fr_mt V f i + (if fr_eqB V f (fun x => f (x ^^^ 2 ^ (V - 1 - i))) = true then 0 else 2 ^ i) = _
  congr 1
  have e : fr_eqB V f (fun x => f (x ^^^ 2 ^ (V - 1 - i))) = true ↔ sn = false := by
    unfold fr_eqB
    rw [decide_eq_true_iff]
    exact h.symm
  cases sn
  · rw [if_pos (e.mpr rfl)]
    rfl
  · rw [if_neg (fun z => absurd (e.mp z) (by decide))]
    rfl
theorem fr_mto {m i : Nat} (h : m < 2 ^ i) (sn : Bool) : nI (m + (if sn = true then 2 ^ i else 0)) ||| nI (2 ^ i) = nI (m + (if true = true then 2 ^ i else 0)) := by
  rw [fr_nor]
  congr 1
  rw [if_pos rfl, ← Nat.or_two_pow_eq_add_of_lt h]
  cases sn
  · simp
  · rw [if_pos rfl, ← Nat.or_two_pow_eq_add_of_lt h, Nat.or_assoc, Nat.or_self]
theorem fr_half {V i wd : Nat} (hwd : wd = 2 ^ (V - i)) (hi : i < V) : wd = 2 * (wd / 2) ∧ 0 < wd / 2 := by
  have e : V - i = (V - i - 1) + 1 := by omega
  have hp := Nat.two_pow_pos (V - i - 1)
  rw [e, Nat.pow_succ] at hwd
  omega
theorem fr_shrt : ∀ V, V < 10 → ∀ i, i < V → nI (2 ^ V) >>> (nI i &&& 31) = nI (2 ^ (V - i)) := by decide +kernel
theorem fr_shrp (V i : Nat) (hV : V < 10) (hi : i < V) : nI (2 ^ V) >>> (nI i &&& 31) = nI (2 ^ (V - i)) := fr_shrt V hV i hi
