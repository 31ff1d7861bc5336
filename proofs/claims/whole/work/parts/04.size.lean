/-! how many parts: by comparing blocks (the reference), by names of blocks (the class) -/
def fr_al (f : Nat → Bool) (x y n : Nat) : Bool := decide (∀ k, k < n → f (x + k) = f (y + k))
theorem fr_al_iff {f : Nat → Bool} {x y n : Nat} : fr_al f x y n = true ↔ ∀ k, k < n → f (x + k) = f (y + k) := by
  unfold fr_al
  exact decide_eq_true_iff
/-- block j of width w is a part that stands at no earlier place -/
def fr_nw (f : Nat → Bool) (w j : Nat) : Bool := !fr_al f (j * w) (j * w + w / 2) (w / 2) && decide (∀ i, i < j → fr_al f (j * w) (i * w) w = false)
def fr_sz (f : Nat → Bool) (V : Nat) : Nat → Nat
  | 0 => 0
  | k + 1 => fr_sz f V k + fr_cn (fr_nw f (2 ^ (V - k))) (2 ^ k)
def fr_up (f : Nat → Bool) (V : Nat) : Nat → Nat
  | 0 => 0
  | d + 1 => fr_up f V d + fr_cn (fr_nw f (2 ^ (d + 1))) (2 ^ (V - d - 1))
theorem fr_up_sz (f : Nat → Bool) (V : Nat) : ∀ d, d ≤ V → fr_up f V d + fr_sz f V (V - d) = fr_sz f V V
  | 0, _ => by show 0 + fr_sz f V V = fr_sz f V V; omega
  | d + 1, h => by
    have ih := fr_up_sz f V d (by omega)
    have e : V - d = (V - (d + 1)) + 1 := by omega
    rw [e] at ih
    have e2 : fr_sz f V (V - (d + 1) + 1) = fr_sz f V (V - (d + 1)) + fr_cn (fr_nw f (2 ^ (V - (V - (d + 1))))) (2 ^ (V - (d + 1))) := rfl
    rw [e2, show V - (V - (d + 1)) = d + 1 by omega] at ih
    show fr_up f V d + fr_cn (fr_nw f (2 ^ (d + 1))) (2 ^ (V - d - 1)) + fr_sz f V (V - (d + 1)) = _
    rw [show V - d - 1 = V - (d + 1) by omega]
    omega
theorem fr_up_le (f : Nat → Bool) (V : Nat) : ∀ d, d ≤ V → fr_up f V d + 2 ^ (V - d) ≤ 2 ^ V
  | 0, _ => by show 0 + 2 ^ V ≤ 2 ^ V; omega
  | d + 1, h => by
    have ih := fr_up_le f V d (by omega)
    have h1 := fr_cn_le (fr_nw f (2 ^ (d + 1))) (2 ^ (V - d - 1))
    have e : 2 ^ (V - d) = 2 ^ (V - d - 1) * 2 := by
      rw [← Nat.pow_succ]
      congr 1
      omega
    show fr_up f V d + fr_cn (fr_nw f (2 ^ (d + 1))) (2 ^ (V - d - 1)) + 2 ^ (V - (d + 1)) ≤ _
    rw [show V - (d + 1) = V - d - 1 by omega]
    omega
/-! one level: from names of blocks to names of blocks of twice the width -/
def fr_pr (N : Nat → Nat) (i : Nat) : Int32 := nI (N (2 * i) * 1024 + N (2 * i + 1))
def fr_nN (N : Nat → Nat) (j : Nat) : Bool := decide (N (2 * j) ≠ N (2 * j + 1)) && decide (∀ i, i < j → ¬ (N (2 * i) = N (2 * j) ∧ N (2 * i + 1) = N (2 * j + 1)))
theorem fr_nN_iff {N : Nat → Nat} {j : Nat} : fr_nN N j = true ↔ N (2 * j) ≠ N (2 * j + 1) ∧ ∀ i, i < j → ¬ (N (2 * i) = N (2 * j) ∧ N (2 * i + 1) = N (2 * j + 1)) := by
  unfold fr_nN
  rw [Bool.and_eq_true, decide_eq_true_iff, decide_eq_true_iff]
theorem fr_pr_inj {N : Nat → Nat} {i j : Nat} (h1 : N (2 * i) < 1024) (h2 : N (2 * i + 1) < 1024) (h3 : N (2 * j) < 1024) (h4 : N (2 * j + 1) < 1024) : fr_pr N i = fr_pr N j ↔ N (2 * i) = N (2 * j) ∧ N (2 * i + 1) = N (2 * j + 1) := by
  unfold fr_pr
  rw [nI_eq (by omega) (by omega)]
  omega
def fr_J (K : Nat) (N N' : Nat → Nat) (fb blk fd : Nat) (nm pt : Nat → Int32) : Prop :=
  (∀ i, i < blk → nm i = nI (N' i)) ∧ (∀ i, blk ≤ i → i < 2 * K → nm i = nI (N i)) ∧ fd = fb + fr_cn (fr_nN N) blk ∧
  (∀ i, i < blk → (N (2 * i) = N (2 * i + 1) → N' i = N (2 * i)) ∧ (N (2 * i) ≠ N (2 * i + 1) → ∃ a, fb ≤ a ∧ a < fd ∧ N' i = 2 + a ∧ pt a = fr_pr N i)) ∧
  (∀ a, fb ≤ a → a < fd → ∃ i, i < blk ∧ N (2 * i) ≠ N (2 * i + 1) ∧ pt a = fr_pr N i) ∧
  (∀ a b, fb ≤ a → a < fd → fb ≤ b → b < fd → pt a = pt b → a = b)
theorem fr_J_0 {K : Nat} {N : Nat → Nat} {fb : Nat} {nm pt : Nat → Int32} (h : ∀ i, i < 2 * K → nm i = nI (N i)) : fr_J K N N fb 0 fb nm pt :=
  ⟨fun i hi => absurd hi (Nat.not_lt_zero i), fun i _ hi => h i hi, rfl, fun i hi => absurd hi (Nat.not_lt_zero i), fun a h1 h2 => by omega, fun a b h1 h2 => by omega⟩
theorem fr_J_same {K : Nat} {N N' : Nat → Nat} {fb blk fd : Nat} {nm pt : Nat → Int32} (h : fr_J K N N' fb blk fd nm pt) (he : N (2 * blk) = N (2 * blk + 1)) : fr_J K N (va_up N' blk (N (2 * blk))) fb (blk + 1) fd (upd nm blk (nI (N (2 * blk)))) pt := by
  obtain ⟨h1, h2, h3, h4, h5, h6⟩ := h
  have hn : fr_nN N blk = false := by
    cases hc : fr_nN N blk
    · rfl
    · exact absurd he (fr_nN_iff.mp hc).1
  refine ⟨fun i hi => ?_, fun i h7 h8 => ?_, ?_, fun i hi => ?_, fun a a1 a2 => ?_, h6⟩
  · by_cases e : i = blk
    · subst e
      rw [pk_us, va_up_self]
    · rw [pk_un e, va_up_ne _ _ e]
      exact h1 i (by omega)
  · rw [pk_un (by omega)]
    exact h2 i (by omega) h8
  · show fd = fb + (fr_cn (fr_nN N) blk + (if fr_nN N blk = true then 1 else 0))
    rw [hn]
    simpa using h3
  · by_cases e : i = blk
    · subst e
      rw [va_up_self]
      exact ⟨fun _ => rfl, fun z => absurd he z⟩
    · rw [va_up_ne _ _ e]
      exact h4 i (by omega)
  · obtain ⟨i, i1, i2⟩ := h5 a a1 a2
    exact ⟨i, by omega, i2⟩
theorem fr_J_old {K : Nat} {N N' : Nat → Nat} {fb blk fd a : Nat} {nm pt : Nat → Int32} (hN : ∀ i, i < 2 * K → N i < 1024) (hK : blk < K) (h : fr_J K N N' fb blk fd nm pt) (he : N (2 * blk) ≠ N (2 * blk + 1)) (h7 : fb ≤ a) (h8 : a < fd) (h9 : pt a = fr_pr N blk) :
    fr_J K N (va_up N' blk (2 + a)) fb (blk + 1) fd (upd nm blk (nI (2 + a))) (upd pt a (fr_pr N blk)) := by
  obtain ⟨h1, h2, h3, h4, h5, h6⟩ := h
  have hp : upd pt a (fr_pr N blk) = pt := by
    funext j
    by_cases e : j = a
    · subst e
      rw [pk_us, h9]
    · rw [pk_un e]
  rw [hp]
  have hn : fr_nN N blk = false := by
    cases hc : fr_nN N blk
    · rfl
    · obtain ⟨i, i1, i2, i3⟩ := h5 a h7 h8
      have hq := (fr_pr_inj (hN _ (by omega)) (hN _ (by omega)) (hN _ (by omega)) (hN _ (by omega))).mp (i3.symm.trans h9)
      exact absurd hq ((fr_nN_iff.mp hc).2 i i1)
  refine ⟨fun i hi => ?_, fun i g7 g8 => ?_, ?_, fun i hi => ?_, fun b a1 a2 => ?_, h6⟩
  · by_cases e : i = blk
    · subst e
      rw [pk_us, va_up_self]
    · rw [pk_un e, va_up_ne _ _ e]
      exact h1 i (by omega)
  · rw [pk_un (by omega)]
    exact h2 i (by omega) g8
  · show fd = fb + (fr_cn (fr_nN N) blk + (if fr_nN N blk = true then 1 else 0))
    rw [hn]
    simpa using h3
  · by_cases e : i = blk
    · subst e
      rw [va_up_self]
      exact ⟨fun z => absurd z he, fun _ => ⟨a, h7, h8, rfl, h9⟩⟩
    · rw [va_up_ne _ _ e]
      exact h4 i (by omega)
  · obtain ⟨i, i1, i2⟩ := h5 b a1 a2
    exact ⟨i, by omega, i2⟩
theorem fr_J_new {K : Nat} {N N' : Nat → Nat} {fb blk fd : Nat} {nm pt : Nat → Int32} (hN : ∀ i, i < 2 * K → N i < 1024) (hK : blk < K) (h : fr_J K N N' fb blk fd nm pt) (he : N (2 * blk) ≠ N (2 * blk + 1)) (h9 : ∀ a, fb ≤ a → a < fd → pt a ≠ fr_pr N blk) :
    fr_J K N (va_up N' blk (2 + fd)) fb (blk + 1) (fd + 1) (upd nm blk (nI (2 + fd))) (upd pt fd (fr_pr N blk)) := by
  obtain ⟨h1, h2, h3, h4, h5, h6⟩ := h
  have hn : fr_nN N blk = true := by
    refine fr_nN_iff.mpr ⟨he, fun i hi hq => ?_⟩
    have hne : N (2 * i) ≠ N (2 * i + 1) := by rw [hq.1, hq.2]; exact he
    obtain ⟨a, a1, a2, -, a4⟩ := (h4 i hi).2 hne
    exact h9 a a1 a2 (a4.trans ((fr_pr_inj (hN _ (by omega)) (hN _ (by omega)) (hN _ (by omega)) (hN _ (by omega))).mpr hq))
  refine ⟨fun i hi => ?_, fun i g7 g8 => ?_, ?_, fun i hi => ?_, fun b a1 a2 => ?_, fun a b a1 a2 b1 b2 hab => ?_⟩
  · by_cases e : i = blk
    · subst e
      rw [pk_us, va_up_self]
    · rw [pk_un e, va_up_ne _ _ e]
      exact h1 i (by omega)
  · rw [pk_un (by omega)]
    exact h2 i (by omega) g8
  · show fd + 1 = fb + (fr_cn (fr_nN N) blk + (if fr_nN N blk = true then 1 else 0))
    rw [hn]
    simp
    omega
  · by_cases e : i = blk
    · subst e
      rw [va_up_self]
      exact ⟨fun z => absurd z he, fun _ => ⟨fd, by omega, by omega, rfl, pk_us⟩⟩
    · rw [va_up_ne _ _ e]
      refine ⟨(h4 i (by omega)).1, fun z => ?_⟩
      obtain ⟨a, a1, a2, a3, a4⟩ := (h4 i (by omega)).2 z
      exact ⟨a, a1, by omega, a3, by rw [pk_un (by omega)]; exact a4⟩
  · by_cases e : b = fd
    · subst e
      exact ⟨blk, by omega, he, pk_us⟩
    · obtain ⟨i, i1, i2, i3⟩ := h5 b a1 (by omega)
      exact ⟨i, by omega, i2, by rw [pk_un e]; exact i3⟩
  · by_cases ea : a = fd
    · by_cases eb : b = fd
      · rw [ea, eb]
      · rw [ea, pk_us, pk_un eb] at hab
        exact absurd hab.symm (h9 b b1 (by omega))
    · by_cases eb : b = fd
      · rw [eb, pk_us, pk_un ea] at hab
        exact absurd hab (h9 a a1 (by omega))
      · rw [pk_un ea, pk_un eb] at hab
        exact h6 a b a1 (by omega) b1 (by omega) hab
theorem fr_J_end {K : Nat} {N N' : Nat → Nat} {fb fd : Nat} {nm pt : Nat → Int32} (hN : ∀ i, i < 2 * K → N i < fb + 2) (hb : fb + 2 ≤ 1024) (h : fr_J K N N' fb K fd nm pt) :
    (∀ i, i < K → N' i < fd + 2) ∧ ∀ i j, i < K → j < K → (N' i = N' j ↔ N (2 * i) = N (2 * j) ∧ N (2 * i + 1) = N (2 * j + 1)) := by
  obtain ⟨h1, h2, h3, h4, h5, h6⟩ := h
  refine ⟨fun i hi => ?_, fun i j hi hj => ?_⟩
  · by_cases e : N (2 * i) = N (2 * i + 1)
    · have a1 := (h4 i hi).1 e
      have a2 := hN (2 * i) (by omega)
      omega
    · obtain ⟨a, a1, a2, a3, -⟩ := (h4 i hi).2 e
      omega
  · have b1 := hN (2 * i) (by omega)
    have b2 := hN (2 * i + 1) (by omega)
    have b3 := hN (2 * j) (by omega)
    have b4 := hN (2 * j + 1) (by omega)
    by_cases ei : N (2 * i) = N (2 * i + 1)
    · have a1 := (h4 i hi).1 ei
      by_cases ej : N (2 * j) = N (2 * j + 1)
      · have a2 := (h4 j hj).1 ej
        omega
      · obtain ⟨a, c1, c2, c3, -⟩ := (h4 j hj).2 ej
        omega
    · obtain ⟨a, c1, c2, c3, c4⟩ := (h4 i hi).2 ei
      by_cases ej : N (2 * j) = N (2 * j + 1)
      · have a2 := (h4 j hj).1 ej
        omega
      · obtain ⟨b, d1, d2, d3, d4⟩ := (h4 j hj).2 ej
        have q := @fr_pr_inj N i j (by omega) (by omega) (by omega) (by omega)
        rw [← q, ← c4, ← d4]
        constructor
        · intro z
          rw [show a = b by omega]
        · intro z
          have := h6 a b c1 c2 d1 d2 z
          omega
/-! what a name means -/
def fr_NP (f : Nat → Bool) (V d fb : Nat) (N : Nat → Nat) : Prop := (∀ i, i < 2 ^ (V - d) → N i < fb + 2) ∧ ∀ i j, i < 2 ^ (V - d) → j < 2 ^ (V - d) → (N i = N j ↔ fr_al f (i * 2 ^ d) (j * 2 ^ d) (2 ^ d) = true)
theorem fr_al_two {f : Nat → Bool} {x y h : Nat} : fr_al f x y (h + h) = true ↔ fr_al f x y h = true ∧ fr_al f (x + h) (y + h) h = true := by
  rw [fr_al_iff, fr_al_iff, fr_al_iff]
  constructor
  · intro z
    refine ⟨fun k hk => z k (by omega), fun k hk => ?_⟩
    rw [Nat.add_assoc, Nat.add_assoc]
    exact z (h + k) (by omega)
  · intro z k hk
    by_cases e : k < h
    · exact z.1 k e
    · have w := z.2 (k - h) (by omega)
      rw [show x + h + (k - h) = x + k by omega, show y + h + (k - h) = y + k by omega] at w
      exact w
theorem fr_NP_step {f : Nat → Bool} {V d fb fd : Nat} {N N' : Nat → Nat} (hd : d + 1 ≤ V) (h : fr_NP f V d fb N) (h1 : ∀ i, i < 2 ^ (V - d - 1) → N' i < fd + 2)
    (h2 : ∀ i j, i < 2 ^ (V - d - 1) → j < 2 ^ (V - d - 1) → (N' i = N' j ↔ N (2 * i) = N (2 * j) ∧ N (2 * i + 1) = N (2 * j + 1))) : fr_NP f V (d + 1) fd N' ∧ ∀ j, j < 2 ^ (V - d - 1) → fr_nN N j = fr_nw f (2 ^ (d + 1)) j := by
  have e : 2 ^ (V - d) = 2 ^ (V - d - 1) * 2 := by
    rw [← Nat.pow_succ]
    congr 1
    omega
  have e0 : V - (d + 1) = V - d - 1 := by omega
  have ew : 2 ^ (d + 1) = 2 ^ d + 2 ^ d := by rw [Nat.pow_succ]; omega
  have key : ∀ i j, i < 2 ^ (V - d - 1) → j < 2 ^ (V - d - 1) → ((N (2 * i) = N (2 * j) ∧ N (2 * i + 1) = N (2 * j + 1)) ↔ fr_al f (i * 2 ^ (d + 1)) (j * 2 ^ (d + 1)) (2 ^ (d + 1)) = true) := by
    intro i j hi hj
    rw [h.2 (2 * i) (2 * j) (by omega) (by omega), h.2 (2 * i + 1) (2 * j + 1) (by omega) (by omega), ew, fr_al_two]
    have m1 : ∀ z, 2 * z * 2 ^ d = z * (2 ^ d + 2 ^ d) := fun z => by rw [Nat.mul_add, Nat.mul_comm 2 z, Nat.mul_assoc, Nat.two_mul, Nat.mul_add]
    have m2 : ∀ z, (2 * z + 1) * 2 ^ d = z * (2 ^ d + 2 ^ d) + 2 ^ d := fun z => by rw [Nat.add_mul, m1, Nat.one_mul]
    rw [m1, m1, m2, m2]
  refine ⟨⟨by rw [e0]; exact h1, fun i j hi hj => ?_⟩, fun j hj => ?_⟩
  · rw [e0] at hi hj
    rw [h2 i j hi hj]
    exact key i j hi hj
  · have hv : fr_al f (j * 2 ^ (d + 1)) (j * 2 ^ (d + 1) + 2 ^ (d + 1) / 2) (2 ^ (d + 1) / 2) = true ↔ N (2 * j) = N (2 * j + 1) := by
      rw [h.2 (2 * j) (2 * j + 1) (by omega) (by omega)]
      have w2 : 2 ^ (d + 1) / 2 = 2 ^ d := by omega
      have m1 : 2 * j * 2 ^ d = j * 2 ^ (d + 1) := by rw [ew, Nat.mul_add, Nat.mul_comm 2 j, Nat.mul_assoc, Nat.two_mul, Nat.mul_add]
      have m2 : (2 * j + 1) * 2 ^ d = j * 2 ^ (d + 1) + 2 ^ d := by rw [Nat.add_mul, m1, Nat.one_mul]
      rw [w2, m1, m2]
    rw [Bool.eq_iff_iff, fr_nN_iff]
    unfold fr_nw
    rw [Bool.and_eq_true, decide_eq_true_iff, Bool.not_eq_true', ← Bool.not_eq_true, hv]
    constructor
    · rintro ⟨a, b⟩
      refine ⟨a, fun i hi => ?_⟩
      rw [← Bool.not_eq_true, ← key j i hj (by omega)]
      exact fun z => b i hi ⟨z.1.symm, z.2.symm⟩
    · rintro ⟨a, b⟩
      refine ⟨a, fun i hi z => ?_⟩
      have w := b i hi
      rw [← Bool.not_eq_true, ← key j i hj (by omega)] at w
      exact w ⟨z.1.symm, z.2.symm⟩
theorem fr_NP_0 {f : Nat → Bool} {V : Nat} : fr_NP f V 0 0 (fun x => if f x = true then 1 else 0) := by
  refine ⟨fun i _ => ?_, fun i j _ _ => ?_⟩
  · show (if f i = true then 1 else 0) < 2
    split <;> omega
  · show ((if f i = true then 1 else 0) = if f j = true then 1 else 0) ↔ _
    rw [fr_al_iff]
    have e : (∀ k, k < 2 ^ 0 → f (i * 2 ^ 0 + k) = f (j * 2 ^ 0 + k)) ↔ f i = f j := by
      constructor
      · intro z
        simpa using z 0 (by decide)
      · intro z k hk
        have : k = 0 := by omega
        subst this
        simpa using z
    rw [e]
    cases f i <;> cases f j <;> simp
