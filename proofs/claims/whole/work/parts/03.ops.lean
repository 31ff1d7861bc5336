/-! what the words of a narrowed, a turned, a combined row are, bit by bit -/
theorem fr_xor_lo (i : Nat) {j b : Nat} (hj : j < 64) (hb : b < 6) : (64 * i + j) ^^^ 2 ^ b = 64 * i + (j ^^^ 2 ^ b) := by
  have hp : 2 ^ b < 2 ^ 6 := Nat.pow_lt_pow_right (by decide) hb
  have h1 : ((64 * i + j) ^^^ 2 ^ b) / 2 ^ 6 = i := by
    rw [Nat.xor_div_two_pow, Nat.div_eq_of_lt hp, Nat.xor_zero]
    show (64 * i + j) / 64 = i
    omega
  have h2 : ((64 * i + j) ^^^ 2 ^ b) % 2 ^ 6 = j ^^^ 2 ^ b := by
    rw [Nat.xor_mod_two_pow, Nat.mod_eq_of_lt hp]
    congr 1
    show (64 * i + j) % 64 = j
    omega
  generalize (64 * i + j) ^^^ 2 ^ b = X at h1 h2 ⊢
  rw [← h2]
  omega
theorem fr_xor_hi (i : Nat) {j b : Nat} (hj : j < 64) (hb : 6 ≤ b) : (64 * i + j) ^^^ 2 ^ b = 64 * (i ^^^ 2 ^ (b - 6)) + j := by
  have h1 : ((64 * i + j) ^^^ 2 ^ b) / 2 ^ 6 = i ^^^ 2 ^ (b - 6) := by
    rw [Nat.xor_div_two_pow, Nat.pow_div hb (by decide)]
    congr 1
    show (64 * i + j) / 64 = i
    omega
  have h2 : ((64 * i + j) ^^^ 2 ^ b) % 2 ^ 6 = j := by
    rw [Nat.xor_mod_two_pow, Nat.mod_eq_zero_of_dvd (Nat.pow_dvd_pow 2 hb), Nat.xor_zero]
    show (64 * i + j) % 64 = j
    omega
  generalize (64 * i + j) ^^^ 2 ^ b = X at h1 h2 ⊢
  rw [← h1]
  omega
theorem fr_ff (x b : Nat) : (x ^^^ 2 ^ b) ^^^ 2 ^ b = x := by rw [Nat.xor_assoc, Nat.xor_self, Nat.xor_zero]
theorem fr_flip_lt {x b V : Nat} (hb : b < V) : x ^^^ 2 ^ b < 2 ^ V ↔ x < 2 ^ V := by
  have hp : 2 ^ b < 2 ^ V := Nat.pow_lt_pow_right (by decide) hb
  constructor
  · intro h
    have h2 := Nat.xor_lt_two_pow h hp
    rwa [fr_ff] at h2
  · exact fun h => Nat.xor_lt_two_pow h hp
theorem fr_tb_lo (i : Nat) {j b : Nat} (hj : j < 64) (hb : b < 6) : (64 * i + j).testBit b = j.testBit b := by
  have h := Nat.testBit_two_pow_mul_add i (b := j) (i := 6) hj b
  rw [if_pos hb] at h
  exact h
theorem fr_tb_hi (i : Nat) {j b : Nat} (hj : j < 64) (hb : 6 ≤ b) : (64 * i + j).testBit b = i.testBit (b - 6) := by
  have h := Nat.testBit_two_pow_mul_add i (b := j) (i := 6) hj b
  rw [if_neg (by omega)] at h
  exact h
theorem fr_tabF : ∀ b, b < 6 → ∀ j, j < 64 → j.testBit b = false → j + 2 ^ b < 64 ∧ (j + 2 ^ b).testBit b = true ∧ j ^^^ 2 ^ b = j + 2 ^ b ∧ (2 ^ b ≤ j → (j - 2 ^ b).testBit b = true) := by decide +kernel
theorem fr_tabT : ∀ b, b < 6 → ∀ j, j < 64 → j.testBit b = true → 2 ^ b ≤ j ∧ (j - 2 ^ b).testBit b = false ∧ j ^^^ 2 ^ b = j - 2 ^ b ∧ (j + 2 ^ b < 64 → (j + 2 ^ b).testBit b = false) := by decide +kernel
theorem fr_tabP : ∀ b, b < 6 → 2 ^ b < 64 := by decide +kernel
def fr_pw (V k i : Nat) : Int64 := if V - 1 - k < 6 then fr_pb (V - 1 - k) &&& fr_pl V else if i.testBit (V - 1 - k - 6) = true then fr_pl V else 0
theorem fr_b_pw {V k i j : Nat} (hV : V < 10) (hk : k < V) (hi : i < fr_wn V) (hj : j < 64) : fr_b (fr_pw V k i) j = (decide (64 * i + j < 2 ^ V) && (64 * i + j).testBit (V - 1 - k)) := by
  rw [fr_inr hV hi hj]
  unfold fr_pw
  by_cases hb : V - 1 - k < 6
  · rw [if_pos hb, fr_b_and, fr_b_pb _ hb j hj, fr_b_pl V hV j hj, fr_tb_lo i hj hb, Bool.and_comm]
  · rw [if_neg hb, fr_tb_hi i hj (by omega)]
    cases i.testBit (V - 1 - k - 6)
    · rw [if_neg (by decide), fr_b_0, Bool.and_false]
    · rw [if_pos rfl, fr_b_pl V hV j hj, Bool.and_true]
def fr_tn (V : Nat) (g : Nat → Int64) (k i : Nat) : Int64 :=
  if V - 1 - k < 6 then ((g i &&& fr_pb (V - 1 - k)).toUInt64 >>> ((nI (2 ^ (V - 1 - k))).toInt64.toUInt64 &&& Int64.toUInt64 63)).toInt64 ||| (g i &&& (fr_pb (V - 1 - k) ^^^ (-1))) <<< ((nI (2 ^ (V - 1 - k))).toInt64 &&& 63)
  else g (i ^^^ 2 ^ (V - 1 - k - 6))
theorem fr_turn_in {V k i : Nat} (hV : V < 10) (hi : i < fr_wn V) (hb : 6 ≤ V - 1 - k) : i ^^^ 2 ^ (V - 1 - k - 6) < fr_wn V := by
  unfold fr_wn at hi ⊢
  rw [if_neg (by omega)] at hi ⊢
  exact Nat.xor_lt_two_pow hi (Nat.pow_lt_pow_right (by decide) (by omega))
theorem fr_b_tn {V k i j : Nat} {f : Nat → Bool} {g : Nat → Int64} (hV : V < 10) (hk : k < V) (h : fr_R V f g) (hi : i < fr_wn V) (hj : j < 64) : fr_b (fr_tn V g k i) j = (decide (64 * i + j < 2 ^ V) && f ((64 * i + j) ^^^ 2 ^ (V - 1 - k))) := by
  have hfl : decide ((64 * i + j) ^^^ 2 ^ (V - 1 - k) < 2 ^ V) = decide (64 * i + j < 2 ^ V) := by
    rw [decide_eq_decide]
    exact fr_flip_lt (by omega)
  unfold fr_tn
  by_cases hb : V - 1 - k < 6
  · rw [if_pos hb]
    have hd := fr_tabP _ hb
    rw [fr_xor_lo i hj hb] at hfl ⊢
    rw [← hfl]
    generalize V - 1 - k = b at hb hd ⊢
    have hjs : j - 2 ^ b < 64 := Nat.lt_of_le_of_lt (Nat.sub_le _ _) hj
    rw [fr_b_or, fr_b_shr _ hd, fr_b_shl _ hd hj, fr_b_and, fr_b_and]
    cases ht : j.testBit b
    · obtain ⟨t1, t2, t3, t4⟩ := fr_tabF b hb j hj ht
      rw [fr_b_pb b hb _ t1, t2, Bool.and_true, t3, h i _ hi t1]
      have z : (decide (2 ^ b ≤ j) && (fr_b (g i) (j - 2 ^ b) && fr_b (fr_pb b ^^^ -1) (j - 2 ^ b))) = false := by
        by_cases hle : 2 ^ b ≤ j
        · rw [fr_b_not _ hjs, fr_b_pb b hb _ hjs, t4 hle]
          simp
        · rw [decide_eq_false hle, Bool.false_and]
      rw [z, Bool.or_false]
    · obtain ⟨t1, t2, t3, t4⟩ := fr_tabT b hb j hj ht
      rw [fr_b_not _ hjs, fr_b_pb b hb (j - 2 ^ b) hjs, t2, Bool.not_false, Bool.and_true, t3, h i _ hi hjs, decide_eq_true t1, Bool.true_and]
      have z : (fr_b (g i) (j + 2 ^ b) && fr_b (fr_pb b) (j + 2 ^ b)) = false := by
        by_cases hle : j + 2 ^ b < 64
        · rw [fr_b_pb b hb _ hle, t4 hle, Bool.and_false]
        · rw [fr_b_big (g i) (by omega), Bool.false_and]
      rw [z, Bool.false_or]
  · rw [if_neg hb, h _ j (fr_turn_in hV hi (by omega)) hj, ← fr_xor_hi i hj (by omega), hfl]
def fr_rt (V k i : Nat) (one : Bool) : Int64 := if one = true then fr_pw V k i else fr_pw V k i ^^^ (-1)
def fr_nr (V : Nat) (g : Nat → Int64) (k : Nat) (one : Bool) (i : Nat) : Int64 := (g i &&& fr_rt V k i one) ||| (fr_tn V g k i &&& (fr_rt V k i one ^^^ (-1)))
/-- x with bit b as one says -/
def fr_sb (x b : Nat) (one : Bool) : Nat := if x.testBit b = one then x else x ^^^ 2 ^ b
theorem fr_sb_lt {x b V : Nat} {one : Bool} (hb : b < V) (hx : x < 2 ^ V) : fr_sb x b one < 2 ^ V := by
  unfold fr_sb
  split
  · exact hx
  · exact (fr_flip_lt hb).mpr hx
theorem fr_b_nr {V k i j : Nat} {f : Nat → Bool} {g : Nat → Int64} {one : Bool} (hV : V < 10) (hk : k < V) (h : fr_R V f g) (hi : i < fr_wn V) (hj : j < 64) : fr_b (fr_nr V g k one i) j = (decide (64 * i + j < 2 ^ V) && f (fr_sb (64 * i + j) (V - 1 - k) one)) := by
  have hr : fr_b (fr_rt V k i one) j = ((decide (64 * i + j < 2 ^ V) && (64 * i + j).testBit (V - 1 - k)) == one) := by
    unfold fr_rt
    cases one
    · rw [if_neg (by decide), fr_b_not _ hj, fr_b_pw hV hk hi hj]
      cases (decide (64 * i + j < 2 ^ V) && (64 * i + j).testBit (V - 1 - k)) <;> rfl
    · rw [if_pos rfl, fr_b_pw hV hk hi hj]
      cases (decide (64 * i + j < 2 ^ V) && (64 * i + j).testBit (V - 1 - k)) <;> rfl
  unfold fr_nr fr_sb
  rw [fr_b_or, fr_b_and, fr_b_and, fr_b_not _ hj, hr, h i j hi hj, fr_b_tn hV hk h hi hj]
  cases decide (64 * i + j < 2 ^ V) <;> cases (64 * i + j).testBit (V - 1 - k) <;> cases one <;> simp
def fr_cb (o : Nat) (a b : Int64) : Int64 := if o = 0 then a &&& b else if o = 1 then a ||| b else if o = 2 then a ^^^ b else if o = 3 then a &&& (b ^^^ (-1)) else (a ^^^ (-1)) ||| b
def fr_co (o : Nat) (p q : Bool) : Bool := if o = 0 then p && q else if o = 1 then p || q else if o = 2 then p ^^ q else if o = 3 then p && !q else !p || q
theorem fr_b_cb (o : Nat) (a b : Int64) {j : Nat} (hj : j < 64) : fr_b (fr_cb o a b) j = fr_co o (fr_b a j) (fr_b b j) := by
  unfold fr_cb fr_co
  split
  · exact fr_b_and a b j
  · split
    · exact fr_b_or a b j
    · split
      · exact fr_b_xor a b j
      · split
        · rw [fr_b_and, fr_b_not b hj]
        · rw [fr_b_or, fr_b_not a hj]
/-! rows -/
theorem fr_R_const {V : Nat} (hV : V < 10) (c : Bool) {g : Nat → Int64} (hg : ∀ w, w < fr_wn V → g w = if c = true then fr_pl V else 0) : fr_R V (fun _ => c) g := by
  intro w j hw hj
  rw [hg w hw, fr_inr hV hw hj]
  cases c
  · rw [if_neg (by decide), fr_b_0, Bool.and_false]
  · rw [if_pos rfl, fr_b_pl V hV j hj, Bool.and_true]
theorem fr_R_var {V k : Nat} (hV : V < 10) (hk : k < V) {g : Nat → Int64} (hg : ∀ w, w < fr_wn V → g w = fr_pw V k w) : fr_R V (fun x => x.testBit (V - 1 - k)) g := by
  intro w j hw hj
  rw [hg w hw, fr_b_pw hV hk hw hj]
theorem fr_R_comb {V o : Nat} (hV : V < 10) {f1 f2 : Nat → Bool} {g1 g2 g : Nat → Int64} (h1 : fr_R V f1 g1) (h2 : fr_R V f2 g2) (hg : ∀ w, w < fr_wn V → g w = fr_cb o (g1 w) (g2 w) &&& fr_pl V) : fr_R V (fun x => fr_co o (f1 x) (f2 x)) g := by
  intro w j hw hj
  rw [hg w hw, fr_b_and, fr_b_cb o _ _ hj, h1 w j hw hj, h2 w j hw hj, fr_b_pl V hV j hj, fr_inr hV hw hj]
  cases decide (j < 2 ^ V)
  · rw [Bool.and_false, Bool.false_and]
  · rw [Bool.and_true, Bool.true_and, Bool.true_and, Bool.true_and]
theorem fr_R_not {V : Nat} (hV : V < 10) {f1 : Nat → Bool} {g1 g : Nat → Int64} (h1 : fr_R V f1 g1) (hg : ∀ w, w < fr_wn V → g w = (g1 w ^^^ (-1)) &&& fr_pl V) : fr_R V (fun x => !f1 x) g := by
  intro w j hw hj
  rw [hg w hw, fr_b_and, fr_b_not _ hj, h1 w j hw hj, fr_b_pl V hV j hj, fr_inr hV hw hj]
  cases decide (j < 2 ^ V)
  · rw [Bool.and_false, Bool.false_and]
  · rw [Bool.and_true, Bool.true_and, Bool.true_and]
theorem fr_R_with {V k : Nat} {one : Bool} (hV : V < 10) (hk : k < V) {f1 : Nat → Bool} {g1 g : Nat → Int64} (h1 : fr_R V f1 g1) (hg : ∀ w, w < fr_wn V → g w = fr_nr V g1 k one w) : fr_R V (fun x => f1 (fr_sb x (V - 1 - k) one)) g := by
  intro w j hw hj
  rw [hg w hw, fr_b_nr hV hk h1 hw hj]
theorem fr_R_bind {V k : Nat} {all : Bool} (hV : V < 10) (hk : k < V) {f1 : Nat → Bool} {g1 g : Nat → Int64} (h1 : fr_R V f1 g1) (hg : ∀ w, w < fr_wn V → g w = if all = true then g1 w &&& fr_tn V g1 k w else g1 w ||| fr_tn V g1 k w) : fr_R V (fun x => if all = true then f1 x && f1 (x ^^^ 2 ^ (V - 1 - k)) else f1 x || f1 (x ^^^ 2 ^ (V - 1 - k))) g := by
  intro w j hw hj
  rw [hg w hw]
  cases all
  · rw [if_neg (by decide), fr_b_or, h1 w j hw hj, fr_b_tn hV hk h1 hw hj]
    cases decide (64 * w + j < 2 ^ V) <;> simp
  · rw [if_pos rfl, fr_b_and, h1 w j hw hj, fr_b_tn hV hk h1 hw hj]
    cases decide (64 * w + j < 2 ^ V) <;> simp
theorem fr_R_put {V k : Nat} (hV : V < 10) (hk : k < V) {f1 f2 : Nat → Bool} {g1 g2 g : Nat → Int64} (h1 : fr_R V f1 g1) (h2 : fr_R V f2 g2) (hg : ∀ w, w < fr_wn V → g w = (g2 w &&& fr_nr V g1 k true w) ||| ((g2 w ^^^ (-1)) &&& fr_nr V g1 k false w)) : fr_R V (fun x => f1 (fr_sb x (V - 1 - k) (f2 x))) g := by
  intro w j hw hj
  rw [hg w hw, fr_b_or, fr_b_and, fr_b_and, fr_b_not _ hj, h2 w j hw hj, fr_b_nr hV hk h1 hw hj, fr_b_nr hV hk h1 hw hj]
  show _ = (decide (64 * w + j < 2 ^ V) && f1 (fr_sb (64 * w + j) (V - 1 - k) (f2 (64 * w + j))))
  cases decide (64 * w + j < 2 ^ V)
  · simp
  · cases f2 (64 * w + j) <;> simp
/-- same words, same function -/
theorem fr_R_same {V : Nat} (hV : V < 10) {f1 f2 : Nat → Bool} {g1 g2 : Nat → Int64} (h1 : fr_R V f1 g1) (h2 : fr_R V f2 g2) : (∀ w, w < fr_wn V → g1 w = g2 w) ↔ ∀ x, x < 2 ^ V → f1 x = f2 x := by
  constructor
  · intro h x hx
    obtain ⟨a1, a2⟩ := fr_R_in hV h1 hx
    obtain ⟨-, a3⟩ := fr_R_in hV h2 hx
    rw [← a2, ← a3, h _ a1]
  · intro h w hw
    refine fr_b_ext fun j hj => ?_
    rw [h1 w j hw hj, h2 w j hw hj]
    by_cases hx : 64 * w + j < 2 ^ V
    · rw [h _ hx]
    · rw [decide_eq_false hx, Bool.false_and, Bool.false_and]
theorem fr_R_dep {V k : Nat} (hV : V < 10) (hk : k < V) {f : Nat → Bool} {g : Nat → Int64} (h : fr_R V f g) : (∀ w, w < fr_wn V → g w = fr_tn V g k w) ↔ ∀ x, x < 2 ^ V → f x = f (x ^^^ 2 ^ (V - 1 - k)) := by
  have h2 : fr_R V (fun x => f (x ^^^ 2 ^ (V - 1 - k))) (fun w => fr_tn V g k w) := fun w j hw hj => fr_b_tn hV hk h hw hj
  exact fr_R_same hV h h2
