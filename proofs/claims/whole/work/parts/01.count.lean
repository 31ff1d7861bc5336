/-! counts of places; the bits of a long; Long.bitCount's arithmetic -/
def fr_cn (f : Nat → Bool) : Nat → Nat
  | 0 => 0
  | n + 1 => fr_cn f n + (if f n = true then 1 else 0)
theorem fr_cn_le (f : Nat → Bool) : ∀ n, fr_cn f n ≤ n
  | 0 => Nat.le_refl 0
  | n + 1 => by
    have h := fr_cn_le f n
    show fr_cn f n + (if f n = true then 1 else 0) ≤ n + 1
    split <;> omega
theorem fr_cn_congr {f g : Nat → Bool} : ∀ n, (∀ i, i < n → f i = g i) → fr_cn f n = fr_cn g n
  | 0, _ => rfl
  | n + 1, h => by
    show fr_cn f n + (if f n = true then 1 else 0) = fr_cn g n + (if g n = true then 1 else 0)
    rw [fr_cn_congr n (fun i hi => h i (Nat.lt_succ_of_lt hi)), h n (Nat.lt_succ_self n)]
theorem fr_cn_add (f : Nat → Bool) (n : Nat) : ∀ m, fr_cn f (n + m) = fr_cn f n + fr_cn (fun i => f (n + i)) m
  | 0 => rfl
  | m + 1 => by
    show fr_cn f (n + m) + (if f (n + m) = true then 1 else 0) = fr_cn f n + (fr_cn (fun i => f (n + i)) m + (if f (n + m) = true then 1 else 0))
    rw [fr_cn_add f n m, Nat.add_assoc]
theorem fr_cn_cut (f : Nat → Bool) (n : Nat) (h : ∀ i, n ≤ i → f i = false) : ∀ d, fr_cn f (n + d) = fr_cn f n
  | 0 => rfl
  | d + 1 => by
    show fr_cn f (n + d) + (if f (n + d) = true then 1 else 0) = fr_cn f n
    rw [h (n + d) (Nat.le_add_right n d), fr_cn_cut f n h d]
    simp
def fr_po (x n : Nat) : Nat := fr_cn (fun j => x.testBit j) n
theorem fr_po_split (a m n : Nat) (ha : a < 256) : fr_po (a + 256 * m) (8 + n) = fr_po a 8 + fr_po m n := by
  have e : a + 256 * m = 2 ^ 8 * m + a := by omega
  have ha' : a < 2 ^ 8 := ha
  have h1 : fr_cn (fun j => (a + 256 * m).testBit j) 8 = fr_cn (fun j => a.testBit j) 8 := fr_cn_congr 8 (fun i hi => by
    show (a + 256 * m).testBit i = a.testBit i
    rw [e, Nat.testBit_two_pow_mul_add m ha' i, if_pos hi])
  have h2 : fr_cn (fun i => (a + 256 * m).testBit (8 + i)) n = fr_cn (fun j => m.testBit j) n := fr_cn_congr n (fun i _ => by
    show (a + 256 * m).testBit (8 + i) = m.testBit i
    rw [e, Nat.testBit_two_pow_mul_add m ha' (8 + i), if_neg (by omega), show 8 + i - 8 = i by omega])
  unfold fr_po
  rw [fr_cn_add, h1]
  exact congrArg (fun z => fr_cn (fun j => a.testBit j) 8 + z) h2
def fr_sd : Nat → Nat → Nat
  | 0, _ => 0
  | n + 1, x => fr_po (x % 256) 8 + fr_sd n (x / 256)
theorem fr_po_sd : ∀ n x, fr_po x (8 * n) = fr_sd n x
  | 0, _ => rfl
  | n + 1, x => by
    have h := fr_po_split (x % 256) (x / 256) (8 * n) (Nat.mod_lt _ (by decide))
    rw [show x % 256 + 256 * (x / 256) = x by omega, show 8 + 8 * n = 8 * (n + 1) by omega] at h
    rw [h, fr_po_sd n (x / 256)]
    rfl
def fr_rep (b : Nat) : Nat → Nat
  | 0 => 0
  | n + 1 => b + 256 * fr_rep b n
theorem fr_rep_mod {b : Nat} (hb : b < 256) (n : Nat) : fr_rep b (n + 1) % 256 = b := by
  show (b + 256 * fr_rep b n) % 256 = b
  omega
theorem fr_rep_div {b : Nat} (hb : b < 256) (n : Nat) : fr_rep b (n + 1) / 256 = fr_rep b n := by
  show (b + 256 * fr_rep b n) / 256 = fr_rep b n
  omega
theorem fr_and256 (X Y : Nat) : X &&& Y = (X % 256 &&& Y % 256) + 256 * (X / 256 &&& Y / 256) := by
  have h1 : (X &&& Y) % 256 = (X % 256 &&& Y % 256) := @Nat.and_mod_two_pow X Y 8
  have h2 : (X &&& Y) / 256 = (X / 256 &&& Y / 256) := @Nat.and_div_two_pow X Y 8
  rw [← h1, ← h2]
  omega
def fr_f1 (a : Nat) : Nat := a - (a / 2 &&& 85)
def fr_f2 (a : Nat) : Nat := (a &&& 51) + (a / 4 &&& 51)
def fr_f3 (a : Nat) : Nat := (a + a / 16) &&& 15
def fr_s1 (n x : Nat) : Nat := x - (x / 2 &&& fr_rep 85 n)
def fr_s2 (n x : Nat) : Nat := (x &&& fr_rep 51 n) + (x / 4 &&& fr_rep 51 n)
def fr_s3 (n x : Nat) : Nat := (x + x / 16) &&& fr_rep 15 n
theorem fr_tab1 : ∀ a, a < 256 → (a / 2 + 128) &&& 85 = a / 2 &&& 85 := by decide +kernel
theorem fr_tab2 : ∀ r, r < 4 → ∀ a, a < 256 → (a / 4 + 64 * r) &&& 51 = a / 4 &&& 51 := by decide +kernel
theorem fr_tab3 : ∀ a, a < 256 → fr_f3 (fr_f2 (fr_f1 a)) = fr_po a 8 ∧ fr_f2 (fr_f1 a) ≤ 68 ∧ fr_f2 (fr_f1 a) % 16 ≤ 4 ∧ fr_f1 a < 256 ∧ fr_po a 8 ≤ 8 := by decide +kernel
theorem fr_tab4 : ∀ r, r < 5 → ∀ a, a < 69 → (a + a / 16 + 16 * r) &&& 15 = (a + a / 16) &&& 15 := by decide +kernel
theorem fr_s1_step (n a m : Nat) (ha : a < 256) : fr_s1 (n + 1) (a + 256 * m) = fr_f1 a + 256 * fr_s1 n m := by
  have e1 : (a + 256 * m) / 2 % 256 = a / 2 + 128 * (m % 2) := by omega
  have e2 : (a + 256 * m) / 2 / 256 = m / 2 := by omega
  have e : (a + 256 * m) / 2 &&& fr_rep 85 (n + 1) = (a / 2 &&& 85) + 256 * (m / 2 &&& fr_rep 85 n) := by
    rw [fr_and256, e1, e2, fr_rep_mod (by decide), fr_rep_div (by decide)]
    congr 1
    rcases Nat.mod_two_eq_zero_or_one m with h | h
    · rw [h]
      rfl
    · rw [h]
      exact fr_tab1 a ha
  have h1 : a / 2 &&& 85 ≤ a := Nat.le_trans Nat.and_le_left (Nat.div_le_self a 2)
  have h2 : m / 2 &&& fr_rep 85 n ≤ m := Nat.le_trans Nat.and_le_left (Nat.div_le_self m 2)
  unfold fr_s1 fr_f1
  rw [e]
  omega
theorem fr_s2_step (n a m : Nat) (ha : a < 256) : fr_s2 (n + 1) (a + 256 * m) = fr_f2 a + 256 * fr_s2 n m := by
  have e1 : (a + 256 * m) / 4 % 256 = a / 4 + 64 * (m % 4) := by omega
  have e2 : (a + 256 * m) / 4 / 256 = m / 4 := by omega
  have e3 : (a + 256 * m) % 256 = a := by omega
  have e4 : (a + 256 * m) / 256 = m := by omega
  have p1 : (a + 256 * m) / 4 &&& fr_rep 51 (n + 1) = (a / 4 &&& 51) + 256 * (m / 4 &&& fr_rep 51 n) := by
    rw [fr_and256, e1, e2, fr_rep_mod (by decide), fr_rep_div (by decide), fr_tab2 (m % 4) (Nat.mod_lt _ (by decide)) a ha]
  have p2 : (a + 256 * m) &&& fr_rep 51 (n + 1) = (a &&& 51) + 256 * (m &&& fr_rep 51 n) := by
    rw [fr_and256, e3, e4, fr_rep_mod (by decide), fr_rep_div (by decide)]
  unfold fr_s2 fr_f2
  rw [p1, p2]
  omega
theorem fr_s3_step (n a m : Nat) (ha : a ≤ 68) (hm : m % 16 ≤ 4) : fr_s3 (n + 1) (a + 256 * m) = fr_f3 a + 256 * fr_s3 n m := by
  have e0 : a + 256 * m + (a + 256 * m) / 16 = (a + a / 16 + 16 * (m % 16)) + 256 * (m + m / 16) := by omega
  have e1 : (a + 256 * m + (a + 256 * m) / 16) % 256 = a + a / 16 + 16 * (m % 16) := by omega
  have e2 : (a + 256 * m + (a + 256 * m) / 16) / 256 = m + m / 16 := by omega
  unfold fr_s3 fr_f3
  rw [fr_and256, e1, e2, fr_rep_mod (by decide), fr_rep_div (by decide), fr_tab4 (m % 16) (by omega) a (by omega)]
def fr_dg : Nat → Nat → Nat
  | 0, _ => 0
  | n + 1, x => fr_po (x % 256) 8 + 256 * fr_dg n (x / 256)
theorem fr_swar : ∀ n x, fr_s2 n (fr_s1 n x) % 16 ≤ 4 ∧ fr_s3 n (fr_s2 n (fr_s1 n x)) = fr_dg n x
  | 0, x => by
    have h : ∀ y, fr_s2 0 y = 0 := fun y => by show (y &&& 0) + (y / 4 &&& 0) = 0; simp
    rw [h]
    exact ⟨by decide, rfl⟩
  | n + 1, x => by
    obtain ⟨i1, i2⟩ := fr_swar n (x / 256)
    obtain ⟨t1, t2, t3, t4, -⟩ := fr_tab3 (x % 256) (Nat.mod_lt _ (by decide))
    have hx : x = x % 256 + 256 * (x / 256) := by omega
    have q1 : fr_s1 (n + 1) x = fr_f1 (x % 256) + 256 * fr_s1 n (x / 256) := by
      have h := fr_s1_step n (x % 256) (x / 256) (Nat.mod_lt _ (by decide))
      rw [← hx] at h
      exact h
    have q2 : fr_s2 (n + 1) (fr_s1 (n + 1) x) = fr_f2 (fr_f1 (x % 256)) + 256 * fr_s2 n (fr_s1 n (x / 256)) := by
      rw [q1, fr_s2_step n _ _ t4]
    refine ⟨by rw [q2]; omega, ?_⟩
    rw [q2, fr_s3_step n _ _ t2 i1, t1, i2]
    rfl
theorem fr_d1 {c Y : Nat} (h : c ≤ 64) : (c + 256 * Y) / 256 = Y := by omega
theorem fr_d2 {c d Y : Nat} (h : c ≤ 64) (h2 : d ≤ 64) : (c + 256 * (d + 256 * Y)) / 65536 = Y := by omega
theorem fr_d4 {a b c d Y : Nat} (h1 : a ≤ 64) (h2 : b ≤ 64) (h3 : c ≤ 64) (h4 : d ≤ 64) : (a + 256 * (b + 256 * (c + 256 * (d + 256 * Y)))) / 4294967296 = Y := by omega
theorem fr_dm {a b Y Z : Nat} (h : a + b ≤ 64) : (a + 256 * Y + (b + 256 * Z)) % 128 = a + b := by omega
theorem fr_db {c Y B : Nat} (h : c ≤ 8) (h2 : Y ≤ B) : c + 256 * Y ≤ 8 + 256 * B := by omega
theorem fr_ds {a b A B Y Z : Nat} (h1 : A = a + 256 * Y) (h2 : B = b + 256 * Z) : A + B = (a + b) + 256 * (Y + Z) := by omega
theorem fr_fold (c0 c1 c2 c3 c4 c5 c6 c7 y y1 y2 y3 : Nat) (h0 : c0 ≤ 8) (h1 : c1 ≤ 8) (h2 : c2 ≤ 8) (h3 : c3 ≤ 8) (h4 : c4 ≤ 8) (h5 : c5 ≤ 8) (h6 : c6 ≤ 8) (h7 : c7 ≤ 8)
    (hy : y = c0 + 256 * (c1 + 256 * (c2 + 256 * (c3 + 256 * (c4 + 256 * (c5 + 256 * (c6 + 256 * (c7 + 256 * 0))))))))
    (e1 : y1 = (y + y / 256) % 18446744073709551616) (e2 : y2 = (y1 + y1 / 65536) % 18446744073709551616) (e3 : y3 = (y2 + y2 / 4294967296) % 18446744073709551616) :
    y3 % 128 = c0 + (c1 + (c2 + (c3 + (c4 + (c5 + (c6 + (c7 + 0))))))) := by
  obtain ⟨Y7, q7⟩ : ∃ Y, Y = c7 + 256 * 0 := ⟨_, rfl⟩
  obtain ⟨Y6, q6⟩ : ∃ Y, Y = c6 + 256 * Y7 := ⟨_, rfl⟩
  obtain ⟨Y5, q5⟩ : ∃ Y, Y = c5 + 256 * Y6 := ⟨_, rfl⟩
  obtain ⟨Y4, q4⟩ : ∃ Y, Y = c4 + 256 * Y5 := ⟨_, rfl⟩
  obtain ⟨Y3, q3⟩ : ∃ Y, Y = c3 + 256 * Y4 := ⟨_, rfl⟩
  obtain ⟨Y2, q2⟩ : ∃ Y, Y = c2 + 256 * Y3 := ⟨_, rfl⟩
  obtain ⟨Y1, q1⟩ : ∃ Y, Y = c1 + 256 * Y2 := ⟨_, rfl⟩
  obtain ⟨Y0, q0⟩ : ∃ Y, Y = c0 + 256 * Y1 := ⟨_, rfl⟩
  have hy0 : y = Y0 := by rw [hy, q0, q1, q2, q3, q4, q5, q6, q7]
  have b7 : Y7 ≤ 8 := by rw [q7]; exact fr_db (B := 0) h7 (Nat.le_refl 0)
  have b6 : Y6 ≤ 2056 := by rw [q6]; exact fr_db (B := 8) h6 b7
  have b5 : Y5 ≤ 526344 := by rw [q5]; exact fr_db (B := 2056) h5 b6
  have b4 : Y4 ≤ 134744072 := by rw [q4]; exact fr_db (B := 526344) h4 b5
  have b3 : Y3 ≤ 34494482440 := by rw [q3]; exact fr_db (B := 134744072) h3 b4
  have b2 : Y2 ≤ 8830587504648 := by rw [q2]; exact fr_db (B := 34494482440) h2 b3
  have b1 : Y1 ≤ 2260630401189896 := by rw [q1]; exact fr_db (B := 8830587504648) h1 b2
  have b0 : Y0 ≤ 578721382704613384 := by rw [q0]; exact fr_db (B := 2260630401189896) h0 b1
  have a1 : y / 256 = Y1 := by rw [hy0, q0]; exact fr_d1 (Nat.le_trans h0 (by decide))
  have t1 : Y0 + Y1 < 18446744073709551616 := Nat.lt_of_le_of_lt (Nat.add_le_add b0 b1) (by decide)
  have a2 : y1 = Y0 + Y1 := by rw [e1, a1, hy0, Nat.mod_eq_of_lt t1]
  have w0 : Y0 + Y1 = (c0 + c1) + 256 * (Y1 + Y2) := fr_ds q0 q1
  have w1 : Y1 + Y2 = (c1 + c2) + 256 * (Y2 + Y3) := fr_ds q1 q2
  have w2 : Y2 + Y3 = (c2 + c3) + 256 * (Y3 + Y4) := fr_ds q2 q3
  have w3 : Y3 + Y4 = (c3 + c4) + 256 * (Y4 + Y5) := fr_ds q3 q4
  have w4 : Y4 + Y5 = (c4 + c5) + 256 * (Y5 + Y6) := fr_ds q4 q5
  have w5 : Y5 + Y6 = (c5 + c6) + 256 * (Y6 + Y7) := fr_ds q5 q6
  have w6 : Y6 + Y7 = (c6 + c7) + 256 * (Y7 + 0) := fr_ds q6 q7
  have a3 : y1 / 65536 = Y2 + Y3 := by rw [a2, w0, w1]; exact fr_d2 (Nat.le_trans (Nat.add_le_add h0 h1) (by decide)) (Nat.le_trans (Nat.add_le_add h1 h2) (by decide))
  have t2 : Y0 + Y1 + (Y2 + Y3) < 18446744073709551616 := Nat.lt_of_le_of_lt (Nat.add_le_add (Nat.add_le_add b0 b1) (Nat.add_le_add b2 b3)) (by decide)
  have a4 : y2 = Y0 + Y1 + (Y2 + Y3) := by rw [e2, a3, a2, Nat.mod_eq_of_lt t2]
  have v0 : Y0 + Y1 + (Y2 + Y3) = (c0 + c1 + (c2 + c3)) + 256 * (Y1 + Y2 + (Y3 + Y4)) := fr_ds w0 w2
  have v1 : Y1 + Y2 + (Y3 + Y4) = (c1 + c2 + (c3 + c4)) + 256 * (Y2 + Y3 + (Y4 + Y5)) := fr_ds w1 w3
  have v2 : Y2 + Y3 + (Y4 + Y5) = (c2 + c3 + (c4 + c5)) + 256 * (Y3 + Y4 + (Y5 + Y6)) := fr_ds w2 w4
  have v3 : Y3 + Y4 + (Y5 + Y6) = (c3 + c4 + (c5 + c6)) + 256 * (Y4 + Y5 + (Y6 + Y7)) := fr_ds w3 w5
  have v4 : Y4 + Y5 + (Y6 + Y7) = (c4 + c5 + (c6 + c7)) + 256 * (Y5 + Y6 + (Y7 + 0)) := fr_ds w4 w6
  have a5 : y2 / 4294967296 = Y4 + Y5 + (Y6 + Y7) := by rw [a4, v0, v1, v2, v3]; exact fr_d4 (Nat.le_trans (Nat.add_le_add (Nat.add_le_add h0 h1) (Nat.add_le_add h2 h3)) (by decide)) (Nat.le_trans (Nat.add_le_add (Nat.add_le_add h1 h2) (Nat.add_le_add h3 h4)) (by decide)) (Nat.le_trans (Nat.add_le_add (Nat.add_le_add h2 h3) (Nat.add_le_add h4 h5)) (by decide)) (Nat.le_trans (Nat.add_le_add (Nat.add_le_add h3 h4) (Nat.add_le_add h5 h6)) (by decide))
  have t3 : Y0 + Y1 + (Y2 + Y3) + (Y4 + Y5 + (Y6 + Y7)) < 18446744073709551616 := Nat.lt_of_le_of_lt (Nat.add_le_add (Nat.add_le_add (Nat.add_le_add b0 b1) (Nat.add_le_add b2 b3)) (Nat.add_le_add (Nat.add_le_add b4 b5) (Nat.add_le_add b6 b7))) (by decide)
  have a6 : y3 = Y0 + Y1 + (Y2 + Y3) + (Y4 + Y5 + (Y6 + Y7)) := by rw [e3, a5, a4, Nat.mod_eq_of_lt t3]
  rw [a6, v0, v4, fr_dm (Nat.le_trans (Nat.add_le_add (Nat.add_le_add (Nat.add_le_add h0 h1) (Nat.add_le_add h2 h3)) (Nat.add_le_add (Nat.add_le_add h4 h5) (Nat.add_le_add h6 h7))) (by decide))]
  simp only [Nat.add_assoc, Nat.add_zero]
theorem fr_bitc (x y1 y2 y3 : Nat) (e1 : y1 = (fr_dg 8 x + fr_dg 8 x / 256) % 18446744073709551616) (e2 : y2 = (y1 + y1 / 65536) % 18446744073709551616) (e3 : y3 = (y2 + y2 / 4294967296) % 18446744073709551616) : y3 % 128 = fr_po x 64 := by
  have hp : ∀ z, fr_po (z % 256) 8 ≤ 8 := fun z => fr_cn_le _ 8
  rw [fr_po_sd 8 x]
  exact fr_fold _ _ _ _ _ _ _ _ _ y1 y2 y3 (hp x) (hp _) (hp _) (hp _) (hp _) (hp _) (hp _) (hp _) rfl e1 e2 e3
