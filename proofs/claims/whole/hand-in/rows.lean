section
/-! counts of places; the bits of a long; Long.bitCount's arithmetic -/
def fr_cn (f : Nat → Bool) : Nat → Nat
  | 0 => 0
  | n + 1 => fr_cn f n + (if f n = true then 1 else 0)
theorem fr_cn_le (f : Nat → Bool) : ∀ n, fr_cn f n ≤ n
  | 0 => Nat.le_refl 0
  | n + 1 => by
    have h := fr_cn_le f n
    show fr_cn f n + (if f n = true then 1 else 0) ≤ n + 1
    split <;> omega
theorem fr_cn_congr {f g : Nat → Bool} : ∀ n, (∀ i, i < n → f i = g i) → fr_cn f n = fr_cn g n
  | 0, _ => rfl
  | n + 1, h => by
    show fr_cn f n + (if f n = true then 1 else 0) = fr_cn g n + (if g n = true then 1 else 0)
    rw [fr_cn_congr n (fun i hi => h i (Nat.lt_succ_of_lt hi)), h n (Nat.lt_succ_self n)]
theorem fr_cn_add (f : Nat → Bool) (n : Nat) : ∀ m, fr_cn f (n + m) = fr_cn f n + fr_cn (fun i => f (n + i)) m
  | 0 => rfl
  | m + 1 => by
    show fr_cn f (n + m) + (if f (n + m) = true then 1 else 0) = fr_cn f n + (fr_cn (fun i => f (n + i)) m + (if f (n + m) = true then 1 else 0))
    rw [fr_cn_add f n m, Nat.add_assoc]
theorem fr_cn_cut (f : Nat → Bool) (n : Nat) (h : ∀ i, n ≤ i → f i = false) : ∀ d, fr_cn f (n + d) = fr_cn f n
  | 0 => rfl
  | d + 1 => by
    show fr_cn f (n + d) + (if f (n + d) = true then 1 else 0) = fr_cn f n
    rw [h (n + d) (Nat.le_add_right n d), fr_cn_cut f n h d]
    simp
def fr_po (x n : Nat) : Nat := fr_cn (fun j => x.testBit j) n
theorem fr_po_split (a m n : Nat) (ha : a < 256) : fr_po (a + 256 * m) (8 + n) = fr_po a 8 + fr_po m n := by
  have e : a + 256 * m = 2 ^ 8 * m + a := by omega
  have ha' : a < 2 ^ 8 := ha
  have h1 : fr_cn (fun j => (a + 256 * m).testBit j) 8 = fr_cn (fun j => a.testBit j) 8 := fr_cn_congr 8 (fun i hi => by
    show (a + 256 * m).testBit i = a.testBit i
    rw [e, Nat.testBit_two_pow_mul_add m ha' i, if_pos hi])
  have h2 : fr_cn (fun i => (a + 256 * m).testBit (8 + i)) n = fr_cn (fun j => m.testBit j) n := fr_cn_congr n (fun i _ => by
    show (a + 256 * m).testBit (8 + i) = m.testBit i
    rw [e, Nat.testBit_two_pow_mul_add m ha' (8 + i), if_neg (by omega), show 8 + i - 8 = i by omega])
  unfold fr_po
  rw [fr_cn_add, h1]
  exact congrArg (fun z => fr_cn (fun j => a.testBit j) 8 + z) h2
def fr_sd : Nat → Nat → Nat
  | 0, _ => 0
  | n + 1, x => fr_po (x % 256) 8 + fr_sd n (x / 256)
theorem fr_po_sd : ∀ n x, fr_po x (8 * n) = fr_sd n x
  | 0, _ => rfl
  | n + 1, x => by
    have h := fr_po_split (x % 256) (x / 256) (8 * n) (Nat.mod_lt _ (by decide))
    rw [show x % 256 + 256 * (x / 256) = x by omega, show 8 + 8 * n = 8 * (n + 1) by omega] at h
    rw [h, fr_po_sd n (x / 256)]
    rfl
def fr_rep (b : Nat) : Nat → Nat
  | 0 => 0
  | n + 1 => b + 256 * fr_rep b n
theorem fr_rep_mod {b : Nat} (hb : b < 256) (n : Nat) : fr_rep b (n + 1) % 256 = b := by
  show (b + 256 * fr_rep b n) % 256 = b
  omega
theorem fr_rep_div {b : Nat} (hb : b < 256) (n : Nat) : fr_rep b (n + 1) / 256 = fr_rep b n := by
  show (b + 256 * fr_rep b n) / 256 = fr_rep b n
  omega
theorem fr_and256 (X Y : Nat) : X &&& Y = (X % 256 &&& Y % 256) + 256 * (X / 256 &&& Y / 256) := by
  have h1 : (X &&& Y) % 256 = (X % 256 &&& Y % 256) := @Nat.and_mod_two_pow X Y 8
  have h2 : (X &&& Y) / 256 = (X / 256 &&& Y / 256) := @Nat.and_div_two_pow X Y 8
  rw [← h1, ← h2]
  omega
def fr_f1 (a : Nat) : Nat := a - (a / 2 &&& 85)
def fr_f2 (a : Nat) : Nat := (a &&& 51) + (a / 4 &&& 51)
def fr_f3 (a : Nat) : Nat := (a + a / 16) &&& 15
def fr_s1 (n x : Nat) : Nat := x - (x / 2 &&& fr_rep 85 n)
def fr_s2 (n x : Nat) : Nat := (x &&& fr_rep 51 n) + (x / 4 &&& fr_rep 51 n)
def fr_s3 (n x : Nat) : Nat := (x + x / 16) &&& fr_rep 15 n
theorem fr_tab1 : ∀ a, a < 256 → (a / 2 + 128) &&& 85 = a / 2 &&& 85 := by decide +kernel
theorem fr_tab2 : ∀ r, r < 4 → ∀ a, a < 256 → (a / 4 + 64 * r) &&& 51 = a / 4 &&& 51 := by decide +kernel
theorem fr_tab3 : ∀ a, a < 256 → fr_f3 (fr_f2 (fr_f1 a)) = fr_po a 8 ∧ fr_f2 (fr_f1 a) ≤ 68 ∧ fr_f2 (fr_f1 a) % 16 ≤ 4 ∧ fr_f1 a < 256 ∧ fr_po a 8 ≤ 8 := by decide +kernel
theorem fr_tab4 : ∀ r, r < 5 → ∀ a, a < 69 → (a + a / 16 + 16 * r) &&& 15 = (a + a / 16) &&& 15 := by decide +kernel
theorem fr_s1_step (n a m : Nat) (ha : a < 256) : fr_s1 (n + 1) (a + 256 * m) = fr_f1 a + 256 * fr_s1 n m := by
  have e1 : (a + 256 * m) / 2 % 256 = a / 2 + 128 * (m % 2) := by omega
  have e2 : (a + 256 * m) / 2 / 256 = m / 2 := by omega
  have e : (a + 256 * m) / 2 &&& fr_rep 85 (n + 1) = (a / 2 &&& 85) + 256 * (m / 2 &&& fr_rep 85 n) := by
    rw [fr_and256, e1, e2, fr_rep_mod (by decide), fr_rep_div (by decide)]
    congr 1
    rcases Nat.mod_two_eq_zero_or_one m with h | h
    · rw [h]
      rfl
    · rw [h]
      exact fr_tab1 a ha
  have h1 : a / 2 &&& 85 ≤ a := Nat.le_trans Nat.and_le_left (Nat.div_le_self a 2)
  have h2 : m / 2 &&& fr_rep 85 n ≤ m := Nat.le_trans Nat.and_le_left (Nat.div_le_self m 2)
  unfold fr_s1 fr_f1
  rw [e]
  omega
theorem fr_s2_step (n a m : Nat) (ha : a < 256) : fr_s2 (n + 1) (a + 256 * m) = fr_f2 a + 256 * fr_s2 n m := by
  have e1 : (a + 256 * m) / 4 % 256 = a / 4 + 64 * (m % 4) := by omega
  have e2 : (a + 256 * m) / 4 / 256 = m / 4 := by omega
  have e3 : (a + 256 * m) % 256 = a := by omega
  have e4 : (a + 256 * m) / 256 = m := by omega
  have p1 : (a + 256 * m) / 4 &&& fr_rep 51 (n + 1) = (a / 4 &&& 51) + 256 * (m / 4 &&& fr_rep 51 n) := by
    rw [fr_and256, e1, e2, fr_rep_mod (by decide), fr_rep_div (by decide), fr_tab2 (m % 4) (Nat.mod_lt _ (by decide)) a ha]
  have p2 : (a + 256 * m) &&& fr_rep 51 (n + 1) = (a &&& 51) + 256 * (m &&& fr_rep 51 n) := by
    rw [fr_and256, e3, e4, fr_rep_mod (by decide), fr_rep_div (by decide)]
  unfold fr_s2 fr_f2
  rw [p1, p2]
  omega
theorem fr_s3_step (n a m : Nat) (ha : a ≤ 68) (hm : m % 16 ≤ 4) : fr_s3 (n + 1) (a + 256 * m) = fr_f3 a + 256 * fr_s3 n m := by
  have e0 : a + 256 * m + (a + 256 * m) / 16 = (a + a / 16 + 16 * (m % 16)) + 256 * (m + m / 16) := by omega
  have e1 : (a + 256 * m + (a + 256 * m) / 16) % 256 = a + a / 16 + 16 * (m % 16) := by omega
  have e2 : (a + 256 * m + (a + 256 * m) / 16) / 256 = m + m / 16 := by omega
  unfold fr_s3 fr_f3
  rw [fr_and256, e1, e2, fr_rep_mod (by decide), fr_rep_div (by decide), fr_tab4 (m % 16) (by omega) a (by omega)]
def fr_dg : Nat → Nat → Nat
  | 0, _ => 0
  | n + 1, x => fr_po (x % 256) 8 + 256 * fr_dg n (x / 256)
theorem fr_swar : ∀ n x, fr_s2 n (fr_s1 n x) % 16 ≤ 4 ∧ fr_s3 n (fr_s2 n (fr_s1 n x)) = fr_dg n x
  | 0, x => by
    have h : ∀ y, fr_s2 0 y = 0 := fun y => by show (y &&& 0) + (y / 4 &&& 0) = 0; simp
    rw [h]
    exact ⟨by decide, rfl⟩
  | n + 1, x => by
    obtain ⟨i1, i2⟩ := fr_swar n (x / 256)
    obtain ⟨t1, t2, t3, t4, -⟩ := fr_tab3 (x % 256) (Nat.mod_lt _ (by decide))
    have hx : x = x % 256 + 256 * (x / 256) := by omega
    have q1 : fr_s1 (n + 1) x = fr_f1 (x % 256) + 256 * fr_s1 n (x / 256) := by
      have h := fr_s1_step n (x % 256) (x / 256) (Nat.mod_lt _ (by decide))
      rw [← hx] at h
      exact h
    have q2 : fr_s2 (n + 1) (fr_s1 (n + 1) x) = fr_f2 (fr_f1 (x % 256)) + 256 * fr_s2 n (fr_s1 n (x / 256)) := by
      rw [q1, fr_s2_step n _ _ t4]
    refine ⟨by rw [q2]; omega, ?_⟩
    rw [q2, fr_s3_step n _ _ t2 i1, t1, i2]
    rfl
theorem fr_d1 {c Y : Nat} (h : c ≤ 64) : (c + 256 * Y) / 256 = Y := by omega
theorem fr_d2 {c d Y : Nat} (h : c ≤ 64) (h2 : d ≤ 64) : (c + 256 * (d + 256 * Y)) / 65536 = Y := by omega
theorem fr_d4 {a b c d Y : Nat} (h1 : a ≤ 64) (h2 : b ≤ 64) (h3 : c ≤ 64) (h4 : d ≤ 64) : (a + 256 * (b + 256 * (c + 256 * (d + 256 * Y)))) / 4294967296 = Y := by omega
theorem fr_dm {a b Y Z : Nat} (h : a + b ≤ 64) : (a + 256 * Y + (b + 256 * Z)) % 128 = a + b := by omega
theorem fr_db {c Y B : Nat} (h : c ≤ 8) (h2 : Y ≤ B) : c + 256 * Y ≤ 8 + 256 * B := by omega
theorem fr_ds {a b A B Y Z : Nat} (h1 : A = a + 256 * Y) (h2 : B = b + 256 * Z) : A + B = (a + b) + 256 * (Y + Z) := by omega
theorem fr_fold (c0 c1 c2 c3 c4 c5 c6 c7 y y1 y2 y3 : Nat) (h0 : c0 ≤ 8) (h1 : c1 ≤ 8) (h2 : c2 ≤ 8) (h3 : c3 ≤ 8) (h4 : c4 ≤ 8) (h5 : c5 ≤ 8) (h6 : c6 ≤ 8) (h7 : c7 ≤ 8)
    (hy : y = c0 + 256 * (c1 + 256 * (c2 + 256 * (c3 + 256 * (c4 + 256 * (c5 + 256 * (c6 + 256 * (c7 + 256 * 0))))))))
    (e1 : y1 = (y + y / 256) % 18446744073709551616) (e2 : y2 = (y1 + y1 / 65536) % 18446744073709551616) (e3 : y3 = (y2 + y2 / 4294967296) % 18446744073709551616) :
    y3 % 128 = c0 + (c1 + (c2 + (c3 + (c4 + (c5 + (c6 + (c7 + 0))))))) := by
  obtain ⟨Y7, q7⟩ : ∃ Y, Y = c7 + 256 * 0 := ⟨_, rfl⟩
  obtain ⟨Y6, q6⟩ : ∃ Y, Y = c6 + 256 * Y7 := ⟨_, rfl⟩
  obtain ⟨Y5, q5⟩ : ∃ Y, Y = c5 + 256 * Y6 := ⟨_, rfl⟩
  obtain ⟨Y4, q4⟩ : ∃ Y, Y = c4 + 256 * Y5 := ⟨_, rfl⟩
  obtain ⟨Y3, q3⟩ : ∃ Y, Y = c3 + 256 * Y4 := ⟨_, rfl⟩
  obtain ⟨Y2, q2⟩ : ∃ Y, Y = c2 + 256 * Y3 := ⟨_, rfl⟩
  obtain ⟨Y1, q1⟩ : ∃ Y, Y = c1 + 256 * Y2 := ⟨_, rfl⟩
  obtain ⟨Y0, q0⟩ : ∃ Y, Y = c0 + 256 * Y1 := ⟨_, rfl⟩
  have hy0 : y = Y0 := by rw [hy, q0, q1, q2, q3, q4, q5, q6, q7]
  have b7 : Y7 ≤ 8 := by rw [q7]; exact fr_db (B := 0) h7 (Nat.le_refl 0)
  have b6 : Y6 ≤ 2056 := by rw [q6]; exact fr_db (B := 8) h6 b7
  have b5 : Y5 ≤ 526344 := by rw [q5]; exact fr_db (B := 2056) h5 b6
  have b4 : Y4 ≤ 134744072 := by rw [q4]; exact fr_db (B := 526344) h4 b5
  have b3 : Y3 ≤ 34494482440 := by rw [q3]; exact fr_db (B := 134744072) h3 b4
  have b2 : Y2 ≤ 8830587504648 := by rw [q2]; exact fr_db (B := 34494482440) h2 b3
  have b1 : Y1 ≤ 2260630401189896 := by rw [q1]; exact fr_db (B := 8830587504648) h1 b2
  have b0 : Y0 ≤ 578721382704613384 := by rw [q0]; exact fr_db (B := 2260630401189896) h0 b1
  have a1 : y / 256 = Y1 := by rw [hy0, q0]; exact fr_d1 (Nat.le_trans h0 (by decide))
  have t1 : Y0 + Y1 < 18446744073709551616 := Nat.lt_of_le_of_lt (Nat.add_le_add b0 b1) (by decide)
  have a2 : y1 = Y0 + Y1 := by rw [e1, a1, hy0, Nat.mod_eq_of_lt t1]
  have w0 : Y0 + Y1 = (c0 + c1) + 256 * (Y1 + Y2) := fr_ds q0 q1
  have w1 : Y1 + Y2 = (c1 + c2) + 256 * (Y2 + Y3) := fr_ds q1 q2
  have w2 : Y2 + Y3 = (c2 + c3) + 256 * (Y3 + Y4) := fr_ds q2 q3
  have w3 : Y3 + Y4 = (c3 + c4) + 256 * (Y4 + Y5) := fr_ds q3 q4
  have w4 : Y4 + Y5 = (c4 + c5) + 256 * (Y5 + Y6) := fr_ds q4 q5
  have w5 : Y5 + Y6 = (c5 + c6) + 256 * (Y6 + Y7) := fr_ds q5 q6
  have w6 : Y6 + Y7 = (c6 + c7) + 256 * (Y7 + 0) := fr_ds q6 q7
  have a3 : y1 / 65536 = Y2 + Y3 := by rw [a2, w0, w1]; exact fr_d2 (Nat.le_trans (Nat.add_le_add h0 h1) (by decide)) (Nat.le_trans (Nat.add_le_add h1 h2) (by decide))
  have t2 : Y0 + Y1 + (Y2 + Y3) < 18446744073709551616 := Nat.lt_of_le_of_lt (Nat.add_le_add (Nat.add_le_add b0 b1) (Nat.add_le_add b2 b3)) (by decide)
  have a4 : y2 = Y0 + Y1 + (Y2 + Y3) := by rw [e2, a3, a2, Nat.mod_eq_of_lt t2]
  have v0 : Y0 + Y1 + (Y2 + Y3) = (c0 + c1 + (c2 + c3)) + 256 * (Y1 + Y2 + (Y3 + Y4)) := fr_ds w0 w2
  have v1 : Y1 + Y2 + (Y3 + Y4) = (c1 + c2 + (c3 + c4)) + 256 * (Y2 + Y3 + (Y4 + Y5)) := fr_ds w1 w3
  have v2 : Y2 + Y3 + (Y4 + Y5) = (c2 + c3 + (c4 + c5)) + 256 * (Y3 + Y4 + (Y5 + Y6)) := fr_ds w2 w4
  have v3 : Y3 + Y4 + (Y5 + Y6) = (c3 + c4 + (c5 + c6)) + 256 * (Y4 + Y5 + (Y6 + Y7)) := fr_ds w3 w5
  have v4 : Y4 + Y5 + (Y6 + Y7) = (c4 + c5 + (c6 + c7)) + 256 * (Y5 + Y6 + (Y7 + 0)) := fr_ds w4 w6
  have a5 : y2 / 4294967296 = Y4 + Y5 + (Y6 + Y7) := by rw [a4, v0, v1, v2, v3]; exact fr_d4 (Nat.le_trans (Nat.add_le_add (Nat.add_le_add h0 h1) (Nat.add_le_add h2 h3)) (by decide)) (Nat.le_trans (Nat.add_le_add (Nat.add_le_add h1 h2) (Nat.add_le_add h3 h4)) (by decide)) (Nat.le_trans (Nat.add_le_add (Nat.add_le_add h2 h3) (Nat.add_le_add h4 h5)) (by decide)) (Nat.le_trans (Nat.add_le_add (Nat.add_le_add h3 h4) (Nat.add_le_add h5 h6)) (by decide))
  have t3 : Y0 + Y1 + (Y2 + Y3) + (Y4 + Y5 + (Y6 + Y7)) < 18446744073709551616 := Nat.lt_of_le_of_lt (Nat.add_le_add (Nat.add_le_add (Nat.add_le_add b0 b1) (Nat.add_le_add b2 b3)) (Nat.add_le_add (Nat.add_le_add b4 b5) (Nat.add_le_add b6 b7))) (by decide)
  have a6 : y3 = Y0 + Y1 + (Y2 + Y3) + (Y4 + Y5 + (Y6 + Y7)) := by rw [e3, a5, a4, Nat.mod_eq_of_lt t3]
  rw [a6, v0, v4, fr_dm (Nat.le_trans (Nat.add_le_add (Nat.add_le_add (Nat.add_le_add h0 h1) (Nat.add_le_add h2 h3)) (Nat.add_le_add (Nat.add_le_add h4 h5) (Nat.add_le_add h6 h7))) (by decide))]
  simp only [Nat.add_assoc, Nat.add_zero]
theorem fr_bitc (x y1 y2 y3 : Nat) (e1 : y1 = (fr_dg 8 x + fr_dg 8 x / 256) % 18446744073709551616) (e2 : y2 = (y1 + y1 / 65536) % 18446744073709551616) (e3 : y3 = (y2 + y2 / 4294967296) % 18446744073709551616) : y3 % 128 = fr_po x 64 := by
  have hp : ∀ z, fr_po (z % 256) 8 ≤ 8 := fun z => fr_cn_le _ 8
  rw [fr_po_sd 8 x]
  exact fr_fold _ _ _ _ _ _ _ _ _ y1 y2 y3 (hp x) (hp _) (hp _) (hp _) (hp _) (hp _) (hp _) (hp _) rfl e1 e2 e3
end
section
/-! the bits of a long (uN .. uN_sk begin as the kit's BITS.to-paste), Long.bitCount's value; words and functions -/
def uN (x : Int64) : Nat := x.toUInt64.toNat
theorem uN_lt (x : Int64) : uN x < 18446744073709551616 := x.toUInt64.toNat_lt
theorem uN_inj {x y : Int64} (h : uN x = uN y) : x = y := congrArg UInt64.toInt64 (UInt64.toNat_inj.mp h)
theorem uN_add (x y : Int64) : uN (x + y) = (uN x + uN y) % 18446744073709551616 := by
  show (x.toUInt64 + y.toUInt64).toNat = _
  exact UInt64.toNat_add _ _
theorem uN_sub {x y : Int64} (h : uN y ≤ uN x) : uN (x - y) = uN x - uN y := by
  show (x.toUInt64 - y.toUInt64).toNat = _
  exact UInt64.toNat_sub_of_le _ _ (UInt64.le_iff_toNat_le.mpr h)
theorem uN_shr (x : Int64) (s : UInt64) : uN (x.toUInt64 >>> s).toInt64 = uN x / 2 ^ (s.toNat % 64) := by
  show (x.toUInt64 >>> s).toNat = _
  rw [UInt64.toNat_shiftRight, Nat.shiftRight_eq_div_pow]
  rfl
theorem fr_cnt (k : Nat) (hk : k < 2 ^ 31) : ((nI k).toInt64.toUInt64 &&& Int64.toUInt64 63).toNat % 64 = k % 64 := by
  rw [nI_l hk, UInt64.toNat_and]
  have e : (lN k).toUInt64.toNat = k % 2 ^ 64 := rfl
  have e2 : (Int64.toUInt64 63).toNat = 2 ^ 6 - 1 := by decide
  rw [e, e2, Nat.and_two_pow_sub_one_eq_mod]
  omega
theorem uN_sk (x : Int64) {k : Nat} (hk : k < 2 ^ 31) : uN (x.toUInt64 >>> ((nI k).toInt64.toUInt64 &&& Int64.toUInt64 63)).toInt64 = uN x / 2 ^ (k % 64) := by
  rw [uN_shr, fr_cnt k hk]
theorem uN_and (x y : Int64) : uN (x &&& y) = uN x &&& uN y := UInt64.toNat_and _ _
theorem uN_or (x y : Int64) : uN (x ||| y) = uN x ||| uN y := UInt64.toNat_or _ _
theorem uN_xor (x y : Int64) : uN (x ^^^ y) = uN x ^^^ uN y := UInt64.toNat_xor _ _
theorem fr_smod : ∀ d, d < 64 → (((nI d).toInt64 &&& 63).toBitVec.smod 64).toNat = d := by decide +kernel
theorem uN_shl (x : Int64) {d : Nat} (hd : d < 64) : uN (x <<< ((nI d).toInt64 &&& 63)) = (uN x * 2 ^ d) % 2 ^ 64 := by
  show (x.toBitVec <<< (((nI d).toInt64 &&& 63).toBitVec.smod 64).toNat).toNat = _
  rw [fr_smod d hd, BitVec.toNat_shiftLeft, Nat.shiftLeft_eq]
  rfl
theorem fr_l2i (v : Int64) : v.toInt32.toBitVec.toNat = uN v % 4294967296 := by
  rw [Int64.toBitVec_toInt32, BitVec.signExtend_eq_setWidth_of_le _ (by decide), BitVec.toNat_setWidth]
  rfl
theorem fr_lmask (v : Int64) {m : Int32} (k : Nat) (hk : k ≤ 32) (hm : m.toBitVec.toNat = 2 ^ k - 1) : v.toInt32 &&& m = nI (uN v % 2 ^ k) := by
  rw [pk_and v.toInt32 k hm, fr_l2i, show (4294967296 : Nat) = 2 ^ 32 from rfl, Nat.mod_mod_of_dvd _ (Nat.pow_dvd_pow 2 hk)]
/-- the value of Long.bitCount's text -/
theorem fr_bitCount (x x1 x2 x3 x4 x5 x6 : Int64)
    (e1 : x1 = x - ((x.toUInt64 >>> ((1 : Int32).toInt64.toUInt64 &&& Int64.toUInt64 63)).toInt64 &&& 6148914691236517205))
    (e2 : x2 = (x1 &&& 3689348814741910323) + ((x1.toUInt64 >>> ((2 : Int32).toInt64.toUInt64 &&& Int64.toUInt64 63)).toInt64 &&& 3689348814741910323))
    (e3 : x3 = (x2 + (x2.toUInt64 >>> ((4 : Int32).toInt64.toUInt64 &&& Int64.toUInt64 63)).toInt64) &&& 1085102592571150095)
    (e4 : x4 = x3 + (x3.toUInt64 >>> ((8 : Int32).toInt64.toUInt64 &&& Int64.toUInt64 63)).toInt64)
    (e5 : x5 = x4 + (x4.toUInt64 >>> ((16 : Int32).toInt64.toUInt64 &&& Int64.toUInt64 63)).toInt64)
    (e6 : x6 = x5 + (x5.toUInt64 >>> ((32 : Int32).toInt64.toUInt64 &&& Int64.toUInt64 63)).toInt64) :
    x6.toInt32 &&& 127 = nI (fr_po (uN x) 64) := by
  have k1 : ∀ y : Int64, uN (y.toUInt64 >>> ((1 : Int32).toInt64.toUInt64 &&& Int64.toUInt64 63)).toInt64 = uN y / 2 := fun y => uN_sk y (k := 1) (by decide)
  have k2 : ∀ y : Int64, uN (y.toUInt64 >>> ((2 : Int32).toInt64.toUInt64 &&& Int64.toUInt64 63)).toInt64 = uN y / 4 := fun y => uN_sk y (k := 2) (by decide)
  have k4 : ∀ y : Int64, uN (y.toUInt64 >>> ((4 : Int32).toInt64.toUInt64 &&& Int64.toUInt64 63)).toInt64 = uN y / 16 := fun y => uN_sk y (k := 4) (by decide)
  have k8 : ∀ y : Int64, uN (y.toUInt64 >>> ((8 : Int32).toInt64.toUInt64 &&& Int64.toUInt64 63)).toInt64 = uN y / 256 := fun y => uN_sk y (k := 8) (by decide)
  have k16 : ∀ y : Int64, uN (y.toUInt64 >>> ((16 : Int32).toInt64.toUInt64 &&& Int64.toUInt64 63)).toInt64 = uN y / 65536 := fun y => uN_sk y (k := 16) (by decide)
  have k32 : ∀ y : Int64, uN (y.toUInt64 >>> ((32 : Int32).toInt64.toUInt64 &&& Int64.toUInt64 63)).toInt64 = uN y / 4294967296 := fun y => uN_sk y (k := 32) (by decide)
  have c5 : uN 6148914691236517205 = fr_rep 85 8 := by decide +kernel
  have c3 : uN 3689348814741910323 = fr_rep 51 8 := by decide +kernel
  have cf : uN 1085102592571150095 = fr_rep 15 8 := by decide +kernel
  have p1 : uN x1 = fr_s1 8 (uN x) := by
    have hle : uN ((x.toUInt64 >>> ((1 : Int32).toInt64.toUInt64 &&& Int64.toUInt64 63)).toInt64 &&& 6148914691236517205) ≤ uN x := by
      rw [uN_and, k1]
      exact Nat.le_trans Nat.and_le_left (Nat.div_le_self _ 2)
    rw [e1, uN_sub hle, uN_and, k1, c5]
    rfl
  have l51 : fr_rep 51 8 < 4000000000000000000 := by decide +kernel
  have p2 : uN x2 = fr_s2 8 (uN x1) := by
    rw [e2, uN_add, uN_and, uN_and, k2, c3]
    have a1 : uN x1 &&& fr_rep 51 8 ≤ fr_rep 51 8 := Nat.and_le_right
    have a2 : uN x1 / 4 &&& fr_rep 51 8 ≤ fr_rep 51 8 := Nat.and_le_right
    rw [Nat.mod_eq_of_lt (by omega)]
    rfl
  have p3 : uN x3 = fr_s3 8 (uN x2) := by
    have b2 : uN x2 ≤ 2 * fr_rep 51 8 := by
      have a1 : uN x1 &&& fr_rep 51 8 ≤ fr_rep 51 8 := Nat.and_le_right
      have a2 : uN x1 / 4 &&& fr_rep 51 8 ≤ fr_rep 51 8 := Nat.and_le_right
      rw [p2]
      show (uN x1 &&& fr_rep 51 8) + (uN x1 / 4 &&& fr_rep 51 8) ≤ _
      omega
    rw [e3, uN_and, uN_add, k4, cf, Nat.mod_eq_of_lt (by omega)]
    rfl
  have p4 : uN x3 = fr_dg 8 (uN x) := by rw [p3, p2, p1]; exact (fr_swar 8 (uN x)).2
  have q4 : uN x4 = (fr_dg 8 (uN x) + fr_dg 8 (uN x) / 256) % 18446744073709551616 := by rw [e4, uN_add, k8, p4]
  have q5 : uN x5 = (uN x4 + uN x4 / 65536) % 18446744073709551616 := by rw [e5, uN_add, k16]
  have q6 : uN x6 = (uN x5 + uN x5 / 4294967296) % 18446744073709551616 := by rw [e6, uN_add, k32]
  rw [fr_lmask x6 7 (by decide) (by decide)]
  exact congrArg nI (fr_bitc (uN x) (uN x4) (uN x5) (uN x6) q4 q5 q6)
/-! bits -/
def fr_b (x : Int64) (j : Nat) : Bool := (uN x).testBit j
theorem fr_b_and (x y : Int64) (j : Nat) : fr_b (x &&& y) j = (fr_b x j && fr_b y j) := by
  unfold fr_b
  rw [uN_and, Nat.testBit_and]
theorem fr_b_or (x y : Int64) (j : Nat) : fr_b (x ||| y) j = (fr_b x j || fr_b y j) := by
  unfold fr_b
  rw [uN_or, Nat.testBit_or]
theorem fr_b_xor (x y : Int64) (j : Nat) : fr_b (x ^^^ y) j = (fr_b x j ^^ fr_b y j) := by
  unfold fr_b
  rw [uN_xor, Nat.testBit_xor]
theorem fr_b_m1 : ∀ j, j < 64 → fr_b (-1) j = true := by decide +kernel
theorem fr_b_not (x : Int64) {j : Nat} (h : j < 64) : fr_b (x ^^^ (-1)) j = !fr_b x j := by
  rw [fr_b_xor, fr_b_m1 j h]
  cases fr_b x j <;> rfl
theorem fr_b_0 (j : Nat) : fr_b 0 j = false := by
  show Nat.testBit (uN 0) j = false
  rw [show uN 0 = 0 by decide, Nat.zero_testBit]
theorem fr_b_big (x : Int64) {j : Nat} (h : 64 ≤ j) : fr_b x j = false :=
  Nat.testBit_lt_two_pow (Nat.lt_of_lt_of_le (uN_lt x) (show 2 ^ 64 ≤ 2 ^ j from Nat.pow_le_pow_right (by decide) h))
theorem fr_b_ext {x y : Int64} (h : ∀ j, j < 64 → fr_b x j = fr_b y j) : x = y := by
  refine uN_inj (Nat.eq_of_testBit_eq fun i => ?_)
  rcases Nat.lt_or_ge i 64 with hi | hi
  · exact h i hi
  · exact (fr_b_big x hi).trans (fr_b_big y hi).symm
theorem fr_b_shr (x : Int64) {d : Nat} (hd : d < 64) (j : Nat) : fr_b ((x.toUInt64 >>> ((nI d).toInt64.toUInt64 &&& Int64.toUInt64 63)).toInt64) j = fr_b x (j + d) := by
  unfold fr_b
  rw [uN_sk x (by omega), Nat.mod_eq_of_lt hd, Nat.testBit_div_two_pow]
theorem fr_b_shl (x : Int64) {d : Nat} (hd : d < 64) {j : Nat} (hj : j < 64) : fr_b (x <<< ((nI d).toInt64 &&& 63)) j = (decide (d ≤ j) && fr_b x (j - d)) := by
  unfold fr_b
  rw [uN_shl x hd, Nat.testBit_mod_two_pow, Nat.testBit_mul_two_pow, decide_eq_true hj, Bool.true_and]
def fr_bi (b : Bool) : Int32 := if b = true then 1 else 0
theorem fr_valueAt (x : Int64) {n : Nat} (hn : n < 2 ^ 31) : (x.toUInt64 >>> ((nI n).toInt64.toUInt64 &&& Int64.toUInt64 63)).toInt64.toInt32 &&& 1 = fr_bi (fr_b x (n % 64)) := by
  rw [fr_lmask _ 1 (by decide) (by decide), uN_sk x hn]
  show nI (uN x / 2 ^ (n % 64) % 2) = fr_bi ((uN x).testBit (n % 64))
  rw [Nat.testBit_eq_decide_div_mod_eq]
  rcases Nat.mod_two_eq_zero_or_one (uN x / 2 ^ (n % 64)) with h | h <;> rw [h] <;> decide
/-! the object's numbers -/
def fr_wn (V : Nat) : Nat := if V < 6 then 1 else 2 ^ (V - 6)
def fr_pl (V : Nat) : Int64 := if V < 6 then lN (2 ^ 2 ^ V - 1) else -1
def fr_pb (b : Nat) : Int64 := if b = 0 then -6148914691236517206 else if b = 1 then -3689348814741910324 else if b = 2 then -1085102592571150096 else if b = 3 then -71777214294589696 else if b = 4 then -281470681808896 else -4294967296
theorem fr_b_pb : ∀ b, b < 6 → ∀ j, j < 64 → fr_b (fr_pb b) j = j.testBit b := by decide +kernel
theorem fr_b_pl : ∀ V, V < 10 → ∀ j, j < 64 → fr_b (fr_pl V) j = decide (j < 2 ^ V) := by decide +kernel
theorem fr_wn_le : ∀ V, V < 10 → 1 ≤ fr_wn V ∧ fr_wn V ≤ 8 ∧ 2 ^ V ≤ 64 * fr_wn V ∧ (6 ≤ V → 2 ^ V = 64 * fr_wn V) ∧ (V < 6 → fr_wn V = 1) ∧ 2 ^ V ≤ 512 ∧ 2 ≤ 2 ^ V + (1 - V) := by decide +kernel
/-- the words g hold the function f of V variables -/
def fr_R (V : Nat) (f : Nat → Bool) (g : Nat → Int64) : Prop := ∀ w j, w < fr_wn V → j < 64 → fr_b (g w) j = (decide (64 * w + j < 2 ^ V) && f (64 * w + j))
theorem fr_R_in {V : Nat} (hV : V < 10) {f : Nat → Bool} {g : Nat → Int64} (h : fr_R V f g) {x : Nat} (hx : x < 2 ^ V) : x / 64 < fr_wn V ∧ fr_b (g (x / 64)) (x % 64) = f x := by
  obtain ⟨-, -, h3, -⟩ := fr_wn_le V hV
  have h1 : x / 64 < fr_wn V := by omega
  have h2 := h (x / 64) (x % 64) h1 (Nat.mod_lt _ (by decide))
  rw [show 64 * (x / 64) + x % 64 = x by omega, decide_eq_true hx, Bool.true_and] at h2
  exact ⟨h1, h2⟩
theorem fr_R_of {V : Nat} {f : Nat → Bool} {g : Nat → Int64} (h : ∀ w j, w < fr_wn V → j < 64 → 64 * w + j < 2 ^ V → fr_b (g w) j = f (64 * w + j)) (h0 : ∀ w j, w < fr_wn V → j < 64 → ¬ 64 * w + j < 2 ^ V → fr_b (g w) j = false) : fr_R V f g := by
  intro w j hw hj
  by_cases hx : 64 * w + j < 2 ^ V
  · rw [h w j hw hj hx, decide_eq_true hx, Bool.true_and]
  · rw [h0 w j hw hj hx, decide_eq_false hx, Bool.false_and]
theorem fr_R_congr {V : Nat} {f f' : Nat → Bool} {g g' : Nat → Int64} (h : fr_R V f g) (hf : ∀ x, x < 2 ^ V → f' x = f x) (hg : ∀ w, w < fr_wn V → g' w = g w) : fr_R V f' g' := by
  intro w j hw hj
  rw [hg w hw, h w j hw hj]
  by_cases hx : 64 * w + j < 2 ^ V
  · rw [decide_eq_true hx, hf _ hx]
  · rw [decide_eq_false hx, Bool.false_and, Bool.false_and]
theorem fr_inr {V w j : Nat} (hV : V < 10) (hw : w < fr_wn V) (hj : j < 64) : decide (64 * w + j < 2 ^ V) = decide (j < 2 ^ V) := by
  obtain ⟨-, -, -, h4, h5, -⟩ := fr_wn_le V hV
  rcases Nat.lt_or_ge V 6 with h | h
  · have := h5 h
    have hw0 : w = 0 := by omega
    rw [hw0]
    congr 1
    simp
  · have h6 := h4 h
    have a1 : 64 * w + j < 2 ^ V := by omega
    have a2 : j < 2 ^ V := by omega
    rw [decide_eq_true a1, decide_eq_true a2]
/-- how many ones a row has -/
def fr_ct (g : Nat → Int64) : Nat → Nat
  | 0 => 0
  | w + 1 => fr_ct g w + fr_po (uN (g w)) 64
theorem fr_ct_cn (g : Nat → Int64) : ∀ w, fr_ct g w = fr_cn (fun x => fr_b (g (x / 64)) (x % 64)) (64 * w)
  | 0 => rfl
  | w + 1 => by
    rw [show 64 * (w + 1) = 64 * w + 64 by omega, fr_cn_add, ← fr_ct_cn g w]
    show fr_ct g w + fr_po (uN (g w)) 64 = _
    congr 1
    refine fr_cn_congr 64 fun i hi => ?_
    show (uN (g w)).testBit i = fr_b (g ((64 * w + i) / 64)) ((64 * w + i) % 64)
    rw [show (64 * w + i) / 64 = w by omega, show (64 * w + i) % 64 = i by omega]
    rfl
theorem fr_ct_R {V : Nat} (hV : V < 10) {f : Nat → Bool} {g : Nat → Int64} (h : fr_R V f g) : fr_ct g (fr_wn V) = fr_cn f (2 ^ V) := by
  obtain ⟨-, -, h3, -⟩ := fr_wn_le V hV
  rw [fr_ct_cn]
  have e1 : fr_cn (fun x => fr_b (g (x / 64)) (x % 64)) (64 * fr_wn V) = fr_cn (fun x => decide (x < 2 ^ V) && f x) (64 * fr_wn V) := by
    refine fr_cn_congr _ fun x hx => ?_
    have h2 := h (x / 64) (x % 64) (by omega) (Nat.mod_lt _ (by decide))
    rw [show 64 * (x / 64) + x % 64 = x by omega] at h2
    exact h2
  have e2 : 64 * fr_wn V = 2 ^ V + (64 * fr_wn V - 2 ^ V) := by omega
  rw [e1, e2, fr_cn_cut _ (2 ^ V) (fun i hi => by
    show (decide (i < 2 ^ V) && f i) = false
    rw [decide_eq_false (by omega), Bool.false_and])]
  refine fr_cn_congr _ fun x hx => ?_
  show (decide (x < 2 ^ V) && f x) = f x
  rw [decide_eq_true hx, Bool.true_and]
end
section
/-! what the words of a narrowed, a turned, a combined row are, bit by bit -/
theorem fr_xor_lo (i : Nat) {j b : Nat} (hj : j < 64) (hb : b < 6) : (64 * i + j) ^^^ 2 ^ b = 64 * i + (j ^^^ 2 ^ b) := by
  have hp : 2 ^ b < 2 ^ 6 := Nat.pow_lt_pow_right (by decide) hb
  have h1 : ((64 * i + j) ^^^ 2 ^ b) / 2 ^ 6 = i := by
    rw [Nat.xor_div_two_pow, Nat.div_eq_of_lt hp, Nat.xor_zero]
    show (64 * i + j) / 64 = i
    omega
  have h2 : ((64 * i + j) ^^^ 2 ^ b) % 2 ^ 6 = j ^^^ 2 ^ b := by
    rw [Nat.xor_mod_two_pow, Nat.mod_eq_of_lt hp]
    congr 1
    show (64 * i + j) % 64 = j
    omega
  generalize (64 * i + j) ^^^ 2 ^ b = X at h1 h2 ⊢
  rw [← h2]
  omega
theorem fr_xor_hi (i : Nat) {j b : Nat} (hj : j < 64) (hb : 6 ≤ b) : (64 * i + j) ^^^ 2 ^ b = 64 * (i ^^^ 2 ^ (b - 6)) + j := by
  have h1 : ((64 * i + j) ^^^ 2 ^ b) / 2 ^ 6 = i ^^^ 2 ^ (b - 6) := by
    rw [Nat.xor_div_two_pow, Nat.pow_div hb (by decide)]
    congr 1
    show (64 * i + j) / 64 = i
    omega
  have h2 : ((64 * i + j) ^^^ 2 ^ b) % 2 ^ 6 = j := by
    rw [Nat.xor_mod_two_pow, Nat.mod_eq_zero_of_dvd (Nat.pow_dvd_pow 2 hb), Nat.xor_zero]
    show (64 * i + j) % 64 = j
    omega
  generalize (64 * i + j) ^^^ 2 ^ b = X at h1 h2 ⊢
  rw [← h1]
  omega
theorem fr_ff (x b : Nat) : (x ^^^ 2 ^ b) ^^^ 2 ^ b = x := by rw [Nat.xor_assoc, Nat.xor_self, Nat.xor_zero]
theorem fr_flip_lt {x b V : Nat} (hb : b < V) : x ^^^ 2 ^ b < 2 ^ V ↔ x < 2 ^ V := by
  have hp : 2 ^ b < 2 ^ V := Nat.pow_lt_pow_right (by decide) hb
  constructor
  · intro h
    have h2 := Nat.xor_lt_two_pow h hp
    rwa [fr_ff] at h2
  · exact fun h => Nat.xor_lt_two_pow h hp
theorem fr_tb_lo (i : Nat) {j b : Nat} (hj : j < 64) (hb : b < 6) : (64 * i + j).testBit b = j.testBit b := by
  have h := Nat.testBit_two_pow_mul_add i (b := j) (i := 6) hj b
  rw [if_pos hb] at h
  exact h
theorem fr_tb_hi (i : Nat) {j b : Nat} (hj : j < 64) (hb : 6 ≤ b) : (64 * i + j).testBit b = i.testBit (b - 6) := by
  have h := Nat.testBit_two_pow_mul_add i (b := j) (i := 6) hj b
  rw [if_neg (by omega)] at h
  exact h
theorem fr_tabF : ∀ b, b < 6 → ∀ j, j < 64 → j.testBit b = false → j + 2 ^ b < 64 ∧ (j + 2 ^ b).testBit b = true ∧ j ^^^ 2 ^ b = j + 2 ^ b ∧ (2 ^ b ≤ j → (j - 2 ^ b).testBit b = true) := by decide +kernel
theorem fr_tabT : ∀ b, b < 6 → ∀ j, j < 64 → j.testBit b = true → 2 ^ b ≤ j ∧ (j - 2 ^ b).testBit b = false ∧ j ^^^ 2 ^ b = j - 2 ^ b ∧ (j + 2 ^ b < 64 → (j + 2 ^ b).testBit b = false) := by decide +kernel
theorem fr_tabP : ∀ b, b < 6 → 2 ^ b < 64 := by decide +kernel
def fr_pw (V k i : Nat) : Int64 := if V - 1 - k < 6 then fr_pb (V - 1 - k) &&& fr_pl V else if i.testBit (V - 1 - k - 6) = true then fr_pl V else 0
theorem fr_b_pw {V k i j : Nat} (hV : V < 10) (hk : k < V) (hi : i < fr_wn V) (hj : j < 64) : fr_b (fr_pw V k i) j = (decide (64 * i + j < 2 ^ V) && (64 * i + j).testBit (V - 1 - k)) := by
  rw [fr_inr hV hi hj]
  unfold fr_pw
  by_cases hb : V - 1 - k < 6
  · rw [if_pos hb, fr_b_and, fr_b_pb _ hb j hj, fr_b_pl V hV j hj, fr_tb_lo i hj hb, Bool.and_comm]
  · rw [if_neg hb, fr_tb_hi i hj (by omega)]
    cases i.testBit (V - 1 - k - 6)
    · rw [if_neg (by decide), fr_b_0, Bool.and_false]
    · rw [if_pos rfl, fr_b_pl V hV j hj, Bool.and_true]
def fr_tn (V : Nat) (g : Nat → Int64) (k i : Nat) : Int64 :=
  if V - 1 - k < 6 then ((g i &&& fr_pb (V - 1 - k)).toUInt64 >>> ((nI (2 ^ (V - 1 - k))).toInt64.toUInt64 &&& Int64.toUInt64 63)).toInt64 ||| (g i &&& (fr_pb (V - 1 - k) ^^^ (-1))) <<< ((nI (2 ^ (V - 1 - k))).toInt64 &&& 63)
  else g (i ^^^ 2 ^ (V - 1 - k - 6))
theorem fr_turn_in {V k i : Nat} (hV : V < 10) (hi : i < fr_wn V) (hb : 6 ≤ V - 1 - k) : i ^^^ 2 ^ (V - 1 - k - 6) < fr_wn V := by
  unfold fr_wn at hi ⊢
  rw [if_neg (by omega)] at hi ⊢
  exact Nat.xor_lt_two_pow hi (Nat.pow_lt_pow_right (by decide) (by omega))
theorem fr_b_tn {V k i j : Nat} {f : Nat → Bool} {g : Nat → Int64} (hV : V < 10) (hk : k < V) (h : fr_R V f g) (hi : i < fr_wn V) (hj : j < 64) : fr_b (fr_tn V g k i) j = (decide (64 * i + j < 2 ^ V) && f ((64 * i + j) ^^^ 2 ^ (V - 1 - k))) := by
  have hfl : decide ((64 * i + j) ^^^ 2 ^ (V - 1 - k) < 2 ^ V) = decide (64 * i + j < 2 ^ V) := by
    rw [decide_eq_decide]
    exact fr_flip_lt (by omega)
  unfold fr_tn
  by_cases hb : V - 1 - k < 6
  · rw [if_pos hb]
    have hd := fr_tabP _ hb
    rw [fr_xor_lo i hj hb] at hfl ⊢
    rw [← hfl]
    generalize V - 1 - k = b at hb hd ⊢
    have hjs : j - 2 ^ b < 64 := Nat.lt_of_le_of_lt (Nat.sub_le _ _) hj
    rw [fr_b_or, fr_b_shr _ hd, fr_b_shl _ hd hj, fr_b_and, fr_b_and]
    cases ht : j.testBit b
    · obtain ⟨t1, t2, t3, t4⟩ := fr_tabF b hb j hj ht
      rw [fr_b_pb b hb _ t1, t2, Bool.and_true, t3, h i _ hi t1]
      have z : (decide (2 ^ b ≤ j) && (fr_b (g i) (j - 2 ^ b) && fr_b (fr_pb b ^^^ -1) (j - 2 ^ b))) = false := by
        by_cases hle : 2 ^ b ≤ j
        · rw [fr_b_not _ hjs, fr_b_pb b hb _ hjs, t4 hle]
          simp
        · rw [decide_eq_false hle, Bool.false_and]
      rw [z, Bool.or_false]
    · obtain ⟨t1, t2, t3, t4⟩ := fr_tabT b hb j hj ht
      rw [fr_b_not _ hjs, fr_b_pb b hb (j - 2 ^ b) hjs, t2, Bool.not_false, Bool.and_true, t3, h i _ hi hjs, decide_eq_true t1, Bool.true_and]
      have z : (fr_b (g i) (j + 2 ^ b) && fr_b (fr_pb b) (j + 2 ^ b)) = false := by
        by_cases hle : j + 2 ^ b < 64
        · rw [fr_b_pb b hb _ hle, t4 hle, Bool.and_false]
        · rw [fr_b_big (g i) (by omega), Bool.false_and]
      rw [z, Bool.false_or]
  · rw [if_neg hb, h _ j (fr_turn_in hV hi (by omega)) hj, ← fr_xor_hi i hj (by omega), hfl]
def fr_rt (V k i : Nat) (one : Bool) : Int64 := if one = true then fr_pw V k i else fr_pw V k i ^^^ (-1)
def fr_nr (V : Nat) (g : Nat → Int64) (k : Nat) (one : Bool) (i : Nat) : Int64 := (g i &&& fr_rt V k i one) ||| (fr_tn V g k i &&& (fr_rt V k i one ^^^ (-1)))
/-- x with bit b as one says -/
def fr_sb (x b : Nat) (one : Bool) : Nat := if x.testBit b = one then x else x ^^^ 2 ^ b
theorem fr_sb_lt {x b V : Nat} {one : Bool} (hb : b < V) (hx : x < 2 ^ V) : fr_sb x b one < 2 ^ V := by
  unfold fr_sb
  split
  · exact hx
  · exact (fr_flip_lt hb).mpr hx
theorem fr_b_nr {V k i j : Nat} {f : Nat → Bool} {g : Nat → Int64} {one : Bool} (hV : V < 10) (hk : k < V) (h : fr_R V f g) (hi : i < fr_wn V) (hj : j < 64) : fr_b (fr_nr V g k one i) j = (decide (64 * i + j < 2 ^ V) && f (fr_sb (64 * i + j) (V - 1 - k) one)) := by
  have hr : fr_b (fr_rt V k i one) j = ((decide (64 * i + j < 2 ^ V) && (64 * i + j).testBit (V - 1 - k)) == one) := by
    unfold fr_rt
    cases one
    · rw [if_neg (by decide), fr_b_not _ hj, fr_b_pw hV hk hi hj]
      cases (decide (64 * i + j < 2 ^ V) && (64 * i + j).testBit (V - 1 - k)) <;> rfl
    · rw [if_pos rfl, fr_b_pw hV hk hi hj]
      cases (decide (64 * i + j < 2 ^ V) && (64 * i + j).testBit (V - 1 - k)) <;> rfl
  unfold fr_nr fr_sb
  rw [fr_b_or, fr_b_and, fr_b_and, fr_b_not _ hj, hr, h i j hi hj, fr_b_tn hV hk h hi hj]
  cases decide (64 * i + j < 2 ^ V) <;> cases (64 * i + j).testBit (V - 1 - k) <;> cases one <;> simp
def fr_cb (o : Nat) (a b : Int64) : Int64 := if o = 0 then a &&& b else if o = 1 then a ||| b else if o = 2 then a ^^^ b else if o = 3 then a &&& (b ^^^ (-1)) else (a ^^^ (-1)) ||| b
def fr_co (o : Nat) (p q : Bool) : Bool := if o = 0 then p && q else if o = 1 then p || q else if o = 2 then p ^^ q else if o = 3 then p && !q else !p || q
theorem fr_b_cb (o : Nat) (a b : Int64) {j : Nat} (hj : j < 64) : fr_b (fr_cb o a b) j = fr_co o (fr_b a j) (fr_b b j) := by
  unfold fr_cb fr_co
  split
  · exact fr_b_and a b j
  · split
    · exact fr_b_or a b j
    · split
      · exact fr_b_xor a b j
      · split
        · rw [fr_b_and, fr_b_not b hj]
        · rw [fr_b_or, fr_b_not a hj]
/-! rows -/
theorem fr_R_const {V : Nat} (hV : V < 10) (c : Bool) {g : Nat → Int64} (hg : ∀ w, w < fr_wn V → g w = if c = true then fr_pl V else 0) : fr_R V (fun _ => c) g := by
  intro w j hw hj
  rw [hg w hw, fr_inr hV hw hj]
  cases c
  · rw [if_neg (by decide), fr_b_0, Bool.and_false]
  · rw [if_pos rfl, fr_b_pl V hV j hj, Bool.and_true]
theorem fr_R_var {V k : Nat} (hV : V < 10) (hk : k < V) {g : Nat → Int64} (hg : ∀ w, w < fr_wn V → g w = fr_pw V k w) : fr_R V (fun x => x.testBit (V - 1 - k)) g := by
  intro w j hw hj
  rw [hg w hw, fr_b_pw hV hk hw hj]
theorem fr_R_comb {V o : Nat} (hV : V < 10) {f1 f2 : Nat → Bool} {g1 g2 g : Nat → Int64} (h1 : fr_R V f1 g1) (h2 : fr_R V f2 g2) (hg : ∀ w, w < fr_wn V → g w = fr_cb o (g1 w) (g2 w) &&& fr_pl V) : fr_R V (fun x => fr_co o (f1 x) (f2 x)) g := by
  intro w j hw hj
  rw [hg w hw, fr_b_and, fr_b_cb o _ _ hj, h1 w j hw hj, h2 w j hw hj, fr_b_pl V hV j hj, fr_inr hV hw hj]
  cases decide (j < 2 ^ V)
  · rw [Bool.and_false, Bool.false_and]
  · rw [Bool.and_true, Bool.true_and, Bool.true_and, Bool.true_and]
theorem fr_R_not {V : Nat} (hV : V < 10) {f1 : Nat → Bool} {g1 g : Nat → Int64} (h1 : fr_R V f1 g1) (hg : ∀ w, w < fr_wn V → g w = (g1 w ^^^ (-1)) &&& fr_pl V) : fr_R V (fun x => !f1 x) g := by
  intro w j hw hj
  rw [hg w hw, fr_b_and, fr_b_not _ hj, h1 w j hw hj, fr_b_pl V hV j hj, fr_inr hV hw hj]
  cases decide (j < 2 ^ V)
  · rw [Bool.and_false, Bool.false_and]
  · rw [Bool.and_true, Bool.true_and, Bool.true_and]
theorem fr_R_with {V k : Nat} {one : Bool} (hV : V < 10) (hk : k < V) {f1 : Nat → Bool} {g1 g : Nat → Int64} (h1 : fr_R V f1 g1) (hg : ∀ w, w < fr_wn V → g w = fr_nr V g1 k one w) : fr_R V (fun x => f1 (fr_sb x (V - 1 - k) one)) g := by
  intro w j hw hj
  rw [hg w hw, fr_b_nr hV hk h1 hw hj]
theorem fr_R_bind {V k : Nat} {all : Bool} (hV : V < 10) (hk : k < V) {f1 : Nat → Bool} {g1 g : Nat → Int64} (h1 : fr_R V f1 g1) (hg : ∀ w, w < fr_wn V → g w = if all = true then g1 w &&& fr_tn V g1 k w else g1 w ||| fr_tn V g1 k w) : fr_R V (fun x => if all = true then f1 x && f1 (x ^^^ 2 ^ (V - 1 - k)) else f1 x || f1 (x ^^^ 2 ^ (V - 1 - k))) g := by
  intro w j hw hj
  rw [hg w hw]
  cases all
  · rw [if_neg (by decide), fr_b_or, h1 w j hw hj, fr_b_tn hV hk h1 hw hj]
    cases decide (64 * w + j < 2 ^ V) <;> simp
  · rw [if_pos rfl, fr_b_and, h1 w j hw hj, fr_b_tn hV hk h1 hw hj]
    cases decide (64 * w + j < 2 ^ V) <;> simp
theorem fr_R_put {V k : Nat} (hV : V < 10) (hk : k < V) {f1 f2 : Nat → Bool} {g1 g2 g : Nat → Int64} (h1 : fr_R V f1 g1) (h2 : fr_R V f2 g2) (hg : ∀ w, w < fr_wn V → g w = (g2 w &&& fr_nr V g1 k true w) ||| ((g2 w ^^^ (-1)) &&& fr_nr V g1 k false w)) : fr_R V (fun x => f1 (fr_sb x (V - 1 - k) (f2 x))) g := by
  intro w j hw hj
  rw [hg w hw, fr_b_or, fr_b_and, fr_b_and, fr_b_not _ hj, h2 w j hw hj, fr_b_nr hV hk h1 hw hj, fr_b_nr hV hk h1 hw hj]
  show _ = (decide (64 * w + j < 2 ^ V) && f1 (fr_sb (64 * w + j) (V - 1 - k) (f2 (64 * w + j))))
  cases decide (64 * w + j < 2 ^ V)
  · simp
  · cases f2 (64 * w + j) <;> simp
/-- same words, same function -/
theorem fr_R_same {V : Nat} (hV : V < 10) {f1 f2 : Nat → Bool} {g1 g2 : Nat → Int64} (h1 : fr_R V f1 g1) (h2 : fr_R V f2 g2) : (∀ w, w < fr_wn V → g1 w = g2 w) ↔ ∀ x, x < 2 ^ V → f1 x = f2 x := by
  constructor
  · intro h x hx
    obtain ⟨a1, a2⟩ := fr_R_in hV h1 hx
    obtain ⟨-, a3⟩ := fr_R_in hV h2 hx
    rw [← a2, ← a3, h _ a1]
  · intro h w hw
    refine fr_b_ext fun j hj => ?_
    rw [h1 w j hw hj, h2 w j hw hj]
    by_cases hx : 64 * w + j < 2 ^ V
    · rw [h _ hx]
    · rw [decide_eq_false hx, Bool.false_and, Bool.false_and]
theorem fr_R_dep {V k : Nat} (hV : V < 10) (hk : k < V) {f : Nat → Bool} {g : Nat → Int64} (h : fr_R V f g) : (∀ w, w < fr_wn V → g w = fr_tn V g k w) ↔ ∀ x, x < 2 ^ V → f x = f (x ^^^ 2 ^ (V - 1 - k)) := by
  have h2 : fr_R V (fun x => f (x ^^^ 2 ^ (V - 1 - k))) (fun w => fr_tn V g k w) := fun w j hw hj => fr_b_tn hV hk h hw hj
  exact fr_R_same hV h h2
end
section
/-! how many parts: by comparing blocks (the reference), by names of blocks (the class) -/
def fr_al (f : Nat → Bool) (x y n : Nat) : Bool := decide (∀ k, k < n → f (x + k) = f (y + k))
theorem fr_al_iff {f : Nat → Bool} {x y n : Nat} : fr_al f x y n = true ↔ ∀ k, k < n → f (x + k) = f (y + k) := by
  unfold fr_al
  exact decide_eq_true_iff
/-- block j of width w is a part that stands at no earlier place -/
def fr_nw (f : Nat → Bool) (w j : Nat) : Bool := !fr_al f (j * w) (j * w + w / 2) (w / 2) && decide (∀ i, i < j → fr_al f (j * w) (i * w) w = false)
def fr_sz (f : Nat → Bool) (V : Nat) : Nat → Nat
  | 0 => 0
  | k + 1 => fr_sz f V k + fr_cn (fr_nw f (2 ^ (V - k))) (2 ^ k)
def fr_up (f : Nat → Bool) (V : Nat) : Nat → Nat
  | 0 => 0
  | d + 1 => fr_up f V d + fr_cn (fr_nw f (2 ^ (d + 1))) (2 ^ (V - d - 1))
theorem fr_up_sz (f : Nat → Bool) (V : Nat) : ∀ d, d ≤ V → fr_up f V d + fr_sz f V (V - d) = fr_sz f V V
  | 0, _ => by show 0 + fr_sz f V V = fr_sz f V V; omega
  | d + 1, h => by
    have ih := fr_up_sz f V d (by omega)
    have e : V - d = (V - (d + 1)) + 1 := by omega
    rw [e] at ih
    have e2 : fr_sz f V (V - (d + 1) + 1) = fr_sz f V (V - (d + 1)) + fr_cn (fr_nw f (2 ^ (V - (V - (d + 1))))) (2 ^ (V - (d + 1))) := rfl
    rw [e2, show V - (V - (d + 1)) = d + 1 by omega] at ih
    show fr_up f V d + fr_cn (fr_nw f (2 ^ (d + 1))) (2 ^ (V - d - 1)) + fr_sz f V (V - (d + 1)) = _
    rw [show V - d - 1 = V - (d + 1) by omega]
    omega
theorem fr_up_le (f : Nat → Bool) (V : Nat) : ∀ d, d ≤ V → fr_up f V d + 2 ^ (V - d) ≤ 2 ^ V
  | 0, _ => by show 0 + 2 ^ V ≤ 2 ^ V; omega
  | d + 1, h => by
    have ih := fr_up_le f V d (by omega)
    have h1 := fr_cn_le (fr_nw f (2 ^ (d + 1))) (2 ^ (V - d - 1))
    have e : 2 ^ (V - d) = 2 ^ (V - d - 1) * 2 := by
      rw [← Nat.pow_succ]
      congr 1
      omega
    show fr_up f V d + fr_cn (fr_nw f (2 ^ (d + 1))) (2 ^ (V - d - 1)) + 2 ^ (V - (d + 1)) ≤ _
    rw [show V - (d + 1) = V - d - 1 by omega]
    omega
/-! one level: from names of blocks to names of blocks of twice the width -/
def fr_pr (N : Nat → Nat) (i : Nat) : Int32 := nI (N (2 * i) * 1024 + N (2 * i + 1))
def fr_nN (N : Nat → Nat) (j : Nat) : Bool := decide (N (2 * j) ≠ N (2 * j + 1)) && decide (∀ i, i < j → ¬ (N (2 * i) = N (2 * j) ∧ N (2 * i + 1) = N (2 * j + 1)))
theorem fr_nN_iff {N : Nat → Nat} {j : Nat} : fr_nN N j = true ↔ N (2 * j) ≠ N (2 * j + 1) ∧ ∀ i, i < j → ¬ (N (2 * i) = N (2 * j) ∧ N (2 * i + 1) = N (2 * j + 1)) := by
  unfold fr_nN
  rw [Bool.and_eq_true, decide_eq_true_iff, decide_eq_true_iff]
theorem fr_pr_inj {N : Nat → Nat} {i j : Nat} (h1 : N (2 * i) < 1024) (h2 : N (2 * i + 1) < 1024) (h3 : N (2 * j) < 1024) (h4 : N (2 * j + 1) < 1024) : fr_pr N i = fr_pr N j ↔ N (2 * i) = N (2 * j) ∧ N (2 * i + 1) = N (2 * j + 1) := by
  unfold fr_pr
  rw [nI_eq (by omega) (by omega)]
  omega
def fr_J (K : Nat) (N N' : Nat → Nat) (fb blk fd : Nat) (nm pt : Nat → Int32) : Prop :=
  (∀ i, i < blk → nm i = nI (N' i)) ∧ (∀ i, blk ≤ i → i < 2 * K → nm i = nI (N i)) ∧ fd = fb + fr_cn (fr_nN N) blk ∧
  (∀ i, i < blk → (N (2 * i) = N (2 * i + 1) → N' i = N (2 * i)) ∧ (N (2 * i) ≠ N (2 * i + 1) → ∃ a, fb ≤ a ∧ a < fd ∧ N' i = 2 + a ∧ pt a = fr_pr N i)) ∧
  (∀ a, fb ≤ a → a < fd → ∃ i, i < blk ∧ N (2 * i) ≠ N (2 * i + 1) ∧ pt a = fr_pr N i) ∧
  (∀ a b, fb ≤ a → a < fd → fb ≤ b → b < fd → pt a = pt b → a = b)
theorem fr_J_0 {K : Nat} {N : Nat → Nat} {fb : Nat} {nm pt : Nat → Int32} (h : ∀ i, i < 2 * K → nm i = nI (N i)) : fr_J K N N fb 0 fb nm pt :=
  ⟨fun i hi => absurd hi (Nat.not_lt_zero i), fun i _ hi => h i hi, rfl, fun i hi => absurd hi (Nat.not_lt_zero i), fun a h1 h2 => by omega, fun a b h1 h2 => by omega⟩
theorem fr_J_same {K : Nat} {N N' : Nat → Nat} {fb blk fd : Nat} {nm pt : Nat → Int32} (h : fr_J K N N' fb blk fd nm pt) (he : N (2 * blk) = N (2 * blk + 1)) : fr_J K N (va_up N' blk (N (2 * blk))) fb (blk + 1) fd (upd nm blk (nI (N (2 * blk)))) pt := by
  obtain ⟨h1, h2, h3, h4, h5, h6⟩ := h
  have hn : fr_nN N blk = false := by
    cases hc : fr_nN N blk
    · rfl
    · exact absurd he (fr_nN_iff.mp hc).1
  refine ⟨fun i hi => ?_, fun i h7 h8 => ?_, ?_, fun i hi => ?_, fun a a1 a2 => ?_, h6⟩
  · by_cases e : i = blk
    · subst e
      rw [pk_us, va_up_self]
    · rw [pk_un e, va_up_ne _ _ e]
      exact h1 i (by omega)
  · rw [pk_un (by omega)]
    exact h2 i (by omega) h8
  · show fd = fb + (fr_cn (fr_nN N) blk + (if fr_nN N blk = true then 1 else 0))
    rw [hn]
    simpa using h3
  · by_cases e : i = blk
    · subst e
      rw [va_up_self]
      exact ⟨fun _ => rfl, fun z => absurd he z⟩
    · rw [va_up_ne _ _ e]
      exact h4 i (by omega)
  · obtain ⟨i, i1, i2⟩ := h5 a a1 a2
    exact ⟨i, by omega, i2⟩
theorem fr_J_old {K : Nat} {N N' : Nat → Nat} {fb blk fd a : Nat} {nm pt : Nat → Int32} (hN : ∀ i, i < 2 * K → N i < 1024) (hK : blk < K) (h : fr_J K N N' fb blk fd nm pt) (he : N (2 * blk) ≠ N (2 * blk + 1)) (h7 : fb ≤ a) (h8 : a < fd) (h9 : pt a = fr_pr N blk) :
    fr_J K N (va_up N' blk (2 + a)) fb (blk + 1) fd (upd nm blk (nI (2 + a))) (upd pt a (fr_pr N blk)) := by
  obtain ⟨h1, h2, h3, h4, h5, h6⟩ := h
  have hp : upd pt a (fr_pr N blk) = pt := by
    funext j
    by_cases e : j = a
    · subst e
      rw [pk_us, h9]
    · rw [pk_un e]
  rw [hp]
  have hn : fr_nN N blk = false := by
    cases hc : fr_nN N blk
    · rfl
    · obtain ⟨i, i1, i2, i3⟩ := h5 a h7 h8
      have hq := (fr_pr_inj (hN _ (by omega)) (hN _ (by omega)) (hN _ (by omega)) (hN _ (by omega))).mp (i3.symm.trans h9)
      exact absurd hq ((fr_nN_iff.mp hc).2 i i1)
  refine ⟨fun i hi => ?_, fun i g7 g8 => ?_, ?_, fun i hi => ?_, fun b a1 a2 => ?_, h6⟩
  · by_cases e : i = blk
    · subst e
      rw [pk_us, va_up_self]
    · rw [pk_un e, va_up_ne _ _ e]
      exact h1 i (by omega)
  · rw [pk_un (by omega)]
    exact h2 i (by omega) g8
  · show fd = fb + (fr_cn (fr_nN N) blk + (if fr_nN N blk = true then 1 else 0))
    rw [hn]
    simpa using h3
  · by_cases e : i = blk
    · subst e
      rw [va_up_self]
      exact ⟨fun z => absurd z he, fun _ => ⟨a, h7, h8, rfl, h9⟩⟩
    · rw [va_up_ne _ _ e]
      exact h4 i (by omega)
  · obtain ⟨i, i1, i2⟩ := h5 b a1 a2
    exact ⟨i, by omega, i2⟩
theorem fr_J_new {K : Nat} {N N' : Nat → Nat} {fb blk fd : Nat} {nm pt : Nat → Int32} (hN : ∀ i, i < 2 * K → N i < 1024) (hK : blk < K) (h : fr_J K N N' fb blk fd nm pt) (he : N (2 * blk) ≠ N (2 * blk + 1)) (h9 : ∀ a, fb ≤ a → a < fd → pt a ≠ fr_pr N blk) :
    fr_J K N (va_up N' blk (2 + fd)) fb (blk + 1) (fd + 1) (upd nm blk (nI (2 + fd))) (upd pt fd (fr_pr N blk)) := by
  obtain ⟨h1, h2, h3, h4, h5, h6⟩ := h
  have hn : fr_nN N blk = true := by
    refine fr_nN_iff.mpr ⟨he, fun i hi hq => ?_⟩
    have hne : N (2 * i) ≠ N (2 * i + 1) := by rw [hq.1, hq.2]; exact he
    obtain ⟨a, a1, a2, -, a4⟩ := (h4 i hi).2 hne
    exact h9 a a1 a2 (a4.trans ((fr_pr_inj (hN _ (by omega)) (hN _ (by omega)) (hN _ (by omega)) (hN _ (by omega))).mpr hq))
  refine ⟨fun i hi => ?_, fun i g7 g8 => ?_, ?_, fun i hi => ?_, fun b a1 a2 => ?_, fun a b a1 a2 b1 b2 hab => ?_⟩
  · by_cases e : i = blk
    · subst e
      rw [pk_us, va_up_self]
    · rw [pk_un e, va_up_ne _ _ e]
      exact h1 i (by omega)
  · rw [pk_un (by omega)]
    exact h2 i (by omega) g8
  · show fd + 1 = fb + (fr_cn (fr_nN N) blk + (if fr_nN N blk = true then 1 else 0))
    rw [hn]
    simp
    omega
  · by_cases e : i = blk
    · subst e
      rw [va_up_self]
      exact ⟨fun z => absurd z he, fun _ => ⟨fd, by omega, by omega, rfl, pk_us⟩⟩
    · rw [va_up_ne _ _ e]
      refine ⟨(h4 i (by omega)).1, fun z => ?_⟩
      obtain ⟨a, a1, a2, a3, a4⟩ := (h4 i (by omega)).2 z
      exact ⟨a, a1, by omega, a3, by rw [pk_un (by omega)]; exact a4⟩
  · by_cases e : b = fd
    · subst e
      exact ⟨blk, by omega, he, pk_us⟩
    · obtain ⟨i, i1, i2, i3⟩ := h5 b a1 (by omega)
      exact ⟨i, by omega, i2, by rw [pk_un e]; exact i3⟩
  · by_cases ea : a = fd
    · by_cases eb : b = fd
      · rw [ea, eb]
      · rw [ea, pk_us, pk_un eb] at hab
        exact absurd hab.symm (h9 b b1 (by omega))
    · by_cases eb : b = fd
      · rw [eb, pk_us, pk_un ea] at hab
        exact absurd hab (h9 a a1 (by omega))
      · rw [pk_un ea, pk_un eb] at hab
        exact h6 a b a1 (by omega) b1 (by omega) hab
theorem fr_J_end {K : Nat} {N N' : Nat → Nat} {fb fd : Nat} {nm pt : Nat → Int32} (hN : ∀ i, i < 2 * K → N i < fb + 2) (hb : fb + 2 ≤ 1024) (h : fr_J K N N' fb K fd nm pt) :
    (∀ i, i < K → N' i < fd + 2) ∧ ∀ i j, i < K → j < K → (N' i = N' j ↔ N (2 * i) = N (2 * j) ∧ N (2 * i + 1) = N (2 * j + 1)) := by
  obtain ⟨h1, h2, h3, h4, h5, h6⟩ := h
  refine ⟨fun i hi => ?_, fun i j hi hj => ?_⟩
  · by_cases e : N (2 * i) = N (2 * i + 1)
    · have a1 := (h4 i hi).1 e
      have a2 := hN (2 * i) (by omega)
      omega
    · obtain ⟨a, a1, a2, a3, -⟩ := (h4 i hi).2 e
      omega
  · have b1 := hN (2 * i) (by omega)
    have b2 := hN (2 * i + 1) (by omega)
    have b3 := hN (2 * j) (by omega)
    have b4 := hN (2 * j + 1) (by omega)
    by_cases ei : N (2 * i) = N (2 * i + 1)
    · have a1 := (h4 i hi).1 ei
      by_cases ej : N (2 * j) = N (2 * j + 1)
      · have a2 := (h4 j hj).1 ej
        omega
      · obtain ⟨a, c1, c2, c3, -⟩ := (h4 j hj).2 ej
        omega
    · obtain ⟨a, c1, c2, c3, c4⟩ := (h4 i hi).2 ei
      by_cases ej : N (2 * j) = N (2 * j + 1)
      · have a2 := (h4 j hj).1 ej
        omega
      · obtain ⟨b, d1, d2, d3, d4⟩ := (h4 j hj).2 ej
        have q := @fr_pr_inj N i j (by omega) (by omega) (by omega) (by omega)
        rw [← q, ← c4, ← d4]
        constructor
        · intro z
          rw [show a = b by omega]
        · intro z
          have := h6 a b c1 c2 d1 d2 z
          omega
/-! what a name means -/
def fr_NP (f : Nat → Bool) (V d fb : Nat) (N : Nat → Nat) : Prop := (∀ i, i < 2 ^ (V - d) → N i < fb + 2) ∧ ∀ i j, i < 2 ^ (V - d) → j < 2 ^ (V - d) → (N i = N j ↔ fr_al f (i * 2 ^ d) (j * 2 ^ d) (2 ^ d) = true)
theorem fr_al_two {f : Nat → Bool} {x y h : Nat} : fr_al f x y (h + h) = true ↔ fr_al f x y h = true ∧ fr_al f (x + h) (y + h) h = true := by
  rw [fr_al_iff, fr_al_iff, fr_al_iff]
  constructor
  · intro z
    refine ⟨fun k hk => z k (by omega), fun k hk => ?_⟩
    rw [Nat.add_assoc, Nat.add_assoc]
    exact z (h + k) (by omega)
  · intro z k hk
    by_cases e : k < h
    · exact z.1 k e
    · have w := z.2 (k - h) (by omega)
      rw [show x + h + (k - h) = x + k by omega, show y + h + (k - h) = y + k by omega] at w
      exact w
theorem fr_NP_step {f : Nat → Bool} {V d fb fd : Nat} {N N' : Nat → Nat} (hd : d + 1 ≤ V) (h : fr_NP f V d fb N) (h1 : ∀ i, i < 2 ^ (V - d - 1) → N' i < fd + 2)
    (h2 : ∀ i j, i < 2 ^ (V - d - 1) → j < 2 ^ (V - d - 1) → (N' i = N' j ↔ N (2 * i) = N (2 * j) ∧ N (2 * i + 1) = N (2 * j + 1))) : fr_NP f V (d + 1) fd N' ∧ ∀ j, j < 2 ^ (V - d - 1) → fr_nN N j = fr_nw f (2 ^ (d + 1)) j := by
  have e : 2 ^ (V - d) = 2 ^ (V - d - 1) * 2 := by
    rw [← Nat.pow_succ]
    congr 1
    omega
  have e0 : V - (d + 1) = V - d - 1 := by omega
  have ew : 2 ^ (d + 1) = 2 ^ d + 2 ^ d := by rw [Nat.pow_succ]; omega
  have key : ∀ i j, i < 2 ^ (V - d - 1) → j < 2 ^ (V - d - 1) → ((N (2 * i) = N (2 * j) ∧ N (2 * i + 1) = N (2 * j + 1)) ↔ fr_al f (i * 2 ^ (d + 1)) (j * 2 ^ (d + 1)) (2 ^ (d + 1)) = true) := by
    intro i j hi hj
    rw [h.2 (2 * i) (2 * j) (by omega) (by omega), h.2 (2 * i + 1) (2 * j + 1) (by omega) (by omega), ew, fr_al_two]
    have m1 : ∀ z, 2 * z * 2 ^ d = z * (2 ^ d + 2 ^ d) := fun z => by rw [Nat.mul_add, Nat.mul_comm 2 z, Nat.mul_assoc, Nat.two_mul, Nat.mul_add]
    have m2 : ∀ z, (2 * z + 1) * 2 ^ d = z * (2 ^ d + 2 ^ d) + 2 ^ d := fun z => by rw [Nat.add_mul, m1, Nat.one_mul]
    rw [m1, m1, m2, m2]
  refine ⟨⟨by rw [e0]; exact h1, fun i j hi hj => ?_⟩, fun j hj => ?_⟩
  · rw [e0] at hi hj
    rw [h2 i j hi hj]
    exact key i j hi hj
  · have hv : fr_al f (j * 2 ^ (d + 1)) (j * 2 ^ (d + 1) + 2 ^ (d + 1) / 2) (2 ^ (d + 1) / 2) = true ↔ N (2 * j) = N (2 * j + 1) := by
      rw [h.2 (2 * j) (2 * j + 1) (by omega) (by omega)]
      have w2 : 2 ^ (d + 1) / 2 = 2 ^ d := by omega
      have m1 : 2 * j * 2 ^ d = j * 2 ^ (d + 1) := by rw [ew, Nat.mul_add, Nat.mul_comm 2 j, Nat.mul_assoc, Nat.two_mul, Nat.mul_add]
      have m2 : (2 * j + 1) * 2 ^ d = j * 2 ^ (d + 1) + 2 ^ d := by rw [Nat.add_mul, m1, Nat.one_mul]
      rw [w2, m1, m2]
    rw [Bool.eq_iff_iff, fr_nN_iff]
    unfold fr_nw
    rw [Bool.and_eq_true, decide_eq_true_iff, Bool.not_eq_true', ← Bool.not_eq_true, hv]
    constructor
    · rintro ⟨a, b⟩
      refine ⟨a, fun i hi => ?_⟩
      rw [← Bool.not_eq_true, ← key j i hj (by omega)]
      exact fun z => b i hi ⟨z.1.symm, z.2.symm⟩
    · rintro ⟨a, b⟩
      refine ⟨a, fun i hi z => ?_⟩
      have w := b i hi
      rw [← Bool.not_eq_true, ← key j i hj (by omega)] at w
      exact w ⟨z.1.symm, z.2.symm⟩
theorem fr_NP_0 {f : Nat → Bool} {V : Nat} : fr_NP f V 0 0 (fun x => if f x = true then 1 else 0) := by
  refine ⟨fun i _ => ?_, fun i j _ _ => ?_⟩
  · show (if f i = true then 1 else 0) < 2
    split <;> omega
  · show ((if f i = true then 1 else 0) = if f j = true then 1 else 0) ↔ _
    rw [fr_al_iff]
    have e : (∀ k, k < 2 ^ 0 → f (i * 2 ^ 0 + k) = f (j * 2 ^ 0 + k)) ↔ f i = f j := by
      constructor
      · intro z
        simpa using z 0 (by decide)
      · intro z k hk
        have : k = 0 := by omega
        subst this
        simpa using z
    rw [e]
    cases f i <;> cases f j <;> simp
end
section
/-! what each call answers and does, in words of functions: the class and the reference are both held to this -/
def fr_ok (x : Int32) (n : Nat) : Prop := ¬ x < 0 ∧ ¬ nI n ≤ x
def fr_v (x : Int32) : Nat := x.toNatClampNeg
theorem fr_v_nI {j : Nat} (h : j < 2 ^ 31) : fr_v (nI j) = j := nI_clamp h
theorem fr_ok_ex {x : Int32} {n : Nat} (hn : n < 2 ^ 31) (h : fr_ok x n) : ∃ j, j < n ∧ x = nI j := by
  rcases pk_ix x hn with a | a | a
  · exact absurd a h.1
  · exact absurd a h.2
  · exact a
theorem fr_ok_nI {j n : Nat} (h : j < n) (hn : n < 2 ^ 31) : fr_ok (nI j) n := ⟨nI_pos (by omega), nI_ge h hn⟩
def fr_okB (x : Int32) (n : Nat) : Bool := !decide (x < 0) && !decide (nI n ≤ x)
theorem fr_okB_iff {x : Int32} {n : Nat} : fr_okB x n = true ↔ fr_ok x n := by
  unfold fr_okB fr_ok
  simp
theorem fr_okB_nI {j n : Nat} (h : j < n) (hn : n < 2 ^ 31) : fr_okB (nI j) n = true := fr_okB_iff.mpr (fr_ok_nI h hn)
theorem fr_okB_no {x : Int32} {n : Nat} (h : ¬ fr_ok x n) : fr_okB x n = false := by
  cases e : fr_okB x n
  · rfl
  · exact absurd (fr_okB_iff.mp e) h
abbrev fr_F : Type := Nat → Nat → Bool
def fr_set (V : Nat) (F : fr_F) (r : Int32) (f : Nat → Bool) : Int32 × fr_F := (nI (fr_cn f (2 ^ V)), va_up F (fr_v r) f)
def fr_sLoad (V : Nat) (F : fr_F) (r what : Int32) : Int32 × fr_F :=
  if (fr_okB r 32 && (decide (what = -2) || decide (what = -1) || fr_okB what V)) = true then fr_set V F r (if what = -2 then fun _ => false else if what = -1 then fun _ => true else fun x => x.testBit (V - 1 - fr_v what)) else (-1, F)
def fr_sReckon (V : Nat) (F : fr_F) (op r a b : Int32) : Int32 × fr_F :=
  if (fr_okB op 5 && fr_okB r 32 && fr_okB a 32 && fr_okB b 32) = true then fr_set V F r (fun x => fr_co (fr_v op) (F (fr_v a) x) (F (fr_v b) x)) else (-1, F)
def fr_sNot (V : Nat) (F : fr_F) (r a : Int32) : Int32 × fr_F :=
  if (fr_okB r 32 && fr_okB a 32) = true then fr_set V F r (fun x => !F (fr_v a) x) else (-1, F)
def fr_sWith (V : Nat) (F : fr_F) (r a v : Int32) (one : Bool) : Int32 × fr_F :=
  if (fr_okB r 32 && fr_okB a 32 && fr_okB v V) = true then fr_set V F r (fun x => F (fr_v a) (fr_sb x (V - 1 - fr_v v) one)) else (-1, F)
def fr_sBind (V : Nat) (F : fr_F) (r a v : Int32) (all : Bool) : Int32 × fr_F :=
  if (fr_okB r 32 && fr_okB a 32 && fr_okB v V) = true then fr_set V F r (fun x => if all = true then F (fr_v a) x && F (fr_v a) (x ^^^ 2 ^ (V - 1 - fr_v v)) else F (fr_v a) x || F (fr_v a) (x ^^^ 2 ^ (V - 1 - fr_v v))) else (-1, F)
def fr_sPut (V : Nat) (F : fr_F) (r a v b : Int32) : Int32 × fr_F :=
  if (fr_okB r 32 && fr_okB a 32 && fr_okB v V && fr_okB b 32) = true then fr_set V F r (fun x => F (fr_v a) (fr_sb x (V - 1 - fr_v v) (F (fr_v b) x))) else (-1, F)
def fr_sMany (V : Nat) (F : fr_F) (r : Int32) : Int32 := if fr_okB r 32 = true then nI (fr_cn (F (fr_v r)) (2 ^ V)) else -1
/-- from place i on, c seen: n places more -/
def fr_nthS (f : Nat → Bool) (k : Int32) : Nat → Nat → Nat → Int32
  | 0, _, _ => -2
  | n + 1, i, c => if f i = true then (if nI c = k then nI i else fr_nthS f k n (i + 1) (c + 1)) else fr_nthS f k n (i + 1) c
def fr_sNth (V : Nat) (F : fr_F) (r k : Int32) : Int32 := if fr_okB r 32 = true then fr_nthS (F (fr_v r)) k (2 ^ V) 0 0 else -1
def fr_sValue (V : Nat) (F : fr_F) (r x : Int32) : Int32 := if (fr_okB r 32 && fr_okB x (2 ^ V)) = true then fr_bi (F (fr_v r) (fr_v x)) else -1
def fr_eqB (V : Nat) (f g : Nat → Bool) : Bool := decide (∀ x, x < 2 ^ V → f x = g x)
def fr_sSame (V : Nat) (F : fr_F) (a b : Int32) : Int32 := if (fr_okB a 32 && fr_okB b 32) = true then fr_bi (fr_eqB V (F (fr_v a)) (F (fr_v b))) else 0
def fr_sSize (V : Nat) (F : fr_F) (r : Int32) : Int32 := if fr_okB r 32 = true then nI (fr_sz (F (fr_v r)) V V) else -1
/-- the bits of the first n variables that matter -/
def fr_mt (V : Nat) (f : Nat → Bool) : Nat → Nat
  | 0 => 0
  | v + 1 => fr_mt V f v + (if fr_eqB V f (fun x => f (x ^^^ 2 ^ (V - 1 - v))) = true then 0 else 2 ^ v)
def fr_sMatters (V : Nat) (F : fr_F) (r : Int32) : Int32 := if fr_okB r 32 = true then nI (fr_mt V (F (fr_v r)) V) else -1
theorem fr_mt_lt (V : Nat) (f : Nat → Bool) : ∀ v, fr_mt V f v < 2 ^ v
  | 0 => by show 0 < 1; omega
  | v + 1 => by
    have h := fr_mt_lt V f v
    show fr_mt V f v + (if fr_eqB V f (fun x => f (x ^^^ 2 ^ (V - 1 - v))) = true then 0 else 2 ^ v) < 2 ^ (v + 1)
    rw [Nat.pow_succ]
    split <;> omega
/-- the class's rows hold F -/
def fr_XR (V : Nat) (F : fr_F) (ro : Nat → Nat → Int64) : Prop := ∀ j, j < 32 → fr_R V (F j) (ro j)
theorem fr_XR_set {V j : Nat} {F : fr_F} {ro : Nat → Nat → Int64} {f : Nat → Bool} {mk g : Nat → Int64} (h : fr_XR V F ro) (hf : fr_R V f mk) : fr_XR V (va_up F j f) (va_up ro j (va_cpy mk g 0 0 (fr_wn V))) := by
  intro i hi
  by_cases e : i = j
  · subst e
    rw [va_up_self, va_up_self]
    exact fr_R_congr hf (fun _ _ => rfl) (fun w hw => by rw [pk_cpy_in (Nat.zero_le _) (by omega)]; congr 1; omega)
  · rw [va_up_ne _ _ e, va_up_ne _ _ e]
    exact h i hi
/-- the reference's row holds F -/
def fr_MR (V : Nat) (F : fr_F) (row : Nat → Int32) : Prop := ∀ j x, j < 32 → x < 2 ^ V → row (512 * j + x) = fr_bi (F j x)
theorem fr_bi_ne0 {b : Bool} : fr_bi b = 0 ↔ b = false := by cases b <;> simp [fr_bi]
theorem fr_bi_inj {a b : Bool} : fr_bi a = fr_bi b ↔ a = b := by cases a <;> cases b <;> simp [fr_bi]
theorem fr_bi_nar (b : Bool) : vp_nar .boolean (fr_bi b) = fr_bi b := by cases b <;> rfl
theorem fr_inc (i : Nat) : nI i + Int32.ofInt 1 = nI (i + 1) := nI_1 i
theorem fr_dec (i : Nat) : nI (i + 1) + Int32.ofInt (-1) = nI i := pk_m1 i
theorem fr_pow31 {V : Nat} (h : V < 10) : 2 ^ V < 2 ^ 31 := Nat.pow_lt_pow_right (by decide) (by omega)
theorem fr_shl1 : ∀ b, b < 10 → (1 : Int32) <<< (nI b &&& 31) = nI (2 ^ b) := by decide +kernel
theorem fr_pow512 {V : Nat} (h : V < 10) : 2 ^ V ≤ 512 := show 2 ^ V ≤ 2 ^ 9 from Nat.pow_le_pow_right (by decide) (by omega)
end
section
-- ===== PART A: goes FIRST, ahead of the names: the tables' words, and 'selects' of the private methods out of them =====
/-- a private method of a class that the tables say can be made, by its rows of tables_1 -/
def lw_okq (q : MethodName × Nat) : Prop := (q.1.cls ≠ "java/lang/invoke/MethodHandle" ∧ q.1.cls ≠ "java/lang/invoke/VarHandle") ∧ Cond.instantiable q.1.cls q.2 ∈ tables_1 ∧ Cond.privateMethod q.1 ∈ tables_1 ∧ Cond.instanceMethod q.1 ∈ tables_1
theorem lw_p0 : lw_okq (⟨"FunctionRoom", "isVariable", "(I)Z"⟩, 8) := ⟨⟨by decide +kernel, by decide +kernel⟩, List.mem_of_getElem? (i := 7) (by decide +kernel), List.mem_of_getElem? (i := 58) (by decide +kernel), List.mem_of_getElem? (i := 59) (by decide +kernel)⟩
theorem lw_p1 : lw_okq (⟨"FunctionRoom", "placesWhereOne", "(II)J"⟩, 8) := ⟨⟨by decide +kernel, by decide +kernel⟩, List.mem_of_getElem? (i := 7) (by decide +kernel), List.mem_of_getElem? (i := 62) (by decide +kernel), List.mem_of_getElem? (i := 63) (by decide +kernel)⟩
theorem lw_p2 : lw_okq (⟨"FunctionRoom", "bitOf", "(I)I"⟩, 8) := ⟨⟨by decide +kernel, by decide +kernel⟩, List.mem_of_getElem? (i := 7) (by decide +kernel), List.mem_of_getElem? (i := 66) (by decide +kernel), List.mem_of_getElem? (i := 67) (by decide +kernel)⟩
theorem lw_p3 : lw_okq (⟨"FunctionRoom", "keep", "(I)I"⟩, 8) := ⟨⟨by decide +kernel, by decide +kernel⟩, List.mem_of_getElem? (i := 7) (by decide +kernel), List.mem_of_getElem? (i := 72) (by decide +kernel), List.mem_of_getElem? (i := 73) (by decide +kernel)⟩
theorem lw_p4 : lw_okq (⟨"FunctionRoom", "count", "([J)I"⟩, 8) := ⟨⟨by decide +kernel, by decide +kernel⟩, List.mem_of_getElem? (i := 7) (by decide +kernel), List.mem_of_getElem? (i := 79) (by decide +kernel), List.mem_of_getElem? (i := 80) (by decide +kernel)⟩
theorem lw_p5 : lw_okq (⟨"FunctionRoom", "narrowed", "([JIZI)J"⟩, 8) := ⟨⟨by decide +kernel, by decide +kernel⟩, List.mem_of_getElem? (i := 7) (by decide +kernel), List.mem_of_getElem? (i := 104) (by decide +kernel), List.mem_of_getElem? (i := 105) (by decide +kernel)⟩
theorem lw_p6 : lw_okq (⟨"FunctionRoom", "turned", "([JII)J"⟩, 8) := ⟨⟨by decide +kernel, by decide +kernel⟩, List.mem_of_getElem? (i := 7) (by decide +kernel), List.mem_of_getElem? (i := 108) (by decide +kernel), List.mem_of_getElem? (i := 109) (by decide +kernel)⟩
theorem lw_p7 : lw_okq (⟨"FunctionRoom", "joinHalves", "(II)I"⟩, 8) := ⟨⟨by decide +kernel, by decide +kernel⟩, List.mem_of_getElem? (i := 7) (by decide +kernel), List.mem_of_getElem? (i := 143) (by decide +kernel), List.mem_of_getElem? (i := 144) (by decide +kernel)⟩
theorem lw_p8 : lw_okq (⟨"FunctionRoom", "placeOfPart", "(III)I"⟩, 8) := ⟨⟨by decide +kernel, by decide +kernel⟩, List.mem_of_getElem? (i := 7) (by decide +kernel), List.mem_of_getElem? (i := 147) (by decide +kernel), List.mem_of_getElem? (i := 148) (by decide +kernel)⟩
theorem lw_p9 : lw_okq (⟨"FunctionRoom", "dependsOn", "([JI)Z"⟩, 8) := ⟨⟨by decide +kernel, by decide +kernel⟩, List.mem_of_getElem? (i := 7) (by decide +kernel), List.mem_of_getElem? (i := 155) (by decide +kernel), List.mem_of_getElem? (i := 156) (by decide +kernel)⟩
theorem lw_p10 : lw_okq (⟨"FunctionRoomModel", "bit", "(I)I"⟩, 4) := ⟨⟨by decide +kernel, by decide +kernel⟩, List.mem_of_getElem? (i := 162) (by decide +kernel), List.mem_of_getElem? (i := 189) (by decide +kernel), List.mem_of_getElem? (i := 190) (by decide +kernel)⟩
theorem lw_p11 : lw_okq (⟨"FunctionRoomModel", "keep", "(I)I"⟩, 4) := ⟨⟨by decide +kernel, by decide +kernel⟩, List.mem_of_getElem? (i := 162) (by decide +kernel), List.mem_of_getElem? (i := 193) (by decide +kernel), List.mem_of_getElem? (i := 194) (by decide +kernel)⟩
theorem lw_p12 : lw_okq (⟨"FunctionRoomModel", "var", "(I)Z"⟩, 4) := ⟨⟨by decide +kernel, by decide +kernel⟩, List.mem_of_getElem? (i := 162) (by decide +kernel), List.mem_of_getElem? (i := 213) (by decide +kernel), List.mem_of_getElem? (i := 214) (by decide +kernel)⟩
theorem lw_p13 : lw_okq (⟨"FunctionRoomModel", "alike", "(IIII)Z"⟩, 4) := ⟨⟨by decide +kernel, by decide +kernel⟩, List.mem_of_getElem? (i := 162) (by decide +kernel), List.mem_of_getElem? (i := 242) (by decide +kernel), List.mem_of_getElem? (i := 243) (by decide +kernel)⟩
def lw_privs_1 : List (MethodName × Nat) := [(⟨"FunctionRoom", "isVariable", "(I)Z"⟩, 8), (⟨"FunctionRoom", "placesWhereOne", "(II)J"⟩, 8), (⟨"FunctionRoom", "bitOf", "(I)I"⟩, 8), (⟨"FunctionRoom", "keep", "(I)I"⟩, 8), (⟨"FunctionRoom", "count", "([J)I"⟩, 8), (⟨"FunctionRoom", "narrowed", "([JIZI)J"⟩, 8), (⟨"FunctionRoom", "turned", "([JII)J"⟩, 8), (⟨"FunctionRoom", "joinHalves", "(II)I"⟩, 8), (⟨"FunctionRoom", "placeOfPart", "(III)I"⟩, 8), (⟨"FunctionRoom", "dependsOn", "([JI)Z"⟩, 8), (⟨"FunctionRoomModel", "bit", "(I)I"⟩, 4), (⟨"FunctionRoomModel", "keep", "(I)I"⟩, 4), (⟨"FunctionRoomModel", "var", "(I)Z"⟩, 4), (⟨"FunctionRoomModel", "alike", "(IIII)Z"⟩, 4)]
theorem lw_r1 : ∀ q ∈ lw_privs_1, lw_okq q := List.forall_mem_cons.mpr ⟨lw_p0, List.forall_mem_cons.mpr ⟨lw_p1, List.forall_mem_cons.mpr ⟨lw_p2, List.forall_mem_cons.mpr ⟨lw_p3, List.forall_mem_cons.mpr ⟨lw_p4, List.forall_mem_cons.mpr ⟨lw_p5, List.forall_mem_cons.mpr ⟨lw_p6, List.forall_mem_cons.mpr ⟨lw_p7, List.forall_mem_cons.mpr ⟨lw_p8, List.forall_mem_cons.mpr ⟨lw_p9, List.forall_mem_cons.mpr ⟨lw_p10, List.forall_mem_cons.mpr ⟨lw_p11, List.forall_mem_cons.mpr ⟨lw_p12, List.forall_mem_cons.mpr ⟨lw_p13, fun _ h => absurd h List.not_mem_nil⟩⟩⟩⟩⟩⟩⟩⟩⟩⟩⟩⟩⟩⟩
def lw_privs : List (MethodName × Nat) := lw_privs_1
def lw_tbl : List Cond := k2_sels lw_privs ++ tables_1
theorem lw_privs_ok : ∀ q ∈ lw_privs, lw_okq q := lw_r1
def RX0 : String := "FunctionRoom"
def TX0 : u_T := fun k => match k with
  | 0 => ("FunctionRoom", "variables", "I", true)
  | 1 => ("FunctionRoom", "assignments", "I", true)
  | 2 => ("FunctionRoom", "words", "I", true)
  | 3 => ("FunctionRoom", "places", "J", true)
  | 4 => ("FunctionRoom", "rows", "[[J", true)
  | 5 => ("FunctionRoom", "made", "[J", true)
  | 6 => ("FunctionRoom", "names", "[I", true)
  | _ => ("FunctionRoom", "parts", "[I", true)
def tyX0 : Nat → FieldType := fun k => match k with
  | 0 => .int
  | 1 => .int
  | 2 => .int
  | 3 => .long
  | 4 => .array (.array .long)
  | 5 => .array .long
  | 6 => .array .int
  | _ => .array .int
theorem nmX0 : ∀ a, a < 8 → ∀ b, b < 8 → a ≠ b → (TX0 a).2.1 ≠ (TX0 b).2.1 := by decide +kernel
theorem tyX0_ok : ∀ k, k < 8 → parseFieldDescriptor (TX0 k).2.2.1 = some (tyX0 k) := by decide +kernel
abbrev cX0_init : ByteArray := prog_1_method_1_code
def yX0_init : MethodName := ⟨RX0, "<init>", "(I)V"⟩
abbrev cX0_load : ByteArray := prog_1_method_2_code
def yX0_load : MethodName := ⟨RX0, "load", "(II)I"⟩
abbrev cX0_reckon : ByteArray := prog_1_method_3_code
def yX0_reckon : MethodName := ⟨RX0, "reckon", "(IIII)I"⟩
abbrev cX0_not : ByteArray := prog_1_method_4_code
def yX0_not : MethodName := ⟨RX0, "not", "(II)I"⟩
abbrev cX0_with : ByteArray := prog_1_method_5_code
def yX0_with : MethodName := ⟨RX0, "with", "(IIIZ)I"⟩
abbrev cX0_bind : ByteArray := prog_1_method_6_code
def yX0_bind : MethodName := ⟨RX0, "bind", "(IIIZ)I"⟩
abbrev cX0_put : ByteArray := prog_1_method_7_code
def yX0_put : MethodName := ⟨RX0, "put", "(IIII)I"⟩
abbrev cX0_many : ByteArray := prog_1_method_8_code
def yX0_many : MethodName := ⟨RX0, "many", "(I)I"⟩
abbrev cX0_nth : ByteArray := prog_1_method_9_code
def yX0_nth : MethodName := ⟨RX0, "nth", "(II)I"⟩
abbrev cX0_value : ByteArray := prog_1_method_10_code
def yX0_value : MethodName := ⟨RX0, "value", "(II)I"⟩
abbrev cX0_same : ByteArray := prog_1_method_11_code
def yX0_same : MethodName := ⟨RX0, "same", "(II)Z"⟩
abbrev cX0_size : ByteArray := prog_1_method_12_code
def yX0_size : MethodName := ⟨RX0, "size", "(I)I"⟩
abbrev cX0_matters : ByteArray := prog_1_method_13_code
def yX0_matters : MethodName := ⟨RX0, "matters", "(I)I"⟩
abbrev cX0_isRegister : ByteArray := prog_1_method_14_code
def yX0_isRegister : MethodName := ⟨RX0, "isRegister", "(I)Z"⟩
abbrev cX0_isVariable : ByteArray := prog_1_method_15_code
def yX0_isVariable : MethodName := ⟨RX0, "isVariable", "(I)Z"⟩
abbrev cX0_keep : ByteArray := prog_1_method_16_code
def yX0_keep : MethodName := ⟨RX0, "keep", "(I)I"⟩
abbrev cX0_count : ByteArray := prog_1_method_17_code
def yX0_count : MethodName := ⟨RX0, "count", "([J)I"⟩
abbrev cX0_valueAt : ByteArray := prog_1_method_18_code
def yX0_valueAt : MethodName := ⟨RX0, "valueAt", "([JI)I"⟩
abbrev cX0_combined : ByteArray := prog_1_method_19_code
def yX0_combined : MethodName := ⟨RX0, "combined", "(IJJ)J"⟩
abbrev cX0_bitOf : ByteArray := prog_1_method_20_code
def yX0_bitOf : MethodName := ⟨RX0, "bitOf", "(I)I"⟩
abbrev cX0_placesWhereOne : ByteArray := prog_1_method_21_code
def yX0_placesWhereOne : MethodName := ⟨RX0, "placesWhereOne", "(II)J"⟩
abbrev cX0_turned : ByteArray := prog_1_method_22_code
def yX0_turned : MethodName := ⟨RX0, "turned", "([JII)J"⟩
abbrev cX0_narrowed : ByteArray := prog_1_method_23_code
def yX0_narrowed : MethodName := ⟨RX0, "narrowed", "([JIZI)J"⟩
abbrev cX0_dependsOn : ByteArray := prog_1_method_24_code
def yX0_dependsOn : MethodName := ⟨RX0, "dependsOn", "([JI)Z"⟩
abbrev cX0_joinHalves : ByteArray := prog_1_method_25_code
def yX0_joinHalves : MethodName := ⟨RX0, "joinHalves", "(II)I"⟩
abbrev cX0_placeOfPart : ByteArray := prog_1_method_26_code
def yX0_placeOfPart : MethodName := ⟨RX0, "placeOfPart", "(III)I"⟩
def RX1 : String := "FunctionRoomModel"
def TX1 : u_T := fun k => match k with
  | 0 => ("FunctionRoomModel", "variables", "I", true)
  | 1 => ("FunctionRoomModel", "all", "I", true)
  | 2 => ("FunctionRoomModel", "row", "[Z", true)
  | _ => ("FunctionRoomModel", "made", "[Z", true)
def tyX1 : Nat → FieldType := fun k => match k with
  | 0 => .int
  | 1 => .int
  | 2 => .array .boolean
  | _ => .array .boolean
theorem nmX1 : ∀ a, a < 4 → ∀ b, b < 4 → a ≠ b → (TX1 a).2.1 ≠ (TX1 b).2.1 := by decide +kernel
theorem tyX1_ok : ∀ k, k < 4 → parseFieldDescriptor (TX1 k).2.2.1 = some (tyX1 k) := by decide +kernel
abbrev cX1_init : ByteArray := prog_3_method_1_code
def yX1_init : MethodName := ⟨RX1, "<init>", "(I)V"⟩
abbrev cX1_is : ByteArray := prog_3_method_2_code
def yX1_is : MethodName := ⟨RX1, "is", "(I)Z"⟩
abbrev cX1_var : ByteArray := prog_3_method_3_code
def yX1_var : MethodName := ⟨RX1, "var", "(I)Z"⟩
abbrev cX1_bit : ByteArray := prog_3_method_4_code
def yX1_bit : MethodName := ⟨RX1, "bit", "(I)I"⟩
abbrev cX1_keep : ByteArray := prog_3_method_5_code
def yX1_keep : MethodName := ⟨RX1, "keep", "(I)I"⟩
abbrev cX1_load : ByteArray := prog_3_method_6_code
def yX1_load : MethodName := ⟨RX1, "load", "(II)I"⟩
abbrev cX1_reckon : ByteArray := prog_3_method_7_code
def yX1_reckon : MethodName := ⟨RX1, "reckon", "(IIII)I"⟩
abbrev cX1_not : ByteArray := prog_3_method_8_code
def yX1_not : MethodName := ⟨RX1, "not", "(II)I"⟩
abbrev cX1_with : ByteArray := prog_3_method_9_code
def yX1_with : MethodName := ⟨RX1, "with", "(IIIZ)I"⟩
abbrev cX1_bind : ByteArray := prog_3_method_10_code
def yX1_bind : MethodName := ⟨RX1, "bind", "(IIIZ)I"⟩
abbrev cX1_put : ByteArray := prog_3_method_11_code
def yX1_put : MethodName := ⟨RX1, "put", "(IIII)I"⟩
abbrev cX1_many : ByteArray := prog_3_method_12_code
def yX1_many : MethodName := ⟨RX1, "many", "(I)I"⟩
abbrev cX1_nth : ByteArray := prog_3_method_13_code
def yX1_nth : MethodName := ⟨RX1, "nth", "(II)I"⟩
abbrev cX1_value : ByteArray := prog_3_method_14_code
def yX1_value : MethodName := ⟨RX1, "value", "(II)I"⟩
abbrev cX1_same : ByteArray := prog_3_method_15_code
def yX1_same : MethodName := ⟨RX1, "same", "(II)Z"⟩
def RJ13 : String := "java/lang/Long"
def TJ13 : u_T := fun k => match k with
  | _ => ("", "", "", false)
def tyJ13 : Nat → FieldType := fun k => match k with
  | _ => .int
theorem nmJ13 : ∀ a, a < 0 → ∀ b, b < 0 → a ≠ b → (TJ13 a).2.1 ≠ (TJ13 b).2.1 := by decide +kernel
theorem tyJ13_ok : ∀ k, k < 0 → parseFieldDescriptor (TJ13 k).2.2.1 = some (tyJ13 k) := by decide +kernel
abbrev cJ13_bitCount_95d88 : ByteArray := prog_4_method_50_code
def yJ13_bitCount_95d88 : MethodName := ⟨RJ13, "bitCount", "(J)I"⟩
def RJ9 : String := "java/lang/Math"
def TJ9 : u_T := fun k => match k with
  | _ => ("", "", "", false)
def tyJ9 : Nat → FieldType := fun k => match k with
  | _ => .int
theorem nmJ9 : ∀ a, a < 0 → ∀ b, b < 0 → a ≠ b → (TJ9 a).2.1 ≠ (TJ9 b).2.1 := by decide +kernel
theorem tyJ9_ok : ∀ k, k < 0 → parseFieldDescriptor (TJ9 k).2.2.1 = some (tyJ9 k) := by decide +kernel
abbrev cJ9_max_7cf53 : ByteArray := prog_5_method_65_code
def yJ9_max_7cf53 : MethodName := ⟨RJ9, "max", "(II)I"⟩
abbrev cJ9_min_7cf53 : ByteArray := prog_5_method_69_code
def yJ9_min_7cf53 : MethodName := ⟨RJ9, "min", "(II)I"⟩
def RL : String := "FunctionRoomLaw"
abbrev cL_cell : ByteArray := method_2_code
def yL_cell : MethodName := ⟨RL, "cell", "([II)I"⟩
abbrev cL_law : ByteArray := code
def yL_law : MethodName := ⟨RL, "law", "([I)Z"⟩
abbrev cX1_alike : ByteArray := prog_3_method_16_code
def yX1_alike : MethodName := ⟨RX1, "alike", "(IIII)Z"⟩
abbrev cX1_size : ByteArray := prog_3_method_17_code
def yX1_size : MethodName := ⟨RX1, "size", "(I)I"⟩
abbrev cX1_matters : ByteArray := prog_3_method_18_code
def yX1_matters : MethodName := ⟨RX1, "matters", "(I)I"⟩
abbrev vwCl : List vw_C := [(RX0, TX0, 8), (RX1, TX1, 4)]
abbrev TF : u_T := TX0
abbrev TM : u_T := TX1
abbrev CIF : Nat := 0
abbrev CIM : Nat := 1
theorem TF_decl (k : Nat) : (TF k).1 = "FunctionRoom" := by
  show (TX0 k).1 = _
  unfold TX0
  split <;> rfl
theorem TM_decl (k : Nat) : (TM k).1 = "FunctionRoomModel" := by
  show (TX1 k).1 = _
  unfold TX1
  split <;> rfl
/-- the words that every method gets -/
def WA : List Cond := lw_tbl.filter goodWord
theorem WA_good : ∀ w ∈ WA, (w.onTables && w.keeps) = true ∨ ∃ ty, w = .arrayClass ty := fun w h => good_of_word (List.mem_filter.mp h).2
theorem WA_tbl : ∀ w ∈ WA, w ∈ lw_tbl := fun w h => (List.mem_filter.mp h).1
theorem mW {w : Cond} (i : Nat) (h : tables_1[i]? = some w) (hg : goodWord w = true) : w ∈ WA := List.mem_filter.mpr ⟨List.mem_append_right _ (List.mem_of_getElem? h), hg⟩
theorem mP {w : Cond} (i : Nat) (h : (k2_sels lw_privs)[i]? = some w) (hg : goodWord w = true) : w ∈ WA := List.mem_filter.mpr ⟨List.mem_append_left _ (List.mem_of_getElem? h), hg⟩
theorem mF_variables : Cond.fieldLink "FunctionRoom" 18 "FunctionRoom" "variables" "I" ∈ WA := mW 23 rfl rfl
theorem mF_assignments : Cond.fieldLink "FunctionRoom" 22 "FunctionRoom" "assignments" "I" ∈ WA := mW 24 rfl rfl
theorem mF_words : Cond.fieldLink "FunctionRoom" 25 "FunctionRoom" "words" "I" ∈ WA := mW 25 rfl rfl
theorem mF_places : Cond.fieldLink "FunctionRoom" 30 "FunctionRoom" "places" "J" ∈ WA := mW 26 rfl rfl
theorem mF_rows : Cond.fieldLink "FunctionRoom" 36 "FunctionRoom" "rows" "[[J" ∈ WA := mW 27 rfl rfl
theorem mF_made : Cond.fieldLink "FunctionRoom" 39 "FunctionRoom" "made" "[J" ∈ WA := mW 28 rfl rfl
theorem mF_names : Cond.fieldLink "FunctionRoom" 43 "FunctionRoom" "names" "[I" ∈ WA := mW 29 rfl rfl
theorem mF_parts : Cond.fieldLink "FunctionRoom" 47 "FunctionRoom" "parts" "[I" ∈ WA := mW 30 rfl rfl
theorem mF_PLACES : Cond.fieldLink "FunctionRoom" 107 "FunctionRoom" "PLACES_WITH_BIT" "[J" ∈ WA := mW 69 rfl rfl
theorem mG_variables : Cond.fieldLink "FunctionRoomModel" 16 "FunctionRoomModel" "variables" "I" ∈ WA := mW 167 rfl rfl
theorem mG_all : Cond.fieldLink "FunctionRoomModel" 20 "FunctionRoomModel" "all" "I" ∈ WA := mW 168 rfl rfl
theorem mG_row : Cond.fieldLink "FunctionRoomModel" 9 "FunctionRoomModel" "row" "[Z" ∈ WA := mW 169 rfl rfl
theorem mG_made : Cond.fieldLink "FunctionRoomModel" 13 "FunctionRoomModel" "made" "[Z" ∈ WA := mW 170 rfl rfl
theorem mC_F_28 : Cond.constantLong "FunctionRoom" 28 (-1) ∈ WA := mW 20 rfl rfl
theorem mC_L_316 : Cond.constantLong "java/lang/Long" 314 6148914691236517205 ∈ WA := mW 85 rfl rfl
theorem mC_L_318 : Cond.constantLong "java/lang/Long" 316 3689348814741910323 ∈ WA := mW 86 rfl rfl
theorem mC_L_320 : Cond.constantLong "java/lang/Long" 318 1085102592571150095 ∈ WA := mW 87 rfl rfl
theorem mM_F_arraycopy : Cond.methodLink "FunctionRoom" 92 arraycopyName ∈ WA := mW 75 rfl rfl
theorem mN_arraycopy : Cond.native arraycopyName ∈ WA := mW 77 rfl rfl
theorem mS_arraycopy : Cond.static arraycopyName ∈ WA := mW 76 rfl rfl
theorem mI_System : Cond.initialized "java/lang/System" ∈ WA := mW 4 rfl rfl
theorem mI_Math : Cond.initialized "java/lang/Math" ∈ WA := mW 2 rfl rfl
theorem mM_F_max : Cond.methodLink "FunctionRoom" 15 Lib.Math.max.name ∈ WA := mW 17 rfl rfl
theorem mM_F_min : Cond.methodLink "FunctionRoom" 9 Lib.Math.min.name ∈ WA := mW 14 rfl rfl
theorem mS_max : Cond.static Lib.Math.max.name ∈ WA := mW 18 rfl rfl
theorem mS_min : Cond.static Lib.Math.min.name ∈ WA := mW 15 rfl rfl
theorem mO_max : Cond.code Lib.Math.max.name Lib.Math.max.code 2 (some .int) ∈ WA := mW 19 rfl rfl
theorem mO_min : Cond.code Lib.Math.min.name Lib.Math.min.code 2 (some .int) ∈ WA := mW 16 rfl rfl
theorem mM_F_objinit : Cond.methodLink "FunctionRoom" 1 objectInit ∈ WA := mW 11 rfl rfl
theorem mM_M_objinit : Cond.methodLink "FunctionRoomModel" 1 objectInit ∈ WA := mW 166 rfl rfl
theorem mV_objinit : Cond.instanceMethod objectInit ∈ WA := mW 12 rfl rfl
theorem mO_objinit : Cond.code objectInit ⟨#[0xb1]⟩ 1 none ∈ WA := mW 13 rfl rfl
theorem mA_long : Cond.arrayClass .long ∈ WA := mW 48 rfl rfl
theorem mA_int : Cond.arrayClass .int ∈ WA := mW 49 rfl rfl
theorem mA_boolean : Cond.arrayClass .boolean ∈ WA := mW 180 rfl rfl
theorem mK_F : Cond.classLink "FunctionRoom" 34 "[[J" ∈ WA := mW 21 rfl rfl
theorem mI_F : Cond.initialized "FunctionRoom" ∈ WA := mW 1 rfl rfl
theorem mI_M : Cond.initialized "FunctionRoomModel" ∈ WA := mW 3 rfl rfl
theorem mI_W : Cond.initialized "FunctionRoomLaw" ∈ WA := mW 0 rfl rfl
theorem mI_L : Cond.initialized "java/lang/Long" ∈ WA := mW 5 rfl rfl
theorem hinF : ∀ w ∈ u_ws "FunctionRoom" TX0 8, w ∈ WA := by
  intro w h
  obtain ⟨k, hk, rfl⟩ := List.mem_map.mp h
  have hk := List.mem_range.mp hk
  rcases (show k = 0 ∨ k = 1 ∨ k = 2 ∨ k = 3 ∨ k = 4 ∨ k = 5 ∨ k = 6 ∨ k = 7 by omega) with rfl | rfl | rfl | rfl | rfl | rfl | rfl | rfl
  · exact mW 31 rfl rfl
  · exact mW 33 rfl rfl
  · exact mW 35 rfl rfl
  · exact mW 37 rfl rfl
  · exact mW 39 rfl rfl
  · exact mW 41 rfl rfl
  · exact mW 43 rfl rfl
  · exact mW 45 rfl rfl
theorem hinM : ∀ w ∈ u_ws "FunctionRoomModel" TX1 4, w ∈ WA := by
  intro w h
  obtain ⟨k, hk, rfl⟩ := List.mem_map.mp h
  have hk := List.mem_range.mp hk
  rcases (show k = 0 ∨ k = 1 ∨ k = 2 ∨ k = 3 by omega) with rfl | rfl | rfl | rfl
  · exact mW 171 rfl rfl
  · exact mW 173 rfl rfl
  · exact mW 175 rfl rfl
  · exact mW 177 rfl rfl
end
section
theorem dX0_init_0 : decode cX0_init 0 = .ok (.aload_n 0, 1) := by decide +kernel
theorem dX0_init_1 : decode cX0_init 1 = .ok (.invokespecial 1, 3) := by decide +kernel
theorem dX0_init_4 : decode cX0_init 4 = .ok (.aload_n 0, 1) := by decide +kernel
theorem dX0_init_5 : decode cX0_init 5 = .ok (.iconst 1, 1) := by decide +kernel
theorem dX0_init_6 : decode cX0_init 6 = .ok (.bipush 9, 2) := by decide +kernel
theorem dX0_init_8 : decode cX0_init 8 = .ok (.iload_n 1, 1) := by decide +kernel
theorem dX0_init_9 : decode cX0_init 9 = .ok (.invokestatic 9, 3) := by decide +kernel
theorem dX0_init_12 : decode cX0_init 12 = .ok (.invokestatic 15, 3) := by decide +kernel
theorem dX0_init_15 : decode cX0_init 15 = .ok (.putfield 18, 3) := by decide +kernel
theorem dX0_init_18 : decode cX0_init 18 = .ok (.aload_n 0, 1) := by decide +kernel
theorem dX0_init_19 : decode cX0_init 19 = .ok (.iconst 1, 1) := by decide +kernel
theorem dX0_init_20 : decode cX0_init 20 = .ok (.aload_n 0, 1) := by decide +kernel
theorem dX0_init_21 : decode cX0_init 21 = .ok (.getfield 18, 3) := by decide +kernel
theorem dX0_init_24 : decode cX0_init 24 = .ok (.ishl, 1) := by decide +kernel
theorem dX0_init_25 : decode cX0_init 25 = .ok (.putfield 22, 3) := by decide +kernel
theorem dX0_init_28 : decode cX0_init 28 = .ok (.aload_n 0, 1) := by decide +kernel
theorem dX0_init_29 : decode cX0_init 29 = .ok (.iconst 1, 1) := by decide +kernel
theorem dX0_init_30 : decode cX0_init 30 = .ok (.aload_n 0, 1) := by decide +kernel
theorem dX0_init_31 : decode cX0_init 31 = .ok (.getfield 22, 3) := by decide +kernel
theorem dX0_init_34 : decode cX0_init 34 = .ok (.bipush 6, 2) := by decide +kernel
theorem dX0_init_36 : decode cX0_init 36 = .ok (.ishr, 1) := by decide +kernel
theorem dX0_init_37 : decode cX0_init 37 = .ok (.invokestatic 15, 3) := by decide +kernel
theorem dX0_init_40 : decode cX0_init 40 = .ok (.putfield 25, 3) := by decide +kernel
theorem dX0_init_43 : decode cX0_init 43 = .ok (.aload_n 0, 1) := by decide +kernel
theorem dX0_init_44 : decode cX0_init 44 = .ok (.aload_n 0, 1) := by decide +kernel
theorem dX0_init_45 : decode cX0_init 45 = .ok (.getfield 18, 3) := by decide +kernel
theorem dX0_init_48 : decode cX0_init 48 = .ok (.bipush 6, 2) := by decide +kernel
theorem dX0_init_50 : decode cX0_init 50 = .ok (.if_icmp .ge 14, 3) := by decide +kernel
theorem dX0_init_53 : decode cX0_init 53 = .ok (.lconst 1, 1) := by decide +kernel
theorem dX0_init_54 : decode cX0_init 54 = .ok (.aload_n 0, 1) := by decide +kernel
theorem dX0_init_55 : decode cX0_init 55 = .ok (.getfield 22, 3) := by decide +kernel
theorem dX0_init_58 : decode cX0_init 58 = .ok (.lshl, 1) := by decide +kernel
theorem dX0_init_59 : decode cX0_init 59 = .ok (.lconst 1, 1) := by decide +kernel
theorem dX0_init_60 : decode cX0_init 60 = .ok (.lsub, 1) := by decide +kernel
theorem dX0_init_61 : decode cX0_init 61 = .ok (.goto 6, 3) := by decide +kernel
theorem dX0_init_64 : decode cX0_init 64 = .ok (.ldc2_w 28, 3) := by decide +kernel
theorem dX0_init_67 : decode cX0_init 67 = .ok (.putfield 30, 3) := by decide +kernel
theorem dX0_init_70 : decode cX0_init 70 = .ok (.aload_n 0, 1) := by decide +kernel
theorem dX0_init_71 : decode cX0_init 71 = .ok (.bipush 32, 2) := by decide +kernel
theorem dX0_init_73 : decode cX0_init 73 = .ok (.aload_n 0, 1) := by decide +kernel
theorem dX0_init_74 : decode cX0_init 74 = .ok (.getfield 25, 3) := by decide +kernel
theorem dX0_init_77 : decode cX0_init 77 = .ok (.multianewarray 34 2, 4) := by decide +kernel
theorem dX0_init_81 : decode cX0_init 81 = .ok (.putfield 36, 3) := by decide +kernel
theorem dX0_init_84 : decode cX0_init 84 = .ok (.aload_n 0, 1) := by decide +kernel
theorem dX0_init_85 : decode cX0_init 85 = .ok (.aload_n 0, 1) := by decide +kernel
theorem dX0_init_86 : decode cX0_init 86 = .ok (.getfield 25, 3) := by decide +kernel
theorem dX0_init_89 : decode cX0_init 89 = .ok (.newarray .long, 2) := by decide +kernel
theorem dX0_init_91 : decode cX0_init 91 = .ok (.putfield 39, 3) := by decide +kernel
theorem dX0_init_94 : decode cX0_init 94 = .ok (.aload_n 0, 1) := by decide +kernel
theorem dX0_init_95 : decode cX0_init 95 = .ok (.aload_n 0, 1) := by decide +kernel
theorem dX0_init_96 : decode cX0_init 96 = .ok (.getfield 22, 3) := by decide +kernel
theorem dX0_init_99 : decode cX0_init 99 = .ok (.newarray .int, 2) := by decide +kernel
theorem dX0_init_101 : decode cX0_init 101 = .ok (.putfield 43, 3) := by decide +kernel
theorem dX0_init_104 : decode cX0_init 104 = .ok (.aload_n 0, 1) := by decide +kernel
theorem dX0_init_105 : decode cX0_init 105 = .ok (.aload_n 0, 1) := by decide +kernel
theorem dX0_init_106 : decode cX0_init 106 = .ok (.getfield 22, 3) := by decide +kernel
theorem dX0_init_109 : decode cX0_init 109 = .ok (.newarray .int, 2) := by decide +kernel
theorem dX0_init_111 : decode cX0_init 111 = .ok (.putfield 47, 3) := by decide +kernel
theorem dX0_init_114 : decode cX0_init 114 = .ok (.return_, 1) := by decide +kernel
theorem dX0_load_0 : decode cX0_load 0 = .ok (.iload_n 2, 1) := by decide +kernel
theorem dX0_load_1 : decode cX0_load 1 = .ok (.bipush (-2), 2) := by decide +kernel
theorem dX0_load_3 : decode cX0_load 3 = .ok (.if_icmp .eq 8, 3) := by decide +kernel
theorem dX0_load_6 : decode cX0_load 6 = .ok (.iload_n 2, 1) := by decide +kernel
theorem dX0_load_7 : decode cX0_load 7 = .ok (.iconst (-1), 1) := by decide +kernel
theorem dX0_load_8 : decode cX0_load 8 = .ok (.if_icmp .ne 7, 3) := by decide +kernel
theorem dX0_load_11 : decode cX0_load 11 = .ok (.iconst 1, 1) := by decide +kernel
theorem dX0_load_12 : decode cX0_load 12 = .ok (.goto 4, 3) := by decide +kernel
theorem dX0_load_15 : decode cX0_load 15 = .ok (.iconst 0, 1) := by decide +kernel
theorem dX0_load_16 : decode cX0_load 16 = .ok (.istore_n 3, 1) := by decide +kernel
theorem dX0_load_17 : decode cX0_load 17 = .ok (.iload_n 1, 1) := by decide +kernel
theorem dX0_load_18 : decode cX0_load 18 = .ok (.invokestatic 50, 3) := by decide +kernel
theorem dX0_load_21 : decode cX0_load 21 = .ok (.ifCond .eq 15, 3) := by decide +kernel
theorem dX0_load_24 : decode cX0_load 24 = .ok (.iload_n 3, 1) := by decide +kernel
theorem dX0_load_25 : decode cX0_load 25 = .ok (.ifCond .ne 13, 3) := by decide +kernel
theorem dX0_load_28 : decode cX0_load 28 = .ok (.aload_n 0, 1) := by decide +kernel
theorem dX0_load_29 : decode cX0_load 29 = .ok (.iload_n 2, 1) := by decide +kernel
theorem dX0_load_30 : decode cX0_load 30 = .ok (.invokevirtual 54, 3) := by decide +kernel
theorem dX0_load_33 : decode cX0_load 33 = .ok (.ifCond .ne 5, 3) := by decide +kernel
theorem dX0_load_36 : decode cX0_load 36 = .ok (.iconst (-1), 1) := by decide +kernel
theorem dX0_load_37 : decode cX0_load 37 = .ok (.ireturn, 1) := by decide +kernel
theorem dX0_load_38 : decode cX0_load 38 = .ok (.iconst 0, 1) := by decide +kernel
theorem dX0_load_39 : decode cX0_load 39 = .ok (.istore 4, 2) := by decide +kernel
theorem dX0_load_41 : decode cX0_load 41 = .ok (.iload 4, 2) := by decide +kernel
theorem dX0_load_43 : decode cX0_load 43 = .ok (.aload_n 0, 1) := by decide +kernel
theorem dX0_load_44 : decode cX0_load 44 = .ok (.getfield 25, 3) := by decide +kernel
theorem dX0_load_47 : decode cX0_load 47 = .ok (.if_icmp .ge 50, 3) := by decide +kernel
theorem dX0_load_50 : decode cX0_load 50 = .ok (.iload_n 3, 1) := by decide +kernel
theorem dX0_load_51 : decode cX0_load 51 = .ok (.ifCond .eq 26, 3) := by decide +kernel
theorem dX0_load_54 : decode cX0_load 54 = .ok (.aload_n 0, 1) := by decide +kernel
theorem dX0_load_55 : decode cX0_load 55 = .ok (.getfield 39, 3) := by decide +kernel
theorem dX0_load_58 : decode cX0_load 58 = .ok (.iload 4, 2) := by decide +kernel
theorem dX0_load_60 : decode cX0_load 60 = .ok (.iload_n 2, 1) := by decide +kernel
theorem dX0_load_61 : decode cX0_load 61 = .ok (.iconst (-1), 1) := by decide +kernel
theorem dX0_load_62 : decode cX0_load 62 = .ok (.if_icmp .ne 10, 3) := by decide +kernel
theorem dX0_load_65 : decode cX0_load 65 = .ok (.aload_n 0, 1) := by decide +kernel
theorem dX0_load_66 : decode cX0_load 66 = .ok (.getfield 30, 3) := by decide +kernel
theorem dX0_load_69 : decode cX0_load 69 = .ok (.goto 4, 3) := by decide +kernel
theorem dX0_load_72 : decode cX0_load 72 = .ok (.lconst 0, 1) := by decide +kernel
theorem dX0_load_73 : decode cX0_load 73 = .ok (.lastore, 1) := by decide +kernel
theorem dX0_load_74 : decode cX0_load 74 = .ok (.goto 17, 3) := by decide +kernel
theorem dX0_load_77 : decode cX0_load 77 = .ok (.aload_n 0, 1) := by decide +kernel
theorem dX0_load_78 : decode cX0_load 78 = .ok (.getfield 39, 3) := by decide +kernel
theorem dX0_load_81 : decode cX0_load 81 = .ok (.iload 4, 2) := by decide +kernel
theorem dX0_load_83 : decode cX0_load 83 = .ok (.aload_n 0, 1) := by decide +kernel
theorem dX0_load_84 : decode cX0_load 84 = .ok (.iload_n 2, 1) := by decide +kernel
theorem dX0_load_85 : decode cX0_load 85 = .ok (.iload 4, 2) := by decide +kernel
theorem dX0_load_87 : decode cX0_load 87 = .ok (.invokevirtual 57, 3) := by decide +kernel
theorem dX0_load_90 : decode cX0_load 90 = .ok (.lastore, 1) := by decide +kernel
theorem dX0_load_91 : decode cX0_load 91 = .ok (.iinc 4 1, 3) := by decide +kernel
theorem dX0_load_94 : decode cX0_load 94 = .ok (.goto (-53), 3) := by decide +kernel
theorem dX0_load_97 : decode cX0_load 97 = .ok (.aload_n 0, 1) := by decide +kernel
theorem dX0_load_98 : decode cX0_load 98 = .ok (.iload_n 1, 1) := by decide +kernel
theorem dX0_load_99 : decode cX0_load 99 = .ok (.invokevirtual 61, 3) := by decide +kernel
theorem dX0_load_102 : decode cX0_load 102 = .ok (.ireturn, 1) := by decide +kernel
theorem dX0_reckon_0 : decode cX0_reckon 0 = .ok (.iload_n 1, 1) := by decide +kernel
theorem dX0_reckon_1 : decode cX0_reckon 1 = .ok (.ifCond .lt 30, 3) := by decide +kernel
theorem dX0_reckon_4 : decode cX0_reckon 4 = .ok (.iload_n 1, 1) := by decide +kernel
theorem dX0_reckon_5 : decode cX0_reckon 5 = .ok (.iconst 4, 1) := by decide +kernel
theorem dX0_reckon_6 : decode cX0_reckon 6 = .ok (.if_icmp .gt 25, 3) := by decide +kernel
theorem dX0_reckon_9 : decode cX0_reckon 9 = .ok (.iload_n 2, 1) := by decide +kernel
theorem dX0_reckon_10 : decode cX0_reckon 10 = .ok (.invokestatic 50, 3) := by decide +kernel
theorem dX0_reckon_13 : decode cX0_reckon 13 = .ok (.ifCond .eq 18, 3) := by decide +kernel
theorem dX0_reckon_16 : decode cX0_reckon 16 = .ok (.iload_n 3, 1) := by decide +kernel
theorem dX0_reckon_17 : decode cX0_reckon 17 = .ok (.invokestatic 50, 3) := by decide +kernel
theorem dX0_reckon_20 : decode cX0_reckon 20 = .ok (.ifCond .eq 11, 3) := by decide +kernel
theorem dX0_reckon_23 : decode cX0_reckon 23 = .ok (.iload 4, 2) := by decide +kernel
theorem dX0_reckon_25 : decode cX0_reckon 25 = .ok (.invokestatic 50, 3) := by decide +kernel
theorem dX0_reckon_28 : decode cX0_reckon 28 = .ok (.ifCond .ne 5, 3) := by decide +kernel
theorem dX0_reckon_31 : decode cX0_reckon 31 = .ok (.iconst (-1), 1) := by decide +kernel
theorem dX0_reckon_32 : decode cX0_reckon 32 = .ok (.ireturn, 1) := by decide +kernel
theorem dX0_reckon_33 : decode cX0_reckon 33 = .ok (.iconst 0, 1) := by decide +kernel
theorem dX0_reckon_34 : decode cX0_reckon 34 = .ok (.istore 5, 2) := by decide +kernel
theorem dX0_reckon_36 : decode cX0_reckon 36 = .ok (.iload 5, 2) := by decide +kernel
theorem dX0_reckon_38 : decode cX0_reckon 38 = .ok (.aload_n 0, 1) := by decide +kernel
theorem dX0_reckon_39 : decode cX0_reckon 39 = .ok (.getfield 25, 3) := by decide +kernel
theorem dX0_reckon_42 : decode cX0_reckon 42 = .ok (.if_icmp .ge 44, 3) := by decide +kernel
theorem dX0_reckon_45 : decode cX0_reckon 45 = .ok (.aload_n 0, 1) := by decide +kernel
theorem dX0_reckon_46 : decode cX0_reckon 46 = .ok (.getfield 39, 3) := by decide +kernel
theorem dX0_reckon_49 : decode cX0_reckon 49 = .ok (.iload 5, 2) := by decide +kernel
theorem dX0_reckon_51 : decode cX0_reckon 51 = .ok (.iload_n 1, 1) := by decide +kernel
theorem dX0_reckon_52 : decode cX0_reckon 52 = .ok (.aload_n 0, 1) := by decide +kernel
theorem dX0_reckon_53 : decode cX0_reckon 53 = .ok (.getfield 36, 3) := by decide +kernel
theorem dX0_reckon_56 : decode cX0_reckon 56 = .ok (.iload_n 3, 1) := by decide +kernel
theorem dX0_reckon_57 : decode cX0_reckon 57 = .ok (.aaload, 1) := by decide +kernel
theorem dX0_reckon_58 : decode cX0_reckon 58 = .ok (.iload 5, 2) := by decide +kernel
theorem dX0_reckon_60 : decode cX0_reckon 60 = .ok (.laload, 1) := by decide +kernel
theorem dX0_reckon_61 : decode cX0_reckon 61 = .ok (.aload_n 0, 1) := by decide +kernel
theorem dX0_reckon_62 : decode cX0_reckon 62 = .ok (.getfield 36, 3) := by decide +kernel
theorem dX0_reckon_65 : decode cX0_reckon 65 = .ok (.iload 4, 2) := by decide +kernel
theorem dX0_reckon_67 : decode cX0_reckon 67 = .ok (.aaload, 1) := by decide +kernel
theorem dX0_reckon_68 : decode cX0_reckon 68 = .ok (.iload 5, 2) := by decide +kernel
theorem dX0_reckon_70 : decode cX0_reckon 70 = .ok (.laload, 1) := by decide +kernel
theorem dX0_reckon_71 : decode cX0_reckon 71 = .ok (.invokestatic 65, 3) := by decide +kernel
theorem dX0_reckon_74 : decode cX0_reckon 74 = .ok (.aload_n 0, 1) := by decide +kernel
theorem dX0_reckon_75 : decode cX0_reckon 75 = .ok (.getfield 30, 3) := by decide +kernel
theorem dX0_reckon_78 : decode cX0_reckon 78 = .ok (.land, 1) := by decide +kernel
theorem dX0_reckon_79 : decode cX0_reckon 79 = .ok (.lastore, 1) := by decide +kernel
theorem dX0_reckon_80 : decode cX0_reckon 80 = .ok (.iinc 5 1, 3) := by decide +kernel
theorem dX0_reckon_83 : decode cX0_reckon 83 = .ok (.goto (-47), 3) := by decide +kernel
theorem dX0_reckon_86 : decode cX0_reckon 86 = .ok (.aload_n 0, 1) := by decide +kernel
theorem dX0_reckon_87 : decode cX0_reckon 87 = .ok (.iload_n 2, 1) := by decide +kernel
theorem dX0_reckon_88 : decode cX0_reckon 88 = .ok (.invokevirtual 61, 3) := by decide +kernel
theorem dX0_reckon_91 : decode cX0_reckon 91 = .ok (.ireturn, 1) := by decide +kernel
theorem dX0_not_0 : decode cX0_not 0 = .ok (.iload_n 1, 1) := by decide +kernel
theorem dX0_not_1 : decode cX0_not 1 = .ok (.invokestatic 50, 3) := by decide +kernel
theorem dX0_not_4 : decode cX0_not 4 = .ok (.ifCond .eq 10, 3) := by decide +kernel
theorem dX0_not_7 : decode cX0_not 7 = .ok (.iload_n 2, 1) := by decide +kernel
theorem dX0_not_8 : decode cX0_not 8 = .ok (.invokestatic 50, 3) := by decide +kernel
theorem dX0_not_11 : decode cX0_not 11 = .ok (.ifCond .ne 5, 3) := by decide +kernel
theorem dX0_not_14 : decode cX0_not 14 = .ok (.iconst (-1), 1) := by decide +kernel
theorem dX0_not_15 : decode cX0_not 15 = .ok (.ireturn, 1) := by decide +kernel
theorem dX0_not_16 : decode cX0_not 16 = .ok (.iconst 0, 1) := by decide +kernel
theorem dX0_not_17 : decode cX0_not 17 = .ok (.istore_n 3, 1) := by decide +kernel
theorem dX0_not_18 : decode cX0_not 18 = .ok (.iload_n 3, 1) := by decide +kernel
theorem dX0_not_19 : decode cX0_not 19 = .ok (.aload_n 0, 1) := by decide +kernel
theorem dX0_not_20 : decode cX0_not 20 = .ok (.getfield 25, 3) := by decide +kernel
theorem dX0_not_23 : decode cX0_not 23 = .ok (.if_icmp .ge 32, 3) := by decide +kernel
theorem dX0_not_26 : decode cX0_not 26 = .ok (.aload_n 0, 1) := by decide +kernel
theorem dX0_not_27 : decode cX0_not 27 = .ok (.getfield 39, 3) := by decide +kernel
theorem dX0_not_30 : decode cX0_not 30 = .ok (.iload_n 3, 1) := by decide +kernel
theorem dX0_not_31 : decode cX0_not 31 = .ok (.aload_n 0, 1) := by decide +kernel
theorem dX0_not_32 : decode cX0_not 32 = .ok (.getfield 36, 3) := by decide +kernel
theorem dX0_not_35 : decode cX0_not 35 = .ok (.iload_n 2, 1) := by decide +kernel
theorem dX0_not_36 : decode cX0_not 36 = .ok (.aaload, 1) := by decide +kernel
theorem dX0_not_37 : decode cX0_not 37 = .ok (.iload_n 3, 1) := by decide +kernel
theorem dX0_not_38 : decode cX0_not 38 = .ok (.laload, 1) := by decide +kernel
theorem dX0_not_39 : decode cX0_not 39 = .ok (.ldc2_w 28, 3) := by decide +kernel
theorem dX0_not_42 : decode cX0_not 42 = .ok (.lxor, 1) := by decide +kernel
theorem dX0_not_43 : decode cX0_not 43 = .ok (.aload_n 0, 1) := by decide +kernel
theorem dX0_not_44 : decode cX0_not 44 = .ok (.getfield 30, 3) := by decide +kernel
theorem dX0_not_47 : decode cX0_not 47 = .ok (.land, 1) := by decide +kernel
theorem dX0_not_48 : decode cX0_not 48 = .ok (.lastore, 1) := by decide +kernel
theorem dX0_not_49 : decode cX0_not 49 = .ok (.iinc 3 1, 3) := by decide +kernel
theorem dX0_not_52 : decode cX0_not 52 = .ok (.goto (-34), 3) := by decide +kernel
theorem dX0_not_55 : decode cX0_not 55 = .ok (.aload_n 0, 1) := by decide +kernel
theorem dX0_not_56 : decode cX0_not 56 = .ok (.iload_n 1, 1) := by decide +kernel
theorem dX0_not_57 : decode cX0_not 57 = .ok (.invokevirtual 61, 3) := by decide +kernel
theorem dX0_not_60 : decode cX0_not 60 = .ok (.ireturn, 1) := by decide +kernel
theorem dX0_with_0 : decode cX0_with 0 = .ok (.iload_n 1, 1) := by decide +kernel
theorem dX0_with_1 : decode cX0_with 1 = .ok (.invokestatic 50, 3) := by decide +kernel
theorem dX0_with_4 : decode cX0_with 4 = .ok (.ifCond .eq 18, 3) := by decide +kernel
theorem dX0_with_7 : decode cX0_with 7 = .ok (.iload_n 2, 1) := by decide +kernel
theorem dX0_with_8 : decode cX0_with 8 = .ok (.invokestatic 50, 3) := by decide +kernel
theorem dX0_with_11 : decode cX0_with 11 = .ok (.ifCond .eq 11, 3) := by decide +kernel
theorem dX0_with_14 : decode cX0_with 14 = .ok (.aload_n 0, 1) := by decide +kernel
theorem dX0_with_15 : decode cX0_with 15 = .ok (.iload_n 3, 1) := by decide +kernel
theorem dX0_with_16 : decode cX0_with 16 = .ok (.invokevirtual 54, 3) := by decide +kernel
theorem dX0_with_19 : decode cX0_with 19 = .ok (.ifCond .ne 5, 3) := by decide +kernel
theorem dX0_with_22 : decode cX0_with 22 = .ok (.iconst (-1), 1) := by decide +kernel
theorem dX0_with_23 : decode cX0_with 23 = .ok (.ireturn, 1) := by decide +kernel
theorem dX0_with_24 : decode cX0_with 24 = .ok (.iconst 0, 1) := by decide +kernel
theorem dX0_with_25 : decode cX0_with 25 = .ok (.istore 5, 2) := by decide +kernel
theorem dX0_with_27 : decode cX0_with 27 = .ok (.iload 5, 2) := by decide +kernel
theorem dX0_with_29 : decode cX0_with 29 = .ok (.aload_n 0, 1) := by decide +kernel
theorem dX0_with_30 : decode cX0_with 30 = .ok (.getfield 25, 3) := by decide +kernel
theorem dX0_with_33 : decode cX0_with 33 = .ok (.if_icmp .ge 31, 3) := by decide +kernel
theorem dX0_with_36 : decode cX0_with 36 = .ok (.aload_n 0, 1) := by decide +kernel
theorem dX0_with_37 : decode cX0_with 37 = .ok (.getfield 39, 3) := by decide +kernel
theorem dX0_with_40 : decode cX0_with 40 = .ok (.iload 5, 2) := by decide +kernel
theorem dX0_with_42 : decode cX0_with 42 = .ok (.aload_n 0, 1) := by decide +kernel
theorem dX0_with_43 : decode cX0_with 43 = .ok (.aload_n 0, 1) := by decide +kernel
theorem dX0_with_44 : decode cX0_with 44 = .ok (.getfield 36, 3) := by decide +kernel
theorem dX0_with_47 : decode cX0_with 47 = .ok (.iload_n 2, 1) := by decide +kernel
theorem dX0_with_48 : decode cX0_with 48 = .ok (.aaload, 1) := by decide +kernel
theorem dX0_with_49 : decode cX0_with 49 = .ok (.iload_n 3, 1) := by decide +kernel
theorem dX0_with_50 : decode cX0_with 50 = .ok (.iload 4, 2) := by decide +kernel
theorem dX0_with_52 : decode cX0_with 52 = .ok (.iload 5, 2) := by decide +kernel
theorem dX0_with_54 : decode cX0_with 54 = .ok (.invokevirtual 69, 3) := by decide +kernel
theorem dX0_with_57 : decode cX0_with 57 = .ok (.lastore, 1) := by decide +kernel
theorem dX0_with_58 : decode cX0_with 58 = .ok (.iinc 5 1, 3) := by decide +kernel
theorem dX0_with_61 : decode cX0_with 61 = .ok (.goto (-34), 3) := by decide +kernel
theorem dX0_with_64 : decode cX0_with 64 = .ok (.aload_n 0, 1) := by decide +kernel
theorem dX0_with_65 : decode cX0_with 65 = .ok (.iload_n 1, 1) := by decide +kernel
theorem dX0_with_66 : decode cX0_with 66 = .ok (.invokevirtual 61, 3) := by decide +kernel
theorem dX0_with_69 : decode cX0_with 69 = .ok (.ireturn, 1) := by decide +kernel
theorem dX0_bind_0 : decode cX0_bind 0 = .ok (.iload_n 1, 1) := by decide +kernel
theorem dX0_bind_1 : decode cX0_bind 1 = .ok (.invokestatic 50, 3) := by decide +kernel
theorem dX0_bind_4 : decode cX0_bind 4 = .ok (.ifCond .eq 18, 3) := by decide +kernel
theorem dX0_bind_7 : decode cX0_bind 7 = .ok (.iload_n 2, 1) := by decide +kernel
theorem dX0_bind_8 : decode cX0_bind 8 = .ok (.invokestatic 50, 3) := by decide +kernel
theorem dX0_bind_11 : decode cX0_bind 11 = .ok (.ifCond .eq 11, 3) := by decide +kernel
theorem dX0_bind_14 : decode cX0_bind 14 = .ok (.aload_n 0, 1) := by decide +kernel
theorem dX0_bind_15 : decode cX0_bind 15 = .ok (.iload_n 3, 1) := by decide +kernel
theorem dX0_bind_16 : decode cX0_bind 16 = .ok (.invokevirtual 54, 3) := by decide +kernel
theorem dX0_bind_19 : decode cX0_bind 19 = .ok (.ifCond .ne 5, 3) := by decide +kernel
theorem dX0_bind_22 : decode cX0_bind 22 = .ok (.iconst (-1), 1) := by decide +kernel
theorem dX0_bind_23 : decode cX0_bind 23 = .ok (.ireturn, 1) := by decide +kernel
theorem dX0_bind_24 : decode cX0_bind 24 = .ok (.iconst 0, 1) := by decide +kernel
theorem dX0_bind_25 : decode cX0_bind 25 = .ok (.istore 5, 2) := by decide +kernel
theorem dX0_bind_27 : decode cX0_bind 27 = .ok (.iload 5, 2) := by decide +kernel
theorem dX0_bind_29 : decode cX0_bind 29 = .ok (.aload_n 0, 1) := by decide +kernel
theorem dX0_bind_30 : decode cX0_bind 30 = .ok (.getfield 25, 3) := by decide +kernel
theorem dX0_bind_33 : decode cX0_bind 33 = .ok (.if_icmp .ge 60, 3) := by decide +kernel
theorem dX0_bind_36 : decode cX0_bind 36 = .ok (.aload_n 0, 1) := by decide +kernel
theorem dX0_bind_37 : decode cX0_bind 37 = .ok (.getfield 36, 3) := by decide +kernel
theorem dX0_bind_40 : decode cX0_bind 40 = .ok (.iload_n 2, 1) := by decide +kernel
theorem dX0_bind_41 : decode cX0_bind 41 = .ok (.aaload, 1) := by decide +kernel
theorem dX0_bind_42 : decode cX0_bind 42 = .ok (.iload 5, 2) := by decide +kernel
theorem dX0_bind_44 : decode cX0_bind 44 = .ok (.laload, 1) := by decide +kernel
theorem dX0_bind_45 : decode cX0_bind 45 = .ok (.lstore 6, 2) := by decide +kernel
theorem dX0_bind_47 : decode cX0_bind 47 = .ok (.aload_n 0, 1) := by decide +kernel
theorem dX0_bind_48 : decode cX0_bind 48 = .ok (.aload_n 0, 1) := by decide +kernel
theorem dX0_bind_49 : decode cX0_bind 49 = .ok (.getfield 36, 3) := by decide +kernel
theorem dX0_bind_52 : decode cX0_bind 52 = .ok (.iload_n 2, 1) := by decide +kernel
theorem dX0_bind_53 : decode cX0_bind 53 = .ok (.aaload, 1) := by decide +kernel
theorem dX0_bind_54 : decode cX0_bind 54 = .ok (.iload_n 3, 1) := by decide +kernel
theorem dX0_bind_55 : decode cX0_bind 55 = .ok (.iload 5, 2) := by decide +kernel
theorem dX0_bind_57 : decode cX0_bind 57 = .ok (.invokevirtual 73, 3) := by decide +kernel
theorem dX0_bind_60 : decode cX0_bind 60 = .ok (.lstore 8, 2) := by decide +kernel
theorem dX0_bind_62 : decode cX0_bind 62 = .ok (.aload_n 0, 1) := by decide +kernel
theorem dX0_bind_63 : decode cX0_bind 63 = .ok (.getfield 39, 3) := by decide +kernel
theorem dX0_bind_66 : decode cX0_bind 66 = .ok (.iload 5, 2) := by decide +kernel
theorem dX0_bind_68 : decode cX0_bind 68 = .ok (.iload 4, 2) := by decide +kernel
theorem dX0_bind_70 : decode cX0_bind 70 = .ok (.ifCond .eq 11, 3) := by decide +kernel
theorem dX0_bind_73 : decode cX0_bind 73 = .ok (.lload 6, 2) := by decide +kernel
theorem dX0_bind_75 : decode cX0_bind 75 = .ok (.lload 8, 2) := by decide +kernel
theorem dX0_bind_77 : decode cX0_bind 77 = .ok (.land, 1) := by decide +kernel
theorem dX0_bind_78 : decode cX0_bind 78 = .ok (.goto 8, 3) := by decide +kernel
theorem dX0_bind_81 : decode cX0_bind 81 = .ok (.lload 6, 2) := by decide +kernel
theorem dX0_bind_83 : decode cX0_bind 83 = .ok (.lload 8, 2) := by decide +kernel
theorem dX0_bind_85 : decode cX0_bind 85 = .ok (.lor, 1) := by decide +kernel
theorem dX0_bind_86 : decode cX0_bind 86 = .ok (.lastore, 1) := by decide +kernel
theorem dX0_bind_87 : decode cX0_bind 87 = .ok (.iinc 5 1, 3) := by decide +kernel
theorem dX0_bind_90 : decode cX0_bind 90 = .ok (.goto (-63), 3) := by decide +kernel
theorem dX0_bind_93 : decode cX0_bind 93 = .ok (.aload_n 0, 1) := by decide +kernel
theorem dX0_bind_94 : decode cX0_bind 94 = .ok (.iload_n 1, 1) := by decide +kernel
theorem dX0_bind_95 : decode cX0_bind 95 = .ok (.invokevirtual 61, 3) := by decide +kernel
theorem dX0_bind_98 : decode cX0_bind 98 = .ok (.ireturn, 1) := by decide +kernel
theorem dX0_put_0 : decode cX0_put 0 = .ok (.iload_n 1, 1) := by decide +kernel
theorem dX0_put_1 : decode cX0_put 1 = .ok (.invokestatic 50, 3) := by decide +kernel
theorem dX0_put_4 : decode cX0_put 4 = .ok (.ifCond .eq 26, 3) := by decide +kernel
theorem dX0_put_7 : decode cX0_put 7 = .ok (.iload_n 2, 1) := by decide +kernel
theorem dX0_put_8 : decode cX0_put 8 = .ok (.invokestatic 50, 3) := by decide +kernel
theorem dX0_put_11 : decode cX0_put 11 = .ok (.ifCond .eq 19, 3) := by decide +kernel
theorem dX0_put_14 : decode cX0_put 14 = .ok (.aload_n 0, 1) := by decide +kernel
theorem dX0_put_15 : decode cX0_put 15 = .ok (.iload_n 3, 1) := by decide +kernel
theorem dX0_put_16 : decode cX0_put 16 = .ok (.invokevirtual 54, 3) := by decide +kernel
theorem dX0_put_19 : decode cX0_put 19 = .ok (.ifCond .eq 11, 3) := by decide +kernel
theorem dX0_put_22 : decode cX0_put 22 = .ok (.iload 4, 2) := by decide +kernel
theorem dX0_put_24 : decode cX0_put 24 = .ok (.invokestatic 50, 3) := by decide +kernel
theorem dX0_put_27 : decode cX0_put 27 = .ok (.ifCond .ne 5, 3) := by decide +kernel
theorem dX0_put_30 : decode cX0_put 30 = .ok (.iconst (-1), 1) := by decide +kernel
theorem dX0_put_31 : decode cX0_put 31 = .ok (.ireturn, 1) := by decide +kernel
theorem dX0_put_32 : decode cX0_put 32 = .ok (.iconst 0, 1) := by decide +kernel
theorem dX0_put_33 : decode cX0_put 33 = .ok (.istore 5, 2) := by decide +kernel
theorem dX0_put_35 : decode cX0_put 35 = .ok (.iload 5, 2) := by decide +kernel
theorem dX0_put_37 : decode cX0_put 37 = .ok (.aload_n 0, 1) := by decide +kernel
theorem dX0_put_38 : decode cX0_put 38 = .ok (.getfield 25, 3) := by decide +kernel
theorem dX0_put_41 : decode cX0_put 41 = .ok (.if_icmp .ge 67, 3) := by decide +kernel
theorem dX0_put_44 : decode cX0_put 44 = .ok (.aload_n 0, 1) := by decide +kernel
theorem dX0_put_45 : decode cX0_put 45 = .ok (.getfield 36, 3) := by decide +kernel
theorem dX0_put_48 : decode cX0_put 48 = .ok (.iload 4, 2) := by decide +kernel
theorem dX0_put_50 : decode cX0_put 50 = .ok (.aaload, 1) := by decide +kernel
theorem dX0_put_51 : decode cX0_put 51 = .ok (.iload 5, 2) := by decide +kernel
theorem dX0_put_53 : decode cX0_put 53 = .ok (.laload, 1) := by decide +kernel
theorem dX0_put_54 : decode cX0_put 54 = .ok (.lstore 6, 2) := by decide +kernel
theorem dX0_put_56 : decode cX0_put 56 = .ok (.aload_n 0, 1) := by decide +kernel
theorem dX0_put_57 : decode cX0_put 57 = .ok (.getfield 39, 3) := by decide +kernel
theorem dX0_put_60 : decode cX0_put 60 = .ok (.iload 5, 2) := by decide +kernel
theorem dX0_put_62 : decode cX0_put 62 = .ok (.lload 6, 2) := by decide +kernel
theorem dX0_put_64 : decode cX0_put 64 = .ok (.aload_n 0, 1) := by decide +kernel
theorem dX0_put_65 : decode cX0_put 65 = .ok (.aload_n 0, 1) := by decide +kernel
theorem dX0_put_66 : decode cX0_put 66 = .ok (.getfield 36, 3) := by decide +kernel
theorem dX0_put_69 : decode cX0_put 69 = .ok (.iload_n 2, 1) := by decide +kernel
theorem dX0_put_70 : decode cX0_put 70 = .ok (.aaload, 1) := by decide +kernel
theorem dX0_put_71 : decode cX0_put 71 = .ok (.iload_n 3, 1) := by decide +kernel
theorem dX0_put_72 : decode cX0_put 72 = .ok (.iconst 1, 1) := by decide +kernel
theorem dX0_put_73 : decode cX0_put 73 = .ok (.iload 5, 2) := by decide +kernel
theorem dX0_put_75 : decode cX0_put 75 = .ok (.invokevirtual 69, 3) := by decide +kernel
theorem dX0_put_78 : decode cX0_put 78 = .ok (.land, 1) := by decide +kernel
theorem dX0_put_79 : decode cX0_put 79 = .ok (.lload 6, 2) := by decide +kernel
theorem dX0_put_81 : decode cX0_put 81 = .ok (.ldc2_w 28, 3) := by decide +kernel
theorem dX0_put_84 : decode cX0_put 84 = .ok (.lxor, 1) := by decide +kernel
theorem dX0_put_85 : decode cX0_put 85 = .ok (.aload_n 0, 1) := by decide +kernel
theorem dX0_put_86 : decode cX0_put 86 = .ok (.aload_n 0, 1) := by decide +kernel
theorem dX0_put_87 : decode cX0_put 87 = .ok (.getfield 36, 3) := by decide +kernel
theorem dX0_put_90 : decode cX0_put 90 = .ok (.iload_n 2, 1) := by decide +kernel
theorem dX0_put_91 : decode cX0_put 91 = .ok (.aaload, 1) := by decide +kernel
theorem dX0_put_92 : decode cX0_put 92 = .ok (.iload_n 3, 1) := by decide +kernel
theorem dX0_put_93 : decode cX0_put 93 = .ok (.iconst 0, 1) := by decide +kernel
theorem dX0_put_94 : decode cX0_put 94 = .ok (.iload 5, 2) := by decide +kernel
theorem dX0_put_96 : decode cX0_put 96 = .ok (.invokevirtual 69, 3) := by decide +kernel
theorem dX0_put_99 : decode cX0_put 99 = .ok (.land, 1) := by decide +kernel
theorem dX0_put_100 : decode cX0_put 100 = .ok (.lor, 1) := by decide +kernel
theorem dX0_put_101 : decode cX0_put 101 = .ok (.lastore, 1) := by decide +kernel
theorem dX0_put_102 : decode cX0_put 102 = .ok (.iinc 5 1, 3) := by decide +kernel
theorem dX0_put_105 : decode cX0_put 105 = .ok (.goto (-70), 3) := by decide +kernel
theorem dX0_put_108 : decode cX0_put 108 = .ok (.aload_n 0, 1) := by decide +kernel
theorem dX0_put_109 : decode cX0_put 109 = .ok (.iload_n 1, 1) := by decide +kernel
theorem dX0_put_110 : decode cX0_put 110 = .ok (.invokevirtual 61, 3) := by decide +kernel
theorem dX0_put_113 : decode cX0_put 113 = .ok (.ireturn, 1) := by decide +kernel
theorem dX0_many_0 : decode cX0_many 0 = .ok (.iload_n 1, 1) := by decide +kernel
theorem dX0_many_1 : decode cX0_many 1 = .ok (.invokestatic 50, 3) := by decide +kernel
theorem dX0_many_4 : decode cX0_many 4 = .ok (.ifCond .eq 16, 3) := by decide +kernel
theorem dX0_many_7 : decode cX0_many 7 = .ok (.aload_n 0, 1) := by decide +kernel
theorem dX0_many_8 : decode cX0_many 8 = .ok (.aload_n 0, 1) := by decide +kernel
theorem dX0_many_9 : decode cX0_many 9 = .ok (.getfield 36, 3) := by decide +kernel
theorem dX0_many_12 : decode cX0_many 12 = .ok (.iload_n 1, 1) := by decide +kernel
theorem dX0_many_13 : decode cX0_many 13 = .ok (.aaload, 1) := by decide +kernel
theorem dX0_many_14 : decode cX0_many 14 = .ok (.invokevirtual 77, 3) := by decide +kernel
theorem dX0_many_17 : decode cX0_many 17 = .ok (.goto 4, 3) := by decide +kernel
theorem dX0_many_20 : decode cX0_many 20 = .ok (.iconst (-1), 1) := by decide +kernel
theorem dX0_many_21 : decode cX0_many 21 = .ok (.ireturn, 1) := by decide +kernel
theorem dX0_nth_0 : decode cX0_nth 0 = .ok (.iload_n 1, 1) := by decide +kernel
theorem dX0_nth_1 : decode cX0_nth 1 = .ok (.invokestatic 50, 3) := by decide +kernel
theorem dX0_nth_4 : decode cX0_nth 4 = .ok (.ifCond .ne 5, 3) := by decide +kernel
theorem dX0_nth_7 : decode cX0_nth 7 = .ok (.iconst (-1), 1) := by decide +kernel
theorem dX0_nth_8 : decode cX0_nth 8 = .ok (.ireturn, 1) := by decide +kernel
theorem dX0_nth_9 : decode cX0_nth 9 = .ok (.iconst 0, 1) := by decide +kernel
theorem dX0_nth_10 : decode cX0_nth 10 = .ok (.istore_n 3, 1) := by decide +kernel
theorem dX0_nth_11 : decode cX0_nth 11 = .ok (.iconst 0, 1) := by decide +kernel
theorem dX0_nth_12 : decode cX0_nth 12 = .ok (.istore 4, 2) := by decide +kernel
theorem dX0_nth_14 : decode cX0_nth 14 = .ok (.iload 4, 2) := by decide +kernel
theorem dX0_nth_16 : decode cX0_nth 16 = .ok (.aload_n 0, 1) := by decide +kernel
theorem dX0_nth_17 : decode cX0_nth 17 = .ok (.getfield 22, 3) := by decide +kernel
theorem dX0_nth_20 : decode cX0_nth 20 = .ok (.if_icmp .ge 35, 3) := by decide +kernel
theorem dX0_nth_23 : decode cX0_nth 23 = .ok (.aload_n 0, 1) := by decide +kernel
theorem dX0_nth_24 : decode cX0_nth 24 = .ok (.getfield 36, 3) := by decide +kernel
theorem dX0_nth_27 : decode cX0_nth 27 = .ok (.iload_n 1, 1) := by decide +kernel
theorem dX0_nth_28 : decode cX0_nth 28 = .ok (.aaload, 1) := by decide +kernel
theorem dX0_nth_29 : decode cX0_nth 29 = .ok (.iload 4, 2) := by decide +kernel
theorem dX0_nth_31 : decode cX0_nth 31 = .ok (.invokestatic 81, 3) := by decide +kernel
theorem dX0_nth_34 : decode cX0_nth 34 = .ok (.iconst 1, 1) := by decide +kernel
theorem dX0_nth_35 : decode cX0_nth 35 = .ok (.if_icmp .ne 14, 3) := by decide +kernel
theorem dX0_nth_38 : decode cX0_nth 38 = .ok (.iload_n 3, 1) := by decide +kernel
theorem dX0_nth_39 : decode cX0_nth 39 = .ok (.iload_n 2, 1) := by decide +kernel
theorem dX0_nth_40 : decode cX0_nth 40 = .ok (.if_icmp .ne 6, 3) := by decide +kernel
theorem dX0_nth_43 : decode cX0_nth 43 = .ok (.iload 4, 2) := by decide +kernel
theorem dX0_nth_45 : decode cX0_nth 45 = .ok (.ireturn, 1) := by decide +kernel
theorem dX0_nth_46 : decode cX0_nth 46 = .ok (.iinc 3 1, 3) := by decide +kernel
theorem dX0_nth_49 : decode cX0_nth 49 = .ok (.iinc 4 1, 3) := by decide +kernel
theorem dX0_nth_52 : decode cX0_nth 52 = .ok (.goto (-38), 3) := by decide +kernel
theorem dX0_nth_55 : decode cX0_nth 55 = .ok (.bipush (-2), 2) := by decide +kernel
theorem dX0_nth_57 : decode cX0_nth 57 = .ok (.ireturn, 1) := by decide +kernel
theorem dX0_value_0 : decode cX0_value 0 = .ok (.iload_n 1, 1) := by decide +kernel
theorem dX0_value_1 : decode cX0_value 1 = .ok (.invokestatic 50, 3) := by decide +kernel
theorem dX0_value_4 : decode cX0_value 4 = .ok (.ifCond .eq 15, 3) := by decide +kernel
theorem dX0_value_7 : decode cX0_value 7 = .ok (.iload_n 2, 1) := by decide +kernel
theorem dX0_value_8 : decode cX0_value 8 = .ok (.ifCond .lt 11, 3) := by decide +kernel
theorem dX0_value_11 : decode cX0_value 11 = .ok (.iload_n 2, 1) := by decide +kernel
theorem dX0_value_12 : decode cX0_value 12 = .ok (.aload_n 0, 1) := by decide +kernel
theorem dX0_value_13 : decode cX0_value 13 = .ok (.getfield 22, 3) := by decide +kernel
theorem dX0_value_16 : decode cX0_value 16 = .ok (.if_icmp .lt 5, 3) := by decide +kernel
theorem dX0_value_19 : decode cX0_value 19 = .ok (.iconst (-1), 1) := by decide +kernel
theorem dX0_value_20 : decode cX0_value 20 = .ok (.ireturn, 1) := by decide +kernel
theorem dX0_value_21 : decode cX0_value 21 = .ok (.aload_n 0, 1) := by decide +kernel
theorem dX0_value_22 : decode cX0_value 22 = .ok (.getfield 36, 3) := by decide +kernel
theorem dX0_value_25 : decode cX0_value 25 = .ok (.iload_n 1, 1) := by decide +kernel
theorem dX0_value_26 : decode cX0_value 26 = .ok (.aaload, 1) := by decide +kernel
theorem dX0_value_27 : decode cX0_value 27 = .ok (.iload_n 2, 1) := by decide +kernel
theorem dX0_value_28 : decode cX0_value 28 = .ok (.invokestatic 81, 3) := by decide +kernel
theorem dX0_value_31 : decode cX0_value 31 = .ok (.ireturn, 1) := by decide +kernel
theorem dX0_same_0 : decode cX0_same 0 = .ok (.iload_n 1, 1) := by decide +kernel
theorem dX0_same_1 : decode cX0_same 1 = .ok (.invokestatic 50, 3) := by decide +kernel
theorem dX0_same_4 : decode cX0_same 4 = .ok (.ifCond .eq 10, 3) := by decide +kernel
theorem dX0_same_7 : decode cX0_same 7 = .ok (.iload_n 2, 1) := by decide +kernel
theorem dX0_same_8 : decode cX0_same 8 = .ok (.invokestatic 50, 3) := by decide +kernel
theorem dX0_same_11 : decode cX0_same 11 = .ok (.ifCond .ne 5, 3) := by decide +kernel
theorem dX0_same_14 : decode cX0_same 14 = .ok (.iconst 0, 1) := by decide +kernel
theorem dX0_same_15 : decode cX0_same 15 = .ok (.ireturn, 1) := by decide +kernel
theorem dX0_same_16 : decode cX0_same 16 = .ok (.iconst 0, 1) := by decide +kernel
theorem dX0_same_17 : decode cX0_same 17 = .ok (.istore_n 3, 1) := by decide +kernel
theorem dX0_same_18 : decode cX0_same 18 = .ok (.iload_n 3, 1) := by decide +kernel
theorem dX0_same_19 : decode cX0_same 19 = .ok (.aload_n 0, 1) := by decide +kernel
theorem dX0_same_20 : decode cX0_same 20 = .ok (.getfield 25, 3) := by decide +kernel
theorem dX0_same_23 : decode cX0_same 23 = .ok (.if_icmp .ge 31, 3) := by decide +kernel
theorem dX0_same_26 : decode cX0_same 26 = .ok (.aload_n 0, 1) := by decide +kernel
theorem dX0_same_27 : decode cX0_same 27 = .ok (.getfield 36, 3) := by decide +kernel
theorem dX0_same_30 : decode cX0_same 30 = .ok (.iload_n 1, 1) := by decide +kernel
theorem dX0_same_31 : decode cX0_same 31 = .ok (.aaload, 1) := by decide +kernel
theorem dX0_same_32 : decode cX0_same 32 = .ok (.iload_n 3, 1) := by decide +kernel
theorem dX0_same_33 : decode cX0_same 33 = .ok (.laload, 1) := by decide +kernel
theorem dX0_same_34 : decode cX0_same 34 = .ok (.aload_n 0, 1) := by decide +kernel
theorem dX0_same_35 : decode cX0_same 35 = .ok (.getfield 36, 3) := by decide +kernel
theorem dX0_same_38 : decode cX0_same 38 = .ok (.iload_n 2, 1) := by decide +kernel
theorem dX0_same_39 : decode cX0_same 39 = .ok (.aaload, 1) := by decide +kernel
theorem dX0_same_40 : decode cX0_same 40 = .ok (.iload_n 3, 1) := by decide +kernel
theorem dX0_same_41 : decode cX0_same 41 = .ok (.laload, 1) := by decide +kernel
theorem dX0_same_42 : decode cX0_same 42 = .ok (.lcmp, 1) := by decide +kernel
theorem dX0_same_43 : decode cX0_same 43 = .ok (.ifCond .eq 5, 3) := by decide +kernel
theorem dX0_same_46 : decode cX0_same 46 = .ok (.iconst 0, 1) := by decide +kernel
theorem dX0_same_47 : decode cX0_same 47 = .ok (.ireturn, 1) := by decide +kernel
theorem dX0_same_48 : decode cX0_same 48 = .ok (.iinc 3 1, 3) := by decide +kernel
theorem dX0_same_51 : decode cX0_same 51 = .ok (.goto (-33), 3) := by decide +kernel
theorem dX0_same_54 : decode cX0_same 54 = .ok (.iconst 1, 1) := by decide +kernel
theorem dX0_same_55 : decode cX0_same 55 = .ok (.ireturn, 1) := by decide +kernel
theorem dX0_size_0 : decode cX0_size 0 = .ok (.iload_n 1, 1) := by decide +kernel
theorem dX0_size_1 : decode cX0_size 1 = .ok (.invokestatic 50, 3) := by decide +kernel
theorem dX0_size_4 : decode cX0_size 4 = .ok (.ifCond .ne 5, 3) := by decide +kernel
theorem dX0_size_7 : decode cX0_size 7 = .ok (.iconst (-1), 1) := by decide +kernel
theorem dX0_size_8 : decode cX0_size 8 = .ok (.ireturn, 1) := by decide +kernel
theorem dX0_size_9 : decode cX0_size 9 = .ok (.iconst 0, 1) := by decide +kernel
theorem dX0_size_10 : decode cX0_size 10 = .ok (.istore_n 2, 1) := by decide +kernel
theorem dX0_size_11 : decode cX0_size 11 = .ok (.iload_n 2, 1) := by decide +kernel
theorem dX0_size_12 : decode cX0_size 12 = .ok (.aload_n 0, 1) := by decide +kernel
theorem dX0_size_13 : decode cX0_size 13 = .ok (.getfield 22, 3) := by decide +kernel
theorem dX0_size_16 : decode cX0_size 16 = .ok (.if_icmp .ge 25, 3) := by decide +kernel
theorem dX0_size_19 : decode cX0_size 19 = .ok (.aload_n 0, 1) := by decide +kernel
theorem dX0_size_20 : decode cX0_size 20 = .ok (.getfield 43, 3) := by decide +kernel
theorem dX0_size_23 : decode cX0_size 23 = .ok (.iload_n 2, 1) := by decide +kernel
theorem dX0_size_24 : decode cX0_size 24 = .ok (.aload_n 0, 1) := by decide +kernel
theorem dX0_size_25 : decode cX0_size 25 = .ok (.getfield 36, 3) := by decide +kernel
theorem dX0_size_28 : decode cX0_size 28 = .ok (.iload_n 1, 1) := by decide +kernel
theorem dX0_size_29 : decode cX0_size 29 = .ok (.aaload, 1) := by decide +kernel
theorem dX0_size_30 : decode cX0_size 30 = .ok (.iload_n 2, 1) := by decide +kernel
theorem dX0_size_31 : decode cX0_size 31 = .ok (.invokestatic 81, 3) := by decide +kernel
theorem dX0_size_34 : decode cX0_size 34 = .ok (.iastore, 1) := by decide +kernel
theorem dX0_size_35 : decode cX0_size 35 = .ok (.iinc 2 1, 3) := by decide +kernel
theorem dX0_size_38 : decode cX0_size 38 = .ok (.goto (-27), 3) := by decide +kernel
theorem dX0_size_41 : decode cX0_size 41 = .ok (.iconst 0, 1) := by decide +kernel
theorem dX0_size_42 : decode cX0_size 42 = .ok (.istore_n 2, 1) := by decide +kernel
theorem dX0_size_43 : decode cX0_size 43 = .ok (.aload_n 0, 1) := by decide +kernel
theorem dX0_size_44 : decode cX0_size 44 = .ok (.getfield 18, 3) := by decide +kernel
theorem dX0_size_47 : decode cX0_size 47 = .ok (.iconst 1, 1) := by decide +kernel
theorem dX0_size_48 : decode cX0_size 48 = .ok (.isub, 1) := by decide +kernel
theorem dX0_size_49 : decode cX0_size 49 = .ok (.istore_n 3, 1) := by decide +kernel
theorem dX0_size_50 : decode cX0_size 50 = .ok (.iload_n 3, 1) := by decide +kernel
theorem dX0_size_51 : decode cX0_size 51 = .ok (.ifCond .lt 16, 3) := by decide +kernel
theorem dX0_size_54 : decode cX0_size 54 = .ok (.aload_n 0, 1) := by decide +kernel
theorem dX0_size_55 : decode cX0_size 55 = .ok (.iload_n 3, 1) := by decide +kernel
theorem dX0_size_56 : decode cX0_size 56 = .ok (.iload_n 2, 1) := by decide +kernel
theorem dX0_size_57 : decode cX0_size 57 = .ok (.invokevirtual 85, 3) := by decide +kernel
theorem dX0_size_60 : decode cX0_size 60 = .ok (.istore_n 2, 1) := by decide +kernel
theorem dX0_size_61 : decode cX0_size 61 = .ok (.iinc 3 (-1), 3) := by decide +kernel
theorem dX0_size_64 : decode cX0_size 64 = .ok (.goto (-14), 3) := by decide +kernel
theorem dX0_size_67 : decode cX0_size 67 = .ok (.iload_n 2, 1) := by decide +kernel
theorem dX0_size_68 : decode cX0_size 68 = .ok (.ireturn, 1) := by decide +kernel
theorem dX0_matters_0 : decode cX0_matters 0 = .ok (.iload_n 1, 1) := by decide +kernel
theorem dX0_matters_1 : decode cX0_matters 1 = .ok (.invokestatic 50, 3) := by decide +kernel
theorem dX0_matters_4 : decode cX0_matters 4 = .ok (.ifCond .ne 5, 3) := by decide +kernel
theorem dX0_matters_7 : decode cX0_matters 7 = .ok (.iconst (-1), 1) := by decide +kernel
theorem dX0_matters_8 : decode cX0_matters 8 = .ok (.ireturn, 1) := by decide +kernel
theorem dX0_matters_9 : decode cX0_matters 9 = .ok (.iconst 0, 1) := by decide +kernel
theorem dX0_matters_10 : decode cX0_matters 10 = .ok (.istore_n 2, 1) := by decide +kernel
theorem dX0_matters_11 : decode cX0_matters 11 = .ok (.iconst 0, 1) := by decide +kernel
theorem dX0_matters_12 : decode cX0_matters 12 = .ok (.istore_n 3, 1) := by decide +kernel
theorem dX0_matters_13 : decode cX0_matters 13 = .ok (.iload_n 3, 1) := by decide +kernel
theorem dX0_matters_14 : decode cX0_matters 14 = .ok (.aload_n 0, 1) := by decide +kernel
theorem dX0_matters_15 : decode cX0_matters 15 = .ok (.getfield 18, 3) := by decide +kernel
theorem dX0_matters_18 : decode cX0_matters 18 = .ok (.if_icmp .ge 29, 3) := by decide +kernel
theorem dX0_matters_21 : decode cX0_matters 21 = .ok (.aload_n 0, 1) := by decide +kernel
theorem dX0_matters_22 : decode cX0_matters 22 = .ok (.aload_n 0, 1) := by decide +kernel
theorem dX0_matters_23 : decode cX0_matters 23 = .ok (.getfield 36, 3) := by decide +kernel
theorem dX0_matters_26 : decode cX0_matters 26 = .ok (.iload_n 1, 1) := by decide +kernel
theorem dX0_matters_27 : decode cX0_matters 27 = .ok (.aaload, 1) := by decide +kernel
theorem dX0_matters_28 : decode cX0_matters 28 = .ok (.iload_n 3, 1) := by decide +kernel
theorem dX0_matters_29 : decode cX0_matters 29 = .ok (.invokevirtual 88, 3) := by decide +kernel
theorem dX0_matters_32 : decode cX0_matters 32 = .ok (.ifCond .eq 9, 3) := by decide +kernel
theorem dX0_matters_35 : decode cX0_matters 35 = .ok (.iload_n 2, 1) := by decide +kernel
theorem dX0_matters_36 : decode cX0_matters 36 = .ok (.iconst 1, 1) := by decide +kernel
theorem dX0_matters_37 : decode cX0_matters 37 = .ok (.iload_n 3, 1) := by decide +kernel
theorem dX0_matters_38 : decode cX0_matters 38 = .ok (.ishl, 1) := by decide +kernel
theorem dX0_matters_39 : decode cX0_matters 39 = .ok (.ior, 1) := by decide +kernel
theorem dX0_matters_40 : decode cX0_matters 40 = .ok (.istore_n 2, 1) := by decide +kernel
theorem dX0_matters_41 : decode cX0_matters 41 = .ok (.iinc 3 1, 3) := by decide +kernel
theorem dX0_matters_44 : decode cX0_matters 44 = .ok (.goto (-31), 3) := by decide +kernel
theorem dX0_matters_47 : decode cX0_matters 47 = .ok (.iload_n 2, 1) := by decide +kernel
theorem dX0_matters_48 : decode cX0_matters 48 = .ok (.ireturn, 1) := by decide +kernel
theorem dX0_isRegister_0 : decode cX0_isRegister 0 = .ok (.iload_n 0, 1) := by decide +kernel
theorem dX0_isRegister_1 : decode cX0_isRegister 1 = .ok (.ifCond .lt 13, 3) := by decide +kernel
theorem dX0_isRegister_4 : decode cX0_isRegister 4 = .ok (.iload_n 0, 1) := by decide +kernel
theorem dX0_isRegister_5 : decode cX0_isRegister 5 = .ok (.bipush 32, 2) := by decide +kernel
theorem dX0_isRegister_7 : decode cX0_isRegister 7 = .ok (.if_icmp .ge 7, 3) := by decide +kernel
theorem dX0_isRegister_10 : decode cX0_isRegister 10 = .ok (.iconst 1, 1) := by decide +kernel
theorem dX0_isRegister_11 : decode cX0_isRegister 11 = .ok (.goto 4, 3) := by decide +kernel
theorem dX0_isRegister_14 : decode cX0_isRegister 14 = .ok (.iconst 0, 1) := by decide +kernel
theorem dX0_isRegister_15 : decode cX0_isRegister 15 = .ok (.ireturn, 1) := by decide +kernel
theorem dX0_isVariable_0 : decode cX0_isVariable 0 = .ok (.iload_n 1, 1) := by decide +kernel
theorem dX0_isVariable_1 : decode cX0_isVariable 1 = .ok (.ifCond .lt 15, 3) := by decide +kernel
theorem dX0_isVariable_4 : decode cX0_isVariable 4 = .ok (.iload_n 1, 1) := by decide +kernel
theorem dX0_isVariable_5 : decode cX0_isVariable 5 = .ok (.aload_n 0, 1) := by decide +kernel
theorem dX0_isVariable_6 : decode cX0_isVariable 6 = .ok (.getfield 18, 3) := by decide +kernel
theorem dX0_isVariable_9 : decode cX0_isVariable 9 = .ok (.if_icmp .ge 7, 3) := by decide +kernel
theorem dX0_isVariable_12 : decode cX0_isVariable 12 = .ok (.iconst 1, 1) := by decide +kernel
theorem dX0_isVariable_13 : decode cX0_isVariable 13 = .ok (.goto 4, 3) := by decide +kernel
theorem dX0_isVariable_16 : decode cX0_isVariable 16 = .ok (.iconst 0, 1) := by decide +kernel
theorem dX0_isVariable_17 : decode cX0_isVariable 17 = .ok (.ireturn, 1) := by decide +kernel
theorem dX0_keep_0 : decode cX0_keep 0 = .ok (.aload_n 0, 1) := by decide +kernel
theorem dX0_keep_1 : decode cX0_keep 1 = .ok (.getfield 39, 3) := by decide +kernel
theorem dX0_keep_4 : decode cX0_keep 4 = .ok (.iconst 0, 1) := by decide +kernel
theorem dX0_keep_5 : decode cX0_keep 5 = .ok (.aload_n 0, 1) := by decide +kernel
theorem dX0_keep_6 : decode cX0_keep 6 = .ok (.getfield 36, 3) := by decide +kernel
theorem dX0_keep_9 : decode cX0_keep 9 = .ok (.iload_n 1, 1) := by decide +kernel
theorem dX0_keep_10 : decode cX0_keep 10 = .ok (.aaload, 1) := by decide +kernel
theorem dX0_keep_11 : decode cX0_keep 11 = .ok (.iconst 0, 1) := by decide +kernel
theorem dX0_keep_12 : decode cX0_keep 12 = .ok (.aload_n 0, 1) := by decide +kernel
theorem dX0_keep_13 : decode cX0_keep 13 = .ok (.getfield 25, 3) := by decide +kernel
theorem dX0_keep_16 : decode cX0_keep 16 = .ok (.invokestatic 92, 3) := by decide +kernel
theorem dX0_keep_19 : decode cX0_keep 19 = .ok (.aload_n 0, 1) := by decide +kernel
theorem dX0_keep_20 : decode cX0_keep 20 = .ok (.aload_n 0, 1) := by decide +kernel
theorem dX0_keep_21 : decode cX0_keep 21 = .ok (.getfield 39, 3) := by decide +kernel
theorem dX0_keep_24 : decode cX0_keep 24 = .ok (.invokevirtual 77, 3) := by decide +kernel
theorem dX0_keep_27 : decode cX0_keep 27 = .ok (.ireturn, 1) := by decide +kernel
theorem dX0_count_0 : decode cX0_count 0 = .ok (.iconst 0, 1) := by decide +kernel
theorem dX0_count_1 : decode cX0_count 1 = .ok (.istore_n 2, 1) := by decide +kernel
theorem dX0_count_2 : decode cX0_count 2 = .ok (.iconst 0, 1) := by decide +kernel
theorem dX0_count_3 : decode cX0_count 3 = .ok (.istore_n 3, 1) := by decide +kernel
theorem dX0_count_4 : decode cX0_count 4 = .ok (.iload_n 3, 1) := by decide +kernel
theorem dX0_count_5 : decode cX0_count 5 = .ok (.aload_n 0, 1) := by decide +kernel
theorem dX0_count_6 : decode cX0_count 6 = .ok (.getfield 25, 3) := by decide +kernel
theorem dX0_count_9 : decode cX0_count 9 = .ok (.if_icmp .ge 18, 3) := by decide +kernel
theorem dX0_count_12 : decode cX0_count 12 = .ok (.iload_n 2, 1) := by decide +kernel
theorem dX0_count_13 : decode cX0_count 13 = .ok (.aload_n 1, 1) := by decide +kernel
theorem dX0_count_14 : decode cX0_count 14 = .ok (.iload_n 3, 1) := by decide +kernel
theorem dX0_count_15 : decode cX0_count 15 = .ok (.laload, 1) := by decide +kernel
theorem dX0_count_16 : decode cX0_count 16 = .ok (.invokestatic 98, 3) := by decide +kernel
theorem dX0_count_19 : decode cX0_count 19 = .ok (.iadd, 1) := by decide +kernel
theorem dX0_count_20 : decode cX0_count 20 = .ok (.istore_n 2, 1) := by decide +kernel
theorem dX0_count_21 : decode cX0_count 21 = .ok (.iinc 3 1, 3) := by decide +kernel
theorem dX0_count_24 : decode cX0_count 24 = .ok (.goto (-20), 3) := by decide +kernel
theorem dX0_count_27 : decode cX0_count 27 = .ok (.iload_n 2, 1) := by decide +kernel
theorem dX0_count_28 : decode cX0_count 28 = .ok (.ireturn, 1) := by decide +kernel
theorem dX0_valueAt_0 : decode cX0_valueAt 0 = .ok (.aload_n 0, 1) := by decide +kernel
theorem dX0_valueAt_1 : decode cX0_valueAt 1 = .ok (.iload_n 1, 1) := by decide +kernel
theorem dX0_valueAt_2 : decode cX0_valueAt 2 = .ok (.bipush 6, 2) := by decide +kernel
theorem dX0_valueAt_4 : decode cX0_valueAt 4 = .ok (.ishr, 1) := by decide +kernel
theorem dX0_valueAt_5 : decode cX0_valueAt 5 = .ok (.laload, 1) := by decide +kernel
theorem dX0_valueAt_6 : decode cX0_valueAt 6 = .ok (.iload_n 1, 1) := by decide +kernel
theorem dX0_valueAt_7 : decode cX0_valueAt 7 = .ok (.lushr, 1) := by decide +kernel
theorem dX0_valueAt_8 : decode cX0_valueAt 8 = .ok (.l2i, 1) := by decide +kernel
theorem dX0_valueAt_9 : decode cX0_valueAt 9 = .ok (.iconst 1, 1) := by decide +kernel
theorem dX0_valueAt_10 : decode cX0_valueAt 10 = .ok (.iand, 1) := by decide +kernel
theorem dX0_valueAt_11 : decode cX0_valueAt 11 = .ok (.ireturn, 1) := by decide +kernel
theorem dX0_combined_0 : decode cX0_combined 0 = .ok (.iload_n 0, 1) := by decide +kernel
theorem dX0_combined_1 : decode cX0_combined 1 = .ok (.tableswitch 51 0 3 #[31, 35, 39, 43], 31) := by decide +kernel
theorem dX0_combined_32 : decode cX0_combined 32 = .ok (.lload_n 1, 1) := by decide +kernel
theorem dX0_combined_33 : decode cX0_combined 33 = .ok (.lload_n 3, 1) := by decide +kernel
theorem dX0_combined_34 : decode cX0_combined 34 = .ok (.land, 1) := by decide +kernel
theorem dX0_combined_35 : decode cX0_combined 35 = .ok (.lreturn, 1) := by decide +kernel
theorem dX0_combined_36 : decode cX0_combined 36 = .ok (.lload_n 1, 1) := by decide +kernel
theorem dX0_combined_37 : decode cX0_combined 37 = .ok (.lload_n 3, 1) := by decide +kernel
theorem dX0_combined_38 : decode cX0_combined 38 = .ok (.lor, 1) := by decide +kernel
theorem dX0_combined_39 : decode cX0_combined 39 = .ok (.lreturn, 1) := by decide +kernel
theorem dX0_combined_40 : decode cX0_combined 40 = .ok (.lload_n 1, 1) := by decide +kernel
theorem dX0_combined_41 : decode cX0_combined 41 = .ok (.lload_n 3, 1) := by decide +kernel
theorem dX0_combined_42 : decode cX0_combined 42 = .ok (.lxor, 1) := by decide +kernel
theorem dX0_combined_43 : decode cX0_combined 43 = .ok (.lreturn, 1) := by decide +kernel
theorem dX0_combined_44 : decode cX0_combined 44 = .ok (.lload_n 1, 1) := by decide +kernel
theorem dX0_combined_45 : decode cX0_combined 45 = .ok (.lload_n 3, 1) := by decide +kernel
theorem dX0_combined_46 : decode cX0_combined 46 = .ok (.ldc2_w 28, 3) := by decide +kernel
theorem dX0_combined_49 : decode cX0_combined 49 = .ok (.lxor, 1) := by decide +kernel
theorem dX0_combined_50 : decode cX0_combined 50 = .ok (.land, 1) := by decide +kernel
theorem dX0_combined_51 : decode cX0_combined 51 = .ok (.lreturn, 1) := by decide +kernel
theorem dX0_combined_52 : decode cX0_combined 52 = .ok (.lload_n 1, 1) := by decide +kernel
theorem dX0_combined_53 : decode cX0_combined 53 = .ok (.ldc2_w 28, 3) := by decide +kernel
theorem dX0_combined_56 : decode cX0_combined 56 = .ok (.lxor, 1) := by decide +kernel
theorem dX0_combined_57 : decode cX0_combined 57 = .ok (.lload_n 3, 1) := by decide +kernel
theorem dX0_combined_58 : decode cX0_combined 58 = .ok (.lor, 1) := by decide +kernel
theorem dX0_combined_59 : decode cX0_combined 59 = .ok (.lreturn, 1) := by decide +kernel
theorem dX0_bitOf_0 : decode cX0_bitOf 0 = .ok (.aload_n 0, 1) := by decide +kernel
theorem dX0_bitOf_1 : decode cX0_bitOf 1 = .ok (.getfield 18, 3) := by decide +kernel
theorem dX0_bitOf_4 : decode cX0_bitOf 4 = .ok (.iconst 1, 1) := by decide +kernel
theorem dX0_bitOf_5 : decode cX0_bitOf 5 = .ok (.isub, 1) := by decide +kernel
theorem dX0_bitOf_6 : decode cX0_bitOf 6 = .ok (.iload_n 1, 1) := by decide +kernel
theorem dX0_bitOf_7 : decode cX0_bitOf 7 = .ok (.isub, 1) := by decide +kernel
theorem dX0_bitOf_8 : decode cX0_bitOf 8 = .ok (.ireturn, 1) := by decide +kernel
theorem dX0_placesWhereOne_0 : decode cX0_placesWhereOne 0 = .ok (.aload_n 0, 1) := by decide +kernel
theorem dX0_placesWhereOne_1 : decode cX0_placesWhereOne 1 = .ok (.iload_n 1, 1) := by decide +kernel
theorem dX0_placesWhereOne_2 : decode cX0_placesWhereOne 2 = .ok (.invokevirtual 104, 3) := by decide +kernel
theorem dX0_placesWhereOne_5 : decode cX0_placesWhereOne 5 = .ok (.istore_n 3, 1) := by decide +kernel
theorem dX0_placesWhereOne_6 : decode cX0_placesWhereOne 6 = .ok (.iload_n 3, 1) := by decide +kernel
theorem dX0_placesWhereOne_7 : decode cX0_placesWhereOne 7 = .ok (.bipush 6, 2) := by decide +kernel
theorem dX0_placesWhereOne_9 : decode cX0_placesWhereOne 9 = .ok (.if_icmp .ge 14, 3) := by decide +kernel
theorem dX0_placesWhereOne_12 : decode cX0_placesWhereOne 12 = .ok (.getstatic 107, 3) := by decide +kernel
theorem dX0_placesWhereOne_15 : decode cX0_placesWhereOne 15 = .ok (.iload_n 3, 1) := by decide +kernel
theorem dX0_placesWhereOne_16 : decode cX0_placesWhereOne 16 = .ok (.laload, 1) := by decide +kernel
theorem dX0_placesWhereOne_17 : decode cX0_placesWhereOne 17 = .ok (.aload_n 0, 1) := by decide +kernel
theorem dX0_placesWhereOne_18 : decode cX0_placesWhereOne 18 = .ok (.getfield 30, 3) := by decide +kernel
theorem dX0_placesWhereOne_21 : decode cX0_placesWhereOne 21 = .ok (.land, 1) := by decide +kernel
theorem dX0_placesWhereOne_22 : decode cX0_placesWhereOne 22 = .ok (.lreturn, 1) := by decide +kernel
theorem dX0_placesWhereOne_23 : decode cX0_placesWhereOne 23 = .ok (.iload_n 2, 1) := by decide +kernel
theorem dX0_placesWhereOne_24 : decode cX0_placesWhereOne 24 = .ok (.iload_n 3, 1) := by decide +kernel
theorem dX0_placesWhereOne_25 : decode cX0_placesWhereOne 25 = .ok (.bipush 6, 2) := by decide +kernel
theorem dX0_placesWhereOne_27 : decode cX0_placesWhereOne 27 = .ok (.isub, 1) := by decide +kernel
theorem dX0_placesWhereOne_28 : decode cX0_placesWhereOne 28 = .ok (.ishr, 1) := by decide +kernel
theorem dX0_placesWhereOne_29 : decode cX0_placesWhereOne 29 = .ok (.iconst 1, 1) := by decide +kernel
theorem dX0_placesWhereOne_30 : decode cX0_placesWhereOne 30 = .ok (.iand, 1) := by decide +kernel
theorem dX0_placesWhereOne_31 : decode cX0_placesWhereOne 31 = .ok (.iconst 1, 1) := by decide +kernel
theorem dX0_placesWhereOne_32 : decode cX0_placesWhereOne 32 = .ok (.if_icmp .ne 10, 3) := by decide +kernel
theorem dX0_placesWhereOne_35 : decode cX0_placesWhereOne 35 = .ok (.aload_n 0, 1) := by decide +kernel
theorem dX0_placesWhereOne_36 : decode cX0_placesWhereOne 36 = .ok (.getfield 30, 3) := by decide +kernel
theorem dX0_placesWhereOne_39 : decode cX0_placesWhereOne 39 = .ok (.goto 4, 3) := by decide +kernel
theorem dX0_placesWhereOne_42 : decode cX0_placesWhereOne 42 = .ok (.lconst 0, 1) := by decide +kernel
theorem dX0_placesWhereOne_43 : decode cX0_placesWhereOne 43 = .ok (.lreturn, 1) := by decide +kernel
theorem dX0_turned_0 : decode cX0_turned 0 = .ok (.aload_n 0, 1) := by decide +kernel
theorem dX0_turned_1 : decode cX0_turned 1 = .ok (.iload_n 2, 1) := by decide +kernel
theorem dX0_turned_2 : decode cX0_turned 2 = .ok (.invokevirtual 104, 3) := by decide +kernel
theorem dX0_turned_5 : decode cX0_turned 5 = .ok (.istore 4, 2) := by decide +kernel
theorem dX0_turned_7 : decode cX0_turned 7 = .ok (.iload 4, 2) := by decide +kernel
theorem dX0_turned_9 : decode cX0_turned 9 = .ok (.bipush 6, 2) := by decide +kernel
theorem dX0_turned_11 : decode cX0_turned 11 = .ok (.if_icmp .lt 15, 3) := by decide +kernel
theorem dX0_turned_14 : decode cX0_turned 14 = .ok (.aload_n 1, 1) := by decide +kernel
theorem dX0_turned_15 : decode cX0_turned 15 = .ok (.iload_n 3, 1) := by decide +kernel
theorem dX0_turned_16 : decode cX0_turned 16 = .ok (.iconst 1, 1) := by decide +kernel
theorem dX0_turned_17 : decode cX0_turned 17 = .ok (.iload 4, 2) := by decide +kernel
theorem dX0_turned_19 : decode cX0_turned 19 = .ok (.bipush 6, 2) := by decide +kernel
theorem dX0_turned_21 : decode cX0_turned 21 = .ok (.isub, 1) := by decide +kernel
theorem dX0_turned_22 : decode cX0_turned 22 = .ok (.ishl, 1) := by decide +kernel
theorem dX0_turned_23 : decode cX0_turned 23 = .ok (.ixor, 1) := by decide +kernel
theorem dX0_turned_24 : decode cX0_turned 24 = .ok (.laload, 1) := by decide +kernel
theorem dX0_turned_25 : decode cX0_turned 25 = .ok (.lreturn, 1) := by decide +kernel
theorem dX0_turned_26 : decode cX0_turned 26 = .ok (.iconst 1, 1) := by decide +kernel
theorem dX0_turned_27 : decode cX0_turned 27 = .ok (.iload 4, 2) := by decide +kernel
theorem dX0_turned_29 : decode cX0_turned 29 = .ok (.ishl, 1) := by decide +kernel
theorem dX0_turned_30 : decode cX0_turned 30 = .ok (.istore 5, 2) := by decide +kernel
theorem dX0_turned_32 : decode cX0_turned 32 = .ok (.getstatic 107, 3) := by decide +kernel
theorem dX0_turned_35 : decode cX0_turned 35 = .ok (.iload 4, 2) := by decide +kernel
theorem dX0_turned_37 : decode cX0_turned 37 = .ok (.laload, 1) := by decide +kernel
theorem dX0_turned_38 : decode cX0_turned 38 = .ok (.lstore 6, 2) := by decide +kernel
theorem dX0_turned_40 : decode cX0_turned 40 = .ok (.aload_n 1, 1) := by decide +kernel
theorem dX0_turned_41 : decode cX0_turned 41 = .ok (.iload_n 3, 1) := by decide +kernel
theorem dX0_turned_42 : decode cX0_turned 42 = .ok (.laload, 1) := by decide +kernel
theorem dX0_turned_43 : decode cX0_turned 43 = .ok (.lload 6, 2) := by decide +kernel
theorem dX0_turned_45 : decode cX0_turned 45 = .ok (.land, 1) := by decide +kernel
theorem dX0_turned_46 : decode cX0_turned 46 = .ok (.iload 5, 2) := by decide +kernel
theorem dX0_turned_48 : decode cX0_turned 48 = .ok (.lushr, 1) := by decide +kernel
theorem dX0_turned_49 : decode cX0_turned 49 = .ok (.aload_n 1, 1) := by decide +kernel
theorem dX0_turned_50 : decode cX0_turned 50 = .ok (.iload_n 3, 1) := by decide +kernel
theorem dX0_turned_51 : decode cX0_turned 51 = .ok (.laload, 1) := by decide +kernel
theorem dX0_turned_52 : decode cX0_turned 52 = .ok (.lload 6, 2) := by decide +kernel
theorem dX0_turned_54 : decode cX0_turned 54 = .ok (.ldc2_w 28, 3) := by decide +kernel
theorem dX0_turned_57 : decode cX0_turned 57 = .ok (.lxor, 1) := by decide +kernel
theorem dX0_turned_58 : decode cX0_turned 58 = .ok (.land, 1) := by decide +kernel
theorem dX0_turned_59 : decode cX0_turned 59 = .ok (.iload 5, 2) := by decide +kernel
theorem dX0_turned_61 : decode cX0_turned 61 = .ok (.lshl, 1) := by decide +kernel
theorem dX0_turned_62 : decode cX0_turned 62 = .ok (.lor, 1) := by decide +kernel
theorem dX0_turned_63 : decode cX0_turned 63 = .ok (.lreturn, 1) := by decide +kernel
theorem dX0_narrowed_0 : decode cX0_narrowed 0 = .ok (.aload_n 0, 1) := by decide +kernel
theorem dX0_narrowed_1 : decode cX0_narrowed 1 = .ok (.iload_n 2, 1) := by decide +kernel
theorem dX0_narrowed_2 : decode cX0_narrowed 2 = .ok (.iload 4, 2) := by decide +kernel
theorem dX0_narrowed_4 : decode cX0_narrowed 4 = .ok (.invokevirtual 57, 3) := by decide +kernel
theorem dX0_narrowed_7 : decode cX0_narrowed 7 = .ok (.lstore 5, 2) := by decide +kernel
theorem dX0_narrowed_9 : decode cX0_narrowed 9 = .ok (.iload_n 3, 1) := by decide +kernel
theorem dX0_narrowed_10 : decode cX0_narrowed 10 = .ok (.ifCond .eq 8, 3) := by decide +kernel
theorem dX0_narrowed_13 : decode cX0_narrowed 13 = .ok (.lload 5, 2) := by decide +kernel
theorem dX0_narrowed_15 : decode cX0_narrowed 15 = .ok (.goto 9, 3) := by decide +kernel
theorem dX0_narrowed_18 : decode cX0_narrowed 18 = .ok (.lload 5, 2) := by decide +kernel
theorem dX0_narrowed_20 : decode cX0_narrowed 20 = .ok (.ldc2_w 28, 3) := by decide +kernel
theorem dX0_narrowed_23 : decode cX0_narrowed 23 = .ok (.lxor, 1) := by decide +kernel
theorem dX0_narrowed_24 : decode cX0_narrowed 24 = .ok (.lstore 7, 2) := by decide +kernel
theorem dX0_narrowed_26 : decode cX0_narrowed 26 = .ok (.aload_n 1, 1) := by decide +kernel
theorem dX0_narrowed_27 : decode cX0_narrowed 27 = .ok (.iload 4, 2) := by decide +kernel
theorem dX0_narrowed_29 : decode cX0_narrowed 29 = .ok (.laload, 1) := by decide +kernel
theorem dX0_narrowed_30 : decode cX0_narrowed 30 = .ok (.lload 7, 2) := by decide +kernel
theorem dX0_narrowed_32 : decode cX0_narrowed 32 = .ok (.land, 1) := by decide +kernel
theorem dX0_narrowed_33 : decode cX0_narrowed 33 = .ok (.aload_n 0, 1) := by decide +kernel
theorem dX0_narrowed_34 : decode cX0_narrowed 34 = .ok (.aload_n 1, 1) := by decide +kernel
theorem dX0_narrowed_35 : decode cX0_narrowed 35 = .ok (.iload_n 2, 1) := by decide +kernel
theorem dX0_narrowed_36 : decode cX0_narrowed 36 = .ok (.iload 4, 2) := by decide +kernel
theorem dX0_narrowed_38 : decode cX0_narrowed 38 = .ok (.invokevirtual 73, 3) := by decide +kernel
theorem dX0_narrowed_41 : decode cX0_narrowed 41 = .ok (.lload 7, 2) := by decide +kernel
theorem dX0_narrowed_43 : decode cX0_narrowed 43 = .ok (.ldc2_w 28, 3) := by decide +kernel
theorem dX0_narrowed_46 : decode cX0_narrowed 46 = .ok (.lxor, 1) := by decide +kernel
theorem dX0_narrowed_47 : decode cX0_narrowed 47 = .ok (.land, 1) := by decide +kernel
theorem dX0_narrowed_48 : decode cX0_narrowed 48 = .ok (.lor, 1) := by decide +kernel
theorem dX0_narrowed_49 : decode cX0_narrowed 49 = .ok (.lreturn, 1) := by decide +kernel
theorem dX0_dependsOn_0 : decode cX0_dependsOn 0 = .ok (.iconst 0, 1) := by decide +kernel
theorem dX0_dependsOn_1 : decode cX0_dependsOn 1 = .ok (.istore_n 3, 1) := by decide +kernel
theorem dX0_dependsOn_2 : decode cX0_dependsOn 2 = .ok (.iload_n 3, 1) := by decide +kernel
theorem dX0_dependsOn_3 : decode cX0_dependsOn 3 = .ok (.aload_n 0, 1) := by decide +kernel
theorem dX0_dependsOn_4 : decode cX0_dependsOn 4 = .ok (.getfield 25, 3) := by decide +kernel
theorem dX0_dependsOn_7 : decode cX0_dependsOn 7 = .ok (.if_icmp .ge 25, 3) := by decide +kernel
theorem dX0_dependsOn_10 : decode cX0_dependsOn 10 = .ok (.aload_n 1, 1) := by decide +kernel
theorem dX0_dependsOn_11 : decode cX0_dependsOn 11 = .ok (.iload_n 3, 1) := by decide +kernel
theorem dX0_dependsOn_12 : decode cX0_dependsOn 12 = .ok (.laload, 1) := by decide +kernel
theorem dX0_dependsOn_13 : decode cX0_dependsOn 13 = .ok (.aload_n 0, 1) := by decide +kernel
theorem dX0_dependsOn_14 : decode cX0_dependsOn 14 = .ok (.aload_n 1, 1) := by decide +kernel
theorem dX0_dependsOn_15 : decode cX0_dependsOn 15 = .ok (.iload_n 2, 1) := by decide +kernel
theorem dX0_dependsOn_16 : decode cX0_dependsOn 16 = .ok (.iload_n 3, 1) := by decide +kernel
theorem dX0_dependsOn_17 : decode cX0_dependsOn 17 = .ok (.invokevirtual 73, 3) := by decide +kernel
theorem dX0_dependsOn_20 : decode cX0_dependsOn 20 = .ok (.lcmp, 1) := by decide +kernel
theorem dX0_dependsOn_21 : decode cX0_dependsOn 21 = .ok (.ifCond .eq 5, 3) := by decide +kernel
theorem dX0_dependsOn_24 : decode cX0_dependsOn 24 = .ok (.iconst 1, 1) := by decide +kernel
theorem dX0_dependsOn_25 : decode cX0_dependsOn 25 = .ok (.ireturn, 1) := by decide +kernel
theorem dX0_dependsOn_26 : decode cX0_dependsOn 26 = .ok (.iinc 3 1, 3) := by decide +kernel
theorem dX0_dependsOn_29 : decode cX0_dependsOn 29 = .ok (.goto (-27), 3) := by decide +kernel
theorem dX0_dependsOn_32 : decode cX0_dependsOn 32 = .ok (.iconst 0, 1) := by decide +kernel
theorem dX0_dependsOn_33 : decode cX0_dependsOn 33 = .ok (.ireturn, 1) := by decide +kernel
theorem dX0_joinHalves_0 : decode cX0_joinHalves 0 = .ok (.iload_n 2, 1) := by decide +kernel
theorem dX0_joinHalves_1 : decode cX0_joinHalves 1 = .ok (.istore_n 3, 1) := by decide +kernel
theorem dX0_joinHalves_2 : decode cX0_joinHalves 2 = .ok (.iconst 0, 1) := by decide +kernel
theorem dX0_joinHalves_3 : decode cX0_joinHalves 3 = .ok (.istore 4, 2) := by decide +kernel
theorem dX0_joinHalves_5 : decode cX0_joinHalves 5 = .ok (.iload 4, 2) := by decide +kernel
theorem dX0_joinHalves_7 : decode cX0_joinHalves 7 = .ok (.iconst 1, 1) := by decide +kernel
theorem dX0_joinHalves_8 : decode cX0_joinHalves 8 = .ok (.iload_n 1, 1) := by decide +kernel
theorem dX0_joinHalves_9 : decode cX0_joinHalves 9 = .ok (.ishl, 1) := by decide +kernel
theorem dX0_joinHalves_10 : decode cX0_joinHalves 10 = .ok (.if_icmp .ge 101, 3) := by decide +kernel
theorem dX0_joinHalves_13 : decode cX0_joinHalves 13 = .ok (.aload_n 0, 1) := by decide +kernel
theorem dX0_joinHalves_14 : decode cX0_joinHalves 14 = .ok (.getfield 43, 3) := by decide +kernel
theorem dX0_joinHalves_17 : decode cX0_joinHalves 17 = .ok (.iconst 2, 1) := by decide +kernel
theorem dX0_joinHalves_18 : decode cX0_joinHalves 18 = .ok (.iload 4, 2) := by decide +kernel
theorem dX0_joinHalves_20 : decode cX0_joinHalves 20 = .ok (.imul, 1) := by decide +kernel
theorem dX0_joinHalves_21 : decode cX0_joinHalves 21 = .ok (.iaload, 1) := by decide +kernel
theorem dX0_joinHalves_22 : decode cX0_joinHalves 22 = .ok (.istore 5, 2) := by decide +kernel
theorem dX0_joinHalves_24 : decode cX0_joinHalves 24 = .ok (.aload_n 0, 1) := by decide +kernel
theorem dX0_joinHalves_25 : decode cX0_joinHalves 25 = .ok (.getfield 43, 3) := by decide +kernel
theorem dX0_joinHalves_28 : decode cX0_joinHalves 28 = .ok (.iconst 2, 1) := by decide +kernel
theorem dX0_joinHalves_29 : decode cX0_joinHalves 29 = .ok (.iload 4, 2) := by decide +kernel
theorem dX0_joinHalves_31 : decode cX0_joinHalves 31 = .ok (.imul, 1) := by decide +kernel
theorem dX0_joinHalves_32 : decode cX0_joinHalves 32 = .ok (.iconst 1, 1) := by decide +kernel
theorem dX0_joinHalves_33 : decode cX0_joinHalves 33 = .ok (.iadd, 1) := by decide +kernel
theorem dX0_joinHalves_34 : decode cX0_joinHalves 34 = .ok (.iaload, 1) := by decide +kernel
theorem dX0_joinHalves_35 : decode cX0_joinHalves 35 = .ok (.istore 6, 2) := by decide +kernel
theorem dX0_joinHalves_37 : decode cX0_joinHalves 37 = .ok (.iload 5, 2) := by decide +kernel
theorem dX0_joinHalves_39 : decode cX0_joinHalves 39 = .ok (.iload 6, 2) := by decide +kernel
theorem dX0_joinHalves_41 : decode cX0_joinHalves 41 = .ok (.if_icmp .ne 15, 3) := by decide +kernel
theorem dX0_joinHalves_44 : decode cX0_joinHalves 44 = .ok (.aload_n 0, 1) := by decide +kernel
theorem dX0_joinHalves_45 : decode cX0_joinHalves 45 = .ok (.getfield 43, 3) := by decide +kernel
theorem dX0_joinHalves_48 : decode cX0_joinHalves 48 = .ok (.iload 4, 2) := by decide +kernel
theorem dX0_joinHalves_50 : decode cX0_joinHalves 50 = .ok (.iload 5, 2) := by decide +kernel
theorem dX0_joinHalves_52 : decode cX0_joinHalves 52 = .ok (.iastore, 1) := by decide +kernel
theorem dX0_joinHalves_53 : decode cX0_joinHalves 53 = .ok (.goto 52, 3) := by decide +kernel
theorem dX0_joinHalves_56 : decode cX0_joinHalves 56 = .ok (.iload 5, 2) := by decide +kernel
theorem dX0_joinHalves_58 : decode cX0_joinHalves 58 = .ok (.bipush 10, 2) := by decide +kernel
theorem dX0_joinHalves_60 : decode cX0_joinHalves 60 = .ok (.ishl, 1) := by decide +kernel
theorem dX0_joinHalves_61 : decode cX0_joinHalves 61 = .ok (.iload 6, 2) := by decide +kernel
theorem dX0_joinHalves_63 : decode cX0_joinHalves 63 = .ok (.ior, 1) := by decide +kernel
theorem dX0_joinHalves_64 : decode cX0_joinHalves 64 = .ok (.istore 7, 2) := by decide +kernel
theorem dX0_joinHalves_66 : decode cX0_joinHalves 66 = .ok (.aload_n 0, 1) := by decide +kernel
theorem dX0_joinHalves_67 : decode cX0_joinHalves 67 = .ok (.iload 7, 2) := by decide +kernel
theorem dX0_joinHalves_69 : decode cX0_joinHalves 69 = .ok (.iload_n 2, 1) := by decide +kernel
theorem dX0_joinHalves_70 : decode cX0_joinHalves 70 = .ok (.iload_n 3, 1) := by decide +kernel
theorem dX0_joinHalves_71 : decode cX0_joinHalves 71 = .ok (.invokevirtual 110, 3) := by decide +kernel
theorem dX0_joinHalves_74 : decode cX0_joinHalves 74 = .ok (.istore 8, 2) := by decide +kernel
theorem dX0_joinHalves_76 : decode cX0_joinHalves 76 = .ok (.aload_n 0, 1) := by decide +kernel
theorem dX0_joinHalves_77 : decode cX0_joinHalves 77 = .ok (.getfield 47, 3) := by decide +kernel
theorem dX0_joinHalves_80 : decode cX0_joinHalves 80 = .ok (.iload 8, 2) := by decide +kernel
theorem dX0_joinHalves_82 : decode cX0_joinHalves 82 = .ok (.iload 7, 2) := by decide +kernel
theorem dX0_joinHalves_84 : decode cX0_joinHalves 84 = .ok (.iastore, 1) := by decide +kernel
theorem dX0_joinHalves_85 : decode cX0_joinHalves 85 = .ok (.iload_n 3, 1) := by decide +kernel
theorem dX0_joinHalves_86 : decode cX0_joinHalves 86 = .ok (.iload 8, 2) := by decide +kernel
theorem dX0_joinHalves_88 : decode cX0_joinHalves 88 = .ok (.iconst 1, 1) := by decide +kernel
theorem dX0_joinHalves_89 : decode cX0_joinHalves 89 = .ok (.iadd, 1) := by decide +kernel
theorem dX0_joinHalves_90 : decode cX0_joinHalves 90 = .ok (.invokestatic 15, 3) := by decide +kernel
theorem dX0_joinHalves_93 : decode cX0_joinHalves 93 = .ok (.istore_n 3, 1) := by decide +kernel
theorem dX0_joinHalves_94 : decode cX0_joinHalves 94 = .ok (.aload_n 0, 1) := by decide +kernel
theorem dX0_joinHalves_95 : decode cX0_joinHalves 95 = .ok (.getfield 43, 3) := by decide +kernel
theorem dX0_joinHalves_98 : decode cX0_joinHalves 98 = .ok (.iload 4, 2) := by decide +kernel
theorem dX0_joinHalves_100 : decode cX0_joinHalves 100 = .ok (.iconst 2, 1) := by decide +kernel
theorem dX0_joinHalves_101 : decode cX0_joinHalves 101 = .ok (.iload 8, 2) := by decide +kernel
theorem dX0_joinHalves_103 : decode cX0_joinHalves 103 = .ok (.iadd, 1) := by decide +kernel
theorem dX0_joinHalves_104 : decode cX0_joinHalves 104 = .ok (.iastore, 1) := by decide +kernel
theorem dX0_joinHalves_105 : decode cX0_joinHalves 105 = .ok (.iinc 4 1, 3) := by decide +kernel
theorem dX0_joinHalves_108 : decode cX0_joinHalves 108 = .ok (.goto (-103), 3) := by decide +kernel
theorem dX0_joinHalves_111 : decode cX0_joinHalves 111 = .ok (.iload_n 3, 1) := by decide +kernel
theorem dX0_joinHalves_112 : decode cX0_joinHalves 112 = .ok (.ireturn, 1) := by decide +kernel
theorem dX0_placeOfPart_0 : decode cX0_placeOfPart 0 = .ok (.iload_n 2, 1) := by decide +kernel
theorem dX0_placeOfPart_1 : decode cX0_placeOfPart 1 = .ok (.istore 4, 2) := by decide +kernel
theorem dX0_placeOfPart_3 : decode cX0_placeOfPart 3 = .ok (.iload 4, 2) := by decide +kernel
theorem dX0_placeOfPart_5 : decode cX0_placeOfPart 5 = .ok (.iload_n 3, 1) := by decide +kernel
theorem dX0_placeOfPart_6 : decode cX0_placeOfPart 6 = .ok (.if_icmp .ge 23, 3) := by decide +kernel
theorem dX0_placeOfPart_9 : decode cX0_placeOfPart 9 = .ok (.aload_n 0, 1) := by decide +kernel
theorem dX0_placeOfPart_10 : decode cX0_placeOfPart 10 = .ok (.getfield 47, 3) := by decide +kernel
theorem dX0_placeOfPart_13 : decode cX0_placeOfPart 13 = .ok (.iload 4, 2) := by decide +kernel
theorem dX0_placeOfPart_15 : decode cX0_placeOfPart 15 = .ok (.iaload, 1) := by decide +kernel
theorem dX0_placeOfPart_16 : decode cX0_placeOfPart 16 = .ok (.iload_n 1, 1) := by decide +kernel
theorem dX0_placeOfPart_17 : decode cX0_placeOfPart 17 = .ok (.if_icmp .ne 6, 3) := by decide +kernel
theorem dX0_placeOfPart_20 : decode cX0_placeOfPart 20 = .ok (.iload 4, 2) := by decide +kernel
theorem dX0_placeOfPart_22 : decode cX0_placeOfPart 22 = .ok (.ireturn, 1) := by decide +kernel
theorem dX0_placeOfPart_23 : decode cX0_placeOfPart 23 = .ok (.iinc 4 1, 3) := by decide +kernel
theorem dX0_placeOfPart_26 : decode cX0_placeOfPart 26 = .ok (.goto (-23), 3) := by decide +kernel
theorem dX0_placeOfPart_29 : decode cX0_placeOfPart 29 = .ok (.iload_n 3, 1) := by decide +kernel
theorem dX0_placeOfPart_30 : decode cX0_placeOfPart 30 = .ok (.ireturn, 1) := by decide +kernel
theorem dJ13_bitCount_95d88_0 : decode cJ13_bitCount_95d88 0 = .ok (.lload_n 0, 1) := by decide +kernel
theorem dJ13_bitCount_95d88_1 : decode cJ13_bitCount_95d88 1 = .ok (.lload_n 0, 1) := by decide +kernel
theorem dJ13_bitCount_95d88_2 : decode cJ13_bitCount_95d88 2 = .ok (.iconst 1, 1) := by decide +kernel
theorem dJ13_bitCount_95d88_3 : decode cJ13_bitCount_95d88 3 = .ok (.lushr, 1) := by decide +kernel
theorem dJ13_bitCount_95d88_4 : decode cJ13_bitCount_95d88 4 = .ok (.ldc2_w 314, 3) := by decide +kernel
theorem dJ13_bitCount_95d88_7 : decode cJ13_bitCount_95d88 7 = .ok (.land, 1) := by decide +kernel
theorem dJ13_bitCount_95d88_8 : decode cJ13_bitCount_95d88 8 = .ok (.lsub, 1) := by decide +kernel
theorem dJ13_bitCount_95d88_9 : decode cJ13_bitCount_95d88 9 = .ok (.lstore_n 0, 1) := by decide +kernel
theorem dJ13_bitCount_95d88_10 : decode cJ13_bitCount_95d88 10 = .ok (.lload_n 0, 1) := by decide +kernel
theorem dJ13_bitCount_95d88_11 : decode cJ13_bitCount_95d88 11 = .ok (.ldc2_w 316, 3) := by decide +kernel
theorem dJ13_bitCount_95d88_14 : decode cJ13_bitCount_95d88 14 = .ok (.land, 1) := by decide +kernel
theorem dJ13_bitCount_95d88_15 : decode cJ13_bitCount_95d88 15 = .ok (.lload_n 0, 1) := by decide +kernel
theorem dJ13_bitCount_95d88_16 : decode cJ13_bitCount_95d88 16 = .ok (.iconst 2, 1) := by decide +kernel
theorem dJ13_bitCount_95d88_17 : decode cJ13_bitCount_95d88 17 = .ok (.lushr, 1) := by decide +kernel
theorem dJ13_bitCount_95d88_18 : decode cJ13_bitCount_95d88 18 = .ok (.ldc2_w 316, 3) := by decide +kernel
theorem dJ13_bitCount_95d88_21 : decode cJ13_bitCount_95d88 21 = .ok (.land, 1) := by decide +kernel
theorem dJ13_bitCount_95d88_22 : decode cJ13_bitCount_95d88 22 = .ok (.ladd, 1) := by decide +kernel
theorem dJ13_bitCount_95d88_23 : decode cJ13_bitCount_95d88 23 = .ok (.lstore_n 0, 1) := by decide +kernel
theorem dJ13_bitCount_95d88_24 : decode cJ13_bitCount_95d88 24 = .ok (.lload_n 0, 1) := by decide +kernel
theorem dJ13_bitCount_95d88_25 : decode cJ13_bitCount_95d88 25 = .ok (.lload_n 0, 1) := by decide +kernel
theorem dJ13_bitCount_95d88_26 : decode cJ13_bitCount_95d88 26 = .ok (.iconst 4, 1) := by decide +kernel
theorem dJ13_bitCount_95d88_27 : decode cJ13_bitCount_95d88 27 = .ok (.lushr, 1) := by decide +kernel
theorem dJ13_bitCount_95d88_28 : decode cJ13_bitCount_95d88 28 = .ok (.ladd, 1) := by decide +kernel
theorem dJ13_bitCount_95d88_29 : decode cJ13_bitCount_95d88 29 = .ok (.ldc2_w 318, 3) := by decide +kernel
theorem dJ13_bitCount_95d88_32 : decode cJ13_bitCount_95d88 32 = .ok (.land, 1) := by decide +kernel
theorem dJ13_bitCount_95d88_33 : decode cJ13_bitCount_95d88 33 = .ok (.lstore_n 0, 1) := by decide +kernel
theorem dJ13_bitCount_95d88_34 : decode cJ13_bitCount_95d88 34 = .ok (.lload_n 0, 1) := by decide +kernel
theorem dJ13_bitCount_95d88_35 : decode cJ13_bitCount_95d88 35 = .ok (.lload_n 0, 1) := by decide +kernel
theorem dJ13_bitCount_95d88_36 : decode cJ13_bitCount_95d88 36 = .ok (.bipush 8, 2) := by decide +kernel
theorem dJ13_bitCount_95d88_38 : decode cJ13_bitCount_95d88 38 = .ok (.lushr, 1) := by decide +kernel
theorem dJ13_bitCount_95d88_39 : decode cJ13_bitCount_95d88 39 = .ok (.ladd, 1) := by decide +kernel
theorem dJ13_bitCount_95d88_40 : decode cJ13_bitCount_95d88 40 = .ok (.lstore_n 0, 1) := by decide +kernel
theorem dJ13_bitCount_95d88_41 : decode cJ13_bitCount_95d88 41 = .ok (.lload_n 0, 1) := by decide +kernel
theorem dJ13_bitCount_95d88_42 : decode cJ13_bitCount_95d88 42 = .ok (.lload_n 0, 1) := by decide +kernel
theorem dJ13_bitCount_95d88_43 : decode cJ13_bitCount_95d88 43 = .ok (.bipush 16, 2) := by decide +kernel
theorem dJ13_bitCount_95d88_45 : decode cJ13_bitCount_95d88 45 = .ok (.lushr, 1) := by decide +kernel
theorem dJ13_bitCount_95d88_46 : decode cJ13_bitCount_95d88 46 = .ok (.ladd, 1) := by decide +kernel
theorem dJ13_bitCount_95d88_47 : decode cJ13_bitCount_95d88 47 = .ok (.lstore_n 0, 1) := by decide +kernel
theorem dJ13_bitCount_95d88_48 : decode cJ13_bitCount_95d88 48 = .ok (.lload_n 0, 1) := by decide +kernel
theorem dJ13_bitCount_95d88_49 : decode cJ13_bitCount_95d88 49 = .ok (.lload_n 0, 1) := by decide +kernel
theorem dJ13_bitCount_95d88_50 : decode cJ13_bitCount_95d88 50 = .ok (.bipush 32, 2) := by decide +kernel
theorem dJ13_bitCount_95d88_52 : decode cJ13_bitCount_95d88 52 = .ok (.lushr, 1) := by decide +kernel
theorem dJ13_bitCount_95d88_53 : decode cJ13_bitCount_95d88 53 = .ok (.ladd, 1) := by decide +kernel
theorem dJ13_bitCount_95d88_54 : decode cJ13_bitCount_95d88 54 = .ok (.lstore_n 0, 1) := by decide +kernel
theorem dJ13_bitCount_95d88_55 : decode cJ13_bitCount_95d88 55 = .ok (.lload_n 0, 1) := by decide +kernel
theorem dJ13_bitCount_95d88_56 : decode cJ13_bitCount_95d88 56 = .ok (.l2i, 1) := by decide +kernel
theorem dJ13_bitCount_95d88_57 : decode cJ13_bitCount_95d88 57 = .ok (.bipush 127, 2) := by decide +kernel
theorem dJ13_bitCount_95d88_59 : decode cJ13_bitCount_95d88 59 = .ok (.iand, 1) := by decide +kernel
theorem dJ13_bitCount_95d88_60 : decode cJ13_bitCount_95d88 60 = .ok (.ireturn, 1) := by decide +kernel
end
section
theorem dX1_init_0 : decode cX1_init 0 = .ok (.aload_n 0, 1) := by decide +kernel
theorem dX1_init_1 : decode cX1_init 1 = .ok (.invokespecial 1, 3) := by decide +kernel
theorem dX1_init_4 : decode cX1_init 4 = .ok (.aload_n 0, 1) := by decide +kernel
theorem dX1_init_5 : decode cX1_init 5 = .ok (.sipush 16384, 3) := by decide +kernel
theorem dX1_init_8 : decode cX1_init 8 = .ok (.newarray .boolean, 2) := by decide +kernel
theorem dX1_init_10 : decode cX1_init 10 = .ok (.putfield 9, 3) := by decide +kernel
theorem dX1_init_13 : decode cX1_init 13 = .ok (.aload_n 0, 1) := by decide +kernel
theorem dX1_init_14 : decode cX1_init 14 = .ok (.sipush 512, 3) := by decide +kernel
theorem dX1_init_17 : decode cX1_init 17 = .ok (.newarray .boolean, 2) := by decide +kernel
theorem dX1_init_19 : decode cX1_init 19 = .ok (.putfield 13, 3) := by decide +kernel
theorem dX1_init_22 : decode cX1_init 22 = .ok (.aload_n 0, 1) := by decide +kernel
theorem dX1_init_23 : decode cX1_init 23 = .ok (.iload_n 1, 1) := by decide +kernel
theorem dX1_init_24 : decode cX1_init 24 = .ok (.iconst 1, 1) := by decide +kernel
theorem dX1_init_25 : decode cX1_init 25 = .ok (.if_icmp .ge 7, 3) := by decide +kernel
theorem dX1_init_28 : decode cX1_init 28 = .ok (.iconst 1, 1) := by decide +kernel
theorem dX1_init_29 : decode cX1_init 29 = .ok (.goto 15, 3) := by decide +kernel
theorem dX1_init_32 : decode cX1_init 32 = .ok (.iload_n 1, 1) := by decide +kernel
theorem dX1_init_33 : decode cX1_init 33 = .ok (.bipush 9, 2) := by decide +kernel
theorem dX1_init_35 : decode cX1_init 35 = .ok (.if_icmp .le 8, 3) := by decide +kernel
theorem dX1_init_38 : decode cX1_init 38 = .ok (.bipush 9, 2) := by decide +kernel
theorem dX1_init_40 : decode cX1_init 40 = .ok (.goto 4, 3) := by decide +kernel
theorem dX1_init_43 : decode cX1_init 43 = .ok (.iload_n 1, 1) := by decide +kernel
theorem dX1_init_44 : decode cX1_init 44 = .ok (.putfield 16, 3) := by decide +kernel
theorem dX1_init_47 : decode cX1_init 47 = .ok (.aload_n 0, 1) := by decide +kernel
theorem dX1_init_48 : decode cX1_init 48 = .ok (.iconst 1, 1) := by decide +kernel
theorem dX1_init_49 : decode cX1_init 49 = .ok (.aload_n 0, 1) := by decide +kernel
theorem dX1_init_50 : decode cX1_init 50 = .ok (.getfield 16, 3) := by decide +kernel
theorem dX1_init_53 : decode cX1_init 53 = .ok (.ishl, 1) := by decide +kernel
theorem dX1_init_54 : decode cX1_init 54 = .ok (.putfield 20, 3) := by decide +kernel
theorem dX1_init_57 : decode cX1_init 57 = .ok (.return_, 1) := by decide +kernel
theorem dX1_is_0 : decode cX1_is 0 = .ok (.iload_n 0, 1) := by decide +kernel
theorem dX1_is_1 : decode cX1_is 1 = .ok (.ifCond .lt 13, 3) := by decide +kernel
theorem dX1_is_4 : decode cX1_is 4 = .ok (.iload_n 0, 1) := by decide +kernel
theorem dX1_is_5 : decode cX1_is 5 = .ok (.bipush 32, 2) := by decide +kernel
theorem dX1_is_7 : decode cX1_is 7 = .ok (.if_icmp .ge 7, 3) := by decide +kernel
theorem dX1_is_10 : decode cX1_is 10 = .ok (.iconst 1, 1) := by decide +kernel
theorem dX1_is_11 : decode cX1_is 11 = .ok (.goto 4, 3) := by decide +kernel
theorem dX1_is_14 : decode cX1_is 14 = .ok (.iconst 0, 1) := by decide +kernel
theorem dX1_is_15 : decode cX1_is 15 = .ok (.ireturn, 1) := by decide +kernel
theorem dX1_var_0 : decode cX1_var 0 = .ok (.iload_n 1, 1) := by decide +kernel
theorem dX1_var_1 : decode cX1_var 1 = .ok (.ifCond .lt 15, 3) := by decide +kernel
theorem dX1_var_4 : decode cX1_var 4 = .ok (.iload_n 1, 1) := by decide +kernel
theorem dX1_var_5 : decode cX1_var 5 = .ok (.aload_n 0, 1) := by decide +kernel
theorem dX1_var_6 : decode cX1_var 6 = .ok (.getfield 16, 3) := by decide +kernel
theorem dX1_var_9 : decode cX1_var 9 = .ok (.if_icmp .ge 7, 3) := by decide +kernel
theorem dX1_var_12 : decode cX1_var 12 = .ok (.iconst 1, 1) := by decide +kernel
theorem dX1_var_13 : decode cX1_var 13 = .ok (.goto 4, 3) := by decide +kernel
theorem dX1_var_16 : decode cX1_var 16 = .ok (.iconst 0, 1) := by decide +kernel
theorem dX1_var_17 : decode cX1_var 17 = .ok (.ireturn, 1) := by decide +kernel
theorem dX1_bit_0 : decode cX1_bit 0 = .ok (.iconst 1, 1) := by decide +kernel
theorem dX1_bit_1 : decode cX1_bit 1 = .ok (.aload_n 0, 1) := by decide +kernel
theorem dX1_bit_2 : decode cX1_bit 2 = .ok (.getfield 16, 3) := by decide +kernel
theorem dX1_bit_5 : decode cX1_bit 5 = .ok (.iconst 1, 1) := by decide +kernel
theorem dX1_bit_6 : decode cX1_bit 6 = .ok (.isub, 1) := by decide +kernel
theorem dX1_bit_7 : decode cX1_bit 7 = .ok (.iload_n 1, 1) := by decide +kernel
theorem dX1_bit_8 : decode cX1_bit 8 = .ok (.isub, 1) := by decide +kernel
theorem dX1_bit_9 : decode cX1_bit 9 = .ok (.ishl, 1) := by decide +kernel
theorem dX1_bit_10 : decode cX1_bit 10 = .ok (.ireturn, 1) := by decide +kernel
theorem dX1_keep_0 : decode cX1_keep 0 = .ok (.iconst 0, 1) := by decide +kernel
theorem dX1_keep_1 : decode cX1_keep 1 = .ok (.istore_n 2, 1) := by decide +kernel
theorem dX1_keep_2 : decode cX1_keep 2 = .ok (.iload_n 2, 1) := by decide +kernel
theorem dX1_keep_3 : decode cX1_keep 3 = .ok (.aload_n 0, 1) := by decide +kernel
theorem dX1_keep_4 : decode cX1_keep 4 = .ok (.getfield 20, 3) := by decide +kernel
theorem dX1_keep_7 : decode cX1_keep 7 = .ok (.if_icmp .ge 27, 3) := by decide +kernel
theorem dX1_keep_10 : decode cX1_keep 10 = .ok (.aload_n 0, 1) := by decide +kernel
theorem dX1_keep_11 : decode cX1_keep 11 = .ok (.getfield 9, 3) := by decide +kernel
theorem dX1_keep_14 : decode cX1_keep 14 = .ok (.sipush 512, 3) := by decide +kernel
theorem dX1_keep_17 : decode cX1_keep 17 = .ok (.iload_n 1, 1) := by decide +kernel
theorem dX1_keep_18 : decode cX1_keep 18 = .ok (.imul, 1) := by decide +kernel
theorem dX1_keep_19 : decode cX1_keep 19 = .ok (.iload_n 2, 1) := by decide +kernel
theorem dX1_keep_20 : decode cX1_keep 20 = .ok (.iadd, 1) := by decide +kernel
theorem dX1_keep_21 : decode cX1_keep 21 = .ok (.aload_n 0, 1) := by decide +kernel
theorem dX1_keep_22 : decode cX1_keep 22 = .ok (.getfield 13, 3) := by decide +kernel
theorem dX1_keep_25 : decode cX1_keep 25 = .ok (.iload_n 2, 1) := by decide +kernel
theorem dX1_keep_26 : decode cX1_keep 26 = .ok (.baload, 1) := by decide +kernel
theorem dX1_keep_27 : decode cX1_keep 27 = .ok (.bastore, 1) := by decide +kernel
theorem dX1_keep_28 : decode cX1_keep 28 = .ok (.iinc 2 1, 3) := by decide +kernel
theorem dX1_keep_31 : decode cX1_keep 31 = .ok (.goto (-29), 3) := by decide +kernel
theorem dX1_keep_34 : decode cX1_keep 34 = .ok (.aload_n 0, 1) := by decide +kernel
theorem dX1_keep_35 : decode cX1_keep 35 = .ok (.iload_n 1, 1) := by decide +kernel
theorem dX1_keep_36 : decode cX1_keep 36 = .ok (.invokevirtual 23, 3) := by decide +kernel
theorem dX1_keep_39 : decode cX1_keep 39 = .ok (.ireturn, 1) := by decide +kernel
theorem dX1_load_0 : decode cX1_load 0 = .ok (.iload_n 1, 1) := by decide +kernel
theorem dX1_load_1 : decode cX1_load 1 = .ok (.invokestatic 27, 3) := by decide +kernel
theorem dX1_load_4 : decode cX1_load 4 = .ok (.ifCond .eq 17, 3) := by decide +kernel
theorem dX1_load_7 : decode cX1_load 7 = .ok (.iload_n 2, 1) := by decide +kernel
theorem dX1_load_8 : decode cX1_load 8 = .ok (.bipush (-2), 2) := by decide +kernel
theorem dX1_load_10 : decode cX1_load 10 = .ok (.if_icmp .lt 11, 3) := by decide +kernel
theorem dX1_load_13 : decode cX1_load 13 = .ok (.iload_n 2, 1) := by decide +kernel
theorem dX1_load_14 : decode cX1_load 14 = .ok (.aload_n 0, 1) := by decide +kernel
theorem dX1_load_15 : decode cX1_load 15 = .ok (.getfield 16, 3) := by decide +kernel
theorem dX1_load_18 : decode cX1_load 18 = .ok (.if_icmp .lt 5, 3) := by decide +kernel
theorem dX1_load_21 : decode cX1_load 21 = .ok (.iconst (-1), 1) := by decide +kernel
theorem dX1_load_22 : decode cX1_load 22 = .ok (.ireturn, 1) := by decide +kernel
theorem dX1_load_23 : decode cX1_load 23 = .ok (.iconst 0, 1) := by decide +kernel
theorem dX1_load_24 : decode cX1_load 24 = .ok (.istore_n 3, 1) := by decide +kernel
theorem dX1_load_25 : decode cX1_load 25 = .ok (.iload_n 3, 1) := by decide +kernel
theorem dX1_load_26 : decode cX1_load 26 = .ok (.aload_n 0, 1) := by decide +kernel
theorem dX1_load_27 : decode cX1_load 27 = .ok (.getfield 20, 3) := by decide +kernel
theorem dX1_load_30 : decode cX1_load 30 = .ok (.if_icmp .ge 39, 3) := by decide +kernel
theorem dX1_load_33 : decode cX1_load 33 = .ok (.aload_n 0, 1) := by decide +kernel
theorem dX1_load_34 : decode cX1_load 34 = .ok (.getfield 13, 3) := by decide +kernel
theorem dX1_load_37 : decode cX1_load 37 = .ok (.iload_n 3, 1) := by decide +kernel
theorem dX1_load_38 : decode cX1_load 38 = .ok (.iload_n 2, 1) := by decide +kernel
theorem dX1_load_39 : decode cX1_load 39 = .ok (.iconst (-1), 1) := by decide +kernel
theorem dX1_load_40 : decode cX1_load 40 = .ok (.if_icmp .eq 17, 3) := by decide +kernel
theorem dX1_load_43 : decode cX1_load 43 = .ok (.iload_n 2, 1) := by decide +kernel
theorem dX1_load_44 : decode cX1_load 44 = .ok (.ifCond .lt 17, 3) := by decide +kernel
theorem dX1_load_47 : decode cX1_load 47 = .ok (.iload_n 3, 1) := by decide +kernel
theorem dX1_load_48 : decode cX1_load 48 = .ok (.aload_n 0, 1) := by decide +kernel
theorem dX1_load_49 : decode cX1_load 49 = .ok (.iload_n 2, 1) := by decide +kernel
theorem dX1_load_50 : decode cX1_load 50 = .ok (.invokevirtual 31, 3) := by decide +kernel
theorem dX1_load_53 : decode cX1_load 53 = .ok (.iand, 1) := by decide +kernel
theorem dX1_load_54 : decode cX1_load 54 = .ok (.ifCond .eq 7, 3) := by decide +kernel
theorem dX1_load_57 : decode cX1_load 57 = .ok (.iconst 1, 1) := by decide +kernel
theorem dX1_load_58 : decode cX1_load 58 = .ok (.goto 4, 3) := by decide +kernel
theorem dX1_load_61 : decode cX1_load 61 = .ok (.iconst 0, 1) := by decide +kernel
theorem dX1_load_62 : decode cX1_load 62 = .ok (.bastore, 1) := by decide +kernel
theorem dX1_load_63 : decode cX1_load 63 = .ok (.iinc 3 1, 3) := by decide +kernel
theorem dX1_load_66 : decode cX1_load 66 = .ok (.goto (-41), 3) := by decide +kernel
theorem dX1_load_69 : decode cX1_load 69 = .ok (.aload_n 0, 1) := by decide +kernel
theorem dX1_load_70 : decode cX1_load 70 = .ok (.iload_n 1, 1) := by decide +kernel
theorem dX1_load_71 : decode cX1_load 71 = .ok (.invokevirtual 34, 3) := by decide +kernel
theorem dX1_load_74 : decode cX1_load 74 = .ok (.ireturn, 1) := by decide +kernel
theorem dX1_reckon_0 : decode cX1_reckon 0 = .ok (.iload_n 1, 1) := by decide +kernel
theorem dX1_reckon_1 : decode cX1_reckon 1 = .ok (.ifCond .lt 30, 3) := by decide +kernel
theorem dX1_reckon_4 : decode cX1_reckon 4 = .ok (.iload_n 1, 1) := by decide +kernel
theorem dX1_reckon_5 : decode cX1_reckon 5 = .ok (.iconst 4, 1) := by decide +kernel
theorem dX1_reckon_6 : decode cX1_reckon 6 = .ok (.if_icmp .gt 25, 3) := by decide +kernel
theorem dX1_reckon_9 : decode cX1_reckon 9 = .ok (.iload_n 2, 1) := by decide +kernel
theorem dX1_reckon_10 : decode cX1_reckon 10 = .ok (.invokestatic 27, 3) := by decide +kernel
theorem dX1_reckon_13 : decode cX1_reckon 13 = .ok (.ifCond .eq 18, 3) := by decide +kernel
theorem dX1_reckon_16 : decode cX1_reckon 16 = .ok (.iload_n 3, 1) := by decide +kernel
theorem dX1_reckon_17 : decode cX1_reckon 17 = .ok (.invokestatic 27, 3) := by decide +kernel
theorem dX1_reckon_20 : decode cX1_reckon 20 = .ok (.ifCond .eq 11, 3) := by decide +kernel
theorem dX1_reckon_23 : decode cX1_reckon 23 = .ok (.iload 4, 2) := by decide +kernel
theorem dX1_reckon_25 : decode cX1_reckon 25 = .ok (.invokestatic 27, 3) := by decide +kernel
theorem dX1_reckon_28 : decode cX1_reckon 28 = .ok (.ifCond .ne 5, 3) := by decide +kernel
theorem dX1_reckon_31 : decode cX1_reckon 31 = .ok (.iconst (-1), 1) := by decide +kernel
theorem dX1_reckon_32 : decode cX1_reckon 32 = .ok (.ireturn, 1) := by decide +kernel
theorem dX1_reckon_33 : decode cX1_reckon 33 = .ok (.iconst 0, 1) := by decide +kernel
theorem dX1_reckon_34 : decode cX1_reckon 34 = .ok (.istore 5, 2) := by decide +kernel
theorem dX1_reckon_36 : decode cX1_reckon 36 = .ok (.iload 5, 2) := by decide +kernel
theorem dX1_reckon_38 : decode cX1_reckon 38 = .ok (.aload_n 0, 1) := by decide +kernel
theorem dX1_reckon_39 : decode cX1_reckon 39 = .ok (.getfield 20, 3) := by decide +kernel
theorem dX1_reckon_42 : decode cX1_reckon 42 = .ok (.if_icmp .ge 150, 3) := by decide +kernel
theorem dX1_reckon_45 : decode cX1_reckon 45 = .ok (.aload_n 0, 1) := by decide +kernel
theorem dX1_reckon_46 : decode cX1_reckon 46 = .ok (.getfield 9, 3) := by decide +kernel
theorem dX1_reckon_49 : decode cX1_reckon 49 = .ok (.sipush 512, 3) := by decide +kernel
theorem dX1_reckon_52 : decode cX1_reckon 52 = .ok (.iload_n 3, 1) := by decide +kernel
theorem dX1_reckon_53 : decode cX1_reckon 53 = .ok (.imul, 1) := by decide +kernel
theorem dX1_reckon_54 : decode cX1_reckon 54 = .ok (.iload 5, 2) := by decide +kernel
theorem dX1_reckon_56 : decode cX1_reckon 56 = .ok (.iadd, 1) := by decide +kernel
theorem dX1_reckon_57 : decode cX1_reckon 57 = .ok (.baload, 1) := by decide +kernel
theorem dX1_reckon_58 : decode cX1_reckon 58 = .ok (.istore 6, 2) := by decide +kernel
theorem dX1_reckon_60 : decode cX1_reckon 60 = .ok (.aload_n 0, 1) := by decide +kernel
theorem dX1_reckon_61 : decode cX1_reckon 61 = .ok (.getfield 9, 3) := by decide +kernel
theorem dX1_reckon_64 : decode cX1_reckon 64 = .ok (.sipush 512, 3) := by decide +kernel
theorem dX1_reckon_67 : decode cX1_reckon 67 = .ok (.iload 4, 2) := by decide +kernel
theorem dX1_reckon_69 : decode cX1_reckon 69 = .ok (.imul, 1) := by decide +kernel
theorem dX1_reckon_70 : decode cX1_reckon 70 = .ok (.iload 5, 2) := by decide +kernel
theorem dX1_reckon_72 : decode cX1_reckon 72 = .ok (.iadd, 1) := by decide +kernel
theorem dX1_reckon_73 : decode cX1_reckon 73 = .ok (.baload, 1) := by decide +kernel
theorem dX1_reckon_74 : decode cX1_reckon 74 = .ok (.istore 7, 2) := by decide +kernel
theorem dX1_reckon_76 : decode cX1_reckon 76 = .ok (.aload_n 0, 1) := by decide +kernel
theorem dX1_reckon_77 : decode cX1_reckon 77 = .ok (.getfield 13, 3) := by decide +kernel
theorem dX1_reckon_80 : decode cX1_reckon 80 = .ok (.iload 5, 2) := by decide +kernel
theorem dX1_reckon_82 : decode cX1_reckon 82 = .ok (.iload_n 1, 1) := by decide +kernel
theorem dX1_reckon_83 : decode cX1_reckon 83 = .ok (.ifCond .ne 21, 3) := by decide +kernel
theorem dX1_reckon_86 : decode cX1_reckon 86 = .ok (.iload 6, 2) := by decide +kernel
theorem dX1_reckon_88 : decode cX1_reckon 88 = .ok (.ifCond .eq 12, 3) := by decide +kernel
theorem dX1_reckon_91 : decode cX1_reckon 91 = .ok (.iload 7, 2) := by decide +kernel
theorem dX1_reckon_93 : decode cX1_reckon 93 = .ok (.ifCond .eq 7, 3) := by decide +kernel
theorem dX1_reckon_96 : decode cX1_reckon 96 = .ok (.iconst 1, 1) := by decide +kernel
theorem dX1_reckon_97 : decode cX1_reckon 97 = .ok (.goto 88, 3) := by decide +kernel
theorem dX1_reckon_100 : decode cX1_reckon 100 = .ok (.iconst 0, 1) := by decide +kernel
theorem dX1_reckon_101 : decode cX1_reckon 101 = .ok (.goto 84, 3) := by decide +kernel
theorem dX1_reckon_104 : decode cX1_reckon 104 = .ok (.iload_n 1, 1) := by decide +kernel
theorem dX1_reckon_105 : decode cX1_reckon 105 = .ok (.iconst 1, 1) := by decide +kernel
theorem dX1_reckon_106 : decode cX1_reckon 106 = .ok (.if_icmp .ne 21, 3) := by decide +kernel
theorem dX1_reckon_109 : decode cX1_reckon 109 = .ok (.iload 6, 2) := by decide +kernel
theorem dX1_reckon_111 : decode cX1_reckon 111 = .ok (.ifCond .ne 8, 3) := by decide +kernel
theorem dX1_reckon_114 : decode cX1_reckon 114 = .ok (.iload 7, 2) := by decide +kernel
theorem dX1_reckon_116 : decode cX1_reckon 116 = .ok (.ifCond .eq 7, 3) := by decide +kernel
theorem dX1_reckon_119 : decode cX1_reckon 119 = .ok (.iconst 1, 1) := by decide +kernel
theorem dX1_reckon_120 : decode cX1_reckon 120 = .ok (.goto 65, 3) := by decide +kernel
theorem dX1_reckon_123 : decode cX1_reckon 123 = .ok (.iconst 0, 1) := by decide +kernel
theorem dX1_reckon_124 : decode cX1_reckon 124 = .ok (.goto 61, 3) := by decide +kernel
theorem dX1_reckon_127 : decode cX1_reckon 127 = .ok (.iload_n 1, 1) := by decide +kernel
theorem dX1_reckon_128 : decode cX1_reckon 128 = .ok (.iconst 2, 1) := by decide +kernel
theorem dX1_reckon_129 : decode cX1_reckon 129 = .ok (.if_icmp .ne 18, 3) := by decide +kernel
theorem dX1_reckon_132 : decode cX1_reckon 132 = .ok (.iload 6, 2) := by decide +kernel
theorem dX1_reckon_134 : decode cX1_reckon 134 = .ok (.iload 7, 2) := by decide +kernel
theorem dX1_reckon_136 : decode cX1_reckon 136 = .ok (.if_icmp .eq 7, 3) := by decide +kernel
theorem dX1_reckon_139 : decode cX1_reckon 139 = .ok (.iconst 1, 1) := by decide +kernel
theorem dX1_reckon_140 : decode cX1_reckon 140 = .ok (.goto 45, 3) := by decide +kernel
theorem dX1_reckon_143 : decode cX1_reckon 143 = .ok (.iconst 0, 1) := by decide +kernel
theorem dX1_reckon_144 : decode cX1_reckon 144 = .ok (.goto 41, 3) := by decide +kernel
theorem dX1_reckon_147 : decode cX1_reckon 147 = .ok (.iload_n 1, 1) := by decide +kernel
theorem dX1_reckon_148 : decode cX1_reckon 148 = .ok (.iconst 3, 1) := by decide +kernel
theorem dX1_reckon_149 : decode cX1_reckon 149 = .ok (.if_icmp .ne 21, 3) := by decide +kernel
theorem dX1_reckon_152 : decode cX1_reckon 152 = .ok (.iload 6, 2) := by decide +kernel
theorem dX1_reckon_154 : decode cX1_reckon 154 = .ok (.ifCond .eq 12, 3) := by decide +kernel
theorem dX1_reckon_157 : decode cX1_reckon 157 = .ok (.iload 7, 2) := by decide +kernel
theorem dX1_reckon_159 : decode cX1_reckon 159 = .ok (.ifCond .ne 7, 3) := by decide +kernel
theorem dX1_reckon_162 : decode cX1_reckon 162 = .ok (.iconst 1, 1) := by decide +kernel
theorem dX1_reckon_163 : decode cX1_reckon 163 = .ok (.goto 22, 3) := by decide +kernel
theorem dX1_reckon_166 : decode cX1_reckon 166 = .ok (.iconst 0, 1) := by decide +kernel
theorem dX1_reckon_167 : decode cX1_reckon 167 = .ok (.goto 18, 3) := by decide +kernel
theorem dX1_reckon_170 : decode cX1_reckon 170 = .ok (.iload 6, 2) := by decide +kernel
theorem dX1_reckon_172 : decode cX1_reckon 172 = .ok (.ifCond .eq 8, 3) := by decide +kernel
theorem dX1_reckon_175 : decode cX1_reckon 175 = .ok (.iload 7, 2) := by decide +kernel
theorem dX1_reckon_177 : decode cX1_reckon 177 = .ok (.ifCond .eq 7, 3) := by decide +kernel
theorem dX1_reckon_180 : decode cX1_reckon 180 = .ok (.iconst 1, 1) := by decide +kernel
theorem dX1_reckon_181 : decode cX1_reckon 181 = .ok (.goto 4, 3) := by decide +kernel
theorem dX1_reckon_184 : decode cX1_reckon 184 = .ok (.iconst 0, 1) := by decide +kernel
theorem dX1_reckon_185 : decode cX1_reckon 185 = .ok (.bastore, 1) := by decide +kernel
theorem dX1_reckon_186 : decode cX1_reckon 186 = .ok (.iinc 5 1, 3) := by decide +kernel
theorem dX1_reckon_189 : decode cX1_reckon 189 = .ok (.goto (-153), 3) := by decide +kernel
theorem dX1_reckon_192 : decode cX1_reckon 192 = .ok (.aload_n 0, 1) := by decide +kernel
theorem dX1_reckon_193 : decode cX1_reckon 193 = .ok (.iload_n 2, 1) := by decide +kernel
theorem dX1_reckon_194 : decode cX1_reckon 194 = .ok (.invokevirtual 34, 3) := by decide +kernel
theorem dX1_reckon_197 : decode cX1_reckon 197 = .ok (.ireturn, 1) := by decide +kernel
theorem dX1_not_0 : decode cX1_not 0 = .ok (.iload_n 1, 1) := by decide +kernel
theorem dX1_not_1 : decode cX1_not 1 = .ok (.invokestatic 27, 3) := by decide +kernel
theorem dX1_not_4 : decode cX1_not 4 = .ok (.ifCond .eq 10, 3) := by decide +kernel
theorem dX1_not_7 : decode cX1_not 7 = .ok (.iload_n 2, 1) := by decide +kernel
theorem dX1_not_8 : decode cX1_not 8 = .ok (.invokestatic 27, 3) := by decide +kernel
theorem dX1_not_11 : decode cX1_not 11 = .ok (.ifCond .ne 5, 3) := by decide +kernel
theorem dX1_not_14 : decode cX1_not 14 = .ok (.iconst (-1), 1) := by decide +kernel
theorem dX1_not_15 : decode cX1_not 15 = .ok (.ireturn, 1) := by decide +kernel
theorem dX1_not_16 : decode cX1_not 16 = .ok (.iconst 0, 1) := by decide +kernel
theorem dX1_not_17 : decode cX1_not 17 = .ok (.istore_n 3, 1) := by decide +kernel
theorem dX1_not_18 : decode cX1_not 18 = .ok (.iload_n 3, 1) := by decide +kernel
theorem dX1_not_19 : decode cX1_not 19 = .ok (.aload_n 0, 1) := by decide +kernel
theorem dX1_not_20 : decode cX1_not 20 = .ok (.getfield 20, 3) := by decide +kernel
theorem dX1_not_23 : decode cX1_not 23 = .ok (.if_icmp .ge 35, 3) := by decide +kernel
theorem dX1_not_26 : decode cX1_not 26 = .ok (.aload_n 0, 1) := by decide +kernel
theorem dX1_not_27 : decode cX1_not 27 = .ok (.getfield 13, 3) := by decide +kernel
theorem dX1_not_30 : decode cX1_not 30 = .ok (.iload_n 3, 1) := by decide +kernel
theorem dX1_not_31 : decode cX1_not 31 = .ok (.aload_n 0, 1) := by decide +kernel
theorem dX1_not_32 : decode cX1_not 32 = .ok (.getfield 9, 3) := by decide +kernel
theorem dX1_not_35 : decode cX1_not 35 = .ok (.sipush 512, 3) := by decide +kernel
theorem dX1_not_38 : decode cX1_not 38 = .ok (.iload_n 2, 1) := by decide +kernel
theorem dX1_not_39 : decode cX1_not 39 = .ok (.imul, 1) := by decide +kernel
theorem dX1_not_40 : decode cX1_not 40 = .ok (.iload_n 3, 1) := by decide +kernel
theorem dX1_not_41 : decode cX1_not 41 = .ok (.iadd, 1) := by decide +kernel
theorem dX1_not_42 : decode cX1_not 42 = .ok (.baload, 1) := by decide +kernel
theorem dX1_not_43 : decode cX1_not 43 = .ok (.ifCond .ne 7, 3) := by decide +kernel
theorem dX1_not_46 : decode cX1_not 46 = .ok (.iconst 1, 1) := by decide +kernel
theorem dX1_not_47 : decode cX1_not 47 = .ok (.goto 4, 3) := by decide +kernel
theorem dX1_not_50 : decode cX1_not 50 = .ok (.iconst 0, 1) := by decide +kernel
theorem dX1_not_51 : decode cX1_not 51 = .ok (.bastore, 1) := by decide +kernel
theorem dX1_not_52 : decode cX1_not 52 = .ok (.iinc 3 1, 3) := by decide +kernel
theorem dX1_not_55 : decode cX1_not 55 = .ok (.goto (-37), 3) := by decide +kernel
theorem dX1_not_58 : decode cX1_not 58 = .ok (.aload_n 0, 1) := by decide +kernel
theorem dX1_not_59 : decode cX1_not 59 = .ok (.iload_n 1, 1) := by decide +kernel
theorem dX1_not_60 : decode cX1_not 60 = .ok (.invokevirtual 34, 3) := by decide +kernel
theorem dX1_not_63 : decode cX1_not 63 = .ok (.ireturn, 1) := by decide +kernel
theorem dX1_with_0 : decode cX1_with 0 = .ok (.iload_n 1, 1) := by decide +kernel
theorem dX1_with_1 : decode cX1_with 1 = .ok (.invokestatic 27, 3) := by decide +kernel
theorem dX1_with_4 : decode cX1_with 4 = .ok (.ifCond .eq 18, 3) := by decide +kernel
theorem dX1_with_7 : decode cX1_with 7 = .ok (.iload_n 2, 1) := by decide +kernel
theorem dX1_with_8 : decode cX1_with 8 = .ok (.invokestatic 27, 3) := by decide +kernel
theorem dX1_with_11 : decode cX1_with 11 = .ok (.ifCond .eq 11, 3) := by decide +kernel
theorem dX1_with_14 : decode cX1_with 14 = .ok (.aload_n 0, 1) := by decide +kernel
theorem dX1_with_15 : decode cX1_with 15 = .ok (.iload_n 3, 1) := by decide +kernel
theorem dX1_with_16 : decode cX1_with 16 = .ok (.invokevirtual 37, 3) := by decide +kernel
theorem dX1_with_19 : decode cX1_with 19 = .ok (.ifCond .ne 5, 3) := by decide +kernel
theorem dX1_with_22 : decode cX1_with 22 = .ok (.iconst (-1), 1) := by decide +kernel
theorem dX1_with_23 : decode cX1_with 23 = .ok (.ireturn, 1) := by decide +kernel
theorem dX1_with_24 : decode cX1_with 24 = .ok (.iconst 0, 1) := by decide +kernel
theorem dX1_with_25 : decode cX1_with 25 = .ok (.istore 5, 2) := by decide +kernel
theorem dX1_with_27 : decode cX1_with 27 = .ok (.iload 5, 2) := by decide +kernel
theorem dX1_with_29 : decode cX1_with 29 = .ok (.aload_n 0, 1) := by decide +kernel
theorem dX1_with_30 : decode cX1_with 30 = .ok (.getfield 20, 3) := by decide +kernel
theorem dX1_with_33 : decode cX1_with 33 = .ok (.if_icmp .ge 53, 3) := by decide +kernel
theorem dX1_with_36 : decode cX1_with 36 = .ok (.aload_n 0, 1) := by decide +kernel
theorem dX1_with_37 : decode cX1_with 37 = .ok (.getfield 13, 3) := by decide +kernel
theorem dX1_with_40 : decode cX1_with 40 = .ok (.iload 5, 2) := by decide +kernel
theorem dX1_with_42 : decode cX1_with 42 = .ok (.aload_n 0, 1) := by decide +kernel
theorem dX1_with_43 : decode cX1_with 43 = .ok (.getfield 9, 3) := by decide +kernel
theorem dX1_with_46 : decode cX1_with 46 = .ok (.sipush 512, 3) := by decide +kernel
theorem dX1_with_49 : decode cX1_with 49 = .ok (.iload_n 2, 1) := by decide +kernel
theorem dX1_with_50 : decode cX1_with 50 = .ok (.imul, 1) := by decide +kernel
theorem dX1_with_51 : decode cX1_with 51 = .ok (.iload 4, 2) := by decide +kernel
theorem dX1_with_53 : decode cX1_with 53 = .ok (.ifCond .eq 14, 3) := by decide +kernel
theorem dX1_with_56 : decode cX1_with 56 = .ok (.iload 5, 2) := by decide +kernel
theorem dX1_with_58 : decode cX1_with 58 = .ok (.aload_n 0, 1) := by decide +kernel
theorem dX1_with_59 : decode cX1_with 59 = .ok (.iload_n 3, 1) := by decide +kernel
theorem dX1_with_60 : decode cX1_with 60 = .ok (.invokevirtual 31, 3) := by decide +kernel
theorem dX1_with_63 : decode cX1_with 63 = .ok (.ior, 1) := by decide +kernel
theorem dX1_with_64 : decode cX1_with 64 = .ok (.goto 13, 3) := by decide +kernel
theorem dX1_with_67 : decode cX1_with 67 = .ok (.iload 5, 2) := by decide +kernel
theorem dX1_with_69 : decode cX1_with 69 = .ok (.aload_n 0, 1) := by decide +kernel
theorem dX1_with_70 : decode cX1_with 70 = .ok (.iload_n 3, 1) := by decide +kernel
theorem dX1_with_71 : decode cX1_with 71 = .ok (.invokevirtual 31, 3) := by decide +kernel
theorem dX1_with_74 : decode cX1_with 74 = .ok (.iconst (-1), 1) := by decide +kernel
theorem dX1_with_75 : decode cX1_with 75 = .ok (.ixor, 1) := by decide +kernel
theorem dX1_with_76 : decode cX1_with 76 = .ok (.iand, 1) := by decide +kernel
theorem dX1_with_77 : decode cX1_with 77 = .ok (.iadd, 1) := by decide +kernel
theorem dX1_with_78 : decode cX1_with 78 = .ok (.baload, 1) := by decide +kernel
theorem dX1_with_79 : decode cX1_with 79 = .ok (.bastore, 1) := by decide +kernel
theorem dX1_with_80 : decode cX1_with 80 = .ok (.iinc 5 1, 3) := by decide +kernel
theorem dX1_with_83 : decode cX1_with 83 = .ok (.goto (-56), 3) := by decide +kernel
theorem dX1_with_86 : decode cX1_with 86 = .ok (.aload_n 0, 1) := by decide +kernel
theorem dX1_with_87 : decode cX1_with 87 = .ok (.iload_n 1, 1) := by decide +kernel
theorem dX1_with_88 : decode cX1_with 88 = .ok (.invokevirtual 34, 3) := by decide +kernel
theorem dX1_with_91 : decode cX1_with 91 = .ok (.ireturn, 1) := by decide +kernel
theorem dX1_bind_0 : decode cX1_bind 0 = .ok (.iload_n 1, 1) := by decide +kernel
theorem dX1_bind_1 : decode cX1_bind 1 = .ok (.invokestatic 27, 3) := by decide +kernel
theorem dX1_bind_4 : decode cX1_bind 4 = .ok (.ifCond .eq 18, 3) := by decide +kernel
theorem dX1_bind_7 : decode cX1_bind 7 = .ok (.iload_n 2, 1) := by decide +kernel
theorem dX1_bind_8 : decode cX1_bind 8 = .ok (.invokestatic 27, 3) := by decide +kernel
theorem dX1_bind_11 : decode cX1_bind 11 = .ok (.ifCond .eq 11, 3) := by decide +kernel
theorem dX1_bind_14 : decode cX1_bind 14 = .ok (.aload_n 0, 1) := by decide +kernel
theorem dX1_bind_15 : decode cX1_bind 15 = .ok (.iload_n 3, 1) := by decide +kernel
theorem dX1_bind_16 : decode cX1_bind 16 = .ok (.invokevirtual 37, 3) := by decide +kernel
theorem dX1_bind_19 : decode cX1_bind 19 = .ok (.ifCond .ne 5, 3) := by decide +kernel
theorem dX1_bind_22 : decode cX1_bind 22 = .ok (.iconst (-1), 1) := by decide +kernel
theorem dX1_bind_23 : decode cX1_bind 23 = .ok (.ireturn, 1) := by decide +kernel
theorem dX1_bind_24 : decode cX1_bind 24 = .ok (.iconst 0, 1) := by decide +kernel
theorem dX1_bind_25 : decode cX1_bind 25 = .ok (.istore 5, 2) := by decide +kernel
theorem dX1_bind_27 : decode cX1_bind 27 = .ok (.iload 5, 2) := by decide +kernel
theorem dX1_bind_29 : decode cX1_bind 29 = .ok (.aload_n 0, 1) := by decide +kernel
theorem dX1_bind_30 : decode cX1_bind 30 = .ok (.getfield 20, 3) := by decide +kernel
theorem dX1_bind_33 : decode cX1_bind 33 = .ok (.if_icmp .ge 98, 3) := by decide +kernel
theorem dX1_bind_36 : decode cX1_bind 36 = .ok (.aload_n 0, 1) := by decide +kernel
theorem dX1_bind_37 : decode cX1_bind 37 = .ok (.getfield 9, 3) := by decide +kernel
theorem dX1_bind_40 : decode cX1_bind 40 = .ok (.sipush 512, 3) := by decide +kernel
theorem dX1_bind_43 : decode cX1_bind 43 = .ok (.iload_n 2, 1) := by decide +kernel
theorem dX1_bind_44 : decode cX1_bind 44 = .ok (.imul, 1) := by decide +kernel
theorem dX1_bind_45 : decode cX1_bind 45 = .ok (.iload 5, 2) := by decide +kernel
theorem dX1_bind_47 : decode cX1_bind 47 = .ok (.aload_n 0, 1) := by decide +kernel
theorem dX1_bind_48 : decode cX1_bind 48 = .ok (.iload_n 3, 1) := by decide +kernel
theorem dX1_bind_49 : decode cX1_bind 49 = .ok (.invokevirtual 31, 3) := by decide +kernel
theorem dX1_bind_52 : decode cX1_bind 52 = .ok (.ior, 1) := by decide +kernel
theorem dX1_bind_53 : decode cX1_bind 53 = .ok (.iadd, 1) := by decide +kernel
theorem dX1_bind_54 : decode cX1_bind 54 = .ok (.baload, 1) := by decide +kernel
theorem dX1_bind_55 : decode cX1_bind 55 = .ok (.istore 6, 2) := by decide +kernel
theorem dX1_bind_57 : decode cX1_bind 57 = .ok (.aload_n 0, 1) := by decide +kernel
theorem dX1_bind_58 : decode cX1_bind 58 = .ok (.getfield 9, 3) := by decide +kernel
theorem dX1_bind_61 : decode cX1_bind 61 = .ok (.sipush 512, 3) := by decide +kernel
theorem dX1_bind_64 : decode cX1_bind 64 = .ok (.iload_n 2, 1) := by decide +kernel
theorem dX1_bind_65 : decode cX1_bind 65 = .ok (.imul, 1) := by decide +kernel
theorem dX1_bind_66 : decode cX1_bind 66 = .ok (.iload 5, 2) := by decide +kernel
theorem dX1_bind_68 : decode cX1_bind 68 = .ok (.aload_n 0, 1) := by decide +kernel
theorem dX1_bind_69 : decode cX1_bind 69 = .ok (.iload_n 3, 1) := by decide +kernel
theorem dX1_bind_70 : decode cX1_bind 70 = .ok (.invokevirtual 31, 3) := by decide +kernel
theorem dX1_bind_73 : decode cX1_bind 73 = .ok (.iconst (-1), 1) := by decide +kernel
theorem dX1_bind_74 : decode cX1_bind 74 = .ok (.ixor, 1) := by decide +kernel
theorem dX1_bind_75 : decode cX1_bind 75 = .ok (.iand, 1) := by decide +kernel
theorem dX1_bind_76 : decode cX1_bind 76 = .ok (.iadd, 1) := by decide +kernel
theorem dX1_bind_77 : decode cX1_bind 77 = .ok (.baload, 1) := by decide +kernel
theorem dX1_bind_78 : decode cX1_bind 78 = .ok (.istore 7, 2) := by decide +kernel
theorem dX1_bind_80 : decode cX1_bind 80 = .ok (.aload_n 0, 1) := by decide +kernel
theorem dX1_bind_81 : decode cX1_bind 81 = .ok (.getfield 13, 3) := by decide +kernel
theorem dX1_bind_84 : decode cX1_bind 84 = .ok (.iload 5, 2) := by decide +kernel
theorem dX1_bind_86 : decode cX1_bind 86 = .ok (.iload 4, 2) := by decide +kernel
theorem dX1_bind_88 : decode cX1_bind 88 = .ok (.ifCond .eq 21, 3) := by decide +kernel
theorem dX1_bind_91 : decode cX1_bind 91 = .ok (.iload 6, 2) := by decide +kernel
theorem dX1_bind_93 : decode cX1_bind 93 = .ok (.ifCond .eq 12, 3) := by decide +kernel
theorem dX1_bind_96 : decode cX1_bind 96 = .ok (.iload 7, 2) := by decide +kernel
theorem dX1_bind_98 : decode cX1_bind 98 = .ok (.ifCond .eq 7, 3) := by decide +kernel
theorem dX1_bind_101 : decode cX1_bind 101 = .ok (.iconst 1, 1) := by decide +kernel
theorem dX1_bind_102 : decode cX1_bind 102 = .ok (.goto 22, 3) := by decide +kernel
theorem dX1_bind_105 : decode cX1_bind 105 = .ok (.iconst 0, 1) := by decide +kernel
theorem dX1_bind_106 : decode cX1_bind 106 = .ok (.goto 18, 3) := by decide +kernel
theorem dX1_bind_109 : decode cX1_bind 109 = .ok (.iload 6, 2) := by decide +kernel
theorem dX1_bind_111 : decode cX1_bind 111 = .ok (.ifCond .ne 8, 3) := by decide +kernel
theorem dX1_bind_114 : decode cX1_bind 114 = .ok (.iload 7, 2) := by decide +kernel
theorem dX1_bind_116 : decode cX1_bind 116 = .ok (.ifCond .eq 7, 3) := by decide +kernel
theorem dX1_bind_119 : decode cX1_bind 119 = .ok (.iconst 1, 1) := by decide +kernel
theorem dX1_bind_120 : decode cX1_bind 120 = .ok (.goto 4, 3) := by decide +kernel
theorem dX1_bind_123 : decode cX1_bind 123 = .ok (.iconst 0, 1) := by decide +kernel
theorem dX1_bind_124 : decode cX1_bind 124 = .ok (.bastore, 1) := by decide +kernel
theorem dX1_bind_125 : decode cX1_bind 125 = .ok (.iinc 5 1, 3) := by decide +kernel
theorem dX1_bind_128 : decode cX1_bind 128 = .ok (.goto (-101), 3) := by decide +kernel
theorem dX1_bind_131 : decode cX1_bind 131 = .ok (.aload_n 0, 1) := by decide +kernel
theorem dX1_bind_132 : decode cX1_bind 132 = .ok (.iload_n 1, 1) := by decide +kernel
theorem dX1_bind_133 : decode cX1_bind 133 = .ok (.invokevirtual 34, 3) := by decide +kernel
theorem dX1_bind_136 : decode cX1_bind 136 = .ok (.ireturn, 1) := by decide +kernel
theorem dX1_put_0 : decode cX1_put 0 = .ok (.iload_n 1, 1) := by decide +kernel
theorem dX1_put_1 : decode cX1_put 1 = .ok (.invokestatic 27, 3) := by decide +kernel
theorem dX1_put_4 : decode cX1_put 4 = .ok (.ifCond .eq 26, 3) := by decide +kernel
theorem dX1_put_7 : decode cX1_put 7 = .ok (.iload_n 2, 1) := by decide +kernel
theorem dX1_put_8 : decode cX1_put 8 = .ok (.invokestatic 27, 3) := by decide +kernel
theorem dX1_put_11 : decode cX1_put 11 = .ok (.ifCond .eq 19, 3) := by decide +kernel
theorem dX1_put_14 : decode cX1_put 14 = .ok (.iload 4, 2) := by decide +kernel
theorem dX1_put_16 : decode cX1_put 16 = .ok (.invokestatic 27, 3) := by decide +kernel
theorem dX1_put_19 : decode cX1_put 19 = .ok (.ifCond .eq 11, 3) := by decide +kernel
theorem dX1_put_22 : decode cX1_put 22 = .ok (.aload_n 0, 1) := by decide +kernel
theorem dX1_put_23 : decode cX1_put 23 = .ok (.iload_n 3, 1) := by decide +kernel
theorem dX1_put_24 : decode cX1_put 24 = .ok (.invokevirtual 37, 3) := by decide +kernel
theorem dX1_put_27 : decode cX1_put 27 = .ok (.ifCond .ne 5, 3) := by decide +kernel
theorem dX1_put_30 : decode cX1_put 30 = .ok (.iconst (-1), 1) := by decide +kernel
theorem dX1_put_31 : decode cX1_put 31 = .ok (.ireturn, 1) := by decide +kernel
theorem dX1_put_32 : decode cX1_put 32 = .ok (.iconst 0, 1) := by decide +kernel
theorem dX1_put_33 : decode cX1_put 33 = .ok (.istore 5, 2) := by decide +kernel
theorem dX1_put_35 : decode cX1_put 35 = .ok (.iload 5, 2) := by decide +kernel
theorem dX1_put_37 : decode cX1_put 37 = .ok (.aload_n 0, 1) := by decide +kernel
theorem dX1_put_38 : decode cX1_put 38 = .ok (.getfield 20, 3) := by decide +kernel
theorem dX1_put_41 : decode cX1_put 41 = .ok (.if_icmp .ge 65, 3) := by decide +kernel
theorem dX1_put_44 : decode cX1_put 44 = .ok (.aload_n 0, 1) := by decide +kernel
theorem dX1_put_45 : decode cX1_put 45 = .ok (.getfield 13, 3) := by decide +kernel
theorem dX1_put_48 : decode cX1_put 48 = .ok (.iload 5, 2) := by decide +kernel
theorem dX1_put_50 : decode cX1_put 50 = .ok (.aload_n 0, 1) := by decide +kernel
theorem dX1_put_51 : decode cX1_put 51 = .ok (.getfield 9, 3) := by decide +kernel
theorem dX1_put_54 : decode cX1_put 54 = .ok (.sipush 512, 3) := by decide +kernel
theorem dX1_put_57 : decode cX1_put 57 = .ok (.iload_n 2, 1) := by decide +kernel
theorem dX1_put_58 : decode cX1_put 58 = .ok (.imul, 1) := by decide +kernel
theorem dX1_put_59 : decode cX1_put 59 = .ok (.aload_n 0, 1) := by decide +kernel
theorem dX1_put_60 : decode cX1_put 60 = .ok (.getfield 9, 3) := by decide +kernel
theorem dX1_put_63 : decode cX1_put 63 = .ok (.sipush 512, 3) := by decide +kernel
theorem dX1_put_66 : decode cX1_put 66 = .ok (.iload 4, 2) := by decide +kernel
theorem dX1_put_68 : decode cX1_put 68 = .ok (.imul, 1) := by decide +kernel
theorem dX1_put_69 : decode cX1_put 69 = .ok (.iload 5, 2) := by decide +kernel
theorem dX1_put_71 : decode cX1_put 71 = .ok (.iadd, 1) := by decide +kernel
theorem dX1_put_72 : decode cX1_put 72 = .ok (.baload, 1) := by decide +kernel
theorem dX1_put_73 : decode cX1_put 73 = .ok (.ifCond .eq 14, 3) := by decide +kernel
theorem dX1_put_76 : decode cX1_put 76 = .ok (.iload 5, 2) := by decide +kernel
theorem dX1_put_78 : decode cX1_put 78 = .ok (.aload_n 0, 1) := by decide +kernel
theorem dX1_put_79 : decode cX1_put 79 = .ok (.iload_n 3, 1) := by decide +kernel
theorem dX1_put_80 : decode cX1_put 80 = .ok (.invokevirtual 31, 3) := by decide +kernel
theorem dX1_put_83 : decode cX1_put 83 = .ok (.ior, 1) := by decide +kernel
theorem dX1_put_84 : decode cX1_put 84 = .ok (.goto 13, 3) := by decide +kernel
theorem dX1_put_87 : decode cX1_put 87 = .ok (.iload 5, 2) := by decide +kernel
theorem dX1_put_89 : decode cX1_put 89 = .ok (.aload_n 0, 1) := by decide +kernel
theorem dX1_put_90 : decode cX1_put 90 = .ok (.iload_n 3, 1) := by decide +kernel
theorem dX1_put_91 : decode cX1_put 91 = .ok (.invokevirtual 31, 3) := by decide +kernel
theorem dX1_put_94 : decode cX1_put 94 = .ok (.iconst (-1), 1) := by decide +kernel
theorem dX1_put_95 : decode cX1_put 95 = .ok (.ixor, 1) := by decide +kernel
theorem dX1_put_96 : decode cX1_put 96 = .ok (.iand, 1) := by decide +kernel
theorem dX1_put_97 : decode cX1_put 97 = .ok (.iadd, 1) := by decide +kernel
theorem dX1_put_98 : decode cX1_put 98 = .ok (.baload, 1) := by decide +kernel
theorem dX1_put_99 : decode cX1_put 99 = .ok (.bastore, 1) := by decide +kernel
theorem dX1_put_100 : decode cX1_put 100 = .ok (.iinc 5 1, 3) := by decide +kernel
theorem dX1_put_103 : decode cX1_put 103 = .ok (.goto (-68), 3) := by decide +kernel
theorem dX1_put_106 : decode cX1_put 106 = .ok (.aload_n 0, 1) := by decide +kernel
theorem dX1_put_107 : decode cX1_put 107 = .ok (.iload_n 1, 1) := by decide +kernel
theorem dX1_put_108 : decode cX1_put 108 = .ok (.invokevirtual 34, 3) := by decide +kernel
theorem dX1_put_111 : decode cX1_put 111 = .ok (.ireturn, 1) := by decide +kernel
theorem dX1_many_0 : decode cX1_many 0 = .ok (.iload_n 1, 1) := by decide +kernel
theorem dX1_many_1 : decode cX1_many 1 = .ok (.invokestatic 27, 3) := by decide +kernel
theorem dX1_many_4 : decode cX1_many 4 = .ok (.ifCond .ne 5, 3) := by decide +kernel
theorem dX1_many_7 : decode cX1_many 7 = .ok (.iconst (-1), 1) := by decide +kernel
theorem dX1_many_8 : decode cX1_many 8 = .ok (.ireturn, 1) := by decide +kernel
theorem dX1_many_9 : decode cX1_many 9 = .ok (.iconst 0, 1) := by decide +kernel
theorem dX1_many_10 : decode cX1_many 10 = .ok (.istore_n 2, 1) := by decide +kernel
theorem dX1_many_11 : decode cX1_many 11 = .ok (.iconst 0, 1) := by decide +kernel
theorem dX1_many_12 : decode cX1_many 12 = .ok (.istore_n 3, 1) := by decide +kernel
theorem dX1_many_13 : decode cX1_many 13 = .ok (.iload_n 3, 1) := by decide +kernel
theorem dX1_many_14 : decode cX1_many 14 = .ok (.aload_n 0, 1) := by decide +kernel
theorem dX1_many_15 : decode cX1_many 15 = .ok (.getfield 20, 3) := by decide +kernel
theorem dX1_many_18 : decode cX1_many 18 = .ok (.if_icmp .ge 32, 3) := by decide +kernel
theorem dX1_many_21 : decode cX1_many 21 = .ok (.iload_n 2, 1) := by decide +kernel
theorem dX1_many_22 : decode cX1_many 22 = .ok (.aload_n 0, 1) := by decide +kernel
theorem dX1_many_23 : decode cX1_many 23 = .ok (.getfield 9, 3) := by decide +kernel
theorem dX1_many_26 : decode cX1_many 26 = .ok (.sipush 512, 3) := by decide +kernel
theorem dX1_many_29 : decode cX1_many 29 = .ok (.iload_n 1, 1) := by decide +kernel
theorem dX1_many_30 : decode cX1_many 30 = .ok (.imul, 1) := by decide +kernel
theorem dX1_many_31 : decode cX1_many 31 = .ok (.iload_n 3, 1) := by decide +kernel
theorem dX1_many_32 : decode cX1_many 32 = .ok (.iadd, 1) := by decide +kernel
theorem dX1_many_33 : decode cX1_many 33 = .ok (.baload, 1) := by decide +kernel
theorem dX1_many_34 : decode cX1_many 34 = .ok (.ifCond .eq 7, 3) := by decide +kernel
theorem dX1_many_37 : decode cX1_many 37 = .ok (.iconst 1, 1) := by decide +kernel
theorem dX1_many_38 : decode cX1_many 38 = .ok (.goto 4, 3) := by decide +kernel
theorem dX1_many_41 : decode cX1_many 41 = .ok (.iconst 0, 1) := by decide +kernel
theorem dX1_many_42 : decode cX1_many 42 = .ok (.iadd, 1) := by decide +kernel
theorem dX1_many_43 : decode cX1_many 43 = .ok (.istore_n 2, 1) := by decide +kernel
theorem dX1_many_44 : decode cX1_many 44 = .ok (.iinc 3 1, 3) := by decide +kernel
theorem dX1_many_47 : decode cX1_many 47 = .ok (.goto (-34), 3) := by decide +kernel
theorem dX1_many_50 : decode cX1_many 50 = .ok (.iload_n 2, 1) := by decide +kernel
theorem dX1_many_51 : decode cX1_many 51 = .ok (.ireturn, 1) := by decide +kernel
theorem dX1_nth_0 : decode cX1_nth 0 = .ok (.iload_n 1, 1) := by decide +kernel
theorem dX1_nth_1 : decode cX1_nth 1 = .ok (.invokestatic 27, 3) := by decide +kernel
theorem dX1_nth_4 : decode cX1_nth 4 = .ok (.ifCond .ne 5, 3) := by decide +kernel
theorem dX1_nth_7 : decode cX1_nth 7 = .ok (.iconst (-1), 1) := by decide +kernel
theorem dX1_nth_8 : decode cX1_nth 8 = .ok (.ireturn, 1) := by decide +kernel
theorem dX1_nth_9 : decode cX1_nth 9 = .ok (.iconst 0, 1) := by decide +kernel
theorem dX1_nth_10 : decode cX1_nth 10 = .ok (.istore_n 3, 1) := by decide +kernel
theorem dX1_nth_11 : decode cX1_nth 11 = .ok (.iconst 0, 1) := by decide +kernel
theorem dX1_nth_12 : decode cX1_nth 12 = .ok (.istore 4, 2) := by decide +kernel
theorem dX1_nth_14 : decode cX1_nth 14 = .ok (.iload 4, 2) := by decide +kernel
theorem dX1_nth_16 : decode cX1_nth 16 = .ok (.aload_n 0, 1) := by decide +kernel
theorem dX1_nth_17 : decode cX1_nth 17 = .ok (.getfield 20, 3) := by decide +kernel
theorem dX1_nth_20 : decode cX1_nth 20 = .ok (.if_icmp .ge 39, 3) := by decide +kernel
theorem dX1_nth_23 : decode cX1_nth 23 = .ok (.aload_n 0, 1) := by decide +kernel
theorem dX1_nth_24 : decode cX1_nth 24 = .ok (.getfield 9, 3) := by decide +kernel
theorem dX1_nth_27 : decode cX1_nth 27 = .ok (.sipush 512, 3) := by decide +kernel
theorem dX1_nth_30 : decode cX1_nth 30 = .ok (.iload_n 1, 1) := by decide +kernel
theorem dX1_nth_31 : decode cX1_nth 31 = .ok (.imul, 1) := by decide +kernel
theorem dX1_nth_32 : decode cX1_nth 32 = .ok (.iload 4, 2) := by decide +kernel
theorem dX1_nth_34 : decode cX1_nth 34 = .ok (.iadd, 1) := by decide +kernel
theorem dX1_nth_35 : decode cX1_nth 35 = .ok (.baload, 1) := by decide +kernel
theorem dX1_nth_36 : decode cX1_nth 36 = .ok (.ifCond .ne 6, 3) := by decide +kernel
theorem dX1_nth_39 : decode cX1_nth 39 = .ok (.goto 14, 3) := by decide +kernel
theorem dX1_nth_42 : decode cX1_nth 42 = .ok (.iload_n 3, 1) := by decide +kernel
theorem dX1_nth_43 : decode cX1_nth 43 = .ok (.iload_n 2, 1) := by decide +kernel
theorem dX1_nth_44 : decode cX1_nth 44 = .ok (.if_icmp .ne 6, 3) := by decide +kernel
theorem dX1_nth_47 : decode cX1_nth 47 = .ok (.iload 4, 2) := by decide +kernel
theorem dX1_nth_49 : decode cX1_nth 49 = .ok (.ireturn, 1) := by decide +kernel
theorem dX1_nth_50 : decode cX1_nth 50 = .ok (.iinc 3 1, 3) := by decide +kernel
theorem dX1_nth_53 : decode cX1_nth 53 = .ok (.iinc 4 1, 3) := by decide +kernel
theorem dX1_nth_56 : decode cX1_nth 56 = .ok (.goto (-42), 3) := by decide +kernel
theorem dX1_nth_59 : decode cX1_nth 59 = .ok (.bipush (-2), 2) := by decide +kernel
theorem dX1_nth_61 : decode cX1_nth 61 = .ok (.ireturn, 1) := by decide +kernel
theorem dX1_value_0 : decode cX1_value 0 = .ok (.iload_n 1, 1) := by decide +kernel
theorem dX1_value_1 : decode cX1_value 1 = .ok (.invokestatic 27, 3) := by decide +kernel
theorem dX1_value_4 : decode cX1_value 4 = .ok (.ifCond .eq 15, 3) := by decide +kernel
theorem dX1_value_7 : decode cX1_value 7 = .ok (.iload_n 2, 1) := by decide +kernel
theorem dX1_value_8 : decode cX1_value 8 = .ok (.ifCond .lt 11, 3) := by decide +kernel
theorem dX1_value_11 : decode cX1_value 11 = .ok (.iload_n 2, 1) := by decide +kernel
theorem dX1_value_12 : decode cX1_value 12 = .ok (.aload_n 0, 1) := by decide +kernel
theorem dX1_value_13 : decode cX1_value 13 = .ok (.getfield 20, 3) := by decide +kernel
theorem dX1_value_16 : decode cX1_value 16 = .ok (.if_icmp .lt 5, 3) := by decide +kernel
theorem dX1_value_19 : decode cX1_value 19 = .ok (.iconst (-1), 1) := by decide +kernel
theorem dX1_value_20 : decode cX1_value 20 = .ok (.ireturn, 1) := by decide +kernel
theorem dX1_value_21 : decode cX1_value 21 = .ok (.aload_n 0, 1) := by decide +kernel
theorem dX1_value_22 : decode cX1_value 22 = .ok (.getfield 9, 3) := by decide +kernel
theorem dX1_value_25 : decode cX1_value 25 = .ok (.sipush 512, 3) := by decide +kernel
theorem dX1_value_28 : decode cX1_value 28 = .ok (.iload_n 1, 1) := by decide +kernel
theorem dX1_value_29 : decode cX1_value 29 = .ok (.imul, 1) := by decide +kernel
theorem dX1_value_30 : decode cX1_value 30 = .ok (.iload_n 2, 1) := by decide +kernel
theorem dX1_value_31 : decode cX1_value 31 = .ok (.iadd, 1) := by decide +kernel
theorem dX1_value_32 : decode cX1_value 32 = .ok (.baload, 1) := by decide +kernel
theorem dX1_value_33 : decode cX1_value 33 = .ok (.ifCond .eq 7, 3) := by decide +kernel
theorem dX1_value_36 : decode cX1_value 36 = .ok (.iconst 1, 1) := by decide +kernel
theorem dX1_value_37 : decode cX1_value 37 = .ok (.goto 4, 3) := by decide +kernel
theorem dX1_value_40 : decode cX1_value 40 = .ok (.iconst 0, 1) := by decide +kernel
theorem dX1_value_41 : decode cX1_value 41 = .ok (.ireturn, 1) := by decide +kernel
theorem dX1_same_0 : decode cX1_same 0 = .ok (.iload_n 1, 1) := by decide +kernel
theorem dX1_same_1 : decode cX1_same 1 = .ok (.invokestatic 27, 3) := by decide +kernel
theorem dX1_same_4 : decode cX1_same 4 = .ok (.ifCond .eq 10, 3) := by decide +kernel
theorem dX1_same_7 : decode cX1_same 7 = .ok (.iload_n 2, 1) := by decide +kernel
theorem dX1_same_8 : decode cX1_same 8 = .ok (.invokestatic 27, 3) := by decide +kernel
theorem dX1_same_11 : decode cX1_same 11 = .ok (.ifCond .ne 5, 3) := by decide +kernel
theorem dX1_same_14 : decode cX1_same 14 = .ok (.iconst 0, 1) := by decide +kernel
theorem dX1_same_15 : decode cX1_same 15 = .ok (.ireturn, 1) := by decide +kernel
theorem dX1_same_16 : decode cX1_same 16 = .ok (.iconst 0, 1) := by decide +kernel
theorem dX1_same_17 : decode cX1_same 17 = .ok (.istore_n 3, 1) := by decide +kernel
theorem dX1_same_18 : decode cX1_same 18 = .ok (.iload_n 3, 1) := by decide +kernel
theorem dX1_same_19 : decode cX1_same 19 = .ok (.aload_n 0, 1) := by decide +kernel
theorem dX1_same_20 : decode cX1_same 20 = .ok (.getfield 20, 3) := by decide +kernel
theorem dX1_same_23 : decode cX1_same 23 = .ok (.if_icmp .ge 38, 3) := by decide +kernel
theorem dX1_same_26 : decode cX1_same 26 = .ok (.aload_n 0, 1) := by decide +kernel
theorem dX1_same_27 : decode cX1_same 27 = .ok (.getfield 9, 3) := by decide +kernel
theorem dX1_same_30 : decode cX1_same 30 = .ok (.sipush 512, 3) := by decide +kernel
theorem dX1_same_33 : decode cX1_same 33 = .ok (.iload_n 1, 1) := by decide +kernel
theorem dX1_same_34 : decode cX1_same 34 = .ok (.imul, 1) := by decide +kernel
theorem dX1_same_35 : decode cX1_same 35 = .ok (.iload_n 3, 1) := by decide +kernel
theorem dX1_same_36 : decode cX1_same 36 = .ok (.iadd, 1) := by decide +kernel
theorem dX1_same_37 : decode cX1_same 37 = .ok (.baload, 1) := by decide +kernel
theorem dX1_same_38 : decode cX1_same 38 = .ok (.aload_n 0, 1) := by decide +kernel
theorem dX1_same_39 : decode cX1_same 39 = .ok (.getfield 9, 3) := by decide +kernel
theorem dX1_same_42 : decode cX1_same 42 = .ok (.sipush 512, 3) := by decide +kernel
theorem dX1_same_45 : decode cX1_same 45 = .ok (.iload_n 2, 1) := by decide +kernel
theorem dX1_same_46 : decode cX1_same 46 = .ok (.imul, 1) := by decide +kernel
theorem dX1_same_47 : decode cX1_same 47 = .ok (.iload_n 3, 1) := by decide +kernel
theorem dX1_same_48 : decode cX1_same 48 = .ok (.iadd, 1) := by decide +kernel
theorem dX1_same_49 : decode cX1_same 49 = .ok (.baload, 1) := by decide +kernel
theorem dX1_same_50 : decode cX1_same 50 = .ok (.if_icmp .eq 5, 3) := by decide +kernel
theorem dX1_same_53 : decode cX1_same 53 = .ok (.iconst 0, 1) := by decide +kernel
theorem dX1_same_54 : decode cX1_same 54 = .ok (.ireturn, 1) := by decide +kernel
theorem dX1_same_55 : decode cX1_same 55 = .ok (.iinc 3 1, 3) := by decide +kernel
theorem dX1_same_58 : decode cX1_same 58 = .ok (.goto (-40), 3) := by decide +kernel
theorem dX1_same_61 : decode cX1_same 61 = .ok (.iconst 1, 1) := by decide +kernel
theorem dX1_same_62 : decode cX1_same 62 = .ok (.ireturn, 1) := by decide +kernel
theorem dX1_alike_0 : decode cX1_alike 0 = .ok (.iconst 0, 1) := by decide +kernel
theorem dX1_alike_1 : decode cX1_alike 1 = .ok (.istore 5, 2) := by decide +kernel
theorem dX1_alike_3 : decode cX1_alike 3 = .ok (.iload 5, 2) := by decide +kernel
theorem dX1_alike_5 : decode cX1_alike 5 = .ok (.iload 4, 2) := by decide +kernel
theorem dX1_alike_7 : decode cX1_alike 7 = .ok (.if_icmp .ge 44, 3) := by decide +kernel
theorem dX1_alike_10 : decode cX1_alike 10 = .ok (.aload_n 0, 1) := by decide +kernel
theorem dX1_alike_11 : decode cX1_alike 11 = .ok (.getfield 9, 3) := by decide +kernel
theorem dX1_alike_14 : decode cX1_alike 14 = .ok (.sipush 512, 3) := by decide +kernel
theorem dX1_alike_17 : decode cX1_alike 17 = .ok (.iload_n 1, 1) := by decide +kernel
theorem dX1_alike_18 : decode cX1_alike 18 = .ok (.imul, 1) := by decide +kernel
theorem dX1_alike_19 : decode cX1_alike 19 = .ok (.iload_n 2, 1) := by decide +kernel
theorem dX1_alike_20 : decode cX1_alike 20 = .ok (.iadd, 1) := by decide +kernel
theorem dX1_alike_21 : decode cX1_alike 21 = .ok (.iload 5, 2) := by decide +kernel
theorem dX1_alike_23 : decode cX1_alike 23 = .ok (.iadd, 1) := by decide +kernel
theorem dX1_alike_24 : decode cX1_alike 24 = .ok (.baload, 1) := by decide +kernel
theorem dX1_alike_25 : decode cX1_alike 25 = .ok (.aload_n 0, 1) := by decide +kernel
theorem dX1_alike_26 : decode cX1_alike 26 = .ok (.getfield 9, 3) := by decide +kernel
theorem dX1_alike_29 : decode cX1_alike 29 = .ok (.sipush 512, 3) := by decide +kernel
theorem dX1_alike_32 : decode cX1_alike 32 = .ok (.iload_n 1, 1) := by decide +kernel
theorem dX1_alike_33 : decode cX1_alike 33 = .ok (.imul, 1) := by decide +kernel
theorem dX1_alike_34 : decode cX1_alike 34 = .ok (.iload_n 3, 1) := by decide +kernel
theorem dX1_alike_35 : decode cX1_alike 35 = .ok (.iadd, 1) := by decide +kernel
theorem dX1_alike_36 : decode cX1_alike 36 = .ok (.iload 5, 2) := by decide +kernel
theorem dX1_alike_38 : decode cX1_alike 38 = .ok (.iadd, 1) := by decide +kernel
theorem dX1_alike_39 : decode cX1_alike 39 = .ok (.baload, 1) := by decide +kernel
theorem dX1_alike_40 : decode cX1_alike 40 = .ok (.if_icmp .eq 5, 3) := by decide +kernel
theorem dX1_alike_43 : decode cX1_alike 43 = .ok (.iconst 0, 1) := by decide +kernel
theorem dX1_alike_44 : decode cX1_alike 44 = .ok (.ireturn, 1) := by decide +kernel
theorem dX1_alike_45 : decode cX1_alike 45 = .ok (.iinc 5 1, 3) := by decide +kernel
theorem dX1_alike_48 : decode cX1_alike 48 = .ok (.goto (-45), 3) := by decide +kernel
theorem dX1_alike_51 : decode cX1_alike 51 = .ok (.iconst 1, 1) := by decide +kernel
theorem dX1_alike_52 : decode cX1_alike 52 = .ok (.ireturn, 1) := by decide +kernel
theorem dX1_size_0 : decode cX1_size 0 = .ok (.iload_n 1, 1) := by decide +kernel
theorem dX1_size_1 : decode cX1_size 1 = .ok (.invokestatic 27, 3) := by decide +kernel
theorem dX1_size_4 : decode cX1_size 4 = .ok (.ifCond .ne 5, 3) := by decide +kernel
theorem dX1_size_7 : decode cX1_size 7 = .ok (.iconst (-1), 1) := by decide +kernel
theorem dX1_size_8 : decode cX1_size 8 = .ok (.ireturn, 1) := by decide +kernel
theorem dX1_size_9 : decode cX1_size 9 = .ok (.iconst 0, 1) := by decide +kernel
theorem dX1_size_10 : decode cX1_size 10 = .ok (.istore_n 2, 1) := by decide +kernel
theorem dX1_size_11 : decode cX1_size 11 = .ok (.iconst 0, 1) := by decide +kernel
theorem dX1_size_12 : decode cX1_size 12 = .ok (.istore_n 3, 1) := by decide +kernel
theorem dX1_size_13 : decode cX1_size 13 = .ok (.iload_n 3, 1) := by decide +kernel
theorem dX1_size_14 : decode cX1_size 14 = .ok (.aload_n 0, 1) := by decide +kernel
theorem dX1_size_15 : decode cX1_size 15 = .ok (.getfield 16, 3) := by decide +kernel
theorem dX1_size_18 : decode cX1_size 18 = .ok (.if_icmp .ge 121, 3) := by decide +kernel
theorem dX1_size_21 : decode cX1_size 21 = .ok (.aload_n 0, 1) := by decide +kernel
theorem dX1_size_22 : decode cX1_size 22 = .ok (.getfield 20, 3) := by decide +kernel
theorem dX1_size_25 : decode cX1_size 25 = .ok (.iload_n 3, 1) := by decide +kernel
theorem dX1_size_26 : decode cX1_size 26 = .ok (.ishr, 1) := by decide +kernel
theorem dX1_size_27 : decode cX1_size 27 = .ok (.istore 4, 2) := by decide +kernel
theorem dX1_size_29 : decode cX1_size 29 = .ok (.iconst 0, 1) := by decide +kernel
theorem dX1_size_30 : decode cX1_size 30 = .ok (.istore 5, 2) := by decide +kernel
theorem dX1_size_32 : decode cX1_size 32 = .ok (.iload 5, 2) := by decide +kernel
theorem dX1_size_34 : decode cX1_size 34 = .ok (.aload_n 0, 1) := by decide +kernel
theorem dX1_size_35 : decode cX1_size 35 = .ok (.getfield 20, 3) := by decide +kernel
theorem dX1_size_38 : decode cX1_size 38 = .ok (.if_icmp .ge 95, 3) := by decide +kernel
theorem dX1_size_41 : decode cX1_size 41 = .ok (.aload_n 0, 1) := by decide +kernel
theorem dX1_size_42 : decode cX1_size 42 = .ok (.iload_n 1, 1) := by decide +kernel
theorem dX1_size_43 : decode cX1_size 43 = .ok (.iload 5, 2) := by decide +kernel
theorem dX1_size_45 : decode cX1_size 45 = .ok (.iload 5, 2) := by decide +kernel
theorem dX1_size_47 : decode cX1_size 47 = .ok (.iload 4, 2) := by decide +kernel
theorem dX1_size_49 : decode cX1_size 49 = .ok (.iconst 2, 1) := by decide +kernel
theorem dX1_size_50 : decode cX1_size 50 = .ok (.idiv, 1) := by decide +kernel
theorem dX1_size_51 : decode cX1_size 51 = .ok (.iadd, 1) := by decide +kernel
theorem dX1_size_52 : decode cX1_size 52 = .ok (.iload 4, 2) := by decide +kernel
theorem dX1_size_54 : decode cX1_size 54 = .ok (.iconst 2, 1) := by decide +kernel
theorem dX1_size_55 : decode cX1_size 55 = .ok (.idiv, 1) := by decide +kernel
theorem dX1_size_56 : decode cX1_size 56 = .ok (.invokevirtual 40, 3) := by decide +kernel
theorem dX1_size_59 : decode cX1_size 59 = .ok (.ifCond .ne 7, 3) := by decide +kernel
theorem dX1_size_62 : decode cX1_size 62 = .ok (.iconst 1, 1) := by decide +kernel
theorem dX1_size_63 : decode cX1_size 63 = .ok (.goto 4, 3) := by decide +kernel
theorem dX1_size_66 : decode cX1_size 66 = .ok (.iconst 0, 1) := by decide +kernel
theorem dX1_size_67 : decode cX1_size 67 = .ok (.istore 6, 2) := by decide +kernel
theorem dX1_size_69 : decode cX1_size 69 = .ok (.iconst 0, 1) := by decide +kernel
theorem dX1_size_70 : decode cX1_size 70 = .ok (.istore 7, 2) := by decide +kernel
theorem dX1_size_72 : decode cX1_size 72 = .ok (.iload 7, 2) := by decide +kernel
theorem dX1_size_74 : decode cX1_size 74 = .ok (.iload 5, 2) := by decide +kernel
theorem dX1_size_76 : decode cX1_size 76 = .ok (.if_icmp .ge 39, 3) := by decide +kernel
theorem dX1_size_79 : decode cX1_size 79 = .ok (.iload 6, 2) := by decide +kernel
theorem dX1_size_81 : decode cX1_size 81 = .ok (.ifCond .eq 34, 3) := by decide +kernel
theorem dX1_size_84 : decode cX1_size 84 = .ok (.aload_n 0, 1) := by decide +kernel
theorem dX1_size_85 : decode cX1_size 85 = .ok (.iload_n 1, 1) := by decide +kernel
theorem dX1_size_86 : decode cX1_size 86 = .ok (.iload 5, 2) := by decide +kernel
theorem dX1_size_88 : decode cX1_size 88 = .ok (.iload 7, 2) := by decide +kernel
theorem dX1_size_90 : decode cX1_size 90 = .ok (.iload 4, 2) := by decide +kernel
theorem dX1_size_92 : decode cX1_size 92 = .ok (.invokevirtual 40, 3) := by decide +kernel
theorem dX1_size_95 : decode cX1_size 95 = .ok (.ifCond .ne 7, 3) := by decide +kernel
theorem dX1_size_98 : decode cX1_size 98 = .ok (.iconst 1, 1) := by decide +kernel
theorem dX1_size_99 : decode cX1_size 99 = .ok (.goto 4, 3) := by decide +kernel
theorem dX1_size_102 : decode cX1_size 102 = .ok (.iconst 0, 1) := by decide +kernel
theorem dX1_size_103 : decode cX1_size 103 = .ok (.istore 6, 2) := by decide +kernel
theorem dX1_size_105 : decode cX1_size 105 = .ok (.iload 7, 2) := by decide +kernel
theorem dX1_size_107 : decode cX1_size 107 = .ok (.iload 4, 2) := by decide +kernel
theorem dX1_size_109 : decode cX1_size 109 = .ok (.iadd, 1) := by decide +kernel
theorem dX1_size_110 : decode cX1_size 110 = .ok (.istore 7, 2) := by decide +kernel
theorem dX1_size_112 : decode cX1_size 112 = .ok (.goto (-40), 3) := by decide +kernel
theorem dX1_size_115 : decode cX1_size 115 = .ok (.iload 6, 2) := by decide +kernel
theorem dX1_size_117 : decode cX1_size 117 = .ok (.ifCond .eq 6, 3) := by decide +kernel
theorem dX1_size_120 : decode cX1_size 120 = .ok (.iinc 2 1, 3) := by decide +kernel
theorem dX1_size_123 : decode cX1_size 123 = .ok (.iload 5, 2) := by decide +kernel
theorem dX1_size_125 : decode cX1_size 125 = .ok (.iload 4, 2) := by decide +kernel
theorem dX1_size_127 : decode cX1_size 127 = .ok (.iadd, 1) := by decide +kernel
theorem dX1_size_128 : decode cX1_size 128 = .ok (.istore 5, 2) := by decide +kernel
theorem dX1_size_130 : decode cX1_size 130 = .ok (.goto (-98), 3) := by decide +kernel
theorem dX1_size_133 : decode cX1_size 133 = .ok (.iinc 3 1, 3) := by decide +kernel
theorem dX1_size_136 : decode cX1_size 136 = .ok (.goto (-123), 3) := by decide +kernel
theorem dX1_size_139 : decode cX1_size 139 = .ok (.iload_n 2, 1) := by decide +kernel
theorem dX1_size_140 : decode cX1_size 140 = .ok (.ireturn, 1) := by decide +kernel
theorem dX1_matters_0 : decode cX1_matters 0 = .ok (.iload_n 1, 1) := by decide +kernel
theorem dX1_matters_1 : decode cX1_matters 1 = .ok (.invokestatic 27, 3) := by decide +kernel
theorem dX1_matters_4 : decode cX1_matters 4 = .ok (.ifCond .ne 5, 3) := by decide +kernel
theorem dX1_matters_7 : decode cX1_matters 7 = .ok (.iconst (-1), 1) := by decide +kernel
theorem dX1_matters_8 : decode cX1_matters 8 = .ok (.ireturn, 1) := by decide +kernel
theorem dX1_matters_9 : decode cX1_matters 9 = .ok (.iconst 0, 1) := by decide +kernel
theorem dX1_matters_10 : decode cX1_matters 10 = .ok (.istore_n 2, 1) := by decide +kernel
theorem dX1_matters_11 : decode cX1_matters 11 = .ok (.iconst 0, 1) := by decide +kernel
theorem dX1_matters_12 : decode cX1_matters 12 = .ok (.istore_n 3, 1) := by decide +kernel
theorem dX1_matters_13 : decode cX1_matters 13 = .ok (.iload_n 3, 1) := by decide +kernel
theorem dX1_matters_14 : decode cX1_matters 14 = .ok (.aload_n 0, 1) := by decide +kernel
theorem dX1_matters_15 : decode cX1_matters 15 = .ok (.getfield 16, 3) := by decide +kernel
theorem dX1_matters_18 : decode cX1_matters 18 = .ok (.if_icmp .ge 68, 3) := by decide +kernel
theorem dX1_matters_21 : decode cX1_matters 21 = .ok (.iconst 0, 1) := by decide +kernel
theorem dX1_matters_22 : decode cX1_matters 22 = .ok (.istore 4, 2) := by decide +kernel
theorem dX1_matters_24 : decode cX1_matters 24 = .ok (.iload 4, 2) := by decide +kernel
theorem dX1_matters_26 : decode cX1_matters 26 = .ok (.aload_n 0, 1) := by decide +kernel
theorem dX1_matters_27 : decode cX1_matters 27 = .ok (.getfield 20, 3) := by decide +kernel
theorem dX1_matters_30 : decode cX1_matters 30 = .ok (.if_icmp .ge 50, 3) := by decide +kernel
theorem dX1_matters_33 : decode cX1_matters 33 = .ok (.aload_n 0, 1) := by decide +kernel
theorem dX1_matters_34 : decode cX1_matters 34 = .ok (.getfield 9, 3) := by decide +kernel
theorem dX1_matters_37 : decode cX1_matters 37 = .ok (.sipush 512, 3) := by decide +kernel
theorem dX1_matters_40 : decode cX1_matters 40 = .ok (.iload_n 1, 1) := by decide +kernel
theorem dX1_matters_41 : decode cX1_matters 41 = .ok (.imul, 1) := by decide +kernel
theorem dX1_matters_42 : decode cX1_matters 42 = .ok (.iload 4, 2) := by decide +kernel
theorem dX1_matters_44 : decode cX1_matters 44 = .ok (.iadd, 1) := by decide +kernel
theorem dX1_matters_45 : decode cX1_matters 45 = .ok (.baload, 1) := by decide +kernel
theorem dX1_matters_46 : decode cX1_matters 46 = .ok (.aload_n 0, 1) := by decide +kernel
theorem dX1_matters_47 : decode cX1_matters 47 = .ok (.getfield 9, 3) := by decide +kernel
theorem dX1_matters_50 : decode cX1_matters 50 = .ok (.sipush 512, 3) := by decide +kernel
theorem dX1_matters_53 : decode cX1_matters 53 = .ok (.iload_n 1, 1) := by decide +kernel
theorem dX1_matters_54 : decode cX1_matters 54 = .ok (.imul, 1) := by decide +kernel
theorem dX1_matters_55 : decode cX1_matters 55 = .ok (.iload 4, 2) := by decide +kernel
theorem dX1_matters_57 : decode cX1_matters 57 = .ok (.aload_n 0, 1) := by decide +kernel
theorem dX1_matters_58 : decode cX1_matters 58 = .ok (.iload_n 3, 1) := by decide +kernel
theorem dX1_matters_59 : decode cX1_matters 59 = .ok (.invokevirtual 31, 3) := by decide +kernel
theorem dX1_matters_62 : decode cX1_matters 62 = .ok (.ixor, 1) := by decide +kernel
theorem dX1_matters_63 : decode cX1_matters 63 = .ok (.iadd, 1) := by decide +kernel
theorem dX1_matters_64 : decode cX1_matters 64 = .ok (.baload, 1) := by decide +kernel
theorem dX1_matters_65 : decode cX1_matters 65 = .ok (.if_icmp .eq 9, 3) := by decide +kernel
theorem dX1_matters_68 : decode cX1_matters 68 = .ok (.iload_n 2, 1) := by decide +kernel
theorem dX1_matters_69 : decode cX1_matters 69 = .ok (.iconst 1, 1) := by decide +kernel
theorem dX1_matters_70 : decode cX1_matters 70 = .ok (.iload_n 3, 1) := by decide +kernel
theorem dX1_matters_71 : decode cX1_matters 71 = .ok (.ishl, 1) := by decide +kernel
theorem dX1_matters_72 : decode cX1_matters 72 = .ok (.ior, 1) := by decide +kernel
theorem dX1_matters_73 : decode cX1_matters 73 = .ok (.istore_n 2, 1) := by decide +kernel
theorem dX1_matters_74 : decode cX1_matters 74 = .ok (.iinc 4 1, 3) := by decide +kernel
theorem dX1_matters_77 : decode cX1_matters 77 = .ok (.goto (-53), 3) := by decide +kernel
theorem dX1_matters_80 : decode cX1_matters 80 = .ok (.iinc 3 1, 3) := by decide +kernel
theorem dX1_matters_83 : decode cX1_matters 83 = .ok (.goto (-70), 3) := by decide +kernel
theorem dX1_matters_86 : decode cX1_matters 86 = .ok (.iload_n 2, 1) := by decide +kernel
theorem dX1_matters_87 : decode cX1_matters 87 = .ok (.ireturn, 1) := by decide +kernel
end
section
theorem dL_cell_0 : decode cL_cell 0 = .ok (.iload_n 1, 1) := by decide +kernel
theorem dL_cell_1 : decode cL_cell 1 = .ok (.aload_n 0, 1) := by decide +kernel
theorem dL_cell_2 : decode cL_cell 2 = .ok (.arraylength, 1) := by decide +kernel
theorem dL_cell_3 : decode cL_cell 3 = .ok (.if_icmp .ge 9, 3) := by decide +kernel
theorem dL_cell_6 : decode cL_cell 6 = .ok (.aload_n 0, 1) := by decide +kernel
theorem dL_cell_7 : decode cL_cell 7 = .ok (.iload_n 1, 1) := by decide +kernel
theorem dL_cell_8 : decode cL_cell 8 = .ok (.iaload, 1) := by decide +kernel
theorem dL_cell_9 : decode cL_cell 9 = .ok (.goto 4, 3) := by decide +kernel
theorem dL_cell_12 : decode cL_cell 12 = .ok (.iconst 0, 1) := by decide +kernel
theorem dL_cell_13 : decode cL_cell 13 = .ok (.ireturn, 1) := by decide +kernel
theorem dL_law_0 : decode cL_law 0 = .ok (.new 7, 3) := by decide +kernel
theorem dL_law_3 : decode cL_law 3 = .ok (.dup, 1) := by decide +kernel
theorem dL_law_4 : decode cL_law 4 = .ok (.aload_n 0, 1) := by decide +kernel
theorem dL_law_5 : decode cL_law 5 = .ok (.iconst 0, 1) := by decide +kernel
theorem dL_law_6 : decode cL_law 6 = .ok (.invokestatic 9, 3) := by decide +kernel
theorem dL_law_9 : decode cL_law 9 = .ok (.invokespecial 15, 3) := by decide +kernel
theorem dL_law_12 : decode cL_law 12 = .ok (.astore_n 1, 1) := by decide +kernel
theorem dL_law_13 : decode cL_law 13 = .ok (.new 18, 3) := by decide +kernel
theorem dL_law_16 : decode cL_law 16 = .ok (.dup, 1) := by decide +kernel
theorem dL_law_17 : decode cL_law 17 = .ok (.aload_n 0, 1) := by decide +kernel
theorem dL_law_18 : decode cL_law 18 = .ok (.iconst 0, 1) := by decide +kernel
theorem dL_law_19 : decode cL_law 19 = .ok (.invokestatic 9, 3) := by decide +kernel
theorem dL_law_22 : decode cL_law 22 = .ok (.invokespecial 20, 3) := by decide +kernel
theorem dL_law_25 : decode cL_law 25 = .ok (.astore_n 2, 1) := by decide +kernel
theorem dL_law_26 : decode cL_law 26 = .ok (.iconst 1, 1) := by decide +kernel
theorem dL_law_27 : decode cL_law 27 = .ok (.istore_n 3, 1) := by decide +kernel
theorem dL_law_28 : decode cL_law 28 = .ok (.iload_n 3, 1) := by decide +kernel
theorem dL_law_29 : decode cL_law 29 = .ok (.aload_n 0, 1) := by decide +kernel
theorem dL_law_30 : decode cL_law 30 = .ok (.arraylength, 1) := by decide +kernel
theorem dL_law_31 : decode cL_law 31 = .ok (.iconst 5, 1) := by decide +kernel
theorem dL_law_32 : decode cL_law 32 = .ok (.isub, 1) := by decide +kernel
theorem dL_law_33 : decode cL_law 33 = .ok (.if_icmp .gt 555, 3) := by decide +kernel
theorem dL_law_36 : decode cL_law 36 = .ok (.aload_n 0, 1) := by decide +kernel
theorem dL_law_37 : decode cL_law 37 = .ok (.iload_n 3, 1) := by decide +kernel
theorem dL_law_38 : decode cL_law 38 = .ok (.iaload, 1) := by decide +kernel
theorem dL_law_39 : decode cL_law 39 = .ok (.bipush 15, 2) := by decide +kernel
theorem dL_law_41 : decode cL_law 41 = .ok (.iand, 1) := by decide +kernel
theorem dL_law_42 : decode cL_law 42 = .ok (.tableswitch 540 0 11 #[62, 95, 148, 181, 250, 319, 372, 395, 428, 461, 494, 517], 62) := by decide +kernel
theorem dL_law_104 : decode cL_law 104 = .ok (.aload_n 1, 1) := by decide +kernel
theorem dL_law_105 : decode cL_law 105 = .ok (.aload_n 0, 1) := by decide +kernel
theorem dL_law_106 : decode cL_law 106 = .ok (.iload_n 3, 1) := by decide +kernel
theorem dL_law_107 : decode cL_law 107 = .ok (.iconst 1, 1) := by decide +kernel
theorem dL_law_108 : decode cL_law 108 = .ok (.iadd, 1) := by decide +kernel
theorem dL_law_109 : decode cL_law 109 = .ok (.iaload, 1) := by decide +kernel
theorem dL_law_110 : decode cL_law 110 = .ok (.aload_n 0, 1) := by decide +kernel
theorem dL_law_111 : decode cL_law 111 = .ok (.iload_n 3, 1) := by decide +kernel
theorem dL_law_112 : decode cL_law 112 = .ok (.iconst 2, 1) := by decide +kernel
theorem dL_law_113 : decode cL_law 113 = .ok (.iadd, 1) := by decide +kernel
theorem dL_law_114 : decode cL_law 114 = .ok (.iaload, 1) := by decide +kernel
theorem dL_law_115 : decode cL_law 115 = .ok (.invokevirtual 21, 3) := by decide +kernel
theorem dL_law_118 : decode cL_law 118 = .ok (.aload_n 2, 1) := by decide +kernel
theorem dL_law_119 : decode cL_law 119 = .ok (.aload_n 0, 1) := by decide +kernel
theorem dL_law_120 : decode cL_law 120 = .ok (.iload_n 3, 1) := by decide +kernel
theorem dL_law_121 : decode cL_law 121 = .ok (.iconst 1, 1) := by decide +kernel
theorem dL_law_122 : decode cL_law 122 = .ok (.iadd, 1) := by decide +kernel
theorem dL_law_123 : decode cL_law 123 = .ok (.iaload, 1) := by decide +kernel
theorem dL_law_124 : decode cL_law 124 = .ok (.aload_n 0, 1) := by decide +kernel
theorem dL_law_125 : decode cL_law 125 = .ok (.iload_n 3, 1) := by decide +kernel
theorem dL_law_126 : decode cL_law 126 = .ok (.iconst 2, 1) := by decide +kernel
theorem dL_law_127 : decode cL_law 127 = .ok (.iadd, 1) := by decide +kernel
theorem dL_law_128 : decode cL_law 128 = .ok (.iaload, 1) := by decide +kernel
theorem dL_law_129 : decode cL_law 129 = .ok (.invokevirtual 25, 3) := by decide +kernel
theorem dL_law_132 : decode cL_law 132 = .ok (.if_icmp .eq 450, 3) := by decide +kernel
theorem dL_law_135 : decode cL_law 135 = .ok (.iconst 0, 1) := by decide +kernel
theorem dL_law_136 : decode cL_law 136 = .ok (.ireturn, 1) := by decide +kernel
theorem dL_law_137 : decode cL_law 137 = .ok (.aload_n 1, 1) := by decide +kernel
theorem dL_law_138 : decode cL_law 138 = .ok (.aload_n 0, 1) := by decide +kernel
theorem dL_law_139 : decode cL_law 139 = .ok (.iload_n 3, 1) := by decide +kernel
theorem dL_law_140 : decode cL_law 140 = .ok (.iconst 1, 1) := by decide +kernel
theorem dL_law_141 : decode cL_law 141 = .ok (.iadd, 1) := by decide +kernel
theorem dL_law_142 : decode cL_law 142 = .ok (.iaload, 1) := by decide +kernel
theorem dL_law_143 : decode cL_law 143 = .ok (.aload_n 0, 1) := by decide +kernel
theorem dL_law_144 : decode cL_law 144 = .ok (.iload_n 3, 1) := by decide +kernel
theorem dL_law_145 : decode cL_law 145 = .ok (.iconst 2, 1) := by decide +kernel
theorem dL_law_146 : decode cL_law 146 = .ok (.iadd, 1) := by decide +kernel
theorem dL_law_147 : decode cL_law 147 = .ok (.iaload, 1) := by decide +kernel
theorem dL_law_148 : decode cL_law 148 = .ok (.aload_n 0, 1) := by decide +kernel
theorem dL_law_149 : decode cL_law 149 = .ok (.iload_n 3, 1) := by decide +kernel
theorem dL_law_150 : decode cL_law 150 = .ok (.iconst 3, 1) := by decide +kernel
theorem dL_law_151 : decode cL_law 151 = .ok (.iadd, 1) := by decide +kernel
theorem dL_law_152 : decode cL_law 152 = .ok (.iaload, 1) := by decide +kernel
theorem dL_law_153 : decode cL_law 153 = .ok (.aload_n 0, 1) := by decide +kernel
theorem dL_law_154 : decode cL_law 154 = .ok (.iload_n 3, 1) := by decide +kernel
theorem dL_law_155 : decode cL_law 155 = .ok (.iconst 4, 1) := by decide +kernel
theorem dL_law_156 : decode cL_law 156 = .ok (.iadd, 1) := by decide +kernel
theorem dL_law_157 : decode cL_law 157 = .ok (.iaload, 1) := by decide +kernel
theorem dL_law_158 : decode cL_law 158 = .ok (.invokevirtual 26, 3) := by decide +kernel
theorem dL_law_161 : decode cL_law 161 = .ok (.aload_n 2, 1) := by decide +kernel
theorem dL_law_162 : decode cL_law 162 = .ok (.aload_n 0, 1) := by decide +kernel
theorem dL_law_163 : decode cL_law 163 = .ok (.iload_n 3, 1) := by decide +kernel
theorem dL_law_164 : decode cL_law 164 = .ok (.iconst 1, 1) := by decide +kernel
theorem dL_law_165 : decode cL_law 165 = .ok (.iadd, 1) := by decide +kernel
theorem dL_law_166 : decode cL_law 166 = .ok (.iaload, 1) := by decide +kernel
theorem dL_law_167 : decode cL_law 167 = .ok (.aload_n 0, 1) := by decide +kernel
theorem dL_law_168 : decode cL_law 168 = .ok (.iload_n 3, 1) := by decide +kernel
theorem dL_law_169 : decode cL_law 169 = .ok (.iconst 2, 1) := by decide +kernel
theorem dL_law_170 : decode cL_law 170 = .ok (.iadd, 1) := by decide +kernel
theorem dL_law_171 : decode cL_law 171 = .ok (.iaload, 1) := by decide +kernel
theorem dL_law_172 : decode cL_law 172 = .ok (.aload_n 0, 1) := by decide +kernel
theorem dL_law_173 : decode cL_law 173 = .ok (.iload_n 3, 1) := by decide +kernel
theorem dL_law_174 : decode cL_law 174 = .ok (.iconst 3, 1) := by decide +kernel
theorem dL_law_175 : decode cL_law 175 = .ok (.iadd, 1) := by decide +kernel
theorem dL_law_176 : decode cL_law 176 = .ok (.iaload, 1) := by decide +kernel
theorem dL_law_177 : decode cL_law 177 = .ok (.aload_n 0, 1) := by decide +kernel
theorem dL_law_178 : decode cL_law 178 = .ok (.iload_n 3, 1) := by decide +kernel
theorem dL_law_179 : decode cL_law 179 = .ok (.iconst 4, 1) := by decide +kernel
theorem dL_law_180 : decode cL_law 180 = .ok (.iadd, 1) := by decide +kernel
theorem dL_law_181 : decode cL_law 181 = .ok (.iaload, 1) := by decide +kernel
theorem dL_law_182 : decode cL_law 182 = .ok (.invokevirtual 30, 3) := by decide +kernel
theorem dL_law_185 : decode cL_law 185 = .ok (.if_icmp .eq 397, 3) := by decide +kernel
theorem dL_law_188 : decode cL_law 188 = .ok (.iconst 0, 1) := by decide +kernel
theorem dL_law_189 : decode cL_law 189 = .ok (.ireturn, 1) := by decide +kernel
theorem dL_law_190 : decode cL_law 190 = .ok (.aload_n 1, 1) := by decide +kernel
theorem dL_law_191 : decode cL_law 191 = .ok (.aload_n 0, 1) := by decide +kernel
theorem dL_law_192 : decode cL_law 192 = .ok (.iload_n 3, 1) := by decide +kernel
theorem dL_law_193 : decode cL_law 193 = .ok (.iconst 1, 1) := by decide +kernel
theorem dL_law_194 : decode cL_law 194 = .ok (.iadd, 1) := by decide +kernel
theorem dL_law_195 : decode cL_law 195 = .ok (.iaload, 1) := by decide +kernel
theorem dL_law_196 : decode cL_law 196 = .ok (.aload_n 0, 1) := by decide +kernel
theorem dL_law_197 : decode cL_law 197 = .ok (.iload_n 3, 1) := by decide +kernel
theorem dL_law_198 : decode cL_law 198 = .ok (.iconst 2, 1) := by decide +kernel
theorem dL_law_199 : decode cL_law 199 = .ok (.iadd, 1) := by decide +kernel
theorem dL_law_200 : decode cL_law 200 = .ok (.iaload, 1) := by decide +kernel
theorem dL_law_201 : decode cL_law 201 = .ok (.invokevirtual 31, 3) := by decide +kernel
theorem dL_law_204 : decode cL_law 204 = .ok (.aload_n 2, 1) := by decide +kernel
theorem dL_law_205 : decode cL_law 205 = .ok (.aload_n 0, 1) := by decide +kernel
theorem dL_law_206 : decode cL_law 206 = .ok (.iload_n 3, 1) := by decide +kernel
theorem dL_law_207 : decode cL_law 207 = .ok (.iconst 1, 1) := by decide +kernel
theorem dL_law_208 : decode cL_law 208 = .ok (.iadd, 1) := by decide +kernel
theorem dL_law_209 : decode cL_law 209 = .ok (.iaload, 1) := by decide +kernel
theorem dL_law_210 : decode cL_law 210 = .ok (.aload_n 0, 1) := by decide +kernel
theorem dL_law_211 : decode cL_law 211 = .ok (.iload_n 3, 1) := by decide +kernel
theorem dL_law_212 : decode cL_law 212 = .ok (.iconst 2, 1) := by decide +kernel
theorem dL_law_213 : decode cL_law 213 = .ok (.iadd, 1) := by decide +kernel
theorem dL_law_214 : decode cL_law 214 = .ok (.iaload, 1) := by decide +kernel
theorem dL_law_215 : decode cL_law 215 = .ok (.invokevirtual 34, 3) := by decide +kernel
theorem dL_law_218 : decode cL_law 218 = .ok (.if_icmp .eq 364, 3) := by decide +kernel
theorem dL_law_221 : decode cL_law 221 = .ok (.iconst 0, 1) := by decide +kernel
theorem dL_law_222 : decode cL_law 222 = .ok (.ireturn, 1) := by decide +kernel
theorem dL_law_223 : decode cL_law 223 = .ok (.aload_n 1, 1) := by decide +kernel
theorem dL_law_224 : decode cL_law 224 = .ok (.aload_n 0, 1) := by decide +kernel
theorem dL_law_225 : decode cL_law 225 = .ok (.iload_n 3, 1) := by decide +kernel
theorem dL_law_226 : decode cL_law 226 = .ok (.iconst 1, 1) := by decide +kernel
theorem dL_law_227 : decode cL_law 227 = .ok (.iadd, 1) := by decide +kernel
theorem dL_law_228 : decode cL_law 228 = .ok (.iaload, 1) := by decide +kernel
theorem dL_law_229 : decode cL_law 229 = .ok (.aload_n 0, 1) := by decide +kernel
theorem dL_law_230 : decode cL_law 230 = .ok (.iload_n 3, 1) := by decide +kernel
theorem dL_law_231 : decode cL_law 231 = .ok (.iconst 2, 1) := by decide +kernel
theorem dL_law_232 : decode cL_law 232 = .ok (.iadd, 1) := by decide +kernel
theorem dL_law_233 : decode cL_law 233 = .ok (.iaload, 1) := by decide +kernel
theorem dL_law_234 : decode cL_law 234 = .ok (.aload_n 0, 1) := by decide +kernel
theorem dL_law_235 : decode cL_law 235 = .ok (.iload_n 3, 1) := by decide +kernel
theorem dL_law_236 : decode cL_law 236 = .ok (.iconst 3, 1) := by decide +kernel
theorem dL_law_237 : decode cL_law 237 = .ok (.iadd, 1) := by decide +kernel
theorem dL_law_238 : decode cL_law 238 = .ok (.iaload, 1) := by decide +kernel
theorem dL_law_239 : decode cL_law 239 = .ok (.aload_n 0, 1) := by decide +kernel
theorem dL_law_240 : decode cL_law 240 = .ok (.iload_n 3, 1) := by decide +kernel
theorem dL_law_241 : decode cL_law 241 = .ok (.iconst 4, 1) := by decide +kernel
theorem dL_law_242 : decode cL_law 242 = .ok (.iadd, 1) := by decide +kernel
theorem dL_law_243 : decode cL_law 243 = .ok (.iaload, 1) := by decide +kernel
theorem dL_law_244 : decode cL_law 244 = .ok (.ifCond .eq 7, 3) := by decide +kernel
theorem dL_law_247 : decode cL_law 247 = .ok (.iconst 1, 1) := by decide +kernel
theorem dL_law_248 : decode cL_law 248 = .ok (.goto 4, 3) := by decide +kernel
theorem dL_law_251 : decode cL_law 251 = .ok (.iconst 0, 1) := by decide +kernel
theorem dL_law_252 : decode cL_law 252 = .ok (.invokevirtual 35, 3) := by decide +kernel
theorem dL_law_255 : decode cL_law 255 = .ok (.aload_n 2, 1) := by decide +kernel
theorem dL_law_256 : decode cL_law 256 = .ok (.aload_n 0, 1) := by decide +kernel
theorem dL_law_257 : decode cL_law 257 = .ok (.iload_n 3, 1) := by decide +kernel
theorem dL_law_258 : decode cL_law 258 = .ok (.iconst 1, 1) := by decide +kernel
theorem dL_law_259 : decode cL_law 259 = .ok (.iadd, 1) := by decide +kernel
theorem dL_law_260 : decode cL_law 260 = .ok (.iaload, 1) := by decide +kernel
theorem dL_law_261 : decode cL_law 261 = .ok (.aload_n 0, 1) := by decide +kernel
theorem dL_law_262 : decode cL_law 262 = .ok (.iload_n 3, 1) := by decide +kernel
theorem dL_law_263 : decode cL_law 263 = .ok (.iconst 2, 1) := by decide +kernel
theorem dL_law_264 : decode cL_law 264 = .ok (.iadd, 1) := by decide +kernel
theorem dL_law_265 : decode cL_law 265 = .ok (.iaload, 1) := by decide +kernel
theorem dL_law_266 : decode cL_law 266 = .ok (.aload_n 0, 1) := by decide +kernel
theorem dL_law_267 : decode cL_law 267 = .ok (.iload_n 3, 1) := by decide +kernel
theorem dL_law_268 : decode cL_law 268 = .ok (.iconst 3, 1) := by decide +kernel
theorem dL_law_269 : decode cL_law 269 = .ok (.iadd, 1) := by decide +kernel
theorem dL_law_270 : decode cL_law 270 = .ok (.iaload, 1) := by decide +kernel
theorem dL_law_271 : decode cL_law 271 = .ok (.aload_n 0, 1) := by decide +kernel
theorem dL_law_272 : decode cL_law 272 = .ok (.iload_n 3, 1) := by decide +kernel
theorem dL_law_273 : decode cL_law 273 = .ok (.iconst 4, 1) := by decide +kernel
theorem dL_law_274 : decode cL_law 274 = .ok (.iadd, 1) := by decide +kernel
theorem dL_law_275 : decode cL_law 275 = .ok (.iaload, 1) := by decide +kernel
theorem dL_law_276 : decode cL_law 276 = .ok (.ifCond .eq 7, 3) := by decide +kernel
theorem dL_law_279 : decode cL_law 279 = .ok (.iconst 1, 1) := by decide +kernel
theorem dL_law_280 : decode cL_law 280 = .ok (.goto 4, 3) := by decide +kernel
theorem dL_law_283 : decode cL_law 283 = .ok (.iconst 0, 1) := by decide +kernel
theorem dL_law_284 : decode cL_law 284 = .ok (.invokevirtual 39, 3) := by decide +kernel
theorem dL_law_287 : decode cL_law 287 = .ok (.if_icmp .eq 295, 3) := by decide +kernel
theorem dL_law_290 : decode cL_law 290 = .ok (.iconst 0, 1) := by decide +kernel
theorem dL_law_291 : decode cL_law 291 = .ok (.ireturn, 1) := by decide +kernel
theorem dL_law_292 : decode cL_law 292 = .ok (.aload_n 1, 1) := by decide +kernel
theorem dL_law_293 : decode cL_law 293 = .ok (.aload_n 0, 1) := by decide +kernel
theorem dL_law_294 : decode cL_law 294 = .ok (.iload_n 3, 1) := by decide +kernel
theorem dL_law_295 : decode cL_law 295 = .ok (.iconst 1, 1) := by decide +kernel
theorem dL_law_296 : decode cL_law 296 = .ok (.iadd, 1) := by decide +kernel
theorem dL_law_297 : decode cL_law 297 = .ok (.iaload, 1) := by decide +kernel
theorem dL_law_298 : decode cL_law 298 = .ok (.aload_n 0, 1) := by decide +kernel
theorem dL_law_299 : decode cL_law 299 = .ok (.iload_n 3, 1) := by decide +kernel
theorem dL_law_300 : decode cL_law 300 = .ok (.iconst 2, 1) := by decide +kernel
theorem dL_law_301 : decode cL_law 301 = .ok (.iadd, 1) := by decide +kernel
theorem dL_law_302 : decode cL_law 302 = .ok (.iaload, 1) := by decide +kernel
theorem dL_law_303 : decode cL_law 303 = .ok (.aload_n 0, 1) := by decide +kernel
theorem dL_law_304 : decode cL_law 304 = .ok (.iload_n 3, 1) := by decide +kernel
theorem dL_law_305 : decode cL_law 305 = .ok (.iconst 3, 1) := by decide +kernel
theorem dL_law_306 : decode cL_law 306 = .ok (.iadd, 1) := by decide +kernel
theorem dL_law_307 : decode cL_law 307 = .ok (.iaload, 1) := by decide +kernel
theorem dL_law_308 : decode cL_law 308 = .ok (.aload_n 0, 1) := by decide +kernel
theorem dL_law_309 : decode cL_law 309 = .ok (.iload_n 3, 1) := by decide +kernel
theorem dL_law_310 : decode cL_law 310 = .ok (.iconst 4, 1) := by decide +kernel
theorem dL_law_311 : decode cL_law 311 = .ok (.iadd, 1) := by decide +kernel
theorem dL_law_312 : decode cL_law 312 = .ok (.iaload, 1) := by decide +kernel
theorem dL_law_313 : decode cL_law 313 = .ok (.ifCond .eq 7, 3) := by decide +kernel
theorem dL_law_316 : decode cL_law 316 = .ok (.iconst 1, 1) := by decide +kernel
theorem dL_law_317 : decode cL_law 317 = .ok (.goto 4, 3) := by decide +kernel
theorem dL_law_320 : decode cL_law 320 = .ok (.iconst 0, 1) := by decide +kernel
theorem dL_law_321 : decode cL_law 321 = .ok (.invokevirtual 40, 3) := by decide +kernel
theorem dL_law_324 : decode cL_law 324 = .ok (.aload_n 2, 1) := by decide +kernel
theorem dL_law_325 : decode cL_law 325 = .ok (.aload_n 0, 1) := by decide +kernel
theorem dL_law_326 : decode cL_law 326 = .ok (.iload_n 3, 1) := by decide +kernel
theorem dL_law_327 : decode cL_law 327 = .ok (.iconst 1, 1) := by decide +kernel
theorem dL_law_328 : decode cL_law 328 = .ok (.iadd, 1) := by decide +kernel
theorem dL_law_329 : decode cL_law 329 = .ok (.iaload, 1) := by decide +kernel
theorem dL_law_330 : decode cL_law 330 = .ok (.aload_n 0, 1) := by decide +kernel
theorem dL_law_331 : decode cL_law 331 = .ok (.iload_n 3, 1) := by decide +kernel
theorem dL_law_332 : decode cL_law 332 = .ok (.iconst 2, 1) := by decide +kernel
theorem dL_law_333 : decode cL_law 333 = .ok (.iadd, 1) := by decide +kernel
theorem dL_law_334 : decode cL_law 334 = .ok (.iaload, 1) := by decide +kernel
theorem dL_law_335 : decode cL_law 335 = .ok (.aload_n 0, 1) := by decide +kernel
theorem dL_law_336 : decode cL_law 336 = .ok (.iload_n 3, 1) := by decide +kernel
theorem dL_law_337 : decode cL_law 337 = .ok (.iconst 3, 1) := by decide +kernel
theorem dL_law_338 : decode cL_law 338 = .ok (.iadd, 1) := by decide +kernel
theorem dL_law_339 : decode cL_law 339 = .ok (.iaload, 1) := by decide +kernel
theorem dL_law_340 : decode cL_law 340 = .ok (.aload_n 0, 1) := by decide +kernel
theorem dL_law_341 : decode cL_law 341 = .ok (.iload_n 3, 1) := by decide +kernel
theorem dL_law_342 : decode cL_law 342 = .ok (.iconst 4, 1) := by decide +kernel
theorem dL_law_343 : decode cL_law 343 = .ok (.iadd, 1) := by decide +kernel
theorem dL_law_344 : decode cL_law 344 = .ok (.iaload, 1) := by decide +kernel
theorem dL_law_345 : decode cL_law 345 = .ok (.ifCond .eq 7, 3) := by decide +kernel
theorem dL_law_348 : decode cL_law 348 = .ok (.iconst 1, 1) := by decide +kernel
theorem dL_law_349 : decode cL_law 349 = .ok (.goto 4, 3) := by decide +kernel
theorem dL_law_352 : decode cL_law 352 = .ok (.iconst 0, 1) := by decide +kernel
theorem dL_law_353 : decode cL_law 353 = .ok (.invokevirtual 43, 3) := by decide +kernel
theorem dL_law_356 : decode cL_law 356 = .ok (.if_icmp .eq 226, 3) := by decide +kernel
theorem dL_law_359 : decode cL_law 359 = .ok (.iconst 0, 1) := by decide +kernel
theorem dL_law_360 : decode cL_law 360 = .ok (.ireturn, 1) := by decide +kernel
theorem dL_law_361 : decode cL_law 361 = .ok (.aload_n 1, 1) := by decide +kernel
theorem dL_law_362 : decode cL_law 362 = .ok (.aload_n 0, 1) := by decide +kernel
theorem dL_law_363 : decode cL_law 363 = .ok (.iload_n 3, 1) := by decide +kernel
theorem dL_law_364 : decode cL_law 364 = .ok (.iconst 1, 1) := by decide +kernel
theorem dL_law_365 : decode cL_law 365 = .ok (.iadd, 1) := by decide +kernel
theorem dL_law_366 : decode cL_law 366 = .ok (.iaload, 1) := by decide +kernel
theorem dL_law_367 : decode cL_law 367 = .ok (.aload_n 0, 1) := by decide +kernel
theorem dL_law_368 : decode cL_law 368 = .ok (.iload_n 3, 1) := by decide +kernel
theorem dL_law_369 : decode cL_law 369 = .ok (.iconst 2, 1) := by decide +kernel
theorem dL_law_370 : decode cL_law 370 = .ok (.iadd, 1) := by decide +kernel
theorem dL_law_371 : decode cL_law 371 = .ok (.iaload, 1) := by decide +kernel
theorem dL_law_372 : decode cL_law 372 = .ok (.aload_n 0, 1) := by decide +kernel
theorem dL_law_373 : decode cL_law 373 = .ok (.iload_n 3, 1) := by decide +kernel
theorem dL_law_374 : decode cL_law 374 = .ok (.iconst 3, 1) := by decide +kernel
theorem dL_law_375 : decode cL_law 375 = .ok (.iadd, 1) := by decide +kernel
theorem dL_law_376 : decode cL_law 376 = .ok (.iaload, 1) := by decide +kernel
theorem dL_law_377 : decode cL_law 377 = .ok (.aload_n 0, 1) := by decide +kernel
theorem dL_law_378 : decode cL_law 378 = .ok (.iload_n 3, 1) := by decide +kernel
theorem dL_law_379 : decode cL_law 379 = .ok (.iconst 4, 1) := by decide +kernel
theorem dL_law_380 : decode cL_law 380 = .ok (.iadd, 1) := by decide +kernel
theorem dL_law_381 : decode cL_law 381 = .ok (.iaload, 1) := by decide +kernel
theorem dL_law_382 : decode cL_law 382 = .ok (.invokevirtual 44, 3) := by decide +kernel
theorem dL_law_385 : decode cL_law 385 = .ok (.aload_n 2, 1) := by decide +kernel
theorem dL_law_386 : decode cL_law 386 = .ok (.aload_n 0, 1) := by decide +kernel
theorem dL_law_387 : decode cL_law 387 = .ok (.iload_n 3, 1) := by decide +kernel
theorem dL_law_388 : decode cL_law 388 = .ok (.iconst 1, 1) := by decide +kernel
theorem dL_law_389 : decode cL_law 389 = .ok (.iadd, 1) := by decide +kernel
theorem dL_law_390 : decode cL_law 390 = .ok (.iaload, 1) := by decide +kernel
theorem dL_law_391 : decode cL_law 391 = .ok (.aload_n 0, 1) := by decide +kernel
theorem dL_law_392 : decode cL_law 392 = .ok (.iload_n 3, 1) := by decide +kernel
theorem dL_law_393 : decode cL_law 393 = .ok (.iconst 2, 1) := by decide +kernel
theorem dL_law_394 : decode cL_law 394 = .ok (.iadd, 1) := by decide +kernel
theorem dL_law_395 : decode cL_law 395 = .ok (.iaload, 1) := by decide +kernel
theorem dL_law_396 : decode cL_law 396 = .ok (.aload_n 0, 1) := by decide +kernel
theorem dL_law_397 : decode cL_law 397 = .ok (.iload_n 3, 1) := by decide +kernel
theorem dL_law_398 : decode cL_law 398 = .ok (.iconst 3, 1) := by decide +kernel
theorem dL_law_399 : decode cL_law 399 = .ok (.iadd, 1) := by decide +kernel
theorem dL_law_400 : decode cL_law 400 = .ok (.iaload, 1) := by decide +kernel
theorem dL_law_401 : decode cL_law 401 = .ok (.aload_n 0, 1) := by decide +kernel
theorem dL_law_402 : decode cL_law 402 = .ok (.iload_n 3, 1) := by decide +kernel
theorem dL_law_403 : decode cL_law 403 = .ok (.iconst 4, 1) := by decide +kernel
theorem dL_law_404 : decode cL_law 404 = .ok (.iadd, 1) := by decide +kernel
theorem dL_law_405 : decode cL_law 405 = .ok (.iaload, 1) := by decide +kernel
theorem dL_law_406 : decode cL_law 406 = .ok (.invokevirtual 47, 3) := by decide +kernel
theorem dL_law_409 : decode cL_law 409 = .ok (.if_icmp .eq 173, 3) := by decide +kernel
theorem dL_law_412 : decode cL_law 412 = .ok (.iconst 0, 1) := by decide +kernel
theorem dL_law_413 : decode cL_law 413 = .ok (.ireturn, 1) := by decide +kernel
theorem dL_law_414 : decode cL_law 414 = .ok (.aload_n 1, 1) := by decide +kernel
theorem dL_law_415 : decode cL_law 415 = .ok (.aload_n 0, 1) := by decide +kernel
theorem dL_law_416 : decode cL_law 416 = .ok (.iload_n 3, 1) := by decide +kernel
theorem dL_law_417 : decode cL_law 417 = .ok (.iconst 1, 1) := by decide +kernel
theorem dL_law_418 : decode cL_law 418 = .ok (.iadd, 1) := by decide +kernel
theorem dL_law_419 : decode cL_law 419 = .ok (.iaload, 1) := by decide +kernel
theorem dL_law_420 : decode cL_law 420 = .ok (.invokevirtual 48, 3) := by decide +kernel
theorem dL_law_423 : decode cL_law 423 = .ok (.aload_n 2, 1) := by decide +kernel
theorem dL_law_424 : decode cL_law 424 = .ok (.aload_n 0, 1) := by decide +kernel
theorem dL_law_425 : decode cL_law 425 = .ok (.iload_n 3, 1) := by decide +kernel
theorem dL_law_426 : decode cL_law 426 = .ok (.iconst 1, 1) := by decide +kernel
theorem dL_law_427 : decode cL_law 427 = .ok (.iadd, 1) := by decide +kernel
theorem dL_law_428 : decode cL_law 428 = .ok (.iaload, 1) := by decide +kernel
theorem dL_law_429 : decode cL_law 429 = .ok (.invokevirtual 52, 3) := by decide +kernel
theorem dL_law_432 : decode cL_law 432 = .ok (.if_icmp .eq 150, 3) := by decide +kernel
theorem dL_law_435 : decode cL_law 435 = .ok (.iconst 0, 1) := by decide +kernel
theorem dL_law_436 : decode cL_law 436 = .ok (.ireturn, 1) := by decide +kernel
theorem dL_law_437 : decode cL_law 437 = .ok (.aload_n 1, 1) := by decide +kernel
theorem dL_law_438 : decode cL_law 438 = .ok (.aload_n 0, 1) := by decide +kernel
theorem dL_law_439 : decode cL_law 439 = .ok (.iload_n 3, 1) := by decide +kernel
theorem dL_law_440 : decode cL_law 440 = .ok (.iconst 1, 1) := by decide +kernel
theorem dL_law_441 : decode cL_law 441 = .ok (.iadd, 1) := by decide +kernel
theorem dL_law_442 : decode cL_law 442 = .ok (.iaload, 1) := by decide +kernel
theorem dL_law_443 : decode cL_law 443 = .ok (.aload_n 0, 1) := by decide +kernel
theorem dL_law_444 : decode cL_law 444 = .ok (.iload_n 3, 1) := by decide +kernel
theorem dL_law_445 : decode cL_law 445 = .ok (.iconst 2, 1) := by decide +kernel
theorem dL_law_446 : decode cL_law 446 = .ok (.iadd, 1) := by decide +kernel
theorem dL_law_447 : decode cL_law 447 = .ok (.iaload, 1) := by decide +kernel
theorem dL_law_448 : decode cL_law 448 = .ok (.invokevirtual 53, 3) := by decide +kernel
theorem dL_law_451 : decode cL_law 451 = .ok (.aload_n 2, 1) := by decide +kernel
theorem dL_law_452 : decode cL_law 452 = .ok (.aload_n 0, 1) := by decide +kernel
theorem dL_law_453 : decode cL_law 453 = .ok (.iload_n 3, 1) := by decide +kernel
theorem dL_law_454 : decode cL_law 454 = .ok (.iconst 1, 1) := by decide +kernel
theorem dL_law_455 : decode cL_law 455 = .ok (.iadd, 1) := by decide +kernel
theorem dL_law_456 : decode cL_law 456 = .ok (.iaload, 1) := by decide +kernel
theorem dL_law_457 : decode cL_law 457 = .ok (.aload_n 0, 1) := by decide +kernel
theorem dL_law_458 : decode cL_law 458 = .ok (.iload_n 3, 1) := by decide +kernel
theorem dL_law_459 : decode cL_law 459 = .ok (.iconst 2, 1) := by decide +kernel
theorem dL_law_460 : decode cL_law 460 = .ok (.iadd, 1) := by decide +kernel
theorem dL_law_461 : decode cL_law 461 = .ok (.iaload, 1) := by decide +kernel
theorem dL_law_462 : decode cL_law 462 = .ok (.invokevirtual 56, 3) := by decide +kernel
theorem dL_law_465 : decode cL_law 465 = .ok (.if_icmp .eq 117, 3) := by decide +kernel
theorem dL_law_468 : decode cL_law 468 = .ok (.iconst 0, 1) := by decide +kernel
theorem dL_law_469 : decode cL_law 469 = .ok (.ireturn, 1) := by decide +kernel
theorem dL_law_470 : decode cL_law 470 = .ok (.aload_n 1, 1) := by decide +kernel
theorem dL_law_471 : decode cL_law 471 = .ok (.aload_n 0, 1) := by decide +kernel
theorem dL_law_472 : decode cL_law 472 = .ok (.iload_n 3, 1) := by decide +kernel
theorem dL_law_473 : decode cL_law 473 = .ok (.iconst 1, 1) := by decide +kernel
theorem dL_law_474 : decode cL_law 474 = .ok (.iadd, 1) := by decide +kernel
theorem dL_law_475 : decode cL_law 475 = .ok (.iaload, 1) := by decide +kernel
theorem dL_law_476 : decode cL_law 476 = .ok (.aload_n 0, 1) := by decide +kernel
theorem dL_law_477 : decode cL_law 477 = .ok (.iload_n 3, 1) := by decide +kernel
theorem dL_law_478 : decode cL_law 478 = .ok (.iconst 2, 1) := by decide +kernel
theorem dL_law_479 : decode cL_law 479 = .ok (.iadd, 1) := by decide +kernel
theorem dL_law_480 : decode cL_law 480 = .ok (.iaload, 1) := by decide +kernel
theorem dL_law_481 : decode cL_law 481 = .ok (.invokevirtual 57, 3) := by decide +kernel
theorem dL_law_484 : decode cL_law 484 = .ok (.aload_n 2, 1) := by decide +kernel
theorem dL_law_485 : decode cL_law 485 = .ok (.aload_n 0, 1) := by decide +kernel
theorem dL_law_486 : decode cL_law 486 = .ok (.iload_n 3, 1) := by decide +kernel
theorem dL_law_487 : decode cL_law 487 = .ok (.iconst 1, 1) := by decide +kernel
theorem dL_law_488 : decode cL_law 488 = .ok (.iadd, 1) := by decide +kernel
theorem dL_law_489 : decode cL_law 489 = .ok (.iaload, 1) := by decide +kernel
theorem dL_law_490 : decode cL_law 490 = .ok (.aload_n 0, 1) := by decide +kernel
theorem dL_law_491 : decode cL_law 491 = .ok (.iload_n 3, 1) := by decide +kernel
theorem dL_law_492 : decode cL_law 492 = .ok (.iconst 2, 1) := by decide +kernel
theorem dL_law_493 : decode cL_law 493 = .ok (.iadd, 1) := by decide +kernel
theorem dL_law_494 : decode cL_law 494 = .ok (.iaload, 1) := by decide +kernel
theorem dL_law_495 : decode cL_law 495 = .ok (.invokevirtual 60, 3) := by decide +kernel
theorem dL_law_498 : decode cL_law 498 = .ok (.if_icmp .eq 84, 3) := by decide +kernel
theorem dL_law_501 : decode cL_law 501 = .ok (.iconst 0, 1) := by decide +kernel
theorem dL_law_502 : decode cL_law 502 = .ok (.ireturn, 1) := by decide +kernel
theorem dL_law_503 : decode cL_law 503 = .ok (.aload_n 1, 1) := by decide +kernel
theorem dL_law_504 : decode cL_law 504 = .ok (.aload_n 0, 1) := by decide +kernel
theorem dL_law_505 : decode cL_law 505 = .ok (.iload_n 3, 1) := by decide +kernel
theorem dL_law_506 : decode cL_law 506 = .ok (.iconst 1, 1) := by decide +kernel
theorem dL_law_507 : decode cL_law 507 = .ok (.iadd, 1) := by decide +kernel
theorem dL_law_508 : decode cL_law 508 = .ok (.iaload, 1) := by decide +kernel
theorem dL_law_509 : decode cL_law 509 = .ok (.aload_n 0, 1) := by decide +kernel
theorem dL_law_510 : decode cL_law 510 = .ok (.iload_n 3, 1) := by decide +kernel
theorem dL_law_511 : decode cL_law 511 = .ok (.iconst 2, 1) := by decide +kernel
theorem dL_law_512 : decode cL_law 512 = .ok (.iadd, 1) := by decide +kernel
theorem dL_law_513 : decode cL_law 513 = .ok (.iaload, 1) := by decide +kernel
theorem dL_law_514 : decode cL_law 514 = .ok (.invokevirtual 61, 3) := by decide +kernel
theorem dL_law_517 : decode cL_law 517 = .ok (.aload_n 2, 1) := by decide +kernel
theorem dL_law_518 : decode cL_law 518 = .ok (.aload_n 0, 1) := by decide +kernel
theorem dL_law_519 : decode cL_law 519 = .ok (.iload_n 3, 1) := by decide +kernel
theorem dL_law_520 : decode cL_law 520 = .ok (.iconst 1, 1) := by decide +kernel
theorem dL_law_521 : decode cL_law 521 = .ok (.iadd, 1) := by decide +kernel
theorem dL_law_522 : decode cL_law 522 = .ok (.iaload, 1) := by decide +kernel
theorem dL_law_523 : decode cL_law 523 = .ok (.aload_n 0, 1) := by decide +kernel
theorem dL_law_524 : decode cL_law 524 = .ok (.iload_n 3, 1) := by decide +kernel
theorem dL_law_525 : decode cL_law 525 = .ok (.iconst 2, 1) := by decide +kernel
theorem dL_law_526 : decode cL_law 526 = .ok (.iadd, 1) := by decide +kernel
theorem dL_law_527 : decode cL_law 527 = .ok (.iaload, 1) := by decide +kernel
theorem dL_law_528 : decode cL_law 528 = .ok (.invokevirtual 65, 3) := by decide +kernel
theorem dL_law_531 : decode cL_law 531 = .ok (.if_icmp .eq 51, 3) := by decide +kernel
theorem dL_law_534 : decode cL_law 534 = .ok (.iconst 0, 1) := by decide +kernel
theorem dL_law_535 : decode cL_law 535 = .ok (.ireturn, 1) := by decide +kernel
theorem dL_law_536 : decode cL_law 536 = .ok (.aload_n 1, 1) := by decide +kernel
theorem dL_law_537 : decode cL_law 537 = .ok (.aload_n 0, 1) := by decide +kernel
theorem dL_law_538 : decode cL_law 538 = .ok (.iload_n 3, 1) := by decide +kernel
theorem dL_law_539 : decode cL_law 539 = .ok (.iconst 1, 1) := by decide +kernel
theorem dL_law_540 : decode cL_law 540 = .ok (.iadd, 1) := by decide +kernel
theorem dL_law_541 : decode cL_law 541 = .ok (.iaload, 1) := by decide +kernel
theorem dL_law_542 : decode cL_law 542 = .ok (.invokevirtual 66, 3) := by decide +kernel
theorem dL_law_545 : decode cL_law 545 = .ok (.aload_n 2, 1) := by decide +kernel
theorem dL_law_546 : decode cL_law 546 = .ok (.aload_n 0, 1) := by decide +kernel
theorem dL_law_547 : decode cL_law 547 = .ok (.iload_n 3, 1) := by decide +kernel
theorem dL_law_548 : decode cL_law 548 = .ok (.iconst 1, 1) := by decide +kernel
theorem dL_law_549 : decode cL_law 549 = .ok (.iadd, 1) := by decide +kernel
theorem dL_law_550 : decode cL_law 550 = .ok (.iaload, 1) := by decide +kernel
theorem dL_law_551 : decode cL_law 551 = .ok (.invokevirtual 69, 3) := by decide +kernel
theorem dL_law_554 : decode cL_law 554 = .ok (.if_icmp .eq 28, 3) := by decide +kernel
theorem dL_law_557 : decode cL_law 557 = .ok (.iconst 0, 1) := by decide +kernel
theorem dL_law_558 : decode cL_law 558 = .ok (.ireturn, 1) := by decide +kernel
theorem dL_law_559 : decode cL_law 559 = .ok (.aload_n 1, 1) := by decide +kernel
theorem dL_law_560 : decode cL_law 560 = .ok (.aload_n 0, 1) := by decide +kernel
theorem dL_law_561 : decode cL_law 561 = .ok (.iload_n 3, 1) := by decide +kernel
theorem dL_law_562 : decode cL_law 562 = .ok (.iconst 1, 1) := by decide +kernel
theorem dL_law_563 : decode cL_law 563 = .ok (.iadd, 1) := by decide +kernel
theorem dL_law_564 : decode cL_law 564 = .ok (.iaload, 1) := by decide +kernel
theorem dL_law_565 : decode cL_law 565 = .ok (.invokevirtual 70, 3) := by decide +kernel
theorem dL_law_568 : decode cL_law 568 = .ok (.aload_n 2, 1) := by decide +kernel
theorem dL_law_569 : decode cL_law 569 = .ok (.aload_n 0, 1) := by decide +kernel
theorem dL_law_570 : decode cL_law 570 = .ok (.iload_n 3, 1) := by decide +kernel
theorem dL_law_571 : decode cL_law 571 = .ok (.iconst 1, 1) := by decide +kernel
theorem dL_law_572 : decode cL_law 572 = .ok (.iadd, 1) := by decide +kernel
theorem dL_law_573 : decode cL_law 573 = .ok (.iaload, 1) := by decide +kernel
theorem dL_law_574 : decode cL_law 574 = .ok (.invokevirtual 73, 3) := by decide +kernel
theorem dL_law_577 : decode cL_law 577 = .ok (.if_icmp .eq 5, 3) := by decide +kernel
theorem dL_law_580 : decode cL_law 580 = .ok (.iconst 0, 1) := by decide +kernel
theorem dL_law_581 : decode cL_law 581 = .ok (.ireturn, 1) := by decide +kernel
theorem dL_law_582 : decode cL_law 582 = .ok (.iinc 3 5, 3) := by decide +kernel
theorem dL_law_585 : decode cL_law 585 = .ok (.goto (-557), 3) := by decide +kernel
theorem dL_law_588 : decode cL_law 588 = .ok (.iconst 1, 1) := by decide +kernel
theorem dL_law_589 : decode cL_law 589 = .ok (.ireturn, 1) := by decide +kernel
end
section
/-! rooms, words, and what each call asks of the tables -/
theorem fr_cwV {R : Room} {s : State} {args : Array Value} {own C : String} {index : Nat} {y : MethodName} {bytes : ByteArray} {maxL n : Nat} {ret : Option FieldType} {rm : Room} (hw : ∀ w ∈ WA, w.before args s = true) (hcode : Cond.code y bytes maxL ret ∈ WA) (hini : Cond.initialized y.cls ∈ WA) (hl : Cond.methodLink own index y ∈ WA) (hinst : Cond.instanceMethod y ∈ WA) (hsel : Cond.selects C y y ∈ WA)
    (hd : y.cls ≠ "java/lang/invoke/MethodHandle" ∧ y.cls ≠ "java/lang/invoke/VarHandle" ∧ (parseMethodDescriptor y.desc).map (fun d => d.parameters.length) = some n) (hR : rm.frames + 1 ≤ R.frames ∧ 8 + (maxL + 11) + rm.locals ≤ R.locals) (hrc : rm.cells = 0) (hrs : rm.slots = 0) : CallW R s args own C index y bytes maxL ret (Cond.code y bytes maxL ret :: WA) rm 0 0 n :=
  ⟨callB_of n hw (fun w h => (List.mem_cons.mp h).elim (fun e => by subst e; exact ⟨hcode, WA_good _ hcode⟩) (fun h => ⟨h, WA_good w h⟩)) rfl hrc hrs (hw _ hini) (hw _ hl) hd hR, hw _ hinst, hw _ hsel⟩
theorem fr_cwS {R : Room} {s : State} {args : Array Value} {own : String} {index : Nat} {y : MethodName} {bytes : ByteArray} {maxL n : Nat} {ret : Option FieldType} {rm : Room} (hw : ∀ w ∈ WA, w.before args s = true) (hcode : Cond.code y bytes maxL ret ∈ WA) (hini : Cond.initialized y.cls ∈ WA) (hl : Cond.methodLink own index y ∈ WA) (hst : Cond.static y ∈ WA)
    (hd : y.cls ≠ "java/lang/invoke/MethodHandle" ∧ y.cls ≠ "java/lang/invoke/VarHandle" ∧ (parseMethodDescriptor y.desc).map (fun d => d.parameters.length) = some n) (hR : rm.frames + 1 ≤ R.frames ∧ 8 + (maxL + 11) + rm.locals ≤ R.locals) (hrc : rm.cells = 0) (hrs : rm.slots = 0) : CallB R s args own index y bytes maxL ret (Cond.code y bytes maxL ret :: WA) rm 0 0 n ∧ (Cond.static y).before args s = true :=
  ⟨callB_of n hw (fun w h => (List.mem_cons.mp h).elim (fun e => by subst e; exact ⟨hcode, WA_good _ hcode⟩) (fun h => ⟨h, WA_good w h⟩)) rfl hrc hrs (hw _ hini) (hw _ hl) hd hR, hw _ hst⟩
theorem fr_cwI {R : Room} {s : State} {args : Array Value} {own : String} {index : Nat} {y : MethodName} {bytes : ByteArray} {maxL n mc ms : Nat} {rm : Room} (hw : ∀ w ∈ WA, w.before args s = true) (hcode : Cond.code y bytes maxL none ∈ WA) (hini : Cond.initialized y.cls ∈ WA) (hl : Cond.methodLink own index y ∈ WA) (hin : Cond.instanceMethod y ∈ WA) (hy1 : y.name = "<init>")
    (hd : y.cls ≠ "java/lang/invoke/MethodHandle" ∧ y.cls ≠ "java/lang/invoke/VarHandle" ∧ (parseMethodDescriptor y.desc).map (fun d => d.parameters.length) = some n) (hR : rm.frames + 1 ≤ R.frames ∧ 8 + (maxL + 11) + rm.locals ≤ R.locals) (hrc : rm.cells = mc) (hrs : rm.slots = ms) : CallB R s args own index y bytes maxL none (Cond.code y bytes maxL none :: WA) rm mc ms n ∧ y.name = "<init>" ∧ (Cond.instanceMethod y).before args s = true :=
  ⟨callB_of n hw (fun w h => (List.mem_cons.mp h).elim (fun e => by subst e; exact ⟨hcode, WA_good _ hcode⟩) (fun h => ⟨h, WA_good w h⟩)) rfl hrc hrs (hw _ hini) (hw _ hl) hd hR, hy1, hw _ hin⟩
abbrev rmL_bitCount : Room := { frames := 0, cells := 0, slots := 0, locals := 0 }
abbrev wsL_bitCount : List Cond := .code yJ13_bitCount_95d88 cJ13_bitCount_95d88 2 (some .int) :: WA
theorem mO_L_bitCount : Cond.code yJ13_bitCount_95d88 cJ13_bitCount_95d88 2 (some .int) ∈ WA := mW 84 rfl rfl
theorem cw_L_bitCount {R : Room} {s : State} {args : Array Value} (hw : ∀ w ∈ WA, w.before args s = true) (hR : rmL_bitCount.frames + 1 ≤ R.frames ∧ 8 + (2 + 11) + rmL_bitCount.locals ≤ R.locals) : CallB R s args "FunctionRoom" 98 yJ13_bitCount_95d88 cJ13_bitCount_95d88 2 (some .int) wsL_bitCount rmL_bitCount 0 0 1 ∧ (Cond.static yJ13_bitCount_95d88).before args s = true := fr_cwS hw mO_L_bitCount mI_L (mW 82 rfl rfl) (mW 83 rfl rfl) ⟨by decide, by decide, by decide +kernel⟩ hR rfl rfl
abbrev rmF_init : Room := { frames := 1, cells := 36, slots := 1400, locals := 21 }
abbrev wsF_init : List Cond := .code yX0_init cX0_init 2 none :: WA
theorem mO_F_init : Cond.code yX0_init cX0_init 2 none ∈ WA := mW 10 rfl rfl
theorem cw_W_F_init {R : Room} {s : State} {args : Array Value} (hw : ∀ w ∈ WA, w.before args s = true) (hR : rmF_init.frames + 1 ≤ R.frames ∧ 8 + (2 + 11) + rmF_init.locals ≤ R.locals) : CallB R s args "FunctionRoomLaw" 15 yX0_init cX0_init 2 none wsF_init rmF_init 36 1400 1 ∧ yX0_init.name = "<init>" ∧ (Cond.instanceMethod yX0_init).before args s = true := fr_cwI hw mO_F_init mI_F (mW 8 rfl rfl) (mW 9 rfl rfl) rfl ⟨by decide, by decide, by decide +kernel⟩ hR rfl rfl
abbrev rmF_load : Room := { frames := 3, cells := 0, slots := 0, locals := 65 }
abbrev wsF_load : List Cond := .code yX0_load cX0_load 5 (some .int) :: WA
theorem mO_F_load : Cond.code yX0_load cX0_load 5 (some .int) ∈ WA := mW 53 rfl rfl
theorem cw_W_F_load {R : Room} {s : State} {args : Array Value} (hw : ∀ w ∈ WA, w.before args s = true) (hR : rmF_load.frames + 1 ≤ R.frames ∧ 8 + (5 + 11) + rmF_load.locals ≤ R.locals) : CallW R s args "FunctionRoomLaw" "FunctionRoom" 21 yX0_load cX0_load 5 (some .int) wsF_load rmF_load 0 0 2 := fr_cwV hw mO_F_load mI_F (mW 50 rfl rfl) (mW 51 rfl rfl) (mW 52 rfl rfl) ⟨by decide, by decide, by decide +kernel⟩ hR rfl rfl
abbrev rmF_reckon : Room := { frames := 3, cells := 0, slots := 0, locals := 65 }
abbrev wsF_reckon : List Cond := .code yX0_reckon cX0_reckon 6 (some .int) :: WA
theorem mO_F_reckon : Cond.code yX0_reckon cX0_reckon 6 (some .int) ∈ WA := mW 91 rfl rfl
theorem cw_W_F_reckon {R : Room} {s : State} {args : Array Value} (hw : ∀ w ∈ WA, w.before args s = true) (hR : rmF_reckon.frames + 1 ≤ R.frames ∧ 8 + (6 + 11) + rmF_reckon.locals ≤ R.locals) : CallW R s args "FunctionRoomLaw" "FunctionRoom" 26 yX0_reckon cX0_reckon 6 (some .int) wsF_reckon rmF_reckon 0 0 4 := fr_cwV hw mO_F_reckon mI_F (mW 88 rfl rfl) (mW 89 rfl rfl) (mW 90 rfl rfl) ⟨by decide, by decide, by decide +kernel⟩ hR rfl rfl
abbrev rmF_not : Room := { frames := 3, cells := 0, slots := 0, locals := 65 }
abbrev wsF_not : List Cond := .code yX0_not cX0_not 4 (some .int) :: WA
theorem mO_F_not : Cond.code yX0_not cX0_not 4 (some .int) ∈ WA := mW 98 rfl rfl
theorem cw_W_F_not {R : Room} {s : State} {args : Array Value} (hw : ∀ w ∈ WA, w.before args s = true) (hR : rmF_not.frames + 1 ≤ R.frames ∧ 8 + (4 + 11) + rmF_not.locals ≤ R.locals) : CallW R s args "FunctionRoomLaw" "FunctionRoom" 31 yX0_not cX0_not 4 (some .int) wsF_not rmF_not 0 0 2 := fr_cwV hw mO_F_not mI_F (mW 95 rfl rfl) (mW 96 rfl rfl) (mW 97 rfl rfl) ⟨by decide, by decide, by decide +kernel⟩ hR rfl rfl
abbrev rmF_with : Room := { frames := 3, cells := 0, slots := 0, locals := 76 }
abbrev wsF_with : List Cond := .code yX0_with cX0_with 6 (some .int) :: WA
theorem mO_F_with : Cond.code yX0_with cX0_with 6 (some .int) ∈ WA := mW 102 rfl rfl
theorem cw_W_F_with {R : Room} {s : State} {args : Array Value} (hw : ∀ w ∈ WA, w.before args s = true) (hR : rmF_with.frames + 1 ≤ R.frames ∧ 8 + (6 + 11) + rmF_with.locals ≤ R.locals) : CallW R s args "FunctionRoomLaw" "FunctionRoom" 35 yX0_with cX0_with 6 (some .int) wsF_with rmF_with 0 0 4 := fr_cwV hw mO_F_with mI_F (mW 99 rfl rfl) (mW 100 rfl rfl) (mW 101 rfl rfl) ⟨by decide, by decide, by decide +kernel⟩ hR rfl rfl
abbrev rmF_bind : Room := { frames := 3, cells := 0, slots := 0, locals := 65 }
abbrev wsF_bind : List Cond := .code yX0_bind cX0_bind 10 (some .int) :: WA
theorem mO_F_bind : Cond.code yX0_bind cX0_bind 10 (some .int) ∈ WA := mW 114 rfl rfl
theorem cw_W_F_bind {R : Room} {s : State} {args : Array Value} (hw : ∀ w ∈ WA, w.before args s = true) (hR : rmF_bind.frames + 1 ≤ R.frames ∧ 8 + (10 + 11) + rmF_bind.locals ≤ R.locals) : CallW R s args "FunctionRoomLaw" "FunctionRoom" 40 yX0_bind cX0_bind 10 (some .int) wsF_bind rmF_bind 0 0 4 := fr_cwV hw mO_F_bind mI_F (mW 111 rfl rfl) (mW 112 rfl rfl) (mW 113 rfl rfl) ⟨by decide, by decide, by decide +kernel⟩ hR rfl rfl
abbrev rmF_put : Room := { frames := 3, cells := 0, slots := 0, locals := 76 }
abbrev wsF_put : List Cond := .code yX0_put cX0_put 8 (some .int) :: WA
theorem mO_F_put : Cond.code yX0_put cX0_put 8 (some .int) ∈ WA := mW 118 rfl rfl
theorem cw_W_F_put {R : Room} {s : State} {args : Array Value} (hw : ∀ w ∈ WA, w.before args s = true) (hR : rmF_put.frames + 1 ≤ R.frames ∧ 8 + (8 + 11) + rmF_put.locals ≤ R.locals) : CallW R s args "FunctionRoomLaw" "FunctionRoom" 44 yX0_put cX0_put 8 (some .int) wsF_put rmF_put 0 0 4 := fr_cwV hw mO_F_put mI_F (mW 115 rfl rfl) (mW 116 rfl rfl) (mW 117 rfl rfl) ⟨by decide, by decide, by decide +kernel⟩ hR rfl rfl
abbrev rmF_many : Room := { frames := 2, cells := 0, slots := 0, locals := 44 }
abbrev wsF_many : List Cond := .code yX0_many cX0_many 2 (some .int) :: WA
theorem mO_F_many : Cond.code yX0_many cX0_many 2 (some .int) ∈ WA := mW 122 rfl rfl
theorem cw_W_F_many {R : Room} {s : State} {args : Array Value} (hw : ∀ w ∈ WA, w.before args s = true) (hR : rmF_many.frames + 1 ≤ R.frames ∧ 8 + (2 + 11) + rmF_many.locals ≤ R.locals) : CallW R s args "FunctionRoomLaw" "FunctionRoom" 48 yX0_many cX0_many 2 (some .int) wsF_many rmF_many 0 0 1 := fr_cwV hw mO_F_many mI_F (mW 119 rfl rfl) (mW 120 rfl rfl) (mW 121 rfl rfl) ⟨by decide, by decide, by decide +kernel⟩ hR rfl rfl
abbrev rmF_nth : Room := { frames := 1, cells := 0, slots := 0, locals := 21 }
abbrev wsF_nth : List Cond := .code yX0_nth cX0_nth 5 (some .int) :: WA
theorem mO_F_nth : Cond.code yX0_nth cX0_nth 5 (some .int) ∈ WA := mW 126 rfl rfl
theorem cw_W_F_nth {R : Room} {s : State} {args : Array Value} (hw : ∀ w ∈ WA, w.before args s = true) (hR : rmF_nth.frames + 1 ≤ R.frames ∧ 8 + (5 + 11) + rmF_nth.locals ≤ R.locals) : CallW R s args "FunctionRoomLaw" "FunctionRoom" 53 yX0_nth cX0_nth 5 (some .int) wsF_nth rmF_nth 0 0 2 := fr_cwV hw mO_F_nth mI_F (mW 123 rfl rfl) (mW 124 rfl rfl) (mW 125 rfl rfl) ⟨by decide, by decide, by decide +kernel⟩ hR rfl rfl
abbrev rmF_value : Room := { frames := 1, cells := 0, slots := 0, locals := 21 }
abbrev wsF_value : List Cond := .code yX0_value cX0_value 3 (some .int) :: WA
theorem mO_F_value : Cond.code yX0_value cX0_value 3 (some .int) ∈ WA := mW 133 rfl rfl
theorem cw_W_F_value {R : Room} {s : State} {args : Array Value} (hw : ∀ w ∈ WA, w.before args s = true) (hR : rmF_value.frames + 1 ≤ R.frames ∧ 8 + (3 + 11) + rmF_value.locals ≤ R.locals) : CallW R s args "FunctionRoomLaw" "FunctionRoom" 57 yX0_value cX0_value 3 (some .int) wsF_value rmF_value 0 0 2 := fr_cwV hw mO_F_value mI_F (mW 130 rfl rfl) (mW 131 rfl rfl) (mW 132 rfl rfl) ⟨by decide, by decide, by decide +kernel⟩ hR rfl rfl
abbrev rmF_same : Room := { frames := 1, cells := 0, slots := 0, locals := 20 }
abbrev wsF_same : List Cond := .code yX0_same cX0_same 4 (some .boolean) :: WA
theorem mO_F_same : Cond.code yX0_same cX0_same 4 (some .boolean) ∈ WA := mW 137 rfl rfl
theorem cw_W_F_same {R : Room} {s : State} {args : Array Value} (hw : ∀ w ∈ WA, w.before args s = true) (hR : rmF_same.frames + 1 ≤ R.frames ∧ 8 + (4 + 11) + rmF_same.locals ≤ R.locals) : CallW R s args "FunctionRoomLaw" "FunctionRoom" 61 yX0_same cX0_same 4 (some .boolean) wsF_same rmF_same 0 0 2 := fr_cwV hw mO_F_same mI_F (mW 134 rfl rfl) (mW 135 rfl rfl) (mW 136 rfl rfl) ⟨by decide, by decide, by decide +kernel⟩ hR rfl rfl
abbrev rmF_size : Room := { frames := 2, cells := 0, slots := 0, locals := 52 }
abbrev wsF_size : List Cond := .code yX0_size cX0_size 4 (some .int) :: WA
theorem mO_F_size : Cond.code yX0_size cX0_size 4 (some .int) ∈ WA := mW 141 rfl rfl
theorem cw_W_F_size {R : Room} {s : State} {args : Array Value} (hw : ∀ w ∈ WA, w.before args s = true) (hR : rmF_size.frames + 1 ≤ R.frames ∧ 8 + (4 + 11) + rmF_size.locals ≤ R.locals) : CallW R s args "FunctionRoomLaw" "FunctionRoom" 66 yX0_size cX0_size 4 (some .int) wsF_size rmF_size 0 0 1 := fr_cwV hw mO_F_size mI_F (mW 138 rfl rfl) (mW 139 rfl rfl) (mW 140 rfl rfl) ⟨by decide, by decide, by decide +kernel⟩ hR rfl rfl
abbrev rmF_matters : Room := { frames := 3, cells := 0, slots := 0, locals := 71 }
abbrev wsF_matters : List Cond := .code yX0_matters cX0_matters 4 (some .int) :: WA
theorem mO_F_matters : Cond.code yX0_matters cX0_matters 4 (some .int) ∈ WA := mW 153 rfl rfl
theorem cw_W_F_matters {R : Room} {s : State} {args : Array Value} (hw : ∀ w ∈ WA, w.before args s = true) (hR : rmF_matters.frames + 1 ≤ R.frames ∧ 8 + (4 + 11) + rmF_matters.locals ≤ R.locals) : CallW R s args "FunctionRoomLaw" "FunctionRoom" 70 yX0_matters cX0_matters 4 (some .int) wsF_matters rmF_matters 0 0 1 := fr_cwV hw mO_F_matters mI_F (mW 150 rfl rfl) (mW 151 rfl rfl) (mW 152 rfl rfl) ⟨by decide, by decide, by decide +kernel⟩ hR rfl rfl
abbrev rmF_isRegister : Room := { frames := 0, cells := 0, slots := 0, locals := 0 }
abbrev wsF_isRegister : List Cond := .code yX0_isRegister cX0_isRegister 1 (some .boolean) :: WA
theorem mO_F_isRegister : Cond.code yX0_isRegister cX0_isRegister 1 (some .boolean) ∈ WA := mW 56 rfl rfl
theorem cw_F_isRegister {R : Room} {s : State} {args : Array Value} (hw : ∀ w ∈ WA, w.before args s = true) (hR : rmF_isRegister.frames + 1 ≤ R.frames ∧ 8 + (1 + 11) + rmF_isRegister.locals ≤ R.locals) : CallB R s args "FunctionRoom" 50 yX0_isRegister cX0_isRegister 1 (some .boolean) wsF_isRegister rmF_isRegister 0 0 1 ∧ (Cond.static yX0_isRegister).before args s = true := fr_cwS hw mO_F_isRegister mI_F (mW 54 rfl rfl) (mW 55 rfl rfl) ⟨by decide, by decide, by decide +kernel⟩ hR rfl rfl
abbrev rmF_isVariable : Room := { frames := 0, cells := 0, slots := 0, locals := 0 }
abbrev wsF_isVariable : List Cond := .code yX0_isVariable cX0_isVariable 2 (some .boolean) :: WA
theorem mO_F_isVariable : Cond.code yX0_isVariable cX0_isVariable 2 (some .boolean) ∈ WA := mW 60 rfl rfl
theorem cw_F_isVariable {R : Room} {s : State} {args : Array Value} (hw : ∀ w ∈ WA, w.before args s = true) (hR : rmF_isVariable.frames + 1 ≤ R.frames ∧ 8 + (2 + 11) + rmF_isVariable.locals ≤ R.locals) : CallW R s args "FunctionRoom" "FunctionRoom" 54 yX0_isVariable cX0_isVariable 2 (some .boolean) wsF_isVariable rmF_isVariable 0 0 1 := fr_cwV hw mO_F_isVariable mI_F (mW 57 rfl rfl) (mW 59 rfl rfl) (mP 0 rfl rfl) ⟨by decide, by decide, by decide +kernel⟩ hR rfl rfl
abbrev rmF_keep : Room := { frames := 2, cells := 0, slots := 0, locals := 44 }
abbrev wsF_keep : List Cond := .code yX0_keep cX0_keep 2 (some .int) :: WA
theorem mO_F_keep : Cond.code yX0_keep cX0_keep 2 (some .int) ∈ WA := mW 74 rfl rfl
theorem cw_F_keep {R : Room} {s : State} {args : Array Value} (hw : ∀ w ∈ WA, w.before args s = true) (hR : rmF_keep.frames + 1 ≤ R.frames ∧ 8 + (2 + 11) + rmF_keep.locals ≤ R.locals) : CallW R s args "FunctionRoom" "FunctionRoom" 61 yX0_keep cX0_keep 2 (some .int) wsF_keep rmF_keep 0 0 1 := fr_cwV hw mO_F_keep mI_F (mW 71 rfl rfl) (mW 73 rfl rfl) (mP 3 rfl rfl) ⟨by decide, by decide, by decide +kernel⟩ hR rfl rfl
abbrev rmF_count : Room := { frames := 1, cells := 0, slots := 0, locals := 21 }
abbrev wsF_count : List Cond := .code yX0_count cX0_count 4 (some .int) :: WA
theorem mO_F_count : Cond.code yX0_count cX0_count 4 (some .int) ∈ WA := mW 81 rfl rfl
theorem cw_F_count {R : Room} {s : State} {args : Array Value} (hw : ∀ w ∈ WA, w.before args s = true) (hR : rmF_count.frames + 1 ≤ R.frames ∧ 8 + (4 + 11) + rmF_count.locals ≤ R.locals) : CallW R s args "FunctionRoom" "FunctionRoom" 77 yX0_count cX0_count 4 (some .int) wsF_count rmF_count 0 0 1 := fr_cwV hw mO_F_count mI_F (mW 78 rfl rfl) (mW 80 rfl rfl) (mP 4 rfl rfl) ⟨by decide, by decide, by decide +kernel⟩ hR rfl rfl
abbrev rmF_valueAt : Room := { frames := 0, cells := 0, slots := 0, locals := 0 }
abbrev wsF_valueAt : List Cond := .code yX0_valueAt cX0_valueAt 2 (some .int) :: WA
theorem mO_F_valueAt : Cond.code yX0_valueAt cX0_valueAt 2 (some .int) ∈ WA := mW 129 rfl rfl
theorem cw_F_valueAt {R : Room} {s : State} {args : Array Value} (hw : ∀ w ∈ WA, w.before args s = true) (hR : rmF_valueAt.frames + 1 ≤ R.frames ∧ 8 + (2 + 11) + rmF_valueAt.locals ≤ R.locals) : CallB R s args "FunctionRoom" 81 yX0_valueAt cX0_valueAt 2 (some .int) wsF_valueAt rmF_valueAt 0 0 2 ∧ (Cond.static yX0_valueAt).before args s = true := fr_cwS hw mO_F_valueAt mI_F (mW 127 rfl rfl) (mW 128 rfl rfl) ⟨by decide, by decide, by decide +kernel⟩ hR rfl rfl
abbrev rmF_combined : Room := { frames := 0, cells := 0, slots := 0, locals := 0 }
abbrev wsF_combined : List Cond := .code yX0_combined cX0_combined 5 (some .long) :: WA
theorem mO_F_combined : Cond.code yX0_combined cX0_combined 5 (some .long) ∈ WA := mW 94 rfl rfl
theorem cw_F_combined {R : Room} {s : State} {args : Array Value} (hw : ∀ w ∈ WA, w.before args s = true) (hR : rmF_combined.frames + 1 ≤ R.frames ∧ 8 + (5 + 11) + rmF_combined.locals ≤ R.locals) : CallB R s args "FunctionRoom" 65 yX0_combined cX0_combined 5 (some .long) wsF_combined rmF_combined 0 0 3 ∧ (Cond.static yX0_combined).before args s = true := fr_cwS hw mO_F_combined mI_F (mW 92 rfl rfl) (mW 93 rfl rfl) ⟨by decide, by decide, by decide +kernel⟩ hR rfl rfl
abbrev rmF_bitOf : Room := { frames := 0, cells := 0, slots := 0, locals := 0 }
abbrev wsF_bitOf : List Cond := .code yX0_bitOf cX0_bitOf 2 (some .int) :: WA
theorem mO_F_bitOf : Cond.code yX0_bitOf cX0_bitOf 2 (some .int) ∈ WA := mW 68 rfl rfl
theorem cw_F_bitOf {R : Room} {s : State} {args : Array Value} (hw : ∀ w ∈ WA, w.before args s = true) (hR : rmF_bitOf.frames + 1 ≤ R.frames ∧ 8 + (2 + 11) + rmF_bitOf.locals ≤ R.locals) : CallW R s args "FunctionRoom" "FunctionRoom" 104 yX0_bitOf cX0_bitOf 2 (some .int) wsF_bitOf rmF_bitOf 0 0 1 := fr_cwV hw mO_F_bitOf mI_F (mW 65 rfl rfl) (mW 67 rfl rfl) (mP 2 rfl rfl) ⟨by decide, by decide, by decide +kernel⟩ hR rfl rfl
abbrev rmF_placesWhereOne : Room := { frames := 1, cells := 0, slots := 0, locals := 21 }
abbrev wsF_placesWhereOne : List Cond := .code yX0_placesWhereOne cX0_placesWhereOne 4 (some .long) :: WA
theorem mO_F_placesWhereOne : Cond.code yX0_placesWhereOne cX0_placesWhereOne 4 (some .long) ∈ WA := mW 64 rfl rfl
theorem cw_F_placesWhereOne {R : Room} {s : State} {args : Array Value} (hw : ∀ w ∈ WA, w.before args s = true) (hR : rmF_placesWhereOne.frames + 1 ≤ R.frames ∧ 8 + (4 + 11) + rmF_placesWhereOne.locals ≤ R.locals) : CallW R s args "FunctionRoom" "FunctionRoom" 57 yX0_placesWhereOne cX0_placesWhereOne 4 (some .long) wsF_placesWhereOne rmF_placesWhereOne 0 0 2 := fr_cwV hw mO_F_placesWhereOne mI_F (mW 61 rfl rfl) (mW 63 rfl rfl) (mP 1 rfl rfl) ⟨by decide, by decide, by decide +kernel⟩ hR rfl rfl
abbrev rmF_turned : Room := { frames := 1, cells := 0, slots := 0, locals := 21 }
abbrev wsF_turned : List Cond := .code yX0_turned cX0_turned 8 (some .long) :: WA
theorem mO_F_turned : Cond.code yX0_turned cX0_turned 8 (some .long) ∈ WA := mW 110 rfl rfl
theorem cw_F_turned {R : Room} {s : State} {args : Array Value} (hw : ∀ w ∈ WA, w.before args s = true) (hR : rmF_turned.frames + 1 ≤ R.frames ∧ 8 + (8 + 11) + rmF_turned.locals ≤ R.locals) : CallW R s args "FunctionRoom" "FunctionRoom" 73 yX0_turned cX0_turned 8 (some .long) wsF_turned rmF_turned 0 0 3 := fr_cwV hw mO_F_turned mI_F (mW 107 rfl rfl) (mW 109 rfl rfl) (mP 6 rfl rfl) ⟨by decide, by decide, by decide +kernel⟩ hR rfl rfl
abbrev rmF_narrowed : Room := { frames := 2, cells := 0, slots := 0, locals := 48 }
abbrev wsF_narrowed : List Cond := .code yX0_narrowed cX0_narrowed 9 (some .long) :: WA
theorem mO_F_narrowed : Cond.code yX0_narrowed cX0_narrowed 9 (some .long) ∈ WA := mW 106 rfl rfl
theorem cw_F_narrowed {R : Room} {s : State} {args : Array Value} (hw : ∀ w ∈ WA, w.before args s = true) (hR : rmF_narrowed.frames + 1 ≤ R.frames ∧ 8 + (9 + 11) + rmF_narrowed.locals ≤ R.locals) : CallW R s args "FunctionRoom" "FunctionRoom" 69 yX0_narrowed cX0_narrowed 9 (some .long) wsF_narrowed rmF_narrowed 0 0 4 := fr_cwV hw mO_F_narrowed mI_F (mW 103 rfl rfl) (mW 105 rfl rfl) (mP 5 rfl rfl) ⟨by decide, by decide, by decide +kernel⟩ hR rfl rfl
abbrev rmF_dependsOn : Room := { frames := 2, cells := 0, slots := 0, locals := 48 }
abbrev wsF_dependsOn : List Cond := .code yX0_dependsOn cX0_dependsOn 4 (some .boolean) :: WA
theorem mO_F_dependsOn : Cond.code yX0_dependsOn cX0_dependsOn 4 (some .boolean) ∈ WA := mW 157 rfl rfl
theorem cw_F_dependsOn {R : Room} {s : State} {args : Array Value} (hw : ∀ w ∈ WA, w.before args s = true) (hR : rmF_dependsOn.frames + 1 ≤ R.frames ∧ 8 + (4 + 11) + rmF_dependsOn.locals ≤ R.locals) : CallW R s args "FunctionRoom" "FunctionRoom" 88 yX0_dependsOn cX0_dependsOn 4 (some .boolean) wsF_dependsOn rmF_dependsOn 0 0 2 := fr_cwV hw mO_F_dependsOn mI_F (mW 154 rfl rfl) (mW 156 rfl rfl) (mP 9 rfl rfl) ⟨by decide, by decide, by decide +kernel⟩ hR rfl rfl
abbrev rmF_joinHalves : Room := { frames := 1, cells := 0, slots := 0, locals := 24 }
abbrev wsF_joinHalves : List Cond := .code yX0_joinHalves cX0_joinHalves 9 (some .int) :: WA
theorem mO_F_joinHalves : Cond.code yX0_joinHalves cX0_joinHalves 9 (some .int) ∈ WA := mW 145 rfl rfl
theorem cw_F_joinHalves {R : Room} {s : State} {args : Array Value} (hw : ∀ w ∈ WA, w.before args s = true) (hR : rmF_joinHalves.frames + 1 ≤ R.frames ∧ 8 + (9 + 11) + rmF_joinHalves.locals ≤ R.locals) : CallW R s args "FunctionRoom" "FunctionRoom" 85 yX0_joinHalves cX0_joinHalves 9 (some .int) wsF_joinHalves rmF_joinHalves 0 0 2 := fr_cwV hw mO_F_joinHalves mI_F (mW 142 rfl rfl) (mW 144 rfl rfl) (mP 7 rfl rfl) ⟨by decide, by decide, by decide +kernel⟩ hR rfl rfl
abbrev rmF_placeOfPart : Room := { frames := 0, cells := 0, slots := 0, locals := 0 }
abbrev wsF_placeOfPart : List Cond := .code yX0_placeOfPart cX0_placeOfPart 5 (some .int) :: WA
theorem mO_F_placeOfPart : Cond.code yX0_placeOfPart cX0_placeOfPart 5 (some .int) ∈ WA := mW 149 rfl rfl
theorem cw_F_placeOfPart {R : Room} {s : State} {args : Array Value} (hw : ∀ w ∈ WA, w.before args s = true) (hR : rmF_placeOfPart.frames + 1 ≤ R.frames ∧ 8 + (5 + 11) + rmF_placeOfPart.locals ≤ R.locals) : CallW R s args "FunctionRoom" "FunctionRoom" 110 yX0_placeOfPart cX0_placeOfPart 5 (some .int) wsF_placeOfPart rmF_placeOfPart 0 0 3 := fr_cwV hw mO_F_placeOfPart mI_F (mW 146 rfl rfl) (mW 148 rfl rfl) (mP 8 rfl rfl) ⟨by decide, by decide, by decide +kernel⟩ hR rfl rfl
abbrev rmM_init : Room := { frames := 1, cells := 2, slots := 16896, locals := 20 }
abbrev wsM_init : List Cond := .code yX1_init cX1_init 2 none :: WA
theorem mO_M_init : Cond.code yX1_init cX1_init 2 none ∈ WA := mW 165 rfl rfl
theorem cw_W_M_init {R : Room} {s : State} {args : Array Value} (hw : ∀ w ∈ WA, w.before args s = true) (hR : rmM_init.frames + 1 ≤ R.frames ∧ 8 + (2 + 11) + rmM_init.locals ≤ R.locals) : CallB R s args "FunctionRoomLaw" 20 yX1_init cX1_init 2 none wsM_init rmM_init 2 16896 1 ∧ yX1_init.name = "<init>" ∧ (Cond.instanceMethod yX1_init).before args s = true := fr_cwI hw mO_M_init mI_M (mW 163 rfl rfl) (mW 164 rfl rfl) rfl ⟨by decide, by decide, by decide +kernel⟩ hR rfl rfl
abbrev rmM_is : Room := { frames := 0, cells := 0, slots := 0, locals := 0 }
abbrev wsM_is : List Cond := .code yX1_is cX1_is 1 (some .boolean) :: WA
theorem mO_M_is : Cond.code yX1_is cX1_is 1 (some .boolean) ∈ WA := mW 187 rfl rfl
theorem cw_M_is {R : Room} {s : State} {args : Array Value} (hw : ∀ w ∈ WA, w.before args s = true) (hR : rmM_is.frames + 1 ≤ R.frames ∧ 8 + (1 + 11) + rmM_is.locals ≤ R.locals) : CallB R s args "FunctionRoomModel" 27 yX1_is cX1_is 1 (some .boolean) wsM_is rmM_is 0 0 1 ∧ (Cond.static yX1_is).before args s = true := fr_cwS hw mO_M_is mI_M (mW 185 rfl rfl) (mW 186 rfl rfl) ⟨by decide, by decide, by decide +kernel⟩ hR rfl rfl
abbrev rmM_var : Room := { frames := 0, cells := 0, slots := 0, locals := 0 }
abbrev wsM_var : List Cond := .code yX1_var cX1_var 2 (some .boolean) :: WA
theorem mO_M_var : Cond.code yX1_var cX1_var 2 (some .boolean) ∈ WA := mW 215 rfl rfl
theorem cw_M_var {R : Room} {s : State} {args : Array Value} (hw : ∀ w ∈ WA, w.before args s = true) (hR : rmM_var.frames + 1 ≤ R.frames ∧ 8 + (2 + 11) + rmM_var.locals ≤ R.locals) : CallW R s args "FunctionRoomModel" "FunctionRoomModel" 37 yX1_var cX1_var 2 (some .boolean) wsM_var rmM_var 0 0 1 := fr_cwV hw mO_M_var mI_M (mW 212 rfl rfl) (mW 214 rfl rfl) (mP 12 rfl rfl) ⟨by decide, by decide, by decide +kernel⟩ hR rfl rfl
abbrev rmM_bit : Room := { frames := 0, cells := 0, slots := 0, locals := 0 }
abbrev wsM_bit : List Cond := .code yX1_bit cX1_bit 2 (some .int) :: WA
theorem mO_M_bit : Cond.code yX1_bit cX1_bit 2 (some .int) ∈ WA := mW 191 rfl rfl
theorem cw_M_bit {R : Room} {s : State} {args : Array Value} (hw : ∀ w ∈ WA, w.before args s = true) (hR : rmM_bit.frames + 1 ≤ R.frames ∧ 8 + (2 + 11) + rmM_bit.locals ≤ R.locals) : CallW R s args "FunctionRoomModel" "FunctionRoomModel" 31 yX1_bit cX1_bit 2 (some .int) wsM_bit rmM_bit 0 0 1 := fr_cwV hw mO_M_bit mI_M (mW 188 rfl rfl) (mW 190 rfl rfl) (mP 10 rfl rfl) ⟨by decide, by decide, by decide +kernel⟩ hR rfl rfl
abbrev rmM_keep : Room := { frames := 2, cells := 0, slots := 0, locals := 43 }
abbrev wsM_keep : List Cond := .code yX1_keep cX1_keep 3 (some .int) :: WA
theorem mO_M_keep : Cond.code yX1_keep cX1_keep 3 (some .int) ∈ WA := mW 195 rfl rfl
theorem cw_M_keep {R : Room} {s : State} {args : Array Value} (hw : ∀ w ∈ WA, w.before args s = true) (hR : rmM_keep.frames + 1 ≤ R.frames ∧ 8 + (3 + 11) + rmM_keep.locals ≤ R.locals) : CallW R s args "FunctionRoomModel" "FunctionRoomModel" 34 yX1_keep cX1_keep 3 (some .int) wsM_keep rmM_keep 0 0 1 := fr_cwV hw mO_M_keep mI_M (mW 192 rfl rfl) (mW 194 rfl rfl) (mP 11 rfl rfl) ⟨by decide, by decide, by decide +kernel⟩ hR rfl rfl
abbrev rmM_load : Room := { frames := 3, cells := 0, slots := 0, locals := 65 }
abbrev wsM_load : List Cond := .code yX1_load cX1_load 4 (some .int) :: WA
theorem mO_M_load : Cond.code yX1_load cX1_load 4 (some .int) ∈ WA := mW 184 rfl rfl
theorem cw_W_M_load {R : Room} {s : State} {args : Array Value} (hw : ∀ w ∈ WA, w.before args s = true) (hR : rmM_load.frames + 1 ≤ R.frames ∧ 8 + (4 + 11) + rmM_load.locals ≤ R.locals) : CallW R s args "FunctionRoomLaw" "FunctionRoomModel" 25 yX1_load cX1_load 4 (some .int) wsM_load rmM_load 0 0 2 := fr_cwV hw mO_M_load mI_M (mW 181 rfl rfl) (mW 182 rfl rfl) (mW 183 rfl rfl) ⟨by decide, by decide, by decide +kernel⟩ hR rfl rfl
abbrev rmM_reckon : Room := { frames := 3, cells := 0, slots := 0, locals := 65 }
abbrev wsM_reckon : List Cond := .code yX1_reckon cX1_reckon 8 (some .int) :: WA
theorem mO_M_reckon : Cond.code yX1_reckon cX1_reckon 8 (some .int) ∈ WA := mW 203 rfl rfl
theorem cw_W_M_reckon {R : Room} {s : State} {args : Array Value} (hw : ∀ w ∈ WA, w.before args s = true) (hR : rmM_reckon.frames + 1 ≤ R.frames ∧ 8 + (8 + 11) + rmM_reckon.locals ≤ R.locals) : CallW R s args "FunctionRoomLaw" "FunctionRoomModel" 30 yX1_reckon cX1_reckon 8 (some .int) wsM_reckon rmM_reckon 0 0 4 := fr_cwV hw mO_M_reckon mI_M (mW 200 rfl rfl) (mW 201 rfl rfl) (mW 202 rfl rfl) ⟨by decide, by decide, by decide +kernel⟩ hR rfl rfl
abbrev rmM_not : Room := { frames := 3, cells := 0, slots := 0, locals := 65 }
abbrev wsM_not : List Cond := .code yX1_not cX1_not 4 (some .int) :: WA
theorem mO_M_not : Cond.code yX1_not cX1_not 4 (some .int) ∈ WA := mW 207 rfl rfl
theorem cw_W_M_not {R : Room} {s : State} {args : Array Value} (hw : ∀ w ∈ WA, w.before args s = true) (hR : rmM_not.frames + 1 ≤ R.frames ∧ 8 + (4 + 11) + rmM_not.locals ≤ R.locals) : CallW R s args "FunctionRoomLaw" "FunctionRoomModel" 34 yX1_not cX1_not 4 (some .int) wsM_not rmM_not 0 0 2 := fr_cwV hw mO_M_not mI_M (mW 204 rfl rfl) (mW 205 rfl rfl) (mW 206 rfl rfl) ⟨by decide, by decide, by decide +kernel⟩ hR rfl rfl
abbrev rmM_with : Room := { frames := 3, cells := 0, slots := 0, locals := 65 }
abbrev wsM_with : List Cond := .code yX1_with cX1_with 6 (some .int) :: WA
theorem mO_M_with : Cond.code yX1_with cX1_with 6 (some .int) ∈ WA := mW 211 rfl rfl
theorem cw_W_M_with {R : Room} {s : State} {args : Array Value} (hw : ∀ w ∈ WA, w.before args s = true) (hR : rmM_with.frames + 1 ≤ R.frames ∧ 8 + (6 + 11) + rmM_with.locals ≤ R.locals) : CallW R s args "FunctionRoomLaw" "FunctionRoomModel" 39 yX1_with cX1_with 6 (some .int) wsM_with rmM_with 0 0 4 := fr_cwV hw mO_M_with mI_M (mW 208 rfl rfl) (mW 209 rfl rfl) (mW 210 rfl rfl) ⟨by decide, by decide, by decide +kernel⟩ hR rfl rfl
abbrev rmM_bind : Room := { frames := 3, cells := 0, slots := 0, locals := 65 }
abbrev wsM_bind : List Cond := .code yX1_bind cX1_bind 8 (some .int) :: WA
theorem mO_M_bind : Cond.code yX1_bind cX1_bind 8 (some .int) ∈ WA := mW 219 rfl rfl
theorem cw_W_M_bind {R : Room} {s : State} {args : Array Value} (hw : ∀ w ∈ WA, w.before args s = true) (hR : rmM_bind.frames + 1 ≤ R.frames ∧ 8 + (8 + 11) + rmM_bind.locals ≤ R.locals) : CallW R s args "FunctionRoomLaw" "FunctionRoomModel" 43 yX1_bind cX1_bind 8 (some .int) wsM_bind rmM_bind 0 0 4 := fr_cwV hw mO_M_bind mI_M (mW 216 rfl rfl) (mW 217 rfl rfl) (mW 218 rfl rfl) ⟨by decide, by decide, by decide +kernel⟩ hR rfl rfl
abbrev rmM_put : Room := { frames := 3, cells := 0, slots := 0, locals := 65 }
abbrev wsM_put : List Cond := .code yX1_put cX1_put 6 (some .int) :: WA
theorem mO_M_put : Cond.code yX1_put cX1_put 6 (some .int) ∈ WA := mW 223 rfl rfl
theorem cw_W_M_put {R : Room} {s : State} {args : Array Value} (hw : ∀ w ∈ WA, w.before args s = true) (hR : rmM_put.frames + 1 ≤ R.frames ∧ 8 + (6 + 11) + rmM_put.locals ≤ R.locals) : CallW R s args "FunctionRoomLaw" "FunctionRoomModel" 47 yX1_put cX1_put 6 (some .int) wsM_put rmM_put 0 0 4 := fr_cwV hw mO_M_put mI_M (mW 220 rfl rfl) (mW 221 rfl rfl) (mW 222 rfl rfl) ⟨by decide, by decide, by decide +kernel⟩ hR rfl rfl
abbrev rmM_many : Room := { frames := 1, cells := 0, slots := 0, locals := 20 }
abbrev wsM_many : List Cond := .code yX1_many cX1_many 4 (some .int) :: WA
theorem mO_M_many : Cond.code yX1_many cX1_many 4 (some .int) ∈ WA := mW 199 rfl rfl
theorem cw_M_many {R : Room} {s : State} {args : Array Value} (hw : ∀ w ∈ WA, w.before args s = true) (hR : rmM_many.frames + 1 ≤ R.frames ∧ 8 + (4 + 11) + rmM_many.locals ≤ R.locals) : CallW R s args "FunctionRoomModel" "FunctionRoomModel" 23 yX1_many cX1_many 4 (some .int) wsM_many rmM_many 0 0 1 := fr_cwV hw mO_M_many mI_M (mW 196 rfl rfl) (mW 197 rfl rfl) (mW 198 rfl rfl) ⟨by decide, by decide, by decide +kernel⟩ hR rfl rfl
theorem cw_W_M_many {R : Room} {s : State} {args : Array Value} (hw : ∀ w ∈ WA, w.before args s = true) (hR : rmM_many.frames + 1 ≤ R.frames ∧ 8 + (4 + 11) + rmM_many.locals ≤ R.locals) : CallW R s args "FunctionRoomLaw" "FunctionRoomModel" 52 yX1_many cX1_many 4 (some .int) wsM_many rmM_many 0 0 1 := fr_cwV hw mO_M_many mI_M (mW 224 rfl rfl) (mW 197 rfl rfl) (mW 198 rfl rfl) ⟨by decide, by decide, by decide +kernel⟩ hR rfl rfl
abbrev rmM_nth : Room := { frames := 1, cells := 0, slots := 0, locals := 20 }
abbrev wsM_nth : List Cond := .code yX1_nth cX1_nth 5 (some .int) :: WA
theorem mO_M_nth : Cond.code yX1_nth cX1_nth 5 (some .int) ∈ WA := mW 228 rfl rfl
theorem cw_W_M_nth {R : Room} {s : State} {args : Array Value} (hw : ∀ w ∈ WA, w.before args s = true) (hR : rmM_nth.frames + 1 ≤ R.frames ∧ 8 + (5 + 11) + rmM_nth.locals ≤ R.locals) : CallW R s args "FunctionRoomLaw" "FunctionRoomModel" 56 yX1_nth cX1_nth 5 (some .int) wsM_nth rmM_nth 0 0 2 := fr_cwV hw mO_M_nth mI_M (mW 225 rfl rfl) (mW 226 rfl rfl) (mW 227 rfl rfl) ⟨by decide, by decide, by decide +kernel⟩ hR rfl rfl
abbrev rmM_value : Room := { frames := 1, cells := 0, slots := 0, locals := 20 }
abbrev wsM_value : List Cond := .code yX1_value cX1_value 3 (some .int) :: WA
theorem mO_M_value : Cond.code yX1_value cX1_value 3 (some .int) ∈ WA := mW 232 rfl rfl
theorem cw_W_M_value {R : Room} {s : State} {args : Array Value} (hw : ∀ w ∈ WA, w.before args s = true) (hR : rmM_value.frames + 1 ≤ R.frames ∧ 8 + (3 + 11) + rmM_value.locals ≤ R.locals) : CallW R s args "FunctionRoomLaw" "FunctionRoomModel" 60 yX1_value cX1_value 3 (some .int) wsM_value rmM_value 0 0 2 := fr_cwV hw mO_M_value mI_M (mW 229 rfl rfl) (mW 230 rfl rfl) (mW 231 rfl rfl) ⟨by decide, by decide, by decide +kernel⟩ hR rfl rfl
abbrev rmM_same : Room := { frames := 1, cells := 0, slots := 0, locals := 20 }
abbrev wsM_same : List Cond := .code yX1_same cX1_same 4 (some .boolean) :: WA
theorem mO_M_same : Cond.code yX1_same cX1_same 4 (some .boolean) ∈ WA := mW 236 rfl rfl
theorem cw_W_M_same {R : Room} {s : State} {args : Array Value} (hw : ∀ w ∈ WA, w.before args s = true) (hR : rmM_same.frames + 1 ≤ R.frames ∧ 8 + (4 + 11) + rmM_same.locals ≤ R.locals) : CallW R s args "FunctionRoomLaw" "FunctionRoomModel" 65 yX1_same cX1_same 4 (some .boolean) wsM_same rmM_same 0 0 2 := fr_cwV hw mO_M_same mI_M (mW 233 rfl rfl) (mW 234 rfl rfl) (mW 235 rfl rfl) ⟨by decide, by decide, by decide +kernel⟩ hR rfl rfl
abbrev rmM_alike : Room := { frames := 0, cells := 0, slots := 0, locals := 0 }
abbrev wsM_alike : List Cond := .code yX1_alike cX1_alike 6 (some .boolean) :: WA
theorem mO_M_alike : Cond.code yX1_alike cX1_alike 6 (some .boolean) ∈ WA := mW 244 rfl rfl
theorem cw_M_alike {R : Room} {s : State} {args : Array Value} (hw : ∀ w ∈ WA, w.before args s = true) (hR : rmM_alike.frames + 1 ≤ R.frames ∧ 8 + (6 + 11) + rmM_alike.locals ≤ R.locals) : CallW R s args "FunctionRoomModel" "FunctionRoomModel" 40 yX1_alike cX1_alike 6 (some .boolean) wsM_alike rmM_alike 0 0 4 := fr_cwV hw mO_M_alike mI_M (mW 241 rfl rfl) (mW 243 rfl rfl) (mP 13 rfl rfl) ⟨by decide, by decide, by decide +kernel⟩ hR rfl rfl
abbrev rmM_size : Room := { frames := 1, cells := 0, slots := 0, locals := 25 }
abbrev wsM_size : List Cond := .code yX1_size cX1_size 8 (some .int) :: WA
theorem mO_M_size : Cond.code yX1_size cX1_size 8 (some .int) ∈ WA := mW 240 rfl rfl
theorem cw_W_M_size {R : Room} {s : State} {args : Array Value} (hw : ∀ w ∈ WA, w.before args s = true) (hR : rmM_size.frames + 1 ≤ R.frames ∧ 8 + (8 + 11) + rmM_size.locals ≤ R.locals) : CallW R s args "FunctionRoomLaw" "FunctionRoomModel" 69 yX1_size cX1_size 8 (some .int) wsM_size rmM_size 0 0 1 := fr_cwV hw mO_M_size mI_M (mW 237 rfl rfl) (mW 238 rfl rfl) (mW 239 rfl rfl) ⟨by decide, by decide, by decide +kernel⟩ hR rfl rfl
abbrev rmM_matters : Room := { frames := 1, cells := 0, slots := 0, locals := 21 }
abbrev wsM_matters : List Cond := .code yX1_matters cX1_matters 5 (some .int) :: WA
theorem mO_M_matters : Cond.code yX1_matters cX1_matters 5 (some .int) ∈ WA := mW 248 rfl rfl
theorem cw_W_M_matters {R : Room} {s : State} {args : Array Value} (hw : ∀ w ∈ WA, w.before args s = true) (hR : rmM_matters.frames + 1 ≤ R.frames ∧ 8 + (5 + 11) + rmM_matters.locals ≤ R.locals) : CallW R s args "FunctionRoomLaw" "FunctionRoomModel" 73 yX1_matters cX1_matters 5 (some .int) wsM_matters rmM_matters 0 0 1 := fr_cwV hw mO_M_matters mI_M (mW 245 rfl rfl) (mW 246 rfl rfl) (mW 247 rfl rfl) ⟨by decide, by decide, by decide +kernel⟩ hR rfl rfl
abbrev rmW_cell : Room := { frames := 0, cells := 0, slots := 0, locals := 0 }
abbrev wsW_cell : List Cond := .code yL_cell cL_cell 2 (some .int) :: WA
theorem mO_W_cell : Cond.code yL_cell cL_cell 2 (some .int) ∈ WA := mW 160 rfl rfl
theorem cw_W_cell {R : Room} {s : State} {args : Array Value} (hw : ∀ w ∈ WA, w.before args s = true) (hR : rmW_cell.frames + 1 ≤ R.frames ∧ 8 + (2 + 11) + rmW_cell.locals ≤ R.locals) : CallB R s args "FunctionRoomLaw" 9 yL_cell cL_cell 2 (some .int) wsW_cell rmW_cell 0 0 2 ∧ (Cond.static yL_cell).before args s = true := fr_cwS hw mO_W_cell mI_W (mW 158 rfl rfl) (mW 159 rfl rfl) ⟨by decide, by decide, by decide +kernel⟩ hR rfl rfl
end
section
/-! worlds of the class and of the reference; calls and array rows over small naturals -/
def fr_rw1 (V : Nat) (ad : Nat → Nat) (ka : Nat → ClassId) (ro : Nat → Nat → Int64) (i : Nat) : Nat × va_E := (ad (i + 5), .inl (ka 1, fr_wn V, .inr (.inl (ro i))))
def fr_xw (V : Nat) (ad : Nat → Nat) (ka : Nat → ClassId) (mk : Nat → Int64) (nm pt : Nat → Int32) (ro : Nat → Nat → Int64) : va_W :=
  (ad 0, .inr (CIF, [.int (nI V), .int (nI (2 ^ V)), .int (nI (fr_wn V)), .long (fr_pl V), .ref (ad 1), .ref (ad 2), .ref (ad 3), .ref (ad 4)])) ::
  (ad 1, .inl (ka 0, 32, .inr (.inr (.inr (.inr (fun i => some (ad (i + 5)))))))) ::
  (ad 2, .inl (ka 2, fr_wn V, .inr (.inl mk))) ::
  (ad 3, .inl (ka 3, 2 ^ V, .inl nm)) ::
  (ad 4, .inl (ka 4, 2 ^ V, .inl pt)) ::
  (List.range 32).map (fr_rw1 V ad ka ro)
def fr_ty (ka : Nat → ClassId) : List (ClassId × FieldType) := [(ka 0, .array .long), (ka 1, .long), (ka 2, .long), (ka 3, .int), (ka 4, .int)]
def fr_A (ad : Nat → Nat) : Nat → Prop := fun q => ∃ i, i < 37 ∧ q = ad i
def fr_inj (ad : Nat → Nat) : Prop := ∀ i j, i < 37 → j < 37 → ad i = ad j → i = j
section FRX
variable {V : Nat} {ad : Nat → Nat} {ka : Nat → ClassId} {mk : Nat → Int64} {nm pt : Nat → Int32} {ro : Nat → Nat → Int64}
theorem fr_row {r : Nat} (hr : r < 32) : (fr_xw V ad ka mk nm pt ro)[r + 5]? = some (ad (r + 5), .inl (ka 1, fr_wn V, .inr (.inl (ro r)))) := by
  show ((List.range 32).map (fr_rw1 V ad ka ro))[r]? = _
  rw [List.getElem?_map, List.getElem?_range hr]
  rfl
theorem fr_rowset {r : Nat} (hr : r < 32) (g : Nat → Int64) : (fr_xw V ad ka mk nm pt ro).set (r + 5) (ad (r + 5), .inl (ka 1, fr_wn V, .inr (.inl g))) = fr_xw V ad ka mk nm pt (va_up ro r g) := by
  have h : ((List.range 32).map (fr_rw1 V ad ka ro)).set r (ad (r + 5), .inl (ka 1, fr_wn V, .inr (.inl g))) = (List.range 32).map (fr_rw1 V ad ka (va_up ro r g)) := by
    apply List.ext_getElem?
    intro k
    by_cases hk : k = r
    · subst hk
      rw [List.getElem?_set_self (by simpa using hr), List.getElem?_map, List.getElem?_range hr]
      simp [fr_rw1, va_up_self]
    · rw [List.getElem?_set_ne (Ne.symm hk), List.getElem?_map, List.getElem?_map]
      by_cases h32 : k < 32
      · rw [List.getElem?_range h32]
        simp [fr_rw1, va_up_ne _ _ hk]
      · rw [List.getElem?_eq_none (by simpa using h32)]
        rfl
  exact congrArg (fun L => (ad 0, (.inr (CIF, [.int (nI V), .int (nI (2 ^ V)), .int (nI (fr_wn V)), .long (fr_pl V), .ref (ad 1), .ref (ad 2), .ref (ad 3), .ref (ad 4)]) : va_E)) :: (ad 1, .inl (ka 0, 32, .inr (.inr (.inr (.inr (fun i => some (ad (i + 5)))))))) :: (ad 2, .inl (ka 2, fr_wn V, .inr (.inl mk))) :: (ad 3, .inl (ka 3, 2 ^ V, .inl nm)) :: (ad 4, .inl (ka 4, 2 ^ V, .inl pt)) :: L) h
theorem fr_addr : ∀ (k : Nat) (q : Nat × va_E), (fr_xw V ad ka mk nm pt ro)[k]? = some q → k < 37 ∧ q.1 = ad k
  | 0, q, h => by rw [← Option.some.inj h]; exact ⟨by decide, rfl⟩
  | 1, q, h => by rw [← Option.some.inj h]; exact ⟨by decide, rfl⟩
  | 2, q, h => by rw [← Option.some.inj h]; exact ⟨by decide, rfl⟩
  | 3, q, h => by rw [← Option.some.inj h]; exact ⟨by decide, rfl⟩
  | 4, q, h => by rw [← Option.some.inj h]; exact ⟨by decide, rfl⟩
  | k + 5, q, h => by
    have h : ((List.range 32).map (fr_rw1 V ad ka ro))[k]? = some q := h
    rw [List.getElem?_map] at h
    by_cases hk : k < 32
    · rw [List.getElem?_range hk] at h
      rw [← Option.some.inj h]
      exact ⟨by omega, rfl⟩
    · rw [List.getElem?_eq_none (by simpa using hk)] at h
      cases h
theorem fr_D (hj : fr_inj ad) : va_D (fr_A ad) (fr_xw V ad ka mk nm pt ro) := by
  refine ⟨fun i j p q hp hq e => ?_, fun k q hk => ?_⟩
  · obtain ⟨a1, a2⟩ := fr_addr i p hp
    obtain ⟨b1, b2⟩ := fr_addr j q hq
    exact hj i j a1 b1 (by rw [← a2, ← b2]; exact e)
  · obtain ⟨a1, a2⟩ := fr_addr k q hk
    exact ⟨k, a1, a2⟩
end FRX
/-- the table PLACES_WITH_BIT -/
def fr_T (ad : Nat → Nat) (U : State) (H : Heap) : Prop := ∃ t : Nat, va_Z "FunctionRoom" "PLACES_WITH_BIT" "[J" (.ref t) (fr_A ad) U H ∧ va_T .long t 6 (fun j => .long (fr_pb j)) (fr_A ad) U H
theorem fr_T_at {ad : Nat → Nat} {s : State} {H : Heap} {locs : List Loc} (hT : fr_T ad s s.heap) (hS : va_S (fr_A ad) s.heap H locs) (U : State) (hU : U.heap = H) (hvm : s.vm.Alike U.vm) : fr_T ad U U.heap := by
  obtain ⟨t, z1, z2⟩ := hT
  rw [hU]
  exact ⟨t, va_Z.moved hvm (z1.kept hS.2.1), va_T.moved hvm (z2.kept hS.2.1)⟩
theorem fr_T_blind {ad : Nat → Nat} (U : State) (g : JFrame) (mk : MethodId) (a : Array Value) (h : fr_T ad U U.heap) : fr_T ad (U.calling g mk a) (U.calling g mk a).heap := by
  obtain ⟨t, z1, z2⟩ := h
  exact ⟨t, va_Z.moved (u := U) (U := U.calling g mk a) (Vm.Alike.refl U.vm) z1, va_T.moved (u := U) (U := U.calling g mk a) (Vm.Alike.refl U.vm) z2⟩
/-- a method's start: the world, the classes, what else -/
def fr_G (D : va_G) (tys : List (ClassId × FieldType)) (ws : va_W) (E : State → Prop) (U : State) : Prop := va_P D vwCl ws U.heap ∧ va_K D vwCl tys U ∧ E U
theorem fr_pre {D : va_G} {tys : List (ClassId × FieldType)} {ws : va_W} {E : State → Prop} {av : List Value} {H : Heap} {s : State} (hK : va_K D vwCl tys s) (hP : va_P D vwCl ws H) (hE : ∀ U : State, U.heap = H → s.vm.Alike U.vm → E U) (hEb : ∀ (U : State) (g : JFrame) (mk : MethodId) (a : Array Value), E U → E (U.calling g mk a)) : PreS s H (va_Pc av (fr_G D tys ws E)) av :=
  ⟨fun a U g mk q => by
    obtain ⟨q0, qP, qK, qE⟩ := q
    exact ⟨q0, qP, va_K.moved (u := U) (U := U.calling g mk a) (Vm.Alike.refl U.vm) qK, hEb U g mk a qE⟩,
   fun U hU hW => ⟨rfl, by rw [hU]; exact hP, va_K.moved hW.alike hK, hE U hU hW.alike⟩⟩
abbrev fr_PX (D : va_G) (V : Nat) (ad : Nat → Nat) (ka : Nat → ClassId) (mk : Nat → Int64) (nm pt : Nat → Int32) (ro : Nat → Nat → Int64) : State → Prop := fr_G D (fr_ty ka) (fr_xw V ad ka mk nm pt ro) (fun U => fr_T ad U U.heap)
/-! the reference's world -/
def fr_mw (V : Nat) (bd : Nat → Nat) (kb : Nat → ClassId) (row made : Nat → Int32) : va_W :=
  [(bd 0, .inr (CIM, [.int (nI V), .int (nI (2 ^ V)), .ref (bd 1), .ref (bd 2)])), (bd 1, .inl (kb 0, 16384, .inl row)), (bd 2, .inl (kb 1, 512, .inl made))]
def fr_mty (kb : Nat → ClassId) : List (ClassId × FieldType) := [(kb 0, .boolean), (kb 1, .boolean)]
def fr_B (bd : Nat → Nat) : Nat → Prop := fun q => ∃ i, i < 3 ∧ q = bd i
def fr_injB (bd : Nat → Nat) : Prop := ∀ i j, i < 3 → j < 3 → bd i = bd j → i = j
theorem fr_addrB {V : Nat} {bd : Nat → Nat} {kb : Nat → ClassId} {row made : Nat → Int32} : ∀ (k : Nat) (q : Nat × va_E), (fr_mw V bd kb row made)[k]? = some q → k < 3 ∧ q.1 = bd k
  | 0, q, h => by rw [← Option.some.inj h]; exact ⟨by decide, rfl⟩
  | 1, q, h => by rw [← Option.some.inj h]; exact ⟨by decide, rfl⟩
  | 2, q, h => by rw [← Option.some.inj h]; exact ⟨by decide, rfl⟩
  | k + 3, q, h => by
    have h : ([] : va_W)[k]? = some q := h
    simp at h
theorem fr_DB {V : Nat} {bd : Nat → Nat} {kb : Nat → ClassId} {row made : Nat → Int32} (hj : fr_injB bd) : va_D (fr_B bd) (fr_mw V bd kb row made) := by
  refine ⟨fun i j p q hp hq e => ?_, fun k q hk => ?_⟩
  · obtain ⟨a1, a2⟩ := fr_addrB i p hp
    obtain ⟨b1, b2⟩ := fr_addrB j q hq
    exact hj i j a1 b1 (by rw [← a2, ← b2]; exact e)
  · obtain ⟨a1, a2⟩ := fr_addrB k q hk
    exact ⟨k, a1, a2⟩
abbrev fr_PM (D : va_G) (V : Nat) (bd : Nat → Nat) (kb : Nat → ClassId) (row made : Nat → Int32) : State → Prop := fr_G D (fr_mty kb) (fr_mw V bd kb row made) (fun _ => True)
section FRW
variable {p : Program} {l : Launch} {e : Env} {R : Room} {s : State} {m : MethodId} {args : Array Value} {below : List Frame} {meth : Method} {c : Code} {H : Heap} {locs : List Loc} {cells slots : Nat} {Q : State → Prop}
variable {cc : ByteArray} {pc : Nat} {ls : Array Slot} {rest : List Value} {D : va_G} {A : Nat → Prop} {a : Nat} {tys : List (ClassId × FieldType)} {ws : va_W} {H0 : Heap}
theorem fr_top {x y : Int32} (h : x = y) (k : W p l e R s m args below meth c H locs cells slots Q (F0 m pc ls (.int y :: rest))) : W p l e R s m args below meth c H locs cells slots Q (F0 m pc ls (.int x :: rest)) := by
  rw [h]
  exact k
theorem fr_topl {x y : Int64} (h : x = y) (k : W p l e R s m args below meth c H locs cells slots Q (F0 m pc ls (.long y :: rest))) : W p l e R s m args below meth c H locs cells slots Q (F0 m pc ls (.long x :: rest)) := by
  rw [h]
  exact k
/-- a place of the rows' array -/
theorem fr_aald (hexec : p.tables.exec = Jvm.exec) (hb : c.code = cc) (hK : va_K D vwCl tys s) (hP : va_P D vwCl ws H) (q0 t0 : Nat) {cA : ClassId} {ty : FieldType} {n : Nat} {f : Nat → Option Nat} (ha : ws[q0]? = some (a, .inl (cA, n, .inr (.inr (.inr (.inr f)))))) (ht : tys[t0]? = some (cA, .array ty)) {i b : Nat} (hi : i < n) (hn : n < 2 ^ 31) (hf : f i = some b) (hdg : decode cc pc = .ok (.aaload, 1))
    (kk : W p l e R s m args below meth c H locs cells slots Q (F0 m (pc + 1) ls (.ref b :: rest))) : W p l e R s m args below meth c H locs cells slots Q (F0 m pc ls (.int (nI i) :: .ref a :: rest)) := by
  have hc : (nI i).toNatClampNeg = i := nI_clamp (by omega)
  refine W.aald (v := .ref b) (ty := .array ty) hexec hb (hP q0 _ ha) ((hK.2 t0 _ ht).1 n (fun j => va_rf (f j))) rfl (fun q => by cases q) (by show ¬ (nI i < 0 ∨ (arrV _ _ _).slots.size ≤ _); rw [arrV_size]; exact vp_in_nI hi hn) ?_ rfl rfl hdg kk
  show (arrV _ _ _).slots[_]? = _
  rw [hc, arrV_read _ _ hi, hf]
  rfl
theorem fr_lald (hexec : p.tables.exec = Jvm.exec) (hb : c.code = cc) (hK : va_K D vwCl tys s) (hP : va_P D vwCl ws H) (q0 t0 : Nat) {cA : ClassId} {n : Nat} {f : Nat → Int64} (ha : ws[q0]? = some (a, .inl (cA, n, .inr (.inl f)))) (ht : tys[t0]? = some (cA, .long)) {i : Nat} (hi : i < n) (hn : n < 2 ^ 31) (hdg : decode cc pc = .ok (.laload, 1))
    (kk : W p l e R s m args below meth c H locs cells slots Q (F0 m (pc + 1) ls (.long (f i) :: rest))) : W p l e R s m args below meth c H locs cells slots Q (F0 m pc ls (.int (nI i) :: .ref a :: rest)) := by
  have hc : (nI i).toNatClampNeg = i := nI_clamp (by omega)
  refine va_lald hexec hb hK hP q0 t0 ha ht (vp_in_nI hi hn) hdg ?_
  rw [hc]
  exact kk
theorem fr_iald (hexec : p.tables.exec = Jvm.exec) (hb : c.code = cc) (hK : va_K D vwCl tys s) (hP : va_P D vwCl ws H) (q0 t0 : Nat) {cA : ClassId} {n : Nat} {f : Nat → Int32} (ha : ws[q0]? = some (a, .inl (cA, n, .inl f))) (ht : tys[t0]? = some (cA, .int)) {i : Nat} (hi : i < n) (hn : n < 2 ^ 31) (hdg : decode cc pc = .ok (.iaload, 1))
    (kk : W p l e R s m args below meth c H locs cells slots Q (F0 m (pc + 1) ls (.int (f i) :: rest))) : W p l e R s m args below meth c H locs cells slots Q (F0 m pc ls (.int (nI i) :: .ref a :: rest)) := by
  have hc : (nI i).toNatClampNeg = i := nI_clamp (by omega)
  refine va_iald hexec hb hK hP q0 t0 ha ht (vp_in_nI hi hn) hdg ?_
  rw [hc]
  exact kk
theorem fr_zald (hexec : p.tables.exec = Jvm.exec) (hb : c.code = cc) (hK : va_K D vwCl tys s) (hP : va_P D vwCl ws H) (q0 t0 : Nat) {cA : ClassId} {n : Nat} {f : Nat → Int32} (ha : ws[q0]? = some (a, .inl (cA, n, .inl f))) (ht : tys[t0]? = some (cA, .boolean)) {i : Nat} (hi : i < n) (hn : n < 2 ^ 31) (hdg : decode cc pc = .ok (.baload, 1))
    (kk : W p l e R s m args below meth c H locs cells slots Q (F0 m (pc + 1) ls (.int (f i) :: rest))) : W p l e R s m args below meth c H locs cells slots Q (F0 m pc ls (.int (nI i) :: .ref a :: rest)) := by
  have hc : (nI i).toNatClampNeg = i := nI_clamp (by omega)
  refine va_zald hexec hb hK hP q0 t0 ha ht (vp_in_nI hi hn) hdg ?_
  rw [hc]
  exact kk
theorem fr_last (hexec : p.tables.exec = Jvm.exec) (hb : c.code = cc) (hK : va_K D vwCl tys s) (hP : va_P D vwCl ws H) (hD : va_D A ws) (hS : va_S A H0 H locs) (q0 t0 : Nat) {cA : ClassId} {n : Nat} {f : Nat → Int64} (ha : ws[q0]? = some (a, .inl (cA, n, .inr (.inl f)))) (ht : tys[t0]? = some (cA, .long)) {i : Nat} {x : Int64} (hi : i < n) (hn : n < 2 ^ 31) (hdg : decode cc pc = .ok (.lastore, 1)) {ws2 : va_W} (hw : ws.set q0 (a, .inl (cA, n, .inr (.inl (vp_updL f i x)))) = ws2)
    (kk : ∀ (H1 : Heap) (locs1 : List Loc), va_P D vwCl ws2 H1 → va_S A H0 H1 locs1 → W p l e R s m args below meth c H1 locs1 cells slots Q (F0 m (pc + 1) ls rest)) : W p l e R s m args below meth c H locs cells slots Q (F0 m pc ls (.long x :: .int (nI i) :: .ref a :: rest)) := by
  have hc : (nI i).toNatClampNeg = i := nI_clamp (by omega)
  refine va_last hexec hb hK hP hD hS q0 t0 ha ht (vp_in_nI hi hn) hdg (fun H1 locs1 h1 _ h3 => ?_)
  rw [hc, hw] at h1
  exact kk H1 locs1 h1 h3
theorem fr_iast (hexec : p.tables.exec = Jvm.exec) (hb : c.code = cc) (hK : va_K D vwCl tys s) (hP : va_P D vwCl ws H) (hD : va_D A ws) (hS : va_S A H0 H locs) (q0 t0 : Nat) {cA : ClassId} {n : Nat} {f : Nat → Int32} (ha : ws[q0]? = some (a, .inl (cA, n, .inl f))) (ht : tys[t0]? = some (cA, .int)) {i : Nat} {x : Int32} (hi : i < n) (hn : n < 2 ^ 31) (hdg : decode cc pc = .ok (.iastore, 1)) {ws2 : va_W} (hw : ws.set q0 (a, .inl (cA, n, .inl (upd f i x))) = ws2)
    (kk : ∀ (H1 : Heap) (locs1 : List Loc), va_P D vwCl ws2 H1 → va_S A H0 H1 locs1 → W p l e R s m args below meth c H1 locs1 cells slots Q (F0 m (pc + 1) ls rest)) : W p l e R s m args below meth c H locs cells slots Q (F0 m pc ls (.int x :: .int (nI i) :: .ref a :: rest)) := by
  have hc : (nI i).toNatClampNeg = i := nI_clamp (by omega)
  refine va_iast hexec hb hK hP hD hS q0 t0 ha ht (vp_in_nI hi hn) hdg (fun H1 locs1 h1 _ h3 => ?_)
  rw [hc, hw] at h1
  exact kk H1 locs1 h1 h3
theorem fr_zast (hexec : p.tables.exec = Jvm.exec) (hb : c.code = cc) (hK : va_K D vwCl tys s) (hP : va_P D vwCl ws H) (hD : va_D A ws) (hS : va_S A H0 H locs) (q0 t0 : Nat) {cA : ClassId} {n : Nat} {f : Nat → Int32} (ha : ws[q0]? = some (a, .inl (cA, n, .inl f))) (ht : tys[t0]? = some (cA, .boolean)) {i : Nat} {x : Int32} (hi : i < n) (hn : n < 2 ^ 31) (hx : vp_nar .boolean x = x) (hdg : decode cc pc = .ok (.bastore, 1)) {ws2 : va_W} (hw : ws.set q0 (a, .inl (cA, n, .inl (upd f i x))) = ws2)
    (kk : ∀ (H1 : Heap) (locs1 : List Loc), va_P D vwCl ws2 H1 → va_S A H0 H1 locs1 → W p l e R s m args below meth c H1 locs1 cells slots Q (F0 m (pc + 1) ls rest)) : W p l e R s m args below meth c H locs cells slots Q (F0 m pc ls (.int x :: .int (nI i) :: .ref a :: rest)) := by
  have hc : (nI i).toNatClampNeg = i := nI_clamp (by omega)
  refine va_zast hexec hb hK hP hD hS q0 t0 ha ht (vp_in_nI hi hn) hdg (fun H1 locs1 h1 _ h3 => ?_)
  rw [hc, hx, hw] at h1
  exact kk H1 locs1 h1 h3
/-! calls -/
variable {y : MethodName} {bytes : ByteArray} {maxL nL n index : Nat} {ret : Option FieldType} {wsy : List Cond} {rm : Room} {Ts : List Cond} {own C : String} {As st0 : List Value} {E : State → Prop} {b : Nat} {q0 ci : Nat} {fs : List Value} {q : vw_C}
theorem fr_cVi {post : Int32 → Prop} (S : CallFix p m c cc nL s args Ts own) (hM : Met l y wsy rm (va_Pc (.ref b :: As) (fr_G D tys ws E)) (vp_Si post) 0 0 (fun _ => False)) (cw : CallW R s args own C index y bytes maxL ret wsy rm 0 0 n) (hK : va_K D vwCl tys s) (hP : va_P D vwCl ws H) (hc : vwCl[ci]? = some q) (hq : q.1 = C) (he : ws[q0]? = some (b, .inr (ci, fs)))
    (hE : ∀ U : State, U.heap = H → s.vm.Alike U.vm → E U) (hEb : ∀ (U : State) (g : JFrame) (mk : MethodId) (a : Array Value), E U → E (U.calling g mk a)) (hn : As.length = n) (hsize : ls.size = nL) (hst : st0 = As.reverse ++ .ref b :: rest) (hW : (rest.map fun v => v.category).sum ≤ 8) (hdg : decode cc pc = .ok (.invokevirtual index, 3)) (hf : cells ≤ R.cells ∧ slots ≤ R.slots)
    (kk : ∀ r, post r → W p l e R s m args below meth c H locs cells slots Q (F0 m (pc + 3) ls (.int r :: rest))) : W p l e R s m args below meth c H locs cells slots Q (F0 m pc ls st0) := by
  subst hst
  refine vp_callSi (W.runV S hM cw ⟨(fr_pre hK hP hE hEb).1, ?_, (fr_pre hK hP hE hEb).2⟩ rfl hn hsize rfl (lv_room hW) hdg hf) kk
  obtain ⟨cell, c1, c2, c3⟩ := va_recv hK hP hc he
  exact ⟨cell, c1, c2, by rw [← hq]; exact c3⟩
theorem fr_cVl {post : Int64 → Prop} (S : CallFix p m c cc nL s args Ts own) (hM : Met l y wsy rm (va_Pc (.ref b :: As) (fr_G D tys ws E)) (vp_Sl post) 0 0 (fun _ => False)) (cw : CallW R s args own C index y bytes maxL ret wsy rm 0 0 n) (hK : va_K D vwCl tys s) (hP : va_P D vwCl ws H) (hc : vwCl[ci]? = some q) (hq : q.1 = C) (he : ws[q0]? = some (b, .inr (ci, fs)))
    (hE : ∀ U : State, U.heap = H → s.vm.Alike U.vm → E U) (hEb : ∀ (U : State) (g : JFrame) (mk : MethodId) (a : Array Value), E U → E (U.calling g mk a)) (hn : As.length = n) (hsize : ls.size = nL) (hst : st0 = As.reverse ++ .ref b :: rest) (hW : (rest.map fun v => v.category).sum ≤ 8) (hdg : decode cc pc = .ok (.invokevirtual index, 3)) (hf : cells ≤ R.cells ∧ slots ≤ R.slots)
    (kk : ∀ r, post r → W p l e R s m args below meth c H locs cells slots Q (F0 m (pc + 3) ls (.long r :: rest))) : W p l e R s m args below meth c H locs cells slots Q (F0 m pc ls st0) := by
  subst hst
  refine vp_callSl (W.runV S hM cw ⟨(fr_pre hK hP hE hEb).1, ?_, (fr_pre hK hP hE hEb).2⟩ rfl hn hsize rfl (lv_room hW) hdg hf) kk
  obtain ⟨cell, c1, c2, c3⟩ := va_recv hK hP hc he
  exact ⟨cell, c1, c2, by rw [← hq]; exact c3⟩
theorem fr_cSi {post : Int32 → Prop} {Pc : Array Value → State → Prop} (S : CallFix p m c cc nL s args Ts own) (hM : Met l y wsy rm Pc (vp_Si post) 0 0 (fun _ => False)) (cw : CallB R s args own index y bytes maxL ret wsy rm 0 0 n ∧ (Cond.static y).before args s = true) (hp : PreS s H Pc As) (hn : As.length = n) (hsize : ls.size = nL) (hst : st0 = As.reverse ++ rest) (hW : (rest.map fun v => v.category).sum ≤ 8) (hdg : decode cc pc = .ok (.invokestatic index, 3)) (hf : cells ≤ R.cells ∧ slots ≤ R.slots)
    (kk : ∀ r, post r → W p l e R s m args below meth c H locs cells slots Q (F0 m (pc + 3) ls (.int r :: rest))) : W p l e R s m args below meth c H locs cells slots Q (F0 m pc ls st0) := by
  subst hst
  exact vp_callSi (W.runS S hM cw hp rfl hn hsize rfl (lv_room hW) hdg hf) kk
theorem fr_cSl {post : Int64 → Prop} {Pc : Array Value → State → Prop} (S : CallFix p m c cc nL s args Ts own) (hM : Met l y wsy rm Pc (vp_Sl post) 0 0 (fun _ => False)) (cw : CallB R s args own index y bytes maxL ret wsy rm 0 0 n ∧ (Cond.static y).before args s = true) (hp : PreS s H Pc As) (hn : As.length = n) (hsize : ls.size = nL) (hst : st0 = As.reverse ++ rest) (hW : (rest.map fun v => v.category).sum ≤ 8) (hdg : decode cc pc = .ok (.invokestatic index, 3)) (hf : cells ≤ R.cells ∧ slots ≤ R.slots)
    (kk : ∀ r, post r → W p l e R s m args below meth c H locs cells slots Q (F0 m (pc + 3) ls (.long r :: rest))) : W p l e R s m args below meth c H locs cells slots Q (F0 m pc ls st0) := by
  subst hst
  exact vp_callSl (W.runS S hM cw hp rfl hn hsize rfl (lv_room hW) hdg hf) kk
theorem fr_cVm {S0 : Type} {post : Int32 → S0 → Prop} {wf : S0 → va_W} {A0 : Nat → Prop} (S : CallFix p m c cc nL s args Ts own) (hM : Met l y wsy rm (va_Pc (.ref b :: As) (fr_G D tys ws E)) (va_Qi post (fun u t => va_P D vwCl (wf u) t.heap) A) 0 0 A) (cw : CallW R s args own C index y bytes maxL ret wsy rm 0 0 n) (hK : va_K D vwCl tys s) (hP : va_P D vwCl ws H) (hc : vwCl[ci]? = some q) (hq : q.1 = C) (he : ws[q0]? = some (b, .inr (ci, fs)))
    (hE : ∀ U : State, U.heap = H → s.vm.Alike U.vm → E U) (hEb : ∀ (U : State) (g : JFrame) (mk : MethodId) (a : Array Value), E U → E (U.calling g mk a)) (hn : As.length = n) (hsize : ls.size = nL) (hst : st0 = As.reverse ++ .ref b :: rest) (hW : (rest.map fun v => v.category).sum ≤ 8) (hdg : decode cc pc = .ok (.invokevirtual index, 3)) (hf : cells ≤ R.cells ∧ slots ≤ R.slots) (hA : ∀ q, A q → A0 q) (hS : va_S A0 H0 H locs)
    (kk : ∀ (r : Int32) (u : S0) (H1 : Heap) (locs1 : List Loc), post r u → va_P D vwCl (wf u) H1 → (∀ q : Nat, q < H.size → ¬ A q → H1[q]? = H[q]?) → va_S A0 H0 H1 locs1 → W p l e R s m args below meth c H1 locs1 cells slots Q (F0 m (pc + 3) ls (.int r :: rest))) : W p l e R s m args below meth c H locs cells slots Q (F0 m pc ls st0) := by
  subst hst
  refine va_calli (va_runV S hM cw ⟨(fr_pre hK hP hE hEb).1, ?_, (fr_pre hK hP hE hEb).2⟩ rfl hn hsize rfl (lv_room hW) hdg hf) hS (fun q _ h => hA q h) hA (fun r u t H1 locs1 ht _ hp hB _ hk hS1 => kk r u H1 locs1 hp (by rw [← ht]; exact hB) hk hS1)
  obtain ⟨cell, c1, c2, c3⟩ := va_recv hK hP hc he
  exact ⟨cell, c1, c2, by rw [← hq]; exact c3⟩
end FRW
end
section
/-! rows over the class's world -/
abbrev fr_U : Type := (Nat → Int64) × (Nat → Int32) × (Nat → Int32) × (Nat → Nat → Int64)
abbrev fr_xu (V : Nat) (ad : Nat → Nat) (ka : Nat → ClassId) (u : fr_U) : va_W := fr_xw V ad ka u.1 u.2.1 u.2.2.1 u.2.2.2
theorem fr_pwt : ∀ i, i < 8 → ∀ d, d < 3 → (nI i >>> (nI d &&& 31)) &&& 1 = fr_bi (i.testBit d) := by decide +kernel
theorem fr_tnx : ∀ i, i < 8 → ∀ d, d < 3 → nI i ^^^ ((1 : Int32) <<< (nI d &&& 31)) = nI (i ^^^ 2 ^ d) := by decide +kernel
theorem fr_ok5 {x : Int32} (h1 : ¬ x < 0) (h2 : ¬ 4 < x) : fr_ok x 5 := by
  refine ⟨h1, fun z => h2 ?_⟩
  rw [Int32.lt_iff_toInt_lt]
  rw [Int32.le_iff_toInt_le] at z
  have e1 : (nI 5).toInt = 5 := by decide
  have e2 : (4 : Int32).toInt = 4 := by decide
  omega
theorem fr_pre0 {s : State} {H : Heap} {As : List Value} : PreS s H (va_Pc As (fun _ => True)) As := ⟨fun _ _ _ _ q => ⟨q.1, trivial⟩, fun _ _ _ => ⟨rfl, trivial⟩⟩
theorem fr_preA {s : State} {H : Heap} {D : va_G} {tys : List (ClassId × FieldType)} {ws : va_W} {As : List Value} {q tq a n : Nat} {cA : ClassId} {g : Nat → Int64} (hK : va_K D vwCl tys s) (hP : va_P D vwCl ws H) (hq : ws[q]? = some (a, .inl (cA, n, .inr (.inl g)))) (htq : tys[tq]? = some (cA, .long)) : PreS s H (va_Pc As (fun U => va_P D vwCl [(a, .inl (cA, n, .inr (.inl g)))] U.heap ∧ va_K D vwCl [(cA, .long)] U)) As := by
  have hP1 := hP.sub (ws' := [(a, .inl (cA, n, .inr (.inl g)))]) [q] (by simp [hq])
  have hK1 := hK.sub (tys' := [(cA, .long)]) [tq] (by simp [htq])
  exact ⟨fun a U g mk q => ⟨q.1, q.2.1, va_K.moved (u := U) (U := U.calling g mk a) (Vm.Alike.refl U.vm) q.2.2⟩, fun U hU hW => ⟨rfl, by rw [hU]; exact hP1, va_K.moved hW.alike hK1⟩⟩
theorem fr_fin {V j : Nat} {F : fr_F} {ro : Nat → Nat → Int64} {f : Nat → Bool} {mk : Nat → Int64} {sp : Int32 × fr_F} (hV : V < 10) (hF : fr_XR V F ro) (hj : j < 32) (hR : fr_R V f mk) (hsp : sp = fr_set V F (nI j) f) : nI (fr_ct mk (fr_wn V)) = sp.1 ∧ fr_XR V sp.2 (va_up ro j (va_cpy mk (ro j) 0 0 (fr_wn V))) := by
  subst hsp
  refine ⟨by rw [fr_ct_R hV hR]; rfl, ?_⟩
  show fr_XR V (va_up F (fr_v (nI j)) f) _
  rw [fr_v_nI (by omega)]
  exact fr_XR_set hF hR
theorem fr_and4 {a b c d : Bool} (h : a = false ∨ b = false ∨ c = false ∨ d = false) : ¬ (a && b && c && d) = true := by
  rcases h with h | h | h | h <;> rw [h] <;> simp
theorem fr_and3 {a b c : Bool} (h : a = false ∨ b = false ∨ c = false) : ¬ (a && b && c) = true := by
  rcases h with h | h | h <;> rw [h] <;> simp
theorem fr_and2 {a b : Bool} (h : a = false ∨ b = false) : ¬ (a && b) = true := by
  rcases h with h | h <;> rw [h] <;> simp
section FRWX
variable {p : Program} {l : Launch} {e : Env} {R : Room} {s : State} {m : MethodId} {args : Array Value} {below : List Frame} {meth : Method} {c : Code} {H : Heap} {locs : List Loc} {cells slots : Nat} {Q : State → Prop}
variable {cc : ByteArray} {pc : Nat} {ls : Array Slot} {rest : List Value} {D : va_G} {H0 : Heap}
variable {V : Nat} {ad : Nat → Nat} {ka : Nat → ClassId} {mk : Nat → Int64} {nm pt : Nat → Int32} {ro : Nat → Nat → Int64} {bd : Nat → Nat} {kb : Nat → ClassId} {row made : Nat → Int32}
variable {y : MethodName} {bytes : ByteArray} {maxL nL n index : Nat} {ret : Option FieldType} {wsy : List Cond} {rm : Room} {Ts : List Cond} {own : String} {As st0 : List Value}
theorem fr_gen {ws : va_W} {A : Nat → Prop} {g : JFrame} (hP : va_P D vwCl ws s.heap) (k : ∀ (H : Heap) (locs : List Loc), va_P D vwCl ws H → va_S A s.heap H locs → W p l e R s m args below meth c H locs cells slots Q g) : W p l e R s m args below meth c s.heap [] cells slots Q g := k s.heap [] hP va_S.rf
theorem fr_gX {v : Value} {tys : List (ClassId × FieldType)} (k : Nat) (hexec : p.tables.exec = Jvm.exec) (hb : c.code = cc) (hw : ∀ w ∈ WA, w.before args s = true) (hown : s.vm.findClass "FunctionRoom" = some m.cls) (hK : va_K D vwCl tys s) (hP : va_P D vwCl (fr_xw V ad ka mk nm pt ro) H) (hk : k < 8) (hm : Cond.fieldLink "FunctionRoom" index "FunctionRoom" (TF k).2.1 (TF k).2.2.1 ∈ WA) (hv : [Value.int (nI V), .int (nI (2 ^ V)), .int (nI (fr_wn V)), .long (fr_pl V), .ref (ad 1), .ref (ad 2), .ref (ad 3), .ref (ad 4)][k]? = some v) (hdg : decode cc pc = .ok (.getfield index, 3))
    (kk : W p l e R s m args below meth c H locs cells slots Q (F0 m (pc + 3) ls (v :: rest))) : W p l e R s m args below meth c H locs cells slots Q (F0 m pc ls (.ref (ad 0) :: rest)) :=
  va_get (D := D) (ci := CIF) (C := "FunctionRoom") (T := TF) (N := 8) hexec hb hw hinF hown hK hP 0 rfl rfl k hk (hw _ hm) (fun x h9 => by rw [TF_decl k] at h9; exact h9) hv hdg kk
theorem fr_gM {v : Value} {tys : List (ClassId × FieldType)} (k : Nat) (hexec : p.tables.exec = Jvm.exec) (hb : c.code = cc) (hw : ∀ w ∈ WA, w.before args s = true) (hown : s.vm.findClass "FunctionRoomModel" = some m.cls) (hK : va_K D vwCl tys s) (hP : va_P D vwCl (fr_mw V bd kb row made) H) (hk : k < 4) (hm : Cond.fieldLink "FunctionRoomModel" index "FunctionRoomModel" (TM k).2.1 (TM k).2.2.1 ∈ WA) (hv : [Value.int (nI V), .int (nI (2 ^ V)), .ref (bd 1), .ref (bd 2)][k]? = some v) (hdg : decode cc pc = .ok (.getfield index, 3))
    (kk : W p l e R s m args below meth c H locs cells slots Q (F0 m (pc + 3) ls (v :: rest))) : W p l e R s m args below meth c H locs cells slots Q (F0 m pc ls (.ref (bd 0) :: rest)) :=
  va_get (D := D) (ci := CIM) (C := "FunctionRoomModel") (T := TM) (N := 4) hexec hb hw hinM hown hK hP 0 rfl rfl k hk (hw _ hm) (fun x h9 => by rw [TM_decl k] at h9; exact h9) hv hdg kk
theorem fr_Xi {post : Int32 → Prop} (S : CallFix p m c cc nL s args Ts own) (hM : Met l y wsy rm (va_Pc (.ref (ad 0) :: As) (fr_PX D V ad ka mk nm pt ro)) (vp_Si post) 0 0 (fun _ => False)) (cw : CallW R s args own "FunctionRoom" index y bytes maxL ret wsy rm 0 0 n) (hK : va_K D vwCl (fr_ty ka) s) (hP : va_P D vwCl (fr_xw V ad ka mk nm pt ro) H) (hT : fr_T ad s s.heap) (hS : va_S (fr_A ad) s.heap H locs)
    (hn : As.length = n) (hsize : ls.size = nL) (hst : st0 = As.reverse ++ .ref (ad 0) :: rest) (hW : (rest.map fun v => v.category).sum ≤ 8) (hdg : decode cc pc = .ok (.invokevirtual index, 3)) (hf : cells ≤ R.cells ∧ slots ≤ R.slots)
    (kk : ∀ r, post r → W p l e R s m args below meth c H locs cells slots Q (F0 m (pc + 3) ls (.int r :: rest))) : W p l e R s m args below meth c H locs cells slots Q (F0 m pc ls st0) :=
  fr_cVi (ci := CIF) (q0 := 0) S hM cw hK hP rfl rfl rfl (fr_T_at hT hS) fr_T_blind hn hsize hst hW hdg hf kk
theorem fr_Xl {post : Int64 → Prop} (S : CallFix p m c cc nL s args Ts own) (hM : Met l y wsy rm (va_Pc (.ref (ad 0) :: As) (fr_PX D V ad ka mk nm pt ro)) (vp_Sl post) 0 0 (fun _ => False)) (cw : CallW R s args own "FunctionRoom" index y bytes maxL ret wsy rm 0 0 n) (hK : va_K D vwCl (fr_ty ka) s) (hP : va_P D vwCl (fr_xw V ad ka mk nm pt ro) H) (hT : fr_T ad s s.heap) (hS : va_S (fr_A ad) s.heap H locs)
    (hn : As.length = n) (hsize : ls.size = nL) (hst : st0 = As.reverse ++ .ref (ad 0) :: rest) (hW : (rest.map fun v => v.category).sum ≤ 8) (hdg : decode cc pc = .ok (.invokevirtual index, 3)) (hf : cells ≤ R.cells ∧ slots ≤ R.slots)
    (kk : ∀ r, post r → W p l e R s m args below meth c H locs cells slots Q (F0 m (pc + 3) ls (.long r :: rest))) : W p l e R s m args below meth c H locs cells slots Q (F0 m pc ls st0) :=
  fr_cVl (ci := CIF) (q0 := 0) S hM cw hK hP rfl rfl rfl (fr_T_at hT hS) fr_T_blind hn hsize hst hW hdg hf kk
theorem fr_Xm {post : Int32 → fr_U → Prop} (S : CallFix p m c cc nL s args Ts own) (hM : Met l y wsy rm (va_Pc (.ref (ad 0) :: As) (fr_PX D V ad ka mk nm pt ro)) (va_Qi post (fun u t => va_P D vwCl (fr_xu V ad ka u) t.heap) (fr_A ad)) 0 0 (fr_A ad)) (cw : CallW R s args own "FunctionRoom" index y bytes maxL ret wsy rm 0 0 n) (hK : va_K D vwCl (fr_ty ka) s) (hP : va_P D vwCl (fr_xw V ad ka mk nm pt ro) H) (hT : fr_T ad s s.heap) (hS : va_S (fr_A ad) s.heap H locs)
    (hn : As.length = n) (hsize : ls.size = nL) (hst : st0 = As.reverse ++ .ref (ad 0) :: rest) (hW : (rest.map fun v => v.category).sum ≤ 8) (hdg : decode cc pc = .ok (.invokevirtual index, 3)) (hf : cells ≤ R.cells ∧ slots ≤ R.slots)
    (kk : ∀ (r : Int32) (u : fr_U) (H1 : Heap) (locs1 : List Loc), post r u → va_P D vwCl (fr_xu V ad ka u) H1 → va_S (fr_A ad) s.heap H1 locs1 → W p l e R s m args below meth c H1 locs1 cells slots Q (F0 m (pc + 3) ls (.int r :: rest))) : W p l e R s m args below meth c H locs cells slots Q (F0 m pc ls st0) :=
  fr_cVm (ci := CIF) (q0 := 0) S hM cw hK hP rfl rfl rfl (fr_T_at hT hS) fr_T_blind hn hsize hst hW hdg hf (fun _ h => h) hS (fun r u H1 locs1 h1 h2 _ h4 => kk r u H1 locs1 h1 h2 h4)
theorem fr_Mi {post : Int32 → Prop} (S : CallFix p m c cc nL s args Ts own) (hM : Met l y wsy rm (va_Pc (.ref (bd 0) :: As) (fr_PM D V bd kb row made)) (vp_Si post) 0 0 (fun _ => False)) (cw : CallW R s args own "FunctionRoomModel" index y bytes maxL ret wsy rm 0 0 n) (hK : va_K D vwCl (fr_mty kb) s) (hP : va_P D vwCl (fr_mw V bd kb row made) H)
    (hn : As.length = n) (hsize : ls.size = nL) (hst : st0 = As.reverse ++ .ref (bd 0) :: rest) (hW : (rest.map fun v => v.category).sum ≤ 8) (hdg : decode cc pc = .ok (.invokevirtual index, 3)) (hf : cells ≤ R.cells ∧ slots ≤ R.slots)
    (kk : ∀ r, post r → W p l e R s m args below meth c H locs cells slots Q (F0 m (pc + 3) ls (.int r :: rest))) : W p l e R s m args below meth c H locs cells slots Q (F0 m pc ls st0) :=
  fr_cVi (ci := CIM) (q0 := 0) S hM cw hK hP rfl rfl rfl (fun _ _ _ => trivial) (fun _ _ _ _ _ => trivial) hn hsize hst hW hdg hf kk
theorem fr_Mm {post : Int32 → (Nat → Int32) × (Nat → Int32) → Prop} (S : CallFix p m c cc nL s args Ts own) (hM : Met l y wsy rm (va_Pc (.ref (bd 0) :: As) (fr_PM D V bd kb row made)) (va_Qi post (fun u t => va_P D vwCl (fr_mw V bd kb u.1 u.2) t.heap) (fr_B bd)) 0 0 (fr_B bd)) (cw : CallW R s args own "FunctionRoomModel" index y bytes maxL ret wsy rm 0 0 n) (hK : va_K D vwCl (fr_mty kb) s) (hP : va_P D vwCl (fr_mw V bd kb row made) H) (hS : va_S (fr_B bd) s.heap H locs)
    (hn : As.length = n) (hsize : ls.size = nL) (hst : st0 = As.reverse ++ .ref (bd 0) :: rest) (hW : (rest.map fun v => v.category).sum ≤ 8) (hdg : decode cc pc = .ok (.invokevirtual index, 3)) (hf : cells ≤ R.cells ∧ slots ≤ R.slots)
    (kk : ∀ (r : Int32) (u : (Nat → Int32) × (Nat → Int32)) (H1 : Heap) (locs1 : List Loc), post r u → va_P D vwCl (fr_mw V bd kb u.1 u.2) H1 → va_S (fr_B bd) s.heap H1 locs1 → W p l e R s m args below meth c H1 locs1 cells slots Q (F0 m (pc + 3) ls (.int r :: rest))) : W p l e R s m args below meth c H locs cells slots Q (F0 m pc ls st0) :=
  fr_cVm (ci := CIM) (q0 := 0) S hM cw hK hP rfl rfl rfl (fun _ _ _ => trivial) (fun _ _ _ _ _ => trivial) hn hsize hst hW hdg hf (fun _ h => h) hS (fun r u H1 locs1 h1 h2 _ h4 => kk r u H1 locs1 h1 h2 h4)
end FRWX
theorem fr_upS {mk E : Nat → Int64} {i : Nat} {x : Int64} (hg : ∀ w, w < i → mk w = E w) (he : x = E i) : ∀ w, w < i + 1 → vp_updL mk i x w = E w := by
  intro w hw
  by_cases e : w = i
  · subst e
    rw [pk_uLs, he]
  · rw [pk_uLn e]
    exact hg w (by omega)
theorem fr_updS {nm E : Nat → Int32} {i : Nat} (hg : ∀ w, w < i → nm w = E w) : ∀ w, w < i + 1 → upd nm i (E i) w = E w := by
  intro w hw
  by_cases e : w = i
  · subst e
    rw [pk_us]
  · rw [pk_un e]
    exact hg w (by omega)
theorem fr_ltle {x y : Int32} (h : x < y) (z : y ≤ x) : False := by
  rw [Int32.lt_iff_toInt_lt] at h
  rw [Int32.le_iff_toInt_le] at z
  omega
theorem fr_nle {x : Int32} {n : Nat} (z : fr_ok x n) : x < nI n := by
  have h := z.2
  rw [Int32.le_iff_toInt_le] at h
  rw [Int32.lt_iff_toInt_lt]
  omega
theorem fr_gt4 {x : Int32} (z : fr_ok x 5) (h : 4 < x) : False := by
  obtain ⟨j, hj, rfl⟩ := fr_ok_ex (by decide) z
  have e1 : (nI j).toInt = (j : Int) := nI_toInt (by omega)
  have e2 : (4 : Int32).toInt = 4 := by decide
  rw [Int32.lt_iff_toInt_lt, e1, e2] at h
  omega
theorem fr_nor (a b : Nat) : nI a ||| nI b = nI (a ||| b) := by
  apply Int32.toBitVec_inj.1
  show BitVec.ofNat 32 a ||| BitVec.ofNat 32 b = BitVec.ofNat 32 (a ||| b)
  apply BitVec.eq_of_getLsbD_eq
  intro i hi
  simp [hi]
theorem fr_mtor {V i : Nat} {f : Nat → Bool} (he : fr_eqB V f (fun x => f (x ^^^ 2 ^ (V - 1 - i))) = false) : nI (fr_mt V f i) ||| nI (2 ^ i) = nI (fr_mt V f (i + 1)) := by
  rw [fr_nor, Nat.or_two_pow_eq_add_of_lt (fr_mt_lt V f i)]
  show _ = nI (fr_mt V f i + (if fr_eqB V f (fun x => f (x ^^^ 2 ^ (V - 1 - i))) = true then 0 else 2 ^ i))
  rw [he]
  rfl
theorem fr_part {a b : Nat} (ha : a < 1024) (hb : b < 1024) : (nI a <<< ((10 : Int32) &&& 31)) ||| nI b = nI (a * 1024 + b) := by
  rw [pk_shlN _ 10 (by decide) (by omega), fr_nor]
  congr 1
  have h := Nat.two_pow_add_eq_or_of_lt (i := 10) (b := b) hb a
  have e : a * 2 ^ 10 = 2 ^ 10 * a := Nat.mul_comm _ _
  rw [e, ← h]
theorem fr_decm (n : Nat) : nI n + Int32.ofInt (-1) = nI n - 1 := by
  apply Int32.toBitVec_inj.1
  show (nI n).toBitVec + (Int32.ofInt (-1)).toBitVec = (nI n).toBitVec - (1 : Int32).toBitVec
  rw [BitVec.sub_eq_add_neg]
  congr 1
end
section
/-! rows for the reference -/
theorem fr_bit {b : Bool} (h : ¬ fr_bi b = 0) : b = true := by
  cases b
  · exact absurd rfl h
  · rfl
theorem fr_bxor {a b : Bool} (h : ¬ fr_bi a = fr_bi b) : (a ^^ b) = true := by
  cases a <;> cases b <;> first | rfl | exact absurd rfl h
theorem fr_MRs {V j : Nat} {F : fr_F} {f : Nat → Bool} {row : Nat → Int32} (h1 : ∀ x, x < 2 ^ V → row (512 * j + x) = fr_bi (f x)) (h2 : ∀ q x, q < 32 → q ≠ j → x < 2 ^ V → row (512 * q + x) = fr_bi (F q x)) : fr_MR V (va_up F j f) row := by
  intro q x hq hx
  by_cases e : q = j
  · subst e
    rw [va_up_self]
    exact h1 x hx
  · rw [va_up_ne _ _ e]
    exact h2 q x hq e hx
theorem fr_updK {j i : Nat} {f : Nat → Bool} {row : Nat → Int32} (hg : ∀ x, x < i → row (512 * j + x) = fr_bi (f x)) : ∀ x, x < i + 1 → upd row (512 * j + i) (fr_bi (f i)) (512 * j + x) = fr_bi (f x) := by
  intro x hx
  by_cases e : x = i
  · subst e
    rw [pk_us]
  · rw [pk_un (by omega)]
    exact hg x (by omega)
theorem fr_updZ {made E : Nat → Int32} {i : Nat} {x : Int32} (hg : ∀ w, w < i → made w = E w) (he : x = E i) : ∀ w, w < i + 1 → upd made i x w = E w := by
  intro w hw
  by_cases e : w = i
  · subst e
    rw [pk_us, he]
  · rw [pk_un e]
    exact hg w (by omega)
theorem fr_ldm {what : Int32} : (what = -2 ↔ what.toInt = -2) ∧ (what = -1 ↔ what.toInt = -1) ∧ (what < -2 ↔ what.toInt < -2) ∧ (what < 0 ↔ what.toInt < 0) := by
  have e2 : (-2 : Int32).toInt = -2 := by decide
  have e1 : (-1 : Int32).toInt = -1 := by decide
  have e0 : (0 : Int32).toInt = 0 := by decide
  rw [← Int32.toInt_inj, ← Int32.toInt_inj, Int32.lt_iff_toInt_lt, Int32.lt_iff_toInt_lt, e2, e1, e0]
  exact ⟨Iff.rfl, Iff.rfl, Iff.rfl, Iff.rfl⟩
theorem fr_ld1 {what : Int32} {j V : Nat} (h : what < -2) : ¬ (fr_okB (nI j) 32 && (decide (what = -2) || decide (what = -1) || fr_okB what V)) = true := by
  obtain ⟨a, b, c, d⟩ := @fr_ldm what
  have h3 := c.mp h
  have n2 : ¬ what = -2 := fun z => by have := a.mp z; omega
  have n1 : ¬ what = -1 := fun z => by have := b.mp z; omega
  have n0 : what < 0 := d.mpr (by omega)
  rw [decide_eq_false n2, decide_eq_false n1, fr_okB_no (fun z => z.1 n0)]
  simp
theorem fr_ld2 {what : Int32} {j V : Nat} (h1 : ¬ what < -2) (h2 : ¬ what < nI V) (hV : V < 10 := by omega) : ¬ (fr_okB (nI j) 32 && (decide (what = -2) || decide (what = -1) || fr_okB what V)) = true := by
  obtain ⟨a, b, c, d⟩ := @fr_ldm what
  have e : (nI V).toInt = (V : Int) := nI_toInt (by omega)
  have h3 : (V : Int) ≤ what.toInt := by
    rw [Int32.lt_iff_toInt_lt, e] at h2
    omega
  have n2 : ¬ what = -2 := fun z => by have := a.mp z; omega
  have n1 : ¬ what = -1 := fun z => by have := b.mp z; omega
  have n0 : nI V ≤ what := by
    rw [Int32.le_iff_toInt_le, e]
    exact h3
  rw [decide_eq_false n2, decide_eq_false n1, fr_okB_no (fun z => z.2 n0)]
  simp
theorem fr_ld3 {what : Int32} {V : Nat} (h1 : ¬ what < -2) (h2 : what < nI V) (hV : V < 10) : ∃ fn : Nat → Bool, ((decide (what = -2) || decide (what = -1) || fr_okB what V) = true ∧ (if what = -2 then fun _ => false else if what = -1 then fun _ => true else fun x => x.testBit (V - 1 - fr_v what)) = fn) ∧
    ((what = -1 → fn = fun _ => true) ∧ (¬ what = -1 → what < 0 → fn = fun _ => false) ∧ (¬ what < 0 → ∃ k, k < V ∧ what = nI k ∧ fn = fun x => x.testBit (V - 1 - k))) := by
  obtain ⟨a, b, c, d⟩ := @fr_ldm what
  have e : (nI V).toInt = (V : Int) := nI_toInt (by omega)
  have h4 : what.toInt < V := by
    rw [Int32.lt_iff_toInt_lt, e] at h2
    exact h2
  by_cases q2 : what = -2
  · refine ⟨_, ⟨by rw [decide_eq_true q2]; simp, rfl⟩, fun z => ?_, fun _ _ => ?_, fun z => ?_⟩
    · have := a.mp q2; have := b.mp z; omega
    · rw [if_pos q2]
    · exact absurd (d.mpr (by have := a.mp q2; omega)) z
  · by_cases q1 : what = -1
    · refine ⟨_, ⟨by rw [decide_eq_true q1]; simp, rfl⟩, fun _ => ?_, fun z => absurd q1 z, fun z => ?_⟩
      · rw [if_neg q2, if_pos q1]
      · exact absurd (d.mpr (by have := b.mp q1; omega)) z
    · have n0 : ¬ what < 0 := fun z => by
        have z1 := d.mp z
        have z2 : ¬ what.toInt < -2 := fun y => h1 (c.mpr y)
        have z3 : ¬ what.toInt = -2 := fun y => q2 (a.mpr y)
        have z4 : ¬ what.toInt = -1 := fun y => q1 (b.mpr y)
        omega
      have ok : fr_ok what V := ⟨n0, fun z => by rw [Int32.le_iff_toInt_le, e] at z; omega⟩
      refine ⟨_, ⟨by rw [fr_okB_iff.mpr ok]; simp, rfl⟩, fun z => absurd z q1, fun _ z => absurd z n0, fun _ => ?_⟩
      obtain ⟨k, hk, rfl⟩ := fr_ok_ex (by omega) ok
      exact ⟨k, hk, rfl, by rw [if_neg q2, if_neg q1, fr_v_nI (by omega)]⟩
theorem fr_nand (a b : Nat) : nI a &&& nI b = nI (a &&& b) := by
  apply Int32.toBitVec_inj.1
  show BitVec.ofNat 32 a &&& BitVec.ofNat 32 b = BitVec.ofNat 32 (a &&& b)
  apply BitVec.eq_of_getLsbD_eq
  intro i hi
  simp [hi]
theorem fr_nxor (a b : Nat) : nI a ^^^ nI b = nI (a ^^^ b) := by
  apply Int32.toBitVec_inj.1
  show BitVec.ofNat 32 a ^^^ BitVec.ofNat 32 b = BitVec.ofNat 32 (a ^^^ b)
  apply BitVec.eq_of_getLsbD_eq
  intro i hi
  simp [hi]
theorem fr_and2p (i b : Nat) : i &&& 2 ^ b = if i.testBit b = true then 2 ^ b else 0 := by
  apply Nat.eq_of_testBit_eq
  intro k
  rw [Nat.testBit_and, Nat.testBit_two_pow]
  by_cases e : b = k
  · subst e
    cases i.testBit b <;> simp
  · rw [decide_eq_false e, Bool.and_false]
    split
    · rw [Nat.testBit_two_pow_of_ne e]
    · simp
theorem fr_tbz {i b : Nat} (hi : i < 512) : nI (i &&& 2 ^ b) = 0 ↔ i.testBit b = false := by
  have hle : i &&& 2 ^ b ≤ i := Nat.and_le_left
  rw [show (0 : Int32) = nI 0 from rfl, nI_eq (by omega) (by decide), fr_and2p]
  have := Nat.two_pow_pos b
  cases i.testBit b
  · simp
  · simp
theorem fr_tbn {i b : Nat} (hi : i < 512) (h : ¬ nI (i &&& 2 ^ b) = 0) : i.testBit b = true := by
  cases e : i.testBit b
  · exact absurd ((fr_tbz hi).mpr e) h
  · rfl
theorem fr_sbT : ∀ i, i < 512 → ∀ b, b < 9 → nI i ||| nI (2 ^ b) = nI (fr_sb i b true) := by decide +kernel
theorem fr_sbF : ∀ i, i < 512 → ∀ b, b < 9 → nI i &&& (nI (2 ^ b) ^^^ (-1)) = nI (fr_sb i b false) := by decide +kernel
theorem fr_bindeq {f : Nat → Bool} {x b : Nat} {all : Bool} : (if all = true then f x && f (x ^^^ 2 ^ b) else f x || f (x ^^^ 2 ^ b)) = if all = true then f (fr_sb x b true) && f (fr_sb x b false) else f (fr_sb x b true) || f (fr_sb x b false) := by
  unfold fr_sb
  cases x.testBit b
  · simp [Bool.and_comm, Bool.or_comm]
  · simp
theorem fr_mts {V i : Nat} {f : Nat → Bool} {sn : Bool} (h : sn = false ↔ ∀ y, y < 2 ^ V → f y = f (y ^^^ 2 ^ (V - 1 - i))) : fr_mt V f (i + 1) = fr_mt V f i + (if sn = true then 2 ^ i else 0) := by
  show fr_mt V f i + (if fr_eqB V f (fun x => f (x ^^^ 2 ^ (V - 1 - i))) = true then 0 else 2 ^ i) = _
  congr 1
  have e : fr_eqB V f (fun x => f (x ^^^ 2 ^ (V - 1 - i))) = true ↔ sn = false := by
    unfold fr_eqB
    rw [decide_eq_true_iff]
    exact h.symm
  cases sn
  · rw [if_pos (e.mpr rfl)]
    rfl
  · rw [if_neg (fun z => absurd (e.mp z) (by decide))]
    rfl
theorem fr_mto {m i : Nat} (h : m < 2 ^ i) (sn : Bool) : nI (m + (if sn = true then 2 ^ i else 0)) ||| nI (2 ^ i) = nI (m + (if true = true then 2 ^ i else 0)) := by
  rw [fr_nor]
  congr 1
  rw [if_pos rfl, ← Nat.or_two_pow_eq_add_of_lt h]
  cases sn
  · simp
  · rw [if_pos rfl, ← Nat.or_two_pow_eq_add_of_lt h, Nat.or_assoc, Nat.or_self]
theorem fr_half {V i wd : Nat} (hwd : wd = 2 ^ (V - i)) (hi : i < V) : wd = 2 * (wd / 2) ∧ 0 < wd / 2 := by
  have e : V - i = (V - i - 1) + 1 := by omega
  have hp := Nat.two_pow_pos (V - i - 1)
  rw [e, Nat.pow_succ] at hwd
  omega
theorem fr_shrt : ∀ V, V < 10 → ∀ i, i < V → nI (2 ^ V) >>> (nI i &&& 31) = nI (2 ^ (V - i)) := by decide +kernel
theorem fr_shrp (V i : Nat) (hV : V < 10) (hi : i < V) : nI (2 ^ V) >>> (nI i &&& 31) = nI (2 ^ (V - i)) := fr_shrt V hV i hi
end
section
set_option maxHeartbeats 4000000 in
set_option maxRecDepth 100000 in
theorem cL_bitCount (l : Launch) (x : Int64) : Met l yJ13_bitCount_95d88 wsL_bitCount rmL_bitCount (va_Pc [.long x] (fun _ => True)) (vp_Si (fun b => b = nI (fr_po (uN x) 64))) 0 0 (fun _ => False) := by
  refine Met.ofW (cc := cJ13_bitCount_95d88) (maxL := 2) (ret := some .int) (by decide) rfl ?_
  intro p e s m args below meth c s₁ B hml hv
  obtain ⟨rfl, hv⟩ := hv
  have hx := B.exec
  have hb := B.bytes
  have hret := B.returns
  have hw := fun w (h : w ∈ WA) => atoms_spec (ws := wsL_bitCount) B.pre w (List.mem_cons_of_mem _ h)
  have hown : s.vm.findClass "java/lang/Long" = some m.cls := findClass_of_methodNamed B.named
  have hlocks := B.notSynchronized
  have hS0 : CallFix p m c cJ13_bitCount_95d88 2 s _ WA "java/lang/Long" := ⟨hx, hb, hml, hown, hw⟩
  have hl := lv_entry ([.long x]) (n := 2) (Nat.le_of_ble_eq_true rfl)
  rw [lg_entry_eq]
  generalize (lg_sl ([.long x]) ++ List.replicate (2 - (lg_sl ([.long x])).length) Slot.unset).toArray = ls at hl ⊢
  replace hl : lv_has ls 2 [(0, .long x)] := hl
  refine lv_lload_n hx hb dJ13_bitCount_95d88_0 rfl (lv_at hl 0 rfl) ?_
  refine lv_lload_n hx hb dJ13_bitCount_95d88_1 rfl (lv_at hl 0 rfl) ?_
  refine lv_iconst (v := 1) hx hb dJ13_bitCount_95d88_2 (by decide) ?_
  refine lv_lushr hx hb dJ13_bitCount_95d88_3 rfl ?_
  refine lv_ldc2 (v := 6148914691236517205) hx hb hown (hw _ mC_L_316) dJ13_bitCount_95d88_4 ?_
  refine lv_land hx hb dJ13_bitCount_95d88_7 ?_
  refine lv_lsub hx hb dJ13_bitCount_95d88_8 ?_
  refine lv_topl (fun x1 e1 => ?_)
  refine lv_lstore_n hx hb dJ13_bitCount_95d88_9 rfl hl (by decide) rfl (fun ls hl => ?_)
  replace hl : lv_has ls 2 [(0, .long x1)] := hl
  refine lv_lload_n hx hb dJ13_bitCount_95d88_10 rfl (lv_at hl 0 rfl) ?_
  refine lv_ldc2 (v := 3689348814741910323) hx hb hown (hw _ mC_L_318) dJ13_bitCount_95d88_11 ?_
  refine lv_land hx hb dJ13_bitCount_95d88_14 ?_
  refine lv_lload_n hx hb dJ13_bitCount_95d88_15 rfl (lv_at hl 0 rfl) ?_
  refine lv_iconst (v := 2) hx hb dJ13_bitCount_95d88_16 (by decide) ?_
  refine lv_lushr hx hb dJ13_bitCount_95d88_17 rfl ?_
  refine lv_ldc2 (v := 3689348814741910323) hx hb hown (hw _ mC_L_318) dJ13_bitCount_95d88_18 ?_
  refine lv_land hx hb dJ13_bitCount_95d88_21 ?_
  refine lv_ladd hx hb dJ13_bitCount_95d88_22 ?_
  refine lv_topl (fun x2 e2 => ?_)
  refine lv_lstore_n hx hb dJ13_bitCount_95d88_23 rfl hl (by decide) rfl (fun ls hl => ?_)
  replace hl : lv_has ls 2 [(0, .long x2)] := hl
  refine lv_lload_n hx hb dJ13_bitCount_95d88_24 rfl (lv_at hl 0 rfl) ?_
  refine lv_lload_n hx hb dJ13_bitCount_95d88_25 rfl (lv_at hl 0 rfl) ?_
  refine lv_iconst (v := 4) hx hb dJ13_bitCount_95d88_26 (by decide) ?_
  refine lv_lushr hx hb dJ13_bitCount_95d88_27 rfl ?_
  refine lv_ladd hx hb dJ13_bitCount_95d88_28 ?_
  refine lv_ldc2 (v := 1085102592571150095) hx hb hown (hw _ mC_L_320) dJ13_bitCount_95d88_29 ?_
  refine lv_land hx hb dJ13_bitCount_95d88_32 ?_
  refine lv_topl (fun x3 e3 => ?_)
  refine lv_lstore_n hx hb dJ13_bitCount_95d88_33 rfl hl (by decide) rfl (fun ls hl => ?_)
  replace hl : lv_has ls 2 [(0, .long x3)] := hl
  refine lv_lload_n hx hb dJ13_bitCount_95d88_34 rfl (lv_at hl 0 rfl) ?_
  refine lv_lload_n hx hb dJ13_bitCount_95d88_35 rfl (lv_at hl 0 rfl) ?_
  refine lv_bipush (v := 8) hx hb dJ13_bitCount_95d88_36 (by decide) ?_
  refine lv_lushr hx hb dJ13_bitCount_95d88_38 rfl ?_
  refine lv_ladd hx hb dJ13_bitCount_95d88_39 ?_
  refine lv_topl (fun x4 e4 => ?_)
  refine lv_lstore_n hx hb dJ13_bitCount_95d88_40 rfl hl (by decide) rfl (fun ls hl => ?_)
  replace hl : lv_has ls 2 [(0, .long x4)] := hl
  refine lv_lload_n hx hb dJ13_bitCount_95d88_41 rfl (lv_at hl 0 rfl) ?_
  refine lv_lload_n hx hb dJ13_bitCount_95d88_42 rfl (lv_at hl 0 rfl) ?_
  refine lv_bipush (v := 16) hx hb dJ13_bitCount_95d88_43 (by decide) ?_
  refine lv_lushr hx hb dJ13_bitCount_95d88_45 rfl ?_
  refine lv_ladd hx hb dJ13_bitCount_95d88_46 ?_
  refine lv_topl (fun x5 e5 => ?_)
  refine lv_lstore_n hx hb dJ13_bitCount_95d88_47 rfl hl (by decide) rfl (fun ls hl => ?_)
  replace hl : lv_has ls 2 [(0, .long x5)] := hl
  refine lv_lload_n hx hb dJ13_bitCount_95d88_48 rfl (lv_at hl 0 rfl) ?_
  refine lv_lload_n hx hb dJ13_bitCount_95d88_49 rfl (lv_at hl 0 rfl) ?_
  refine lv_bipush (v := 32) hx hb dJ13_bitCount_95d88_50 (by decide) ?_
  refine lv_lushr hx hb dJ13_bitCount_95d88_52 rfl ?_
  refine lv_ladd hx hb dJ13_bitCount_95d88_53 ?_
  refine lv_topl (fun x6 e6 => ?_)
  refine lv_lstore_n hx hb dJ13_bitCount_95d88_54 rfl hl (by decide) rfl (fun ls hl => ?_)
  replace hl : lv_has ls 2 [(0, .long x6)] := hl
  refine lv_lload_n hx hb dJ13_bitCount_95d88_55 rfl (lv_at hl 0 rfl) ?_
  refine lv_l2i hx hb dJ13_bitCount_95d88_56 rfl ?_
  refine lv_bipush (v := 127) hx hb dJ13_bitCount_95d88_57 (by decide) ?_
  refine lv_iand hx hb dJ13_bitCount_95d88_59 ?_
  refine fr_top (show (((x6).toInt32 &&& 127) : Int32) = nI (fr_po (uN x) 64) from fr_bitCount x x1 x2 x3 x4 x5 x6 e1 e2 e3 e4 e5 e6) ?_
  exact W.iret (v := nI (fr_po (uN x) 64)) hx hb hret (fun t ht hW => ⟨_, rfl, rfl, ht⟩) (fun q hq => by cases hq) dJ13_bitCount_95d88_60
set_option maxHeartbeats 4000000 in
set_option maxRecDepth 100000 in
theorem cF_isRegister (l : Launch) (r : Int32) : Met l yX0_isRegister wsF_isRegister rmF_isRegister (va_Pc [.int r] (fun _ => True)) (vp_Si (fun b => (b = 1 ∧ fr_ok r 32) ∨ (b = 0 ∧ ¬ fr_ok r 32))) 0 0 (fun _ => False) := by
  refine Met.ofW (cc := cX0_isRegister) (maxL := 1) (ret := some .boolean) (by decide) rfl ?_
  intro p e s m args below meth c s₁ B hml hv
  obtain ⟨rfl, hv⟩ := hv
  have hx := B.exec
  have hb := B.bytes
  have hret := B.returns
  have hw := fun w (h : w ∈ WA) => atoms_spec (ws := wsF_isRegister) B.pre w (List.mem_cons_of_mem _ h)
  have hown : s.vm.findClass "FunctionRoom" = some m.cls := findClass_of_methodNamed B.named
  have hlocks := B.notSynchronized
  have hS0 : CallFix p m c cX0_isRegister 1 s _ WA "FunctionRoom" := ⟨hx, hb, hml, hown, hw⟩
  have hl := lv_entry ([.int r]) (n := 1) (Nat.le_of_ble_eq_true rfl)
  rw [lg_entry_eq]
  generalize (lg_sl ([.int r]) ++ List.replicate (1 - (lg_sl ([.int r])).length) Slot.unset).toArray = ls at hl ⊢
  replace hl : lv_has ls 1 [(0, .int r)] := hl
  refine lv_iload_n hx hb dX0_isRegister_0 rfl (lv_at hl 0 rfl) ?_
  refine lv_if_lt (tgt := 14) hx hb dX0_isRegister_1 rfl (fun h1 => ?_) (fun h1 => ?_)
  ·
    refine lv_iconst (v := 0) hx hb dX0_isRegister_14 (by decide) ?_
    exact W.zret (v := 0) hx hb hret rfl (fun t ht hW => ⟨_, rfl, Or.inr ⟨rfl, fun z => z.1 h1⟩, ht⟩) (fun q hq => by cases hq) dX0_isRegister_15
  ·
    refine lv_iload_n hx hb dX0_isRegister_4 rfl (lv_at hl 0 rfl) ?_
    refine lv_bipush (v := 32) hx hb dX0_isRegister_5 (by decide) ?_
    refine lv_icmp_ge (tgt := 14) hx hb dX0_isRegister_7 rfl (fun h2 => ?_) (fun h2 => ?_)
    ·
      refine lv_iconst (v := 0) hx hb dX0_isRegister_14 (by decide) ?_
      exact W.zret (v := 0) hx hb hret rfl (fun t ht hW => ⟨_, rfl, Or.inr ⟨rfl, fun z => z.2 h2⟩, ht⟩) (fun q hq => by cases hq) dX0_isRegister_15
    ·
      refine lv_iconst (v := 1) hx hb dX0_isRegister_10 (by decide) ?_
      refine lv_goto (tgt := 15) hx hb dX0_isRegister_11 rfl ?_
      exact W.zret (v := 1) hx hb hret rfl (fun t ht hW => ⟨_, rfl, Or.inl ⟨rfl, h1, h2⟩, ht⟩) (fun q hq => by cases hq) dX0_isRegister_15
set_option maxHeartbeats 4000000 in
set_option maxRecDepth 100000 in
theorem cF_isVariable (l : Launch) (D : va_G) (V : Nat) (ad : Nat → Nat) (ka : Nat → ClassId) (mk : Nat → Int64) (nm pt : Nat → Int32) (ro : Nat → Nat → Int64) (v : Int32) : Met l yX0_isVariable wsF_isVariable rmF_isVariable (va_Pc [.ref (ad 0), .int v] (fr_PX D V ad ka mk nm pt ro)) (vp_Si (fun b => (b = 1 ∧ fr_ok v V) ∨ (b = 0 ∧ ¬ fr_ok v V))) 0 0 (fun _ => False) := by
  refine Met.ofW (cc := cX0_isVariable) (maxL := 2) (ret := some .boolean) (by decide) rfl ?_
  intro p e s m args below meth c s₁ B hml hv
  obtain ⟨rfl, hP, hK, hT⟩ := hv
  have hx := B.exec
  have hb := B.bytes
  have hret := B.returns
  have hw := fun w (h : w ∈ WA) => atoms_spec (ws := wsF_isVariable) B.pre w (List.mem_cons_of_mem _ h)
  have hown : s.vm.findClass "FunctionRoom" = some m.cls := findClass_of_methodNamed B.named
  have hlocks := B.notSynchronized
  have hS0 : CallFix p m c cX0_isVariable 2 s _ WA "FunctionRoom" := ⟨hx, hb, hml, hown, hw⟩
  have hl := lv_entry ([.ref (ad 0), .int v]) (n := 2) (Nat.le_of_ble_eq_true rfl)
  rw [lg_entry_eq]
  generalize (lg_sl ([.ref (ad 0), .int v]) ++ List.replicate (2 - (lg_sl ([.ref (ad 0), .int v])).length) Slot.unset).toArray = ls at hl ⊢
  replace hl : lv_has ls 2 [(0, .ref (ad 0)), (1, .int v)] := hl
  refine lv_iload_n hx hb dX0_isVariable_0 rfl (lv_at hl 1 rfl) ?_
  refine lv_if_lt (tgt := 16) hx hb dX0_isVariable_1 rfl (fun h1 => ?_) (fun h1 => ?_)
  ·
    refine lv_iconst (v := 0) hx hb dX0_isVariable_16 (by decide) ?_
    exact W.zret (v := 0) hx hb hret rfl (fun t ht hW => ⟨_, rfl, Or.inr ⟨rfl, fun z => z.1 h1⟩, ht⟩) (fun q hq => by cases hq) dX0_isVariable_17
  ·
    refine lv_iload_n hx hb dX0_isVariable_4 rfl (lv_at hl 1 rfl) ?_
    refine lv_aload_n hx hb dX0_isVariable_5 rfl (lv_at hl 0 rfl) ?_
    refine fr_gX 0 hx hb hw hown hK hP (by decide) mF_variables rfl dX0_isVariable_6 ?_
    refine lv_icmp_ge (tgt := 16) hx hb dX0_isVariable_9 rfl (fun h2 => ?_) (fun h2 => ?_)
    ·
      refine lv_iconst (v := 0) hx hb dX0_isVariable_16 (by decide) ?_
      exact W.zret (v := 0) hx hb hret rfl (fun t ht hW => ⟨_, rfl, Or.inr ⟨rfl, fun z => z.2 h2⟩, ht⟩) (fun q hq => by cases hq) dX0_isVariable_17
    ·
      refine lv_iconst (v := 1) hx hb dX0_isVariable_12 (by decide) ?_
      refine lv_goto (tgt := 17) hx hb dX0_isVariable_13 rfl ?_
      exact W.zret (v := 1) hx hb hret rfl (fun t ht hW => ⟨_, rfl, Or.inl ⟨rfl, h1, h2⟩, ht⟩) (fun q hq => by cases hq) dX0_isVariable_17
set_option maxHeartbeats 4000000 in
set_option maxRecDepth 100000 in
theorem cF_bitOf (l : Launch) (D : va_G) (V : Nat) (ad : Nat → Nat) (ka : Nat → ClassId) (mk : Nat → Int64) (nm pt : Nat → Int32) (ro : Nat → Nat → Int64) (k : Nat) (hk : k < V) (hV : V < 10) : Met l yX0_bitOf wsF_bitOf rmF_bitOf (va_Pc [.ref (ad 0), .int (nI k)] (fr_PX D V ad ka mk nm pt ro)) (vp_Si (fun b => b = nI (V - 1 - k))) 0 0 (fun _ => False) := by
  refine Met.ofW (cc := cX0_bitOf) (maxL := 2) (ret := some .int) (by decide) rfl ?_
  intro p e s m args below meth c s₁ B hml hv
  obtain ⟨rfl, hP, hK, hT⟩ := hv
  have hx := B.exec
  have hb := B.bytes
  have hret := B.returns
  have hw := fun w (h : w ∈ WA) => atoms_spec (ws := wsF_bitOf) B.pre w (List.mem_cons_of_mem _ h)
  have hown : s.vm.findClass "FunctionRoom" = some m.cls := findClass_of_methodNamed B.named
  have hlocks := B.notSynchronized
  have hS0 : CallFix p m c cX0_bitOf 2 s _ WA "FunctionRoom" := ⟨hx, hb, hml, hown, hw⟩
  have hl := lv_entry ([.ref (ad 0), .int (nI k)]) (n := 2) (Nat.le_of_ble_eq_true rfl)
  rw [lg_entry_eq]
  generalize (lg_sl ([.ref (ad 0), .int (nI k)]) ++ List.replicate (2 - (lg_sl ([.ref (ad 0), .int (nI k)])).length) Slot.unset).toArray = ls at hl ⊢
  replace hl : lv_has ls 2 [(0, .ref (ad 0)), (1, .int (nI k))] := hl
  refine lv_aload_n hx hb dX0_bitOf_0 rfl (lv_at hl 0 rfl) ?_
  refine fr_gX 0 hx hb hw hown hK hP (by decide) mF_variables rfl dX0_bitOf_1 ?_
  refine lv_iconst (v := 1) hx hb dX0_bitOf_4 (by decide) ?_
  refine lv_isub hx hb dX0_bitOf_5 ?_
  refine lv_iload_n hx hb dX0_bitOf_6 rfl (lv_at hl 1 rfl) ?_
  refine lv_isub hx hb dX0_bitOf_7 ?_
  refine fr_top (show (((nI V - 1) - nI k) : Int32) = nI (V - 1 - k) from by rw [show (1 : Int32) = nI 1 from rfl, pk_sub (by omega), pk_sub (by omega)]) ?_
  exact W.iret (v := nI (V - 1 - k)) hx hb hret (fun t ht hW => ⟨_, rfl, rfl, ht⟩) (fun q hq => by cases hq) dX0_bitOf_8
set_option maxHeartbeats 4000000 in
set_option maxRecDepth 100000 in
theorem cF_valueAt (l : Launch) (D : va_G) (a : Nat) (cA : ClassId) (n : Nat) (g : Nat → Int64) (x : Nat) (hx5 : x < 512) (hx6 : x / 64 < n) (hn : n < 2 ^ 31) : Met l yX0_valueAt wsF_valueAt rmF_valueAt (va_Pc [.ref a, .int (nI x)] (fun U => va_P D vwCl [(a, .inl (cA, n, .inr (.inl g)))] U.heap ∧ va_K D vwCl [(cA, .long)] U)) (vp_Si (fun b => b = fr_bi (fr_b (g (x / 64)) (x % 64)))) 0 0 (fun _ => False) := by
  refine Met.ofW (cc := cX0_valueAt) (maxL := 2) (ret := some .int) (by decide) rfl ?_
  intro p e s m args below meth c s₁ B hml hv
  obtain ⟨rfl, hv⟩ := hv
  have hx := B.exec
  have hb := B.bytes
  have hret := B.returns
  have hw := fun w (h : w ∈ WA) => atoms_spec (ws := wsF_valueAt) B.pre w (List.mem_cons_of_mem _ h)
  have hown : s.vm.findClass "FunctionRoom" = some m.cls := findClass_of_methodNamed B.named
  have hlocks := B.notSynchronized
  have hS0 : CallFix p m c cX0_valueAt 2 s _ WA "FunctionRoom" := ⟨hx, hb, hml, hown, hw⟩
  have hl := lv_entry ([.ref a, .int (nI x)]) (n := 2) (Nat.le_of_ble_eq_true rfl)
  rw [lg_entry_eq]
  generalize (lg_sl ([.ref a, .int (nI x)]) ++ List.replicate (2 - (lg_sl ([.ref a, .int (nI x)])).length) Slot.unset).toArray = ls at hl ⊢
  replace hl : lv_has ls 2 [(0, .ref a), (1, .int (nI x))] := hl
  obtain ⟨hP, hK⟩ := hv
  refine lv_aload_n hx hb dX0_valueAt_0 rfl (lv_at hl 0 rfl) ?_
  refine lv_iload_n hx hb dX0_valueAt_1 rfl (lv_at hl 1 rfl) ?_
  refine lv_bipush (v := 6) hx hb dX0_valueAt_2 (by decide) ?_
  refine lv_ishr hx hb dX0_valueAt_4 ?_
  refine fr_top (show ((nI x >>> (6 &&& 31)) : Int32) = nI (x / 64) from by rw [pk_shrN (by omega) _ 6 (by decide)]) ?_
  refine fr_lald hx hb hK hP 0 0 rfl rfl hx6 hn dX0_valueAt_5 ?_
  refine lv_iload_n hx hb dX0_valueAt_6 rfl (lv_at hl 1 rfl) ?_
  refine lv_lushr hx hb dX0_valueAt_7 rfl ?_
  refine lv_l2i hx hb dX0_valueAt_8 rfl ?_
  refine lv_iconst (v := 1) hx hb dX0_valueAt_9 (by decide) ?_
  refine lv_iand hx hb dX0_valueAt_10 ?_
  refine fr_top (show ((((((g (x / 64))).toUInt64 >>> ((nI x).toInt64.toUInt64 &&& Int64.toUInt64 63)).toInt64).toInt32 &&& 1) : Int32) = fr_bi (fr_b (g (x / 64)) (x % 64)) from fr_valueAt _ (by omega)) ?_
  exact W.iret (v := fr_bi (fr_b (g (x / 64)) (x % 64))) hx hb hret (fun t ht hW => ⟨_, rfl, rfl, ht⟩) (fun q hq => by cases hq) dX0_valueAt_11
set_option maxHeartbeats 4000000 in
set_option maxRecDepth 100000 in
theorem cF_combined (l : Launch) (o : Nat) (x y : Int64) (ho : o < 5) : Met l yX0_combined wsF_combined rmF_combined (va_Pc [.int (nI o), .long x, .long y] (fun _ => True)) (vp_Sl (fun b => b = fr_cb o x y)) 0 0 (fun _ => False) := by
  refine Met.ofW (cc := cX0_combined) (maxL := 5) (ret := some .long) (by decide) rfl ?_
  intro p e s m args below meth c s₁ B hml hv
  obtain ⟨rfl, hv⟩ := hv
  have hx := B.exec
  have hb := B.bytes
  have hret := B.returns
  have hw := fun w (h : w ∈ WA) => atoms_spec (ws := wsF_combined) B.pre w (List.mem_cons_of_mem _ h)
  have hown : s.vm.findClass "FunctionRoom" = some m.cls := findClass_of_methodNamed B.named
  have hlocks := B.notSynchronized
  have hS0 : CallFix p m c cX0_combined 5 s _ WA "FunctionRoom" := ⟨hx, hb, hml, hown, hw⟩
  have hl := lv_entry ([.int (nI o), .long x, .long y]) (n := 5) (Nat.le_of_ble_eq_true rfl)
  rw [lg_entry_eq]
  generalize (lg_sl ([.int (nI o), .long x, .long y]) ++ List.replicate (5 - (lg_sl ([.int (nI o), .long x, .long y])).length) Slot.unset).toArray = ls at hl ⊢
  replace hl : lv_has ls 5 [(0, .int (nI o)), (1, .long x), (3, .long y)] := hl
  refine lv_iload_n hx hb dX0_combined_0 rfl (lv_at hl 0 rfl) ?_
  have hi : (nI o).toInt = (o : Int) := nI_toInt (by omega)
  rcases (show o = 0 ∨ o = 1 ∨ o = 2 ∨ o = 3 ∨ o = 4 by omega) with rfl | rfl | rfl | rfl | rfl
  ·
    refine lv_tableIn (tgt := 32) hx hb dX0_combined_1 (by rw [hi]; decide) (by rw [hi]; decide) (by rw [hi]; rfl) rfl ?_
    refine lv_lload_n hx hb dX0_combined_32 rfl (lv_at hl 1 rfl) ?_
    refine lv_lload_n hx hb dX0_combined_33 rfl (lv_at hl 2 rfl) ?_
    refine lv_land hx hb dX0_combined_34 ?_
    exact W.lret (v := (x &&& y)) hx hb hret (fun t ht hW => ⟨_, rfl, rfl, ht⟩) (fun q hq => by cases hq) dX0_combined_35
  ·
    refine lv_tableIn (tgt := 36) hx hb dX0_combined_1 (by rw [hi]; decide) (by rw [hi]; decide) (by rw [hi]; rfl) rfl ?_
    refine lv_lload_n hx hb dX0_combined_36 rfl (lv_at hl 1 rfl) ?_
    refine lv_lload_n hx hb dX0_combined_37 rfl (lv_at hl 2 rfl) ?_
    refine lv_lor hx hb dX0_combined_38 ?_
    exact W.lret (v := (x ||| y)) hx hb hret (fun t ht hW => ⟨_, rfl, rfl, ht⟩) (fun q hq => by cases hq) dX0_combined_39
  ·
    refine lv_tableIn (tgt := 40) hx hb dX0_combined_1 (by rw [hi]; decide) (by rw [hi]; decide) (by rw [hi]; rfl) rfl ?_
    refine lv_lload_n hx hb dX0_combined_40 rfl (lv_at hl 1 rfl) ?_
    refine lv_lload_n hx hb dX0_combined_41 rfl (lv_at hl 2 rfl) ?_
    refine lv_lxor hx hb dX0_combined_42 ?_
    exact W.lret (v := (x ^^^ y)) hx hb hret (fun t ht hW => ⟨_, rfl, rfl, ht⟩) (fun q hq => by cases hq) dX0_combined_43
  ·
    refine lv_tableIn (tgt := 44) hx hb dX0_combined_1 (by rw [hi]; decide) (by rw [hi]; decide) (by rw [hi]; rfl) rfl ?_
    refine lv_lload_n hx hb dX0_combined_44 rfl (lv_at hl 1 rfl) ?_
    refine lv_lload_n hx hb dX0_combined_45 rfl (lv_at hl 2 rfl) ?_
    refine lv_ldc2 (v := (-1)) hx hb hown (hw _ mC_F_28) dX0_combined_46 ?_
    refine lv_lxor hx hb dX0_combined_49 ?_
    refine lv_land hx hb dX0_combined_50 ?_
    exact W.lret (v := (x &&& (y ^^^ (-1)))) hx hb hret (fun t ht hW => ⟨_, rfl, rfl, ht⟩) (fun q hq => by cases hq) dX0_combined_51
  ·
    refine lv_tableOut (tgt := 52) hx hb dX0_combined_1 (by rw [hi]; decide) rfl ?_
    refine lv_lload_n hx hb dX0_combined_52 rfl (lv_at hl 1 rfl) ?_
    refine lv_ldc2 (v := (-1)) hx hb hown (hw _ mC_F_28) dX0_combined_53 ?_
    refine lv_lxor hx hb dX0_combined_56 ?_
    refine lv_lload_n hx hb dX0_combined_57 rfl (lv_at hl 2 rfl) ?_
    refine lv_lor hx hb dX0_combined_58 ?_
    exact W.lret (v := ((x ^^^ (-1)) ||| y)) hx hb hret (fun t ht hW => ⟨_, rfl, rfl, ht⟩) (fun q hq => by cases hq) dX0_combined_59
set_option maxHeartbeats 4000000 in
set_option maxRecDepth 100000 in
theorem cF_placesWhereOne (l : Launch) (D : va_G) (V : Nat) (ad : Nat → Nat) (ka : Nat → ClassId) (mk : Nat → Int64) (nm pt : Nat → Int32) (ro : Nat → Nat → Int64) (k i : Nat) (hk : k < V) (hV : V < 10) (hi : i < fr_wn V) : Met l yX0_placesWhereOne wsF_placesWhereOne rmF_placesWhereOne (va_Pc [.ref (ad 0), .int (nI k), .int (nI i)] (fr_PX D V ad ka mk nm pt ro)) (vp_Sl (fun b => b = fr_pw V k i)) 0 0 (fun _ => False) := by
  refine Met.ofW (cc := cX0_placesWhereOne) (maxL := 4) (ret := some .long) (by decide) rfl ?_
  intro p e s m args below meth c s₁ B hml hv
  obtain ⟨rfl, hP, hK, hT⟩ := hv
  have hx := B.exec
  have hb := B.bytes
  have hret := B.returns
  have hw := fun w (h : w ∈ WA) => atoms_spec (ws := wsF_placesWhereOne) B.pre w (List.mem_cons_of_mem _ h)
  have hown : s.vm.findClass "FunctionRoom" = some m.cls := findClass_of_methodNamed B.named
  have hlocks := B.notSynchronized
  have hS0 : CallFix p m c cX0_placesWhereOne 4 s _ WA "FunctionRoom" := ⟨hx, hb, hml, hown, hw⟩
  have hl := lv_entry ([.ref (ad 0), .int (nI k), .int (nI i)]) (n := 4) (Nat.le_of_ble_eq_true rfl)
  rw [lg_entry_eq]
  generalize (lg_sl ([.ref (ad 0), .int (nI k), .int (nI i)]) ++ List.replicate (4 - (lg_sl ([.ref (ad 0), .int (nI k), .int (nI i)])).length) Slot.unset).toArray = ls at hl ⊢
  replace hl : lv_has ls 4 [(0, .ref (ad 0)), (1, .int (nI k)), (2, .int (nI i))] := hl
  have hS : va_S (fr_A ad) s.heap s.heap [] := va_S.rf
  have hw8 := (fr_wn_le V hV).2.1
  refine lv_aload_n hx hb dX0_placesWhereOne_0 rfl (lv_at hl 0 rfl) ?_
  refine lv_iload_n hx hb dX0_placesWhereOne_1 rfl (lv_at hl 1 rfl) ?_
  refine fr_Xi (As := [.int (nI k)]) hS0 (cF_bitOf l D V ad ka mk nm pt ro k hk hV) (cw_F_bitOf hw ⟨Nat.le_of_ble_eq_true rfl, Nat.le_of_ble_eq_true rfl⟩) hK hP hT hS rfl hl.1 rfl (Nat.le_of_ble_eq_true rfl) dX0_placesWhereOne_2 ⟨Nat.zero_le _, Nat.zero_le _⟩ (fun b hb1 => ?_)
  subst hb1
  refine lv_istore_n hx hb dX0_placesWhereOne_5 rfl hl (by decide) rfl (fun ls hl => ?_)
  replace hl : lv_has ls 4 [(3, .int (nI (V - 1 - k))), (0, .ref (ad 0)), (1, .int (nI k)), (2, .int (nI i))] := hl
  refine lv_iload_n hx hb dX0_placesWhereOne_6 rfl (lv_at hl 0 rfl) ?_
  refine lv_bipush (v := 6) hx hb dX0_placesWhereOne_7 (by decide) ?_
  refine lv_icmp_ge (tgt := 23) hx hb dX0_placesWhereOne_9 rfl (fun h1 => ?_) (fun h1 => ?_)
  ·
    have hb6 : ¬ V - 1 - k < 6 := fun z => nI_ge (b := 6) z (by decide) h1
    refine lv_iload_n hx hb dX0_placesWhereOne_23 rfl (lv_at hl 3 rfl) ?_
    refine lv_iload_n hx hb dX0_placesWhereOne_24 rfl (lv_at hl 0 rfl) ?_
    refine lv_bipush (v := 6) hx hb dX0_placesWhereOne_25 (by decide) ?_
    refine lv_isub hx hb dX0_placesWhereOne_27 ?_
    refine fr_top (show ((nI (V - 1 - k) - 6) : Int32) = nI (V - 1 - k - 6) from pk_sub (b := 6) (by omega)) ?_
    refine lv_ishr hx hb dX0_placesWhereOne_28 ?_
    refine lv_iconst (v := 1) hx hb dX0_placesWhereOne_29 (by decide) ?_
    refine lv_iand hx hb dX0_placesWhereOne_30 ?_
    refine fr_top (show (((nI i >>> (nI (V - 1 - k - 6) &&& 31)) &&& 1) : Int32) = fr_bi (i.testBit (V - 1 - k - 6)) from fr_pwt _ (by omega) _ (by omega)) ?_
    refine lv_iconst (v := 1) hx hb dX0_placesWhereOne_31 (by decide) ?_
    refine lv_icmp_ne (tgt := 42) hx hb dX0_placesWhereOne_32 rfl (fun h2 => ?_) (fun h2 => ?_)
    ·
      have h3 : i.testBit (V - 1 - k - 6) = false := by cases hq : i.testBit (V - 1 - k - 6) <;> simp_all [fr_bi]
      refine lv_lconst (v := 0) hx hb dX0_placesWhereOne_42 (by decide) ?_
      exact W.lret (v := 0) hx hb hret (fun t ht hW => ⟨_, rfl, by unfold fr_pw; rw [if_neg hb6, h3]; rfl, ht⟩) (fun q hq => by cases hq) dX0_placesWhereOne_43
    ·
      have h3 : i.testBit (V - 1 - k - 6) = true := by cases hq : i.testBit (V - 1 - k - 6) <;> simp_all [fr_bi]
      refine lv_aload_n hx hb dX0_placesWhereOne_35 rfl (lv_at hl 1 rfl) ?_
      refine fr_gX 3 hx hb hw hown hK hP (by decide) mF_places rfl dX0_placesWhereOne_36 ?_
      refine lv_goto (tgt := 43) hx hb dX0_placesWhereOne_39 rfl ?_
      exact W.lret (v := fr_pl V) hx hb hret (fun t ht hW => ⟨_, rfl, by unfold fr_pw; rw [if_neg hb6, h3]; rfl, ht⟩) (fun q hq => by cases hq) dX0_placesWhereOne_43
  ·
    have hb6 : V - 1 - k < 6 := Nat.lt_of_not_le fun z => h1 (nI_le z (by omega))
    obtain ⟨tb, hz1, hz2⟩ := hT
    refine va_gets hx hb hz1 hS hown (hw _ mF_PLACES) (fun _ h9 => h9) dX0_placesWhereOne_12 ?_
    refine lv_iload_n hx hb dX0_placesWhereOne_15 rfl (lv_at hl 0 rfl) ?_
    refine va_tl (v := .long (fr_pb (V - 1 - k))) hx hb hz2 hS (vp_in_nI hb6 (by decide)) (by rw [nI_clamp (by omega)]) dX0_placesWhereOne_16 ?_
    refine lv_aload_n hx hb dX0_placesWhereOne_17 rfl (lv_at hl 1 rfl) ?_
    refine fr_gX 3 hx hb hw hown hK hP (by decide) mF_places rfl dX0_placesWhereOne_18 ?_
    refine lv_land hx hb dX0_placesWhereOne_21 ?_
    exact W.lret (v := fr_pb (V - 1 - k) &&& fr_pl V) hx hb hret (fun t ht hW => ⟨_, rfl, by unfold fr_pw; rw [if_pos hb6], ht⟩) (fun q hq => by cases hq) dX0_placesWhereOne_22
end
section
set_option maxHeartbeats 4000000 in
set_option maxRecDepth 100000 in
theorem cF_turned (l : Launch) (D : va_G) (V : Nat) (ad : Nat → Nat) (ka : Nat → ClassId) (mk : Nat → Int64) (nm pt : Nat → Int32) (ro : Nat → Nat → Int64) (q tq a : Nat) (cq : ClassId) (g : Nat → Int64) (hq : (fr_xw V ad ka mk nm pt ro)[q]? = some (a, .inl (cq, fr_wn V, .inr (.inl g)))) (htq : (fr_ty ka)[tq]? = some (cq, .long)) (k i : Nat) (hk : k < V) (hV : V < 10) (hi : i < fr_wn V) : Met l yX0_turned wsF_turned rmF_turned (va_Pc [.ref (ad 0), .ref a, .int (nI k), .int (nI i)] (fr_PX D V ad ka mk nm pt ro)) (vp_Sl (fun b => b = fr_tn V g k i)) 0 0 (fun _ => False) := by
  refine Met.ofW (cc := cX0_turned) (maxL := 8) (ret := some .long) (by decide) rfl ?_
  intro p e s m args below meth c s₁ B hml hv
  obtain ⟨rfl, hP, hK, hT⟩ := hv
  have hx := B.exec
  have hb := B.bytes
  have hret := B.returns
  have hw := fun w (h : w ∈ WA) => atoms_spec (ws := wsF_turned) B.pre w (List.mem_cons_of_mem _ h)
  have hown : s.vm.findClass "FunctionRoom" = some m.cls := findClass_of_methodNamed B.named
  have hlocks := B.notSynchronized
  have hS0 : CallFix p m c cX0_turned 8 s _ WA "FunctionRoom" := ⟨hx, hb, hml, hown, hw⟩
  have hl := lv_entry ([.ref (ad 0), .ref a, .int (nI k), .int (nI i)]) (n := 8) (Nat.le_of_ble_eq_true rfl)
  rw [lg_entry_eq]
  generalize (lg_sl ([.ref (ad 0), .ref a, .int (nI k), .int (nI i)]) ++ List.replicate (8 - (lg_sl ([.ref (ad 0), .ref a, .int (nI k), .int (nI i)])).length) Slot.unset).toArray = ls at hl ⊢
  replace hl : lv_has ls 8 [(0, .ref (ad 0)), (1, .ref a), (2, .int (nI k)), (3, .int (nI i))] := hl
  have hS : va_S (fr_A ad) s.heap s.heap [] := va_S.rf
  have hw8 := (fr_wn_le V hV).2.1
  refine lv_aload_n hx hb dX0_turned_0 rfl (lv_at hl 0 rfl) ?_
  refine lv_iload_n hx hb dX0_turned_1 rfl (lv_at hl 2 rfl) ?_
  refine fr_Xi (As := [.int (nI k)]) hS0 (cF_bitOf l D V ad ka mk nm pt ro k hk hV) (cw_F_bitOf hw ⟨Nat.le_of_ble_eq_true rfl, Nat.le_of_ble_eq_true rfl⟩) hK hP hT hS rfl hl.1 rfl (Nat.le_of_ble_eq_true rfl) dX0_turned_2 ⟨Nat.zero_le _, Nat.zero_le _⟩ (fun b hb1 => ?_)
  subst hb1
  refine lv_istore hx hb dX0_turned_5 hl (by decide) rfl (fun ls hl => ?_)
  replace hl : lv_has ls 8 [(4, .int (nI (V - 1 - k))), (0, .ref (ad 0)), (1, .ref a), (2, .int (nI k)), (3, .int (nI i))] := hl
  refine lv_iload hx hb dX0_turned_7 (lv_at hl 0 rfl) ?_
  refine lv_bipush (v := 6) hx hb dX0_turned_9 (by decide) ?_
  refine lv_icmp_lt (tgt := 26) hx hb dX0_turned_11 rfl (fun h1 => ?_) (fun h1 => ?_)
  ·
    have hb6 : V - 1 - k < 6 := Nat.lt_of_not_le fun z => nI_nlt z (by omega) h1
    refine lv_iconst (v := 1) hx hb dX0_turned_26 (by decide) ?_
    refine lv_iload hx hb dX0_turned_27 (lv_at hl 0 rfl) ?_
    refine lv_ishl hx hb dX0_turned_29 ?_
    refine fr_top (show ((1 <<< (nI (V - 1 - k) &&& 31)) : Int32) = nI (2 ^ (V - 1 - k)) from fr_shl1 _ (by omega)) ?_
    refine lv_istore hx hb dX0_turned_30 hl (by decide) rfl (fun ls hl => ?_)
    replace hl : lv_has ls 8 [(5, .int (nI (2 ^ (V - 1 - k)))), (4, .int (nI (V - 1 - k))), (0, .ref (ad 0)), (1, .ref a), (2, .int (nI k)), (3, .int (nI i))] := hl
    obtain ⟨tb, hz1, hz2⟩ := hT
    refine va_gets hx hb hz1 hS hown (hw _ mF_PLACES) (fun _ h9 => h9) dX0_turned_32 ?_
    refine lv_iload hx hb dX0_turned_35 (lv_at hl 1 rfl) ?_
    refine va_tl (v := .long (fr_pb (V - 1 - k))) hx hb hz2 hS (vp_in_nI hb6 (by decide)) (by rw [nI_clamp (by omega)]) dX0_turned_37 ?_
    refine lv_lstore hx hb dX0_turned_38 hl (by decide) rfl (fun ls hl => ?_)
    replace hl : lv_has ls 8 [(6, .long (fr_pb (V - 1 - k))), (5, .int (nI (2 ^ (V - 1 - k)))), (4, .int (nI (V - 1 - k))), (0, .ref (ad 0)), (1, .ref a), (2, .int (nI k)), (3, .int (nI i))] := hl
    refine lv_aload_n hx hb dX0_turned_40 rfl (lv_at hl 4 rfl) ?_
    refine lv_iload_n hx hb dX0_turned_41 rfl (lv_at hl 6 rfl) ?_
    refine fr_lald hx hb hK hP q tq hq htq hi (by omega) dX0_turned_42 ?_
    refine lv_lload hx hb dX0_turned_43 (lv_at hl 0 rfl) ?_
    refine lv_land hx hb dX0_turned_45 ?_
    refine lv_iload hx hb dX0_turned_46 (lv_at hl 1 rfl) ?_
    refine lv_lushr hx hb dX0_turned_48 rfl ?_
    refine lv_aload_n hx hb dX0_turned_49 rfl (lv_at hl 4 rfl) ?_
    refine lv_iload_n hx hb dX0_turned_50 rfl (lv_at hl 6 rfl) ?_
    refine fr_lald hx hb hK hP q tq hq htq hi (by omega) dX0_turned_51 ?_
    refine lv_lload hx hb dX0_turned_52 (lv_at hl 0 rfl) ?_
    refine lv_ldc2 (v := (-1)) hx hb hown (hw _ mC_F_28) dX0_turned_54 ?_
    refine lv_lxor hx hb dX0_turned_57 ?_
    refine lv_land hx hb dX0_turned_58 ?_
    refine lv_iload hx hb dX0_turned_59 (lv_at hl 1 rfl) ?_
    refine lv_lshl hx hb dX0_turned_61 rfl ?_
    refine lv_lor hx hb dX0_turned_62 ?_
    exact W.lret (v := (((((g i) &&& fr_pb (V - 1 - k))).toUInt64 >>> ((nI (2 ^ (V - 1 - k))).toInt64.toUInt64 &&& Int64.toUInt64 63)).toInt64 ||| (((g i) &&& (fr_pb (V - 1 - k) ^^^ (-1))) <<< ((nI (2 ^ (V - 1 - k))).toInt64 &&& 63)))) hx hb hret (fun t ht hW => ⟨_, rfl, by unfold fr_tn; rw [if_pos hb6], ht⟩) (fun q hq => by cases hq) dX0_turned_63
  ·
    have hb6 : ¬ V - 1 - k < 6 := fun z => h1 (nI_lt z (by decide))
    refine lv_aload_n hx hb dX0_turned_14 rfl (lv_at hl 2 rfl) ?_
    refine lv_iload_n hx hb dX0_turned_15 rfl (lv_at hl 4 rfl) ?_
    refine lv_iconst (v := 1) hx hb dX0_turned_16 (by decide) ?_
    refine lv_iload hx hb dX0_turned_17 (lv_at hl 0 rfl) ?_
    refine lv_bipush (v := 6) hx hb dX0_turned_19 (by decide) ?_
    refine lv_isub hx hb dX0_turned_21 ?_
    refine fr_top (show ((nI (V - 1 - k) - 6) : Int32) = nI (V - 1 - k - 6) from pk_sub (b := 6) (by omega)) ?_
    refine lv_ishl hx hb dX0_turned_22 ?_
    refine lv_ixor hx hb dX0_turned_23 ?_
    refine fr_top (show ((nI i ^^^ (1 <<< (nI (V - 1 - k - 6) &&& 31))) : Int32) = nI (i ^^^ 2 ^ (V - 1 - k - 6)) from fr_tnx _ (by omega) _ (by omega)) ?_
    refine fr_lald hx hb hK hP q tq hq htq (fr_turn_in hV hi (by omega)) (by omega) dX0_turned_24 ?_
    exact W.lret (v := (g (i ^^^ 2 ^ (V - 1 - k - 6)))) hx hb hret (fun t ht hW => ⟨_, rfl, by unfold fr_tn; rw [if_neg hb6], ht⟩) (fun q hq => by cases hq) dX0_turned_25
set_option maxHeartbeats 4000000 in
set_option maxRecDepth 100000 in
theorem cF_narrowed (l : Launch) (D : va_G) (V : Nat) (ad : Nat → Nat) (ka : Nat → ClassId) (mk : Nat → Int64) (nm pt : Nat → Int32) (ro : Nat → Nat → Int64) (q tq a : Nat) (cq : ClassId) (g : Nat → Int64) (hq : (fr_xw V ad ka mk nm pt ro)[q]? = some (a, .inl (cq, fr_wn V, .inr (.inl g)))) (htq : (fr_ty ka)[tq]? = some (cq, .long)) (k i : Nat) (one : Bool) (hk : k < V) (hV : V < 10) (hi : i < fr_wn V) : Met l yX0_narrowed wsF_narrowed rmF_narrowed (va_Pc [.ref (ad 0), .ref a, .int (nI k), .int (fr_bi one), .int (nI i)] (fr_PX D V ad ka mk nm pt ro)) (vp_Sl (fun b => b = fr_nr V g k one i)) 0 0 (fun _ => False) := by
  refine Met.ofW (cc := cX0_narrowed) (maxL := 9) (ret := some .long) (by decide) rfl ?_
  intro p e s m args below meth c s₁ B hml hv
  obtain ⟨rfl, hP, hK, hT⟩ := hv
  have hx := B.exec
  have hb := B.bytes
  have hret := B.returns
  have hw := fun w (h : w ∈ WA) => atoms_spec (ws := wsF_narrowed) B.pre w (List.mem_cons_of_mem _ h)
  have hown : s.vm.findClass "FunctionRoom" = some m.cls := findClass_of_methodNamed B.named
  have hlocks := B.notSynchronized
  have hS0 : CallFix p m c cX0_narrowed 9 s _ WA "FunctionRoom" := ⟨hx, hb, hml, hown, hw⟩
  have hl := lv_entry ([.ref (ad 0), .ref a, .int (nI k), .int (fr_bi one), .int (nI i)]) (n := 9) (Nat.le_of_ble_eq_true rfl)
  rw [lg_entry_eq]
  generalize (lg_sl ([.ref (ad 0), .ref a, .int (nI k), .int (fr_bi one), .int (nI i)]) ++ List.replicate (9 - (lg_sl ([.ref (ad 0), .ref a, .int (nI k), .int (fr_bi one), .int (nI i)])).length) Slot.unset).toArray = ls at hl ⊢
  replace hl : lv_has ls 9 [(0, .ref (ad 0)), (1, .ref a), (2, .int (nI k)), (3, .int (fr_bi one)), (4, .int (nI i))] := hl
  have hS : va_S (fr_A ad) s.heap s.heap [] := va_S.rf
  have hw8 := (fr_wn_le V hV).2.1
  refine lv_aload_n hx hb dX0_narrowed_0 rfl (lv_at hl 0 rfl) ?_
  refine lv_iload_n hx hb dX0_narrowed_1 rfl (lv_at hl 2 rfl) ?_
  refine lv_iload hx hb dX0_narrowed_2 (lv_at hl 4 rfl) ?_
  refine fr_Xl (As := [.int (nI k), .int (nI i)]) hS0 (cF_placesWhereOne l D V ad ka mk nm pt ro k i hk hV hi) (cw_F_placesWhereOne hw ⟨Nat.le_of_ble_eq_true rfl, Nat.le_of_ble_eq_true rfl⟩) hK hP hT hS rfl hl.1 rfl (Nat.le_of_ble_eq_true rfl) dX0_narrowed_4 ⟨Nat.zero_le _, Nat.zero_le _⟩ (fun b hb1 => ?_)
  subst hb1
  refine lv_lstore hx hb dX0_narrowed_7 hl (by decide) rfl (fun ls hl => ?_)
  replace hl : lv_has ls 9 [(5, .long (fr_pw V k i)), (0, .ref (ad 0)), (1, .ref a), (2, .int (nI k)), (3, .int (fr_bi one)), (4, .int (nI i))] := hl
  refine lv_iload_n hx hb dX0_narrowed_9 rfl (lv_at hl 4 rfl) ?_
  refine lv_if_eq (tgt := 18) hx hb dX0_narrowed_10 rfl (fun h1 => ?_) (fun h1 => ?_)
  ·
    have h3 : one = false := by cases one <;> simp_all [fr_bi]
    refine lv_lload hx hb dX0_narrowed_18 (lv_at hl 0 rfl) ?_
    refine lv_ldc2 (v := (-1)) hx hb hown (hw _ mC_F_28) dX0_narrowed_20 ?_
    refine lv_lxor hx hb dX0_narrowed_23 ?_
    refine fr_topl (show ((fr_pw V k i ^^^ (-1)) : Int64) = fr_rt V k i one from by rw [h3]; rfl) ?_
    refine lv_lstore hx hb dX0_narrowed_24 hl (by decide) rfl (fun ls hl => ?_)
    replace hl : lv_has ls 9 [(7, .long (fr_rt V k i one)), (5, .long (fr_pw V k i)), (0, .ref (ad 0)), (1, .ref a), (2, .int (nI k)), (3, .int (fr_bi one)), (4, .int (nI i))] := hl
    refine lv_aload_n hx hb dX0_narrowed_26 rfl (lv_at hl 3 rfl) ?_
    refine lv_iload hx hb dX0_narrowed_27 (lv_at hl 6 rfl) ?_
    refine fr_lald hx hb hK hP q tq hq htq hi (by omega) dX0_narrowed_29 ?_
    refine lv_lload hx hb dX0_narrowed_30 (lv_at hl 0 rfl) ?_
    refine lv_land hx hb dX0_narrowed_32 ?_
    refine lv_aload_n hx hb dX0_narrowed_33 rfl (lv_at hl 2 rfl) ?_
    refine lv_aload_n hx hb dX0_narrowed_34 rfl (lv_at hl 3 rfl) ?_
    refine lv_iload_n hx hb dX0_narrowed_35 rfl (lv_at hl 4 rfl) ?_
    refine lv_iload hx hb dX0_narrowed_36 (lv_at hl 6 rfl) ?_
    refine fr_Xl (As := [.ref a, .int (nI k), .int (nI i)]) hS0 (cF_turned l D V ad ka mk nm pt ro q tq a cq g hq htq k i hk hV hi) (cw_F_turned hw ⟨Nat.le_of_ble_eq_true rfl, Nat.le_of_ble_eq_true rfl⟩) hK hP hT hS rfl hl.1 rfl (Nat.le_of_ble_eq_true rfl) dX0_narrowed_38 ⟨Nat.zero_le _, Nat.zero_le _⟩ (fun b2 hb2 => ?_)
    subst hb2
    refine lv_lload hx hb dX0_narrowed_41 (lv_at hl 0 rfl) ?_
    refine lv_ldc2 (v := (-1)) hx hb hown (hw _ mC_F_28) dX0_narrowed_43 ?_
    refine lv_lxor hx hb dX0_narrowed_46 ?_
    refine lv_land hx hb dX0_narrowed_47 ?_
    refine lv_lor hx hb dX0_narrowed_48 ?_
    exact W.lret (v := (((g i) &&& fr_rt V k i one) ||| (fr_tn V g k i &&& (fr_rt V k i one ^^^ (-1))))) hx hb hret (fun t ht hW => ⟨_, rfl, rfl, ht⟩) (fun q hq => by cases hq) dX0_narrowed_49
  ·
    have h3 : one = true := by cases one <;> simp_all [fr_bi]
    refine lv_lload hx hb dX0_narrowed_13 (lv_at hl 0 rfl) ?_
    refine lv_goto (tgt := 24) hx hb dX0_narrowed_15 rfl ?_
    refine fr_topl (show (fr_pw V k i : Int64) = fr_rt V k i one from by rw [h3]; rfl) ?_
    refine lv_lstore hx hb dX0_narrowed_24 hl (by decide) rfl (fun ls hl => ?_)
    replace hl : lv_has ls 9 [(7, .long (fr_rt V k i one)), (5, .long (fr_pw V k i)), (0, .ref (ad 0)), (1, .ref a), (2, .int (nI k)), (3, .int (fr_bi one)), (4, .int (nI i))] := hl
    refine lv_aload_n hx hb dX0_narrowed_26 rfl (lv_at hl 3 rfl) ?_
    refine lv_iload hx hb dX0_narrowed_27 (lv_at hl 6 rfl) ?_
    refine fr_lald hx hb hK hP q tq hq htq hi (by omega) dX0_narrowed_29 ?_
    refine lv_lload hx hb dX0_narrowed_30 (lv_at hl 0 rfl) ?_
    refine lv_land hx hb dX0_narrowed_32 ?_
    refine lv_aload_n hx hb dX0_narrowed_33 rfl (lv_at hl 2 rfl) ?_
    refine lv_aload_n hx hb dX0_narrowed_34 rfl (lv_at hl 3 rfl) ?_
    refine lv_iload_n hx hb dX0_narrowed_35 rfl (lv_at hl 4 rfl) ?_
    refine lv_iload hx hb dX0_narrowed_36 (lv_at hl 6 rfl) ?_
    refine fr_Xl (As := [.ref a, .int (nI k), .int (nI i)]) hS0 (cF_turned l D V ad ka mk nm pt ro q tq a cq g hq htq k i hk hV hi) (cw_F_turned hw ⟨Nat.le_of_ble_eq_true rfl, Nat.le_of_ble_eq_true rfl⟩) hK hP hT hS rfl hl.1 rfl (Nat.le_of_ble_eq_true rfl) dX0_narrowed_38 ⟨Nat.zero_le _, Nat.zero_le _⟩ (fun b2 hb2 => ?_)
    subst hb2
    refine lv_lload hx hb dX0_narrowed_41 (lv_at hl 0 rfl) ?_
    refine lv_ldc2 (v := (-1)) hx hb hown (hw _ mC_F_28) dX0_narrowed_43 ?_
    refine lv_lxor hx hb dX0_narrowed_46 ?_
    refine lv_land hx hb dX0_narrowed_47 ?_
    refine lv_lor hx hb dX0_narrowed_48 ?_
    exact W.lret (v := (((g i) &&& fr_rt V k i one) ||| (fr_tn V g k i &&& (fr_rt V k i one ^^^ (-1))))) hx hb hret (fun t ht hW => ⟨_, rfl, rfl, ht⟩) (fun q hq => by cases hq) dX0_narrowed_49
set_option maxHeartbeats 4000000 in
set_option maxRecDepth 100000 in
theorem cF_dependsOn (l : Launch) (D : va_G) (V : Nat) (ad : Nat → Nat) (ka : Nat → ClassId) (mk : Nat → Int64) (nm pt : Nat → Int32) (ro : Nat → Nat → Int64) (q tq a : Nat) (cq : ClassId) (g : Nat → Int64) (hq : (fr_xw V ad ka mk nm pt ro)[q]? = some (a, .inl (cq, fr_wn V, .inr (.inl g)))) (htq : (fr_ty ka)[tq]? = some (cq, .long)) (k : Nat) (hk : k < V) (hV : V < 10) : Met l yX0_dependsOn wsF_dependsOn rmF_dependsOn (va_Pc [.ref (ad 0), .ref a, .int (nI k)] (fr_PX D V ad ka mk nm pt ro)) (vp_Si (fun b => (b = 1 ∧ ¬ ∀ w, w < fr_wn V → g w = fr_tn V g k w) ∨ (b = 0 ∧ ∀ w, w < fr_wn V → g w = fr_tn V g k w))) 0 0 (fun _ => False) := by
  refine Met.ofW (cc := cX0_dependsOn) (maxL := 4) (ret := some .boolean) (by decide) rfl ?_
  intro p e s m args below meth c s₁ B hml hv
  obtain ⟨rfl, hP, hK, hT⟩ := hv
  have hx := B.exec
  have hb := B.bytes
  have hret := B.returns
  have hw := fun w (h : w ∈ WA) => atoms_spec (ws := wsF_dependsOn) B.pre w (List.mem_cons_of_mem _ h)
  have hown : s.vm.findClass "FunctionRoom" = some m.cls := findClass_of_methodNamed B.named
  have hlocks := B.notSynchronized
  have hS0 : CallFix p m c cX0_dependsOn 4 s _ WA "FunctionRoom" := ⟨hx, hb, hml, hown, hw⟩
  have hl := lv_entry ([.ref (ad 0), .ref a, .int (nI k)]) (n := 4) (Nat.le_of_ble_eq_true rfl)
  rw [lg_entry_eq]
  generalize (lg_sl ([.ref (ad 0), .ref a, .int (nI k)]) ++ List.replicate (4 - (lg_sl ([.ref (ad 0), .ref a, .int (nI k)])).length) Slot.unset).toArray = ls at hl ⊢
  replace hl : lv_has ls 4 [(0, .ref (ad 0)), (1, .ref a), (2, .int (nI k))] := hl
  have hS : va_S (fr_A ad) s.heap s.heap [] := va_S.rf
  have hw8 := (fr_wn_le V hV).2.1
  refine lv_iconst (v := 0) hx hb dX0_dependsOn_0 (by decide) ?_
  refine lv_istore_n hx hb dX0_dependsOn_1 rfl hl (by decide) rfl (fun ls hl => ?_)
  replace hl : lv_has ls 4 [(3, .int 0), (0, .ref (ad 0)), (1, .ref a), (2, .int (nI k))] := hl
  obtain ⟨n, i, hin, hi0⟩ : ∃ n i : Nat, i + n = fr_wn V ∧ i = 0 := ⟨fr_wn V, 0, Nat.zero_add _, rfl⟩
  replace hl : lv_has ls 4 [(3, .int (nI i)), (0, .ref (ad 0)), (1, .ref a), (2, .int (nI k))] := by rw [hi0]; exact hl
  have hg : ∀ w, w < i → g w = fr_tn V g k w := fun w h => absurd h (by omega)
  clear hi0
  induction n generalizing i ls  with
  | zero =>
    refine lv_iload_n hx hb dX0_dependsOn_2 rfl (lv_at hl 0 rfl) ?_
    refine lv_aload_n hx hb dX0_dependsOn_3 rfl (lv_at hl 1 rfl) ?_
    refine fr_gX 2 hx hb hw hown hK hP (by decide) mF_words rfl dX0_dependsOn_4 ?_
    refine lv_icmp_ge (tgt := 32) hx hb dX0_dependsOn_7 rfl (fun h1 => ?_) (fun h1 => absurd (nI_le (show fr_wn V ≤ i by omega) (by omega)) h1)
    refine lv_iconst (v := 0) hx hb dX0_dependsOn_32 (by decide) ?_
    exact W.zret (v := 0) hx hb hret rfl (fun t ht hW => ⟨_, rfl, Or.inr ⟨rfl, fun w h => hg w (by omega)⟩, ht⟩) (fun q hq => by cases hq) dX0_dependsOn_33
  | succ n ih =>
    refine lv_iload_n hx hb dX0_dependsOn_2 rfl (lv_at hl 0 rfl) ?_
    refine lv_aload_n hx hb dX0_dependsOn_3 rfl (lv_at hl 1 rfl) ?_
    refine fr_gX 2 hx hb hw hown hK hP (by decide) mF_words rfl dX0_dependsOn_4 ?_
    refine lv_icmp_ge (tgt := 32) hx hb dX0_dependsOn_7 rfl (fun h1 => absurd h1 (nI_ge (show i < fr_wn V by omega) (by omega))) (fun h1 => ?_)
    refine lv_aload_n hx hb dX0_dependsOn_10 rfl (lv_at hl 2 rfl) ?_
    refine lv_iload_n hx hb dX0_dependsOn_11 rfl (lv_at hl 0 rfl) ?_
    refine fr_lald hx hb hK hP q tq hq htq (by omega) (by omega) dX0_dependsOn_12 ?_
    refine lv_aload_n hx hb dX0_dependsOn_13 rfl (lv_at hl 1 rfl) ?_
    refine lv_aload_n hx hb dX0_dependsOn_14 rfl (lv_at hl 2 rfl) ?_
    refine lv_iload_n hx hb dX0_dependsOn_15 rfl (lv_at hl 3 rfl) ?_
    refine lv_iload_n hx hb dX0_dependsOn_16 rfl (lv_at hl 0 rfl) ?_
    refine fr_Xl (As := [.ref a, .int (nI k), .int (nI i)]) hS0 (cF_turned l D V ad ka mk nm pt ro q tq a cq g hq htq k i hk hV (by omega)) (cw_F_turned hw ⟨Nat.le_of_ble_eq_true rfl, Nat.le_of_ble_eq_true rfl⟩) hK hP hT hS rfl hl.1 rfl (Nat.le_of_ble_eq_true rfl) dX0_dependsOn_17 ⟨Nat.zero_le _, Nat.zero_le _⟩ (fun b2 hb2 => ?_)
    subst hb2
    refine W.lcmp hx hb dX0_dependsOn_20 ?_
    refine lv_if_eq (tgt := 26) hx hb dX0_dependsOn_21 rfl (fun h2 => ?_) (fun h2 => ?_)
    ·
      refine lv_iinc (k := 0) (v := nI (i + 1)) hx hb dX0_dependsOn_26 hl rfl (fr_inc i) (by decide) rfl (fun ls hl => ?_)
      replace hl : lv_has ls 4 [(3, .int (nI (i + 1))), (0, .ref (ad 0)), (1, .ref a), (2, .int (nI k))] := hl
      refine lv_goto (tgt := 2) hx hb dX0_dependsOn_29 rfl ?_
      exact ih ls (i + 1) (by omega) hl (lt_s hg ((lg_cmp_eq _ _).mp h2))
    ·
      refine lv_iconst (v := 1) hx hb dX0_dependsOn_24 (by decide) ?_
      exact W.zret (v := 1) hx hb hret rfl (fun t ht hW => ⟨_, rfl, Or.inl ⟨rfl, fun z => h2 ((lg_cmp_eq _ _).mpr (z i (by omega)))⟩, ht⟩) (fun q hq => by cases hq) dX0_dependsOn_25
set_option maxHeartbeats 4000000 in
set_option maxRecDepth 100000 in
theorem cF_count (l : Launch) (D : va_G) (V : Nat) (ad : Nat → Nat) (ka : Nat → ClassId) (mk : Nat → Int64) (nm pt : Nat → Int32) (ro : Nat → Nat → Int64) (q tq a : Nat) (cq : ClassId) (g : Nat → Int64) (hq : (fr_xw V ad ka mk nm pt ro)[q]? = some (a, .inl (cq, fr_wn V, .inr (.inl g)))) (htq : (fr_ty ka)[tq]? = some (cq, .long)) (hV : V < 10) : Met l yX0_count wsF_count rmF_count (va_Pc [.ref (ad 0), .ref a] (fr_PX D V ad ka mk nm pt ro)) (vp_Si (fun b => b = nI (fr_ct g (fr_wn V)))) 0 0 (fun _ => False) := by
  refine Met.ofW (cc := cX0_count) (maxL := 4) (ret := some .int) (by decide) rfl ?_
  intro p e s m args below meth c s₁ B hml hv
  obtain ⟨rfl, hP, hK, hT⟩ := hv
  have hx := B.exec
  have hb := B.bytes
  have hret := B.returns
  have hw := fun w (h : w ∈ WA) => atoms_spec (ws := wsF_count) B.pre w (List.mem_cons_of_mem _ h)
  have hown : s.vm.findClass "FunctionRoom" = some m.cls := findClass_of_methodNamed B.named
  have hlocks := B.notSynchronized
  have hS0 : CallFix p m c cX0_count 4 s _ WA "FunctionRoom" := ⟨hx, hb, hml, hown, hw⟩
  have hl := lv_entry ([.ref (ad 0), .ref a]) (n := 4) (Nat.le_of_ble_eq_true rfl)
  rw [lg_entry_eq]
  generalize (lg_sl ([.ref (ad 0), .ref a]) ++ List.replicate (4 - (lg_sl ([.ref (ad 0), .ref a])).length) Slot.unset).toArray = ls at hl ⊢
  replace hl : lv_has ls 4 [(0, .ref (ad 0)), (1, .ref a)] := hl
  have hS : va_S (fr_A ad) s.heap s.heap [] := va_S.rf
  have hw8 := (fr_wn_le V hV).2.1
  refine lv_iconst (v := 0) hx hb dX0_count_0 (by decide) ?_
  refine lv_istore_n hx hb dX0_count_1 rfl hl (by decide) rfl (fun ls hl => ?_)
  replace hl : lv_has ls 4 [(2, .int 0), (0, .ref (ad 0)), (1, .ref a)] := hl
  refine lv_iconst (v := 0) hx hb dX0_count_2 (by decide) ?_
  refine lv_istore_n hx hb dX0_count_3 rfl hl (by decide) rfl (fun ls hl => ?_)
  replace hl : lv_has ls 4 [(3, .int 0), (2, .int 0), (0, .ref (ad 0)), (1, .ref a)] := hl
  obtain ⟨n, i, hin, hi0⟩ : ∃ n i : Nat, i + n = fr_wn V ∧ i = 0 := ⟨fr_wn V, 0, Nat.zero_add _, rfl⟩
  replace hl : lv_has ls 4 [(3, .int (nI i)), (2, .int (nI (fr_ct g i))), (0, .ref (ad 0)), (1, .ref a)] := by rw [hi0]; exact hl
  clear hi0
  induction n generalizing i ls  with
  | zero =>
    refine lv_iload_n hx hb dX0_count_4 rfl (lv_at hl 0 rfl) ?_
    refine lv_aload_n hx hb dX0_count_5 rfl (lv_at hl 2 rfl) ?_
    refine fr_gX 2 hx hb hw hown hK hP (by decide) mF_words rfl dX0_count_6 ?_
    refine lv_icmp_ge (tgt := 27) hx hb dX0_count_9 rfl (fun h1 => ?_) (fun h1 => absurd (nI_le (show fr_wn V ≤ i by omega) (by omega)) h1)
    refine lv_iload_n hx hb dX0_count_27 rfl (lv_at hl 1 rfl) ?_
    exact W.iret (v := nI (fr_ct g i)) hx hb hret (fun t ht hW => ⟨_, rfl, by rw [show i = fr_wn V by omega], ht⟩) (fun q hq => by cases hq) dX0_count_28
  | succ n ih =>
    refine lv_iload_n hx hb dX0_count_4 rfl (lv_at hl 0 rfl) ?_
    refine lv_aload_n hx hb dX0_count_5 rfl (lv_at hl 2 rfl) ?_
    refine fr_gX 2 hx hb hw hown hK hP (by decide) mF_words rfl dX0_count_6 ?_
    refine lv_icmp_ge (tgt := 27) hx hb dX0_count_9 rfl (fun h1 => absurd h1 (nI_ge (show i < fr_wn V by omega) (by omega))) (fun h1 => ?_)
    refine lv_iload_n hx hb dX0_count_12 rfl (lv_at hl 1 rfl) ?_
    refine lv_aload_n hx hb dX0_count_13 rfl (lv_at hl 3 rfl) ?_
    refine lv_iload_n hx hb dX0_count_14 rfl (lv_at hl 0 rfl) ?_
    refine fr_lald hx hb hK hP q tq hq htq (by omega) (by omega) dX0_count_15 ?_
    refine fr_cSi (As := [.long ((g i))]) hS0 (cL_bitCount l (g i)) (cw_L_bitCount hw ⟨Nat.le_of_ble_eq_true rfl, Nat.le_of_ble_eq_true rfl⟩) (fr_pre0) rfl hl.1 rfl (Nat.le_of_ble_eq_true rfl) dX0_count_16 ⟨Nat.zero_le _, Nat.zero_le _⟩ (fun b2 hb2 => ?_)
    subst hb2
    refine lv_iadd hx hb dX0_count_19 ?_
    refine fr_top (show ((nI (fr_ct g i) + nI (fr_po (uN (g i)) 64)) : Int32) = nI (fr_ct g (i + 1)) from nI_add _ _) ?_
    refine lv_istore_n hx hb dX0_count_20 rfl hl (by decide) rfl (fun ls hl => ?_)
    replace hl : lv_has ls 4 [(2, .int (nI (fr_ct g (i + 1)))), (3, .int (nI i)), (0, .ref (ad 0)), (1, .ref a)] := hl
    refine lv_iinc (k := 1) (v := nI (i + 1)) hx hb dX0_count_21 hl rfl (fr_inc i) (by decide) rfl (fun ls hl => ?_)
    replace hl : lv_has ls 4 [(3, .int (nI (i + 1))), (2, .int (nI (fr_ct g (i + 1)))), (0, .ref (ad 0)), (1, .ref a)] := hl
    refine lv_goto (tgt := 4) hx hb dX0_count_24 rfl ?_
    exact ih ls (i + 1) (by omega) hl
end
section
set_option maxHeartbeats 4000000 in
set_option maxRecDepth 100000 in
theorem cF_keep (l : Launch) (D : va_G) (V : Nat) (ad : Nat → Nat) (ka : Nat → ClassId) (mk : Nat → Int64) (nm pt : Nat → Int32) (ro : Nat → Nat → Int64) (hV : V < 10) (hinj : fr_inj ad) (j : Nat) (hLj : j < 32) : Met l yX0_keep wsF_keep rmF_keep (va_Pc [.ref (ad 0), .int (nI j)] (fr_PX D V ad ka mk nm pt ro)) (va_Qi (fun res u => res = nI (fr_ct mk (fr_wn V)) ∧ u = (mk, nm, pt, va_up ro j (va_cpy mk (ro j) 0 0 (fr_wn V)))) (fun u t => va_P D vwCl (fr_xu V ad ka u) t.heap) (fr_A ad)) 0 0 (fr_A ad) := by
  refine Met.ofW (cc := cX0_keep) (maxL := 2) (ret := some .int) (by decide) rfl ?_
  intro p e s m args below meth c s₁ B hml hv
  obtain ⟨rfl, hP, hK, hT⟩ := hv
  have hx := B.exec
  have hb := B.bytes
  have hret := B.returns
  have hw := fun w (h : w ∈ WA) => atoms_spec (ws := wsF_keep) B.pre w (List.mem_cons_of_mem _ h)
  have hown : s.vm.findClass "FunctionRoom" = some m.cls := findClass_of_methodNamed B.named
  have hlocks := B.notSynchronized
  have hS0 : CallFix p m c cX0_keep 2 s _ WA "FunctionRoom" := ⟨hx, hb, hml, hown, hw⟩
  have hl := lv_entry ([.ref (ad 0), .int (nI j)]) (n := 2) (Nat.le_of_ble_eq_true rfl)
  rw [lg_entry_eq]
  generalize (lg_sl ([.ref (ad 0), .int (nI j)]) ++ List.replicate (2 - (lg_sl ([.ref (ad 0), .int (nI j)])).length) Slot.unset).toArray = ls at hl ⊢
  replace hl : lv_has ls 2 [(0, .ref (ad 0)), (1, .int (nI j))] := hl
  have hw8 := (fr_wn_le V hV).2.1
  refine fr_gen (A := fr_A ad) hP (fun H locs hP2 hS => ?_)
  clear hP
  have hP := hP2
  clear hP2
  refine lv_aload_n hx hb dX0_keep_0 rfl (lv_at hl 0 rfl) ?_
  refine fr_gX 5 hx hb hw hown hK hP (by decide) mF_made rfl dX0_keep_1 ?_
  refine lv_iconst (v := 0) hx hb dX0_keep_4 (by decide) ?_
  refine lv_aload_n hx hb dX0_keep_5 rfl (lv_at hl 0 rfl) ?_
  refine fr_gX 4 hx hb hw hown hK hP (by decide) mF_rows rfl dX0_keep_6 ?_
  refine lv_iload_n hx hb dX0_keep_9 rfl (lv_at hl 1 rfl) ?_
  refine fr_aald hx hb hK hP 1 0 rfl rfl hLj (by decide) rfl dX0_keep_10 ?_
  refine lv_iconst (v := 0) hx hb dX0_keep_11 (by decide) ?_
  refine lv_aload_n hx hb dX0_keep_12 rfl (lv_at hl 0 rfl) ?_
  refine fr_gX 2 hx hb hw hown hK hP (by decide) mF_words rfl dX0_keep_13 ?_
  refine va_copyl hx hb (by rw [hml, hl.1]) hown (hw _ mM_F_arraycopy) (hw _ mN_arraycopy) (hw _ mS_arraycopy) (hw _ mI_System) hK hP (fr_D hinj) hS 2 (j + 5) 2 1 rfl (fr_row hLj) rfl rfl rfl (by decide) (by decide) (nI_pos (by omega)) (by rw [nI_clamp (by omega)]; show 0 + _ ≤ _; omega) (by rw [nI_clamp (by omega)]; show 0 + _ ≤ _; omega) (fun _ _ => rfl) (Nat.le_of_ble_eq_true rfl) (Nat.le_of_ble_eq_true rfl) dX0_keep_16 (fun H locs hP _ hS => ?_)
  rw [nI_clamp (show fr_wn V < 2 ^ 31 by omega)] at hP
  replace hP : va_P D vwCl ((fr_xw V ad ka mk nm pt ro).set (j + 5) (ad (j + 5), .inl (ka 1, fr_wn V, .inr (.inl (va_cpy mk (ro j) 0 0 (fr_wn V)))))) H := hP
  rw [fr_rowset hLj] at hP
  refine lv_aload_n hx hb dX0_keep_19 rfl (lv_at hl 0 rfl) ?_
  refine lv_aload_n hx hb dX0_keep_20 rfl (lv_at hl 0 rfl) ?_
  refine fr_gX 5 hx hb hw hown hK hP (by decide) mF_made rfl dX0_keep_21 ?_
  refine fr_Xi (As := [.ref (ad 2)]) hS0 (cF_count l D V ad ka mk nm pt (va_up ro j (va_cpy mk (ro j) 0 0 (fr_wn V))) 2 2 (ad 2) (ka 2) mk rfl rfl hV) (cw_F_count hw ⟨Nat.le_of_ble_eq_true rfl, Nat.le_of_ble_eq_true rfl⟩) hK hP hT hS rfl hl.1 rfl (Nat.le_of_ble_eq_true rfl) dX0_keep_24 ⟨Nat.zero_le _, Nat.zero_le _⟩ (fun b hb1 => ?_)
  subst hb1
  exact W.iret (v := nI (fr_ct mk (fr_wn V))) hx hb hret (fun t ht hW => ⟨⟨_, (mk, nm, pt, va_up ro j (va_cpy mk (ro j) 0 0 (fr_wn V))), rfl, ⟨rfl, rfl⟩, by show va_P D vwCl _ t.heap; rw [ht]; exact hP⟩, hS.F ht⟩) hS.2.2 dX0_keep_27
end
section
set_option maxHeartbeats 4000000 in
set_option maxRecDepth 100000 in
theorem cF_reckon (l : Launch) (D : va_G) (V : Nat) (ad : Nat → Nat) (ka : Nat → ClassId) (mk : Nat → Int64) (nm pt : Nat → Int32) (ro : Nat → Nat → Int64) (F : fr_F) (hF : fr_XR V F ro) (hV : V < 10) (hV1 : 1 ≤ V) (hinj : fr_inj ad) (op r a b : Int32)    : Met l yX0_reckon wsF_reckon rmF_reckon (va_Pc [.ref (ad 0), .int op, .int r, .int a, .int b] (fr_PX D V ad ka mk nm pt ro)) (va_Qi (fun res u => res = (fr_sReckon V F op r a b).1 ∧ fr_XR V (fr_sReckon V F op r a b).2 u.2.2.2) (fun u t => va_P D vwCl (fr_xu V ad ka u) t.heap) (fr_A ad)) 0 0 (fr_A ad) := by
  refine Met.ofW (cc := cX0_reckon) (maxL := 6) (ret := some .int) (by decide) rfl ?_
  intro p e s m args below meth c s₁ B hml hv
  obtain ⟨rfl, hP, hK, hT⟩ := hv
  have hx := B.exec
  have hb := B.bytes
  have hret := B.returns
  have hw := fun w (h : w ∈ WA) => atoms_spec (ws := wsF_reckon) B.pre w (List.mem_cons_of_mem _ h)
  have hown : s.vm.findClass "FunctionRoom" = some m.cls := findClass_of_methodNamed B.named
  have hlocks := B.notSynchronized
  have hS0 : CallFix p m c cX0_reckon 6 s _ WA "FunctionRoom" := ⟨hx, hb, hml, hown, hw⟩
  have hl := lv_entry ([.ref (ad 0), .int op, .int r, .int a, .int b]) (n := 6) (Nat.le_of_ble_eq_true rfl)
  rw [lg_entry_eq]
  generalize (lg_sl ([.ref (ad 0), .int op, .int r, .int a, .int b]) ++ List.replicate (6 - (lg_sl ([.ref (ad 0), .int op, .int r, .int a, .int b])).length) Slot.unset).toArray = ls at hl ⊢
  replace hl : lv_has ls 6 [(0, .ref (ad 0)), (1, .int op), (2, .int r), (3, .int a), (4, .int b)] := hl
  have hw8 := (fr_wn_le V hV).2.1
  have h512 := fr_pow512 hV
  refine fr_gen (A := fr_A ad) hP (fun H locs hP2 hS => ?_)
  clear hP
  have hP := hP2
  clear hP2
  refine lv_iload_n hx hb dX0_reckon_0 rfl (lv_at hl 1 rfl) ?_
  refine lv_if_lt (tgt := 31) hx hb dX0_reckon_1 rfl (fun h1 => ?_) (fun h1 => ?_)
  ·
    refine lv_iconst (v := (-1)) hx hb dX0_reckon_31 (by decide) ?_
    exact W.iret (v := (-1)) hx hb hret (fun t ht hW => ⟨⟨_, (mk, nm, pt, ro), rfl, by rw [show fr_sReckon V F op r a b = (-1, F) from if_neg (fr_and4 (Or.inl (fr_okB_no (fun z => z.1 h1))))]; exact ⟨rfl, hF⟩, by show va_P D vwCl _ t.heap; rw [ht]; exact hP⟩, hS.F ht⟩) hS.2.2 dX0_reckon_32
  ·
    refine lv_iload_n hx hb dX0_reckon_4 rfl (lv_at hl 1 rfl) ?_
    refine lv_iconst (v := 4) hx hb dX0_reckon_5 (by decide) ?_
    refine lv_icmp_gt (tgt := 31) hx hb dX0_reckon_6 rfl (fun h2 => ?_) (fun h2 => ?_)
    ·
      refine lv_iconst (v := (-1)) hx hb dX0_reckon_31 (by decide) ?_
      exact W.iret (v := (-1)) hx hb hret (fun t ht hW => ⟨⟨_, (mk, nm, pt, ro), rfl, by rw [show fr_sReckon V F op r a b = (-1, F) from if_neg (fr_and4 (Or.inl (fr_okB_no (fun z => fr_gt4 z h2))))]; exact ⟨rfl, hF⟩, by show va_P D vwCl _ t.heap; rw [ht]; exact hP⟩, hS.F ht⟩) hS.2.2 dX0_reckon_32
    ·
      obtain ⟨o, hLo, rfl⟩ := fr_ok_ex (by decide) (fr_ok5 h1 h2)
      refine lv_iload_n hx hb dX0_reckon_9 rfl (lv_at hl 2 rfl) ?_
      refine fr_cSi (As := [.int r]) hS0 (cF_isRegister l r) (cw_F_isRegister hw ⟨Nat.le_of_ble_eq_true rfl, Nat.le_of_ble_eq_true rfl⟩) (fr_pre0) rfl hl.1 rfl (Nat.le_of_ble_eq_true rfl) dX0_reckon_10 ⟨Nat.zero_le _, Nat.zero_le _⟩ (fun b0 hb0 => ?_)
      rcases hb0 with ⟨rfl, hOj⟩ | ⟨rfl, hno⟩
      ·
        refine lv_if_eq (tgt := 31) hx hb dX0_reckon_13 rfl (fun hz => absurd hz (by decide)) (fun hz => ?_)
        obtain ⟨j, hLj, rfl⟩ := fr_ok_ex (by decide) hOj
        refine lv_iload_n hx hb dX0_reckon_16 rfl (lv_at hl 3 rfl) ?_
        refine fr_cSi (As := [.int a]) hS0 (cF_isRegister l a) (cw_F_isRegister hw ⟨Nat.le_of_ble_eq_true rfl, Nat.le_of_ble_eq_true rfl⟩) (fr_pre0) rfl hl.1 rfl (Nat.le_of_ble_eq_true rfl) dX0_reckon_17 ⟨Nat.zero_le _, Nat.zero_le _⟩ (fun b0 hb0 => ?_)
        rcases hb0 with ⟨rfl, hOx⟩ | ⟨rfl, hno⟩
        ·
          refine lv_if_eq (tgt := 31) hx hb dX0_reckon_20 rfl (fun hz => absurd hz (by decide)) (fun hz => ?_)
          obtain ⟨x, hLx, rfl⟩ := fr_ok_ex (by decide) hOx
          refine lv_iload hx hb dX0_reckon_23 (lv_at hl 4 rfl) ?_
          refine fr_cSi (As := [.int b]) hS0 (cF_isRegister l b) (cw_F_isRegister hw ⟨Nat.le_of_ble_eq_true rfl, Nat.le_of_ble_eq_true rfl⟩) (fr_pre0) rfl hl.1 rfl (Nat.le_of_ble_eq_true rfl) dX0_reckon_25 ⟨Nat.zero_le _, Nat.zero_le _⟩ (fun b0 hb0 => ?_)
          rcases hb0 with ⟨rfl, hOy⟩ | ⟨rfl, hno⟩
          ·
            refine lv_if_ne (tgt := 33) hx hb dX0_reckon_28 rfl (fun hz => ?_) (fun hz => absurd hz (by decide))
            obtain ⟨y, hLy, rfl⟩ := fr_ok_ex (by decide) hOy
            refine lv_iconst (v := 0) hx hb dX0_reckon_33 (by decide) ?_
            refine lv_istore hx hb dX0_reckon_34 hl (by decide) rfl (fun ls hl => ?_)
            replace hl : lv_has ls 6 [(5, .int 0), (0, .ref (ad 0)), (1, .int (nI o)), (2, .int (nI j)), (3, .int (nI x)), (4, .int (nI y))] := hl
            obtain ⟨n, i, hin, hi0⟩ : ∃ n i : Nat, i + n = fr_wn V ∧ i = 0 := ⟨fr_wn V, 0, Nat.zero_add _, rfl⟩
            replace hl : lv_has ls 6 [(5, .int (nI i)), (0, .ref (ad 0)), (1, .int (nI o)), (2, .int (nI j)), (3, .int (nI x)), (4, .int (nI y))] := by rw [hi0]; exact hl
            have hg : ∀ w, w < i → mk w = fr_cb o (ro x w) (ro y w) &&& fr_pl V := fun w h => absurd h (by omega)
            clear hi0
            induction n generalizing i ls H locs mk with
            | zero =>
              refine lv_iload hx hb dX0_reckon_36 (lv_at hl 0 rfl) ?_
              refine lv_aload_n hx hb dX0_reckon_38 rfl (lv_at hl 1 rfl) ?_
              refine fr_gX 2 hx hb hw hown hK hP (by decide) mF_words rfl dX0_reckon_39 ?_
              refine lv_icmp_ge (tgt := 86) hx hb dX0_reckon_42 rfl (fun hcm => ?_) (fun hcm => absurd (nI_le (show fr_wn V ≤ i by omega) (by omega)) hcm)
              refine lv_aload_n hx hb dX0_reckon_86 rfl (lv_at hl 1 rfl) ?_
              refine lv_iload_n hx hb dX0_reckon_87 rfl (lv_at hl 3 rfl) ?_
              refine fr_Xm (As := [.int (nI j)]) hS0 (cF_keep l D V ad ka mk nm pt ro hV hinj j hLj) (cw_F_keep hw ⟨Nat.le_of_ble_eq_true rfl, Nat.le_of_ble_eq_true rfl⟩) hK hP hT hS rfl hl.1 rfl (Nat.le_of_ble_eq_true rfl) dX0_reckon_88 ⟨Nat.zero_le _, Nat.zero_le _⟩ (fun b u H locs hu hP hS => ?_)
              obtain ⟨rfl, rfl⟩ := hu
              have hR := fr_R_comb (o := o) hV (hF x hLx) (hF y hLy) (fun w h => hg w (by omega))
              exact W.iret (v := nI (fr_ct mk (fr_wn V))) hx hb hret (fun t ht hW => ⟨⟨_, (mk, nm, pt, va_up ro j (va_cpy mk (ro j) 0 0 (fr_wn V))), rfl, fr_fin hV hF hLj hR (by unfold fr_sReckon; rw [if_pos (by rw [fr_okB_nI hLo (by decide), fr_okB_nI hLj (by decide), fr_okB_nI hLx (by decide), fr_okB_nI hLy (by decide)]; rfl), fr_v_nI (show o < 2 ^ 31 by omega), fr_v_nI (show x < 2 ^ 31 by omega), fr_v_nI (show y < 2 ^ 31 by omega)]), by show va_P D vwCl _ t.heap; rw [ht]; exact hP⟩, hS.F ht⟩) hS.2.2 dX0_reckon_91
            | succ n ih =>
              refine lv_iload hx hb dX0_reckon_36 (lv_at hl 0 rfl) ?_
              refine lv_aload_n hx hb dX0_reckon_38 rfl (lv_at hl 1 rfl) ?_
              refine fr_gX 2 hx hb hw hown hK hP (by decide) mF_words rfl dX0_reckon_39 ?_
              refine lv_icmp_ge (tgt := 86) hx hb dX0_reckon_42 rfl (fun hcm => absurd hcm (nI_ge (show i < fr_wn V by omega) (by omega))) (fun hcm => ?_)
              have hi : i < fr_wn V := by omega
              refine lv_aload_n hx hb dX0_reckon_45 rfl (lv_at hl 1 rfl) ?_
              refine fr_gX 5 hx hb hw hown hK hP (by decide) mF_made rfl dX0_reckon_46 ?_
              refine lv_iload hx hb dX0_reckon_49 (lv_at hl 0 rfl) ?_
              refine lv_iload_n hx hb dX0_reckon_51 rfl (lv_at hl 2 rfl) ?_
              refine lv_aload_n hx hb dX0_reckon_52 rfl (lv_at hl 1 rfl) ?_
              refine fr_gX 4 hx hb hw hown hK hP (by decide) mF_rows rfl dX0_reckon_53 ?_
              refine lv_iload_n hx hb dX0_reckon_56 rfl (lv_at hl 4 rfl) ?_
              refine fr_aald hx hb hK hP 1 0 rfl rfl hLx (by decide) rfl dX0_reckon_57 ?_
              refine lv_iload hx hb dX0_reckon_58 (lv_at hl 0 rfl) ?_
              refine fr_lald hx hb hK hP (x + 5) 1 (fr_row hLx) rfl hi (by omega) dX0_reckon_60 ?_
              refine lv_aload_n hx hb dX0_reckon_61 rfl (lv_at hl 1 rfl) ?_
              refine fr_gX 4 hx hb hw hown hK hP (by decide) mF_rows rfl dX0_reckon_62 ?_
              refine lv_iload hx hb dX0_reckon_65 (lv_at hl 5 rfl) ?_
              refine fr_aald hx hb hK hP 1 0 rfl rfl hLy (by decide) rfl dX0_reckon_67 ?_
              refine lv_iload hx hb dX0_reckon_68 (lv_at hl 0 rfl) ?_
              refine fr_lald hx hb hK hP (y + 5) 1 (fr_row hLy) rfl hi (by omega) dX0_reckon_70 ?_
              refine fr_cSl (As := [.int (nI o), .long (ro x i), .long (ro y i)]) hS0 (cF_combined l o (ro x i) (ro y i) hLo) (cw_F_combined hw ⟨Nat.le_of_ble_eq_true rfl, Nat.le_of_ble_eq_true rfl⟩) (fr_pre0) rfl hl.1 rfl (Nat.le_of_ble_eq_true rfl) dX0_reckon_71 ⟨Nat.zero_le _, Nat.zero_le _⟩ (fun b2 hb2 => ?_)
              subst hb2
              refine lv_aload_n hx hb dX0_reckon_74 rfl (lv_at hl 1 rfl) ?_
              refine fr_gX 3 hx hb hw hown hK hP (by decide) mF_places rfl dX0_reckon_75 ?_
              refine lv_land hx hb dX0_reckon_78 ?_
              refine fr_last (ws2 := fr_xw V ad ka (vp_updL mk i ((fr_cb o (ro x i) (ro y i) &&& fr_pl V))) nm pt ro) hx hb hK hP (fr_D hinj) hS 2 2 rfl rfl hi (by omega) dX0_reckon_79 rfl (fun H locs hP hS => ?_)
              refine lv_iinc (k := 0) (v := nI (i + 1)) hx hb dX0_reckon_80 hl rfl (fr_inc i) (by decide) rfl (fun ls hl => ?_)
              replace hl : lv_has ls 6 [(5, .int (nI (i + 1))), (0, .ref (ad 0)), (1, .int (nI o)), (2, .int (nI j)), (3, .int (nI x)), (4, .int (nI y))] := hl
              refine lv_goto (tgt := 36) hx hb dX0_reckon_83 rfl ?_
              exact ih _ H locs hS hP ls (i + 1) (by omega) (lv_sub hl [0, 1, 2, 3, 4, 5] rfl) (fr_upS hg (rfl))
          ·
            refine lv_if_ne (tgt := 33) hx hb dX0_reckon_28 rfl (fun hz => absurd rfl hz) (fun hz => ?_)
            refine lv_iconst (v := (-1)) hx hb dX0_reckon_31 (by decide) ?_
            exact W.iret (v := (-1)) hx hb hret (fun t ht hW => ⟨⟨_, (mk, nm, pt, ro), rfl, by rw [show fr_sReckon V F (nI o) (nI j) (nI x) b = (-1, F) from if_neg (fr_and4 (Or.inr (Or.inr (Or.inr (fr_okB_no (hno))))))]; exact ⟨rfl, hF⟩, by show va_P D vwCl _ t.heap; rw [ht]; exact hP⟩, hS.F ht⟩) hS.2.2 dX0_reckon_32
        ·
          refine lv_if_eq (tgt := 31) hx hb dX0_reckon_20 rfl (fun hz => ?_) (fun hz => absurd rfl hz)
          refine lv_iconst (v := (-1)) hx hb dX0_reckon_31 (by decide) ?_
          exact W.iret (v := (-1)) hx hb hret (fun t ht hW => ⟨⟨_, (mk, nm, pt, ro), rfl, by rw [show fr_sReckon V F (nI o) (nI j) a b = (-1, F) from if_neg (fr_and4 (Or.inr (Or.inr (Or.inl (fr_okB_no (hno))))))]; exact ⟨rfl, hF⟩, by show va_P D vwCl _ t.heap; rw [ht]; exact hP⟩, hS.F ht⟩) hS.2.2 dX0_reckon_32
      ·
        refine lv_if_eq (tgt := 31) hx hb dX0_reckon_13 rfl (fun hz => ?_) (fun hz => absurd rfl hz)
        refine lv_iconst (v := (-1)) hx hb dX0_reckon_31 (by decide) ?_
        exact W.iret (v := (-1)) hx hb hret (fun t ht hW => ⟨⟨_, (mk, nm, pt, ro), rfl, by rw [show fr_sReckon V F (nI o) r a b = (-1, F) from if_neg (fr_and4 (Or.inr (Or.inl (fr_okB_no (hno)))))]; exact ⟨rfl, hF⟩, by show va_P D vwCl _ t.heap; rw [ht]; exact hP⟩, hS.F ht⟩) hS.2.2 dX0_reckon_32
set_option maxHeartbeats 4000000 in
set_option maxRecDepth 100000 in
theorem cF_not (l : Launch) (D : va_G) (V : Nat) (ad : Nat → Nat) (ka : Nat → ClassId) (mk : Nat → Int64) (nm pt : Nat → Int32) (ro : Nat → Nat → Int64) (F : fr_F) (hF : fr_XR V F ro) (hV : V < 10) (hV1 : 1 ≤ V) (hinj : fr_inj ad) (r a : Int32)  : Met l yX0_not wsF_not rmF_not (va_Pc [.ref (ad 0), .int r, .int a] (fr_PX D V ad ka mk nm pt ro)) (va_Qi (fun res u => res = (fr_sNot V F r a).1 ∧ fr_XR V (fr_sNot V F r a).2 u.2.2.2) (fun u t => va_P D vwCl (fr_xu V ad ka u) t.heap) (fr_A ad)) 0 0 (fr_A ad) := by
  refine Met.ofW (cc := cX0_not) (maxL := 4) (ret := some .int) (by decide) rfl ?_
  intro p e s m args below meth c s₁ B hml hv
  obtain ⟨rfl, hP, hK, hT⟩ := hv
  have hx := B.exec
  have hb := B.bytes
  have hret := B.returns
  have hw := fun w (h : w ∈ WA) => atoms_spec (ws := wsF_not) B.pre w (List.mem_cons_of_mem _ h)
  have hown : s.vm.findClass "FunctionRoom" = some m.cls := findClass_of_methodNamed B.named
  have hlocks := B.notSynchronized
  have hS0 : CallFix p m c cX0_not 4 s _ WA "FunctionRoom" := ⟨hx, hb, hml, hown, hw⟩
  have hl := lv_entry ([.ref (ad 0), .int r, .int a]) (n := 4) (Nat.le_of_ble_eq_true rfl)
  rw [lg_entry_eq]
  generalize (lg_sl ([.ref (ad 0), .int r, .int a]) ++ List.replicate (4 - (lg_sl ([.ref (ad 0), .int r, .int a])).length) Slot.unset).toArray = ls at hl ⊢
  replace hl : lv_has ls 4 [(0, .ref (ad 0)), (1, .int r), (2, .int a)] := hl
  have hw8 := (fr_wn_le V hV).2.1
  have h512 := fr_pow512 hV
  refine fr_gen (A := fr_A ad) hP (fun H locs hP2 hS => ?_)
  clear hP
  have hP := hP2
  clear hP2
  refine lv_iload_n hx hb dX0_not_0 rfl (lv_at hl 1 rfl) ?_
  refine fr_cSi (As := [.int r]) hS0 (cF_isRegister l r) (cw_F_isRegister hw ⟨Nat.le_of_ble_eq_true rfl, Nat.le_of_ble_eq_true rfl⟩) (fr_pre0) rfl hl.1 rfl (Nat.le_of_ble_eq_true rfl) dX0_not_1 ⟨Nat.zero_le _, Nat.zero_le _⟩ (fun b0 hb0 => ?_)
  rcases hb0 with ⟨rfl, hOj⟩ | ⟨rfl, hno⟩
  ·
    refine lv_if_eq (tgt := 14) hx hb dX0_not_4 rfl (fun hz => absurd hz (by decide)) (fun hz => ?_)
    obtain ⟨j, hLj, rfl⟩ := fr_ok_ex (by decide) hOj
    refine lv_iload_n hx hb dX0_not_7 rfl (lv_at hl 2 rfl) ?_
    refine fr_cSi (As := [.int a]) hS0 (cF_isRegister l a) (cw_F_isRegister hw ⟨Nat.le_of_ble_eq_true rfl, Nat.le_of_ble_eq_true rfl⟩) (fr_pre0) rfl hl.1 rfl (Nat.le_of_ble_eq_true rfl) dX0_not_8 ⟨Nat.zero_le _, Nat.zero_le _⟩ (fun b0 hb0 => ?_)
    rcases hb0 with ⟨rfl, hOx⟩ | ⟨rfl, hno⟩
    ·
      refine lv_if_ne (tgt := 16) hx hb dX0_not_11 rfl (fun hz => ?_) (fun hz => absurd hz (by decide))
      obtain ⟨x, hLx, rfl⟩ := fr_ok_ex (by decide) hOx
      refine lv_iconst (v := 0) hx hb dX0_not_16 (by decide) ?_
      refine lv_istore_n hx hb dX0_not_17 rfl hl (by decide) rfl (fun ls hl => ?_)
      replace hl : lv_has ls 4 [(3, .int 0), (0, .ref (ad 0)), (1, .int (nI j)), (2, .int (nI x))] := hl
      obtain ⟨n, i, hin, hi0⟩ : ∃ n i : Nat, i + n = fr_wn V ∧ i = 0 := ⟨fr_wn V, 0, Nat.zero_add _, rfl⟩
      replace hl : lv_has ls 4 [(3, .int (nI i)), (0, .ref (ad 0)), (1, .int (nI j)), (2, .int (nI x))] := by rw [hi0]; exact hl
      have hg : ∀ w, w < i → mk w = (ro x w ^^^ (-1)) &&& fr_pl V := fun w h => absurd h (by omega)
      clear hi0
      induction n generalizing i ls H locs mk with
      | zero =>
        refine lv_iload_n hx hb dX0_not_18 rfl (lv_at hl 0 rfl) ?_
        refine lv_aload_n hx hb dX0_not_19 rfl (lv_at hl 1 rfl) ?_
        refine fr_gX 2 hx hb hw hown hK hP (by decide) mF_words rfl dX0_not_20 ?_
        refine lv_icmp_ge (tgt := 55) hx hb dX0_not_23 rfl (fun hcm => ?_) (fun hcm => absurd (nI_le (show fr_wn V ≤ i by omega) (by omega)) hcm)
        refine lv_aload_n hx hb dX0_not_55 rfl (lv_at hl 1 rfl) ?_
        refine lv_iload_n hx hb dX0_not_56 rfl (lv_at hl 2 rfl) ?_
        refine fr_Xm (As := [.int (nI j)]) hS0 (cF_keep l D V ad ka mk nm pt ro hV hinj j hLj) (cw_F_keep hw ⟨Nat.le_of_ble_eq_true rfl, Nat.le_of_ble_eq_true rfl⟩) hK hP hT hS rfl hl.1 rfl (Nat.le_of_ble_eq_true rfl) dX0_not_57 ⟨Nat.zero_le _, Nat.zero_le _⟩ (fun b u H locs hu hP hS => ?_)
        obtain ⟨rfl, rfl⟩ := hu
        have hR := fr_R_not hV (hF x hLx) (fun w h => hg w (by omega))
        exact W.iret (v := nI (fr_ct mk (fr_wn V))) hx hb hret (fun t ht hW => ⟨⟨_, (mk, nm, pt, va_up ro j (va_cpy mk (ro j) 0 0 (fr_wn V))), rfl, fr_fin hV hF hLj hR (by unfold fr_sNot; rw [if_pos (by rw [fr_okB_nI hLj (by decide), fr_okB_nI hLx (by decide)]; rfl), fr_v_nI (show x < 2 ^ 31 by omega)]), by show va_P D vwCl _ t.heap; rw [ht]; exact hP⟩, hS.F ht⟩) hS.2.2 dX0_not_60
      | succ n ih =>
        refine lv_iload_n hx hb dX0_not_18 rfl (lv_at hl 0 rfl) ?_
        refine lv_aload_n hx hb dX0_not_19 rfl (lv_at hl 1 rfl) ?_
        refine fr_gX 2 hx hb hw hown hK hP (by decide) mF_words rfl dX0_not_20 ?_
        refine lv_icmp_ge (tgt := 55) hx hb dX0_not_23 rfl (fun hcm => absurd hcm (nI_ge (show i < fr_wn V by omega) (by omega))) (fun hcm => ?_)
        have hi : i < fr_wn V := by omega
        refine lv_aload_n hx hb dX0_not_26 rfl (lv_at hl 1 rfl) ?_
        refine fr_gX 5 hx hb hw hown hK hP (by decide) mF_made rfl dX0_not_27 ?_
        refine lv_iload_n hx hb dX0_not_30 rfl (lv_at hl 0 rfl) ?_
        refine lv_aload_n hx hb dX0_not_31 rfl (lv_at hl 1 rfl) ?_
        refine fr_gX 4 hx hb hw hown hK hP (by decide) mF_rows rfl dX0_not_32 ?_
        refine lv_iload_n hx hb dX0_not_35 rfl (lv_at hl 3 rfl) ?_
        refine fr_aald hx hb hK hP 1 0 rfl rfl hLx (by decide) rfl dX0_not_36 ?_
        refine lv_iload_n hx hb dX0_not_37 rfl (lv_at hl 0 rfl) ?_
        refine fr_lald hx hb hK hP (x + 5) 1 (fr_row hLx) rfl hi (by omega) dX0_not_38 ?_
        refine lv_ldc2 (v := (-1)) hx hb hown (hw _ mC_F_28) dX0_not_39 ?_
        refine lv_lxor hx hb dX0_not_42 ?_
        refine lv_aload_n hx hb dX0_not_43 rfl (lv_at hl 1 rfl) ?_
        refine fr_gX 3 hx hb hw hown hK hP (by decide) mF_places rfl dX0_not_44 ?_
        refine lv_land hx hb dX0_not_47 ?_
        refine fr_last (ws2 := fr_xw V ad ka (vp_updL mk i (((ro x i ^^^ (-1)) &&& fr_pl V))) nm pt ro) hx hb hK hP (fr_D hinj) hS 2 2 rfl rfl hi (by omega) dX0_not_48 rfl (fun H locs hP hS => ?_)
        refine lv_iinc (k := 0) (v := nI (i + 1)) hx hb dX0_not_49 hl rfl (fr_inc i) (by decide) rfl (fun ls hl => ?_)
        replace hl : lv_has ls 4 [(3, .int (nI (i + 1))), (0, .ref (ad 0)), (1, .int (nI j)), (2, .int (nI x))] := hl
        refine lv_goto (tgt := 18) hx hb dX0_not_52 rfl ?_
        exact ih _ H locs hS hP ls (i + 1) (by omega) (lv_sub hl [0, 1, 2, 3] rfl) (fr_upS hg (rfl))
    ·
      refine lv_if_ne (tgt := 16) hx hb dX0_not_11 rfl (fun hz => absurd rfl hz) (fun hz => ?_)
      refine lv_iconst (v := (-1)) hx hb dX0_not_14 (by decide) ?_
      exact W.iret (v := (-1)) hx hb hret (fun t ht hW => ⟨⟨_, (mk, nm, pt, ro), rfl, by rw [show fr_sNot V F (nI j) a = (-1, F) from if_neg (fr_and2 (Or.inr (fr_okB_no (hno))))]; exact ⟨rfl, hF⟩, by show va_P D vwCl _ t.heap; rw [ht]; exact hP⟩, hS.F ht⟩) hS.2.2 dX0_not_15
  ·
    refine lv_if_eq (tgt := 14) hx hb dX0_not_4 rfl (fun hz => ?_) (fun hz => absurd rfl hz)
    refine lv_iconst (v := (-1)) hx hb dX0_not_14 (by decide) ?_
    exact W.iret (v := (-1)) hx hb hret (fun t ht hW => ⟨⟨_, (mk, nm, pt, ro), rfl, by rw [show fr_sNot V F r a = (-1, F) from if_neg (fr_and2 (Or.inl (fr_okB_no (hno))))]; exact ⟨rfl, hF⟩, by show va_P D vwCl _ t.heap; rw [ht]; exact hP⟩, hS.F ht⟩) hS.2.2 dX0_not_15
set_option maxHeartbeats 4000000 in
set_option maxRecDepth 100000 in
theorem cF_load (l : Launch) (D : va_G) (V : Nat) (ad : Nat → Nat) (ka : Nat → ClassId) (mk : Nat → Int64) (nm pt : Nat → Int32) (ro : Nat → Nat → Int64) (F : fr_F) (hF : fr_XR V F ro) (hV : V < 10) (hV1 : 1 ≤ V) (hinj : fr_inj ad) (r what : Int32)  : Met l yX0_load wsF_load rmF_load (va_Pc [.ref (ad 0), .int r, .int what] (fr_PX D V ad ka mk nm pt ro)) (va_Qi (fun res u => res = (fr_sLoad V F r what).1 ∧ fr_XR V (fr_sLoad V F r what).2 u.2.2.2) (fun u t => va_P D vwCl (fr_xu V ad ka u) t.heap) (fr_A ad)) 0 0 (fr_A ad) := by
  refine Met.ofW (cc := cX0_load) (maxL := 5) (ret := some .int) (by decide) rfl ?_
  intro p e s m args below meth c s₁ B hml hv
  obtain ⟨rfl, hP, hK, hT⟩ := hv
  have hx := B.exec
  have hb := B.bytes
  have hret := B.returns
  have hw := fun w (h : w ∈ WA) => atoms_spec (ws := wsF_load) B.pre w (List.mem_cons_of_mem _ h)
  have hown : s.vm.findClass "FunctionRoom" = some m.cls := findClass_of_methodNamed B.named
  have hlocks := B.notSynchronized
  have hS0 : CallFix p m c cX0_load 5 s _ WA "FunctionRoom" := ⟨hx, hb, hml, hown, hw⟩
  have hl := lv_entry ([.ref (ad 0), .int r, .int what]) (n := 5) (Nat.le_of_ble_eq_true rfl)
  rw [lg_entry_eq]
  generalize (lg_sl ([.ref (ad 0), .int r, .int what]) ++ List.replicate (5 - (lg_sl ([.ref (ad 0), .int r, .int what])).length) Slot.unset).toArray = ls at hl ⊢
  replace hl : lv_has ls 5 [(0, .ref (ad 0)), (1, .int r), (2, .int what)] := hl
  have hw8 := (fr_wn_le V hV).2.1
  have h512 := fr_pow512 hV
  refine fr_gen (A := fr_A ad) hP (fun H locs hP2 hS => ?_)
  clear hP
  have hP := hP2
  clear hP2
  refine lv_iload_n hx hb dX0_load_0 rfl (lv_at hl 2 rfl) ?_
  refine lv_bipush (v := (-2)) hx hb dX0_load_1 (by decide) ?_
  refine lv_icmp_eq (tgt := 11) hx hb dX0_load_3 rfl (fun h1 => ?_) (fun h1 => ?_)
  ·
    obtain rfl : what = (-2) := h1
    refine lv_iconst (v := 1) hx hb dX0_load_11 (by decide) ?_
    refine lv_goto (tgt := 16) hx hb dX0_load_12 rfl ?_
    refine lv_istore_n hx hb dX0_load_16 rfl hl (by decide) rfl (fun ls hl => ?_)
    replace hl : lv_has ls 5 [(3, .int 1), (0, .ref (ad 0)), (1, .int r), (2, .int ((-2)))] := hl
    refine lv_iload_n hx hb dX0_load_17 rfl (lv_at hl 2 rfl) ?_
    refine fr_cSi (As := [.int r]) hS0 (cF_isRegister l r) (cw_F_isRegister hw ⟨Nat.le_of_ble_eq_true rfl, Nat.le_of_ble_eq_true rfl⟩) (fr_pre0) rfl hl.1 rfl (Nat.le_of_ble_eq_true rfl) dX0_load_18 ⟨Nat.zero_le _, Nat.zero_le _⟩ (fun b0 hb0 => ?_)
    rcases hb0 with ⟨rfl, hOj⟩ | ⟨rfl, hno⟩
    ·
      refine lv_if_eq (tgt := 36) hx hb dX0_load_21 rfl (fun hz => absurd hz (by decide)) (fun hz => ?_)
      obtain ⟨j, hLj, rfl⟩ := fr_ok_ex (by decide) hOj
      refine lv_iload_n hx hb dX0_load_24 rfl (lv_at hl 0 rfl) ?_
      refine lv_if_ne (tgt := 38) hx hb dX0_load_25 rfl (fun hz => ?_) (fun hz => absurd hz (by decide))
      refine lv_iconst (v := 0) hx hb dX0_load_38 (by decide) ?_
      refine lv_istore hx hb dX0_load_39 hl (by decide) rfl (fun ls hl => ?_)
      replace hl : lv_has ls 5 [(4, .int 0), (3, .int 1), (0, .ref (ad 0)), (1, .int (nI j)), (2, .int ((-2)))] := hl
      obtain ⟨n, i, hin, hi0⟩ : ∃ n i : Nat, i + n = fr_wn V ∧ i = 0 := ⟨fr_wn V, 0, Nat.zero_add _, rfl⟩
      replace hl : lv_has ls 5 [(4, .int (nI i)), (3, .int 1), (0, .ref (ad 0)), (1, .int (nI j)), (2, .int ((-2)))] := by rw [hi0]; exact hl
      have hg : ∀ w, w < i → mk w = if false = true then fr_pl V else 0 := fun w h => absurd h (by omega)
      clear hi0
      induction n generalizing i ls H locs mk with
      | zero =>
        refine lv_iload hx hb dX0_load_41 (lv_at hl 0 rfl) ?_
        refine lv_aload_n hx hb dX0_load_43 rfl (lv_at hl 2 rfl) ?_
        refine fr_gX 2 hx hb hw hown hK hP (by decide) mF_words rfl dX0_load_44 ?_
        refine lv_icmp_ge (tgt := 97) hx hb dX0_load_47 rfl (fun hcm => ?_) (fun hcm => absurd (nI_le (show fr_wn V ≤ i by omega) (by omega)) hcm)
        refine lv_aload_n hx hb dX0_load_97 rfl (lv_at hl 2 rfl) ?_
        refine lv_iload_n hx hb dX0_load_98 rfl (lv_at hl 3 rfl) ?_
        refine fr_Xm (As := [.int (nI j)]) hS0 (cF_keep l D V ad ka mk nm pt ro hV hinj j hLj) (cw_F_keep hw ⟨Nat.le_of_ble_eq_true rfl, Nat.le_of_ble_eq_true rfl⟩) hK hP hT hS rfl hl.1 rfl (Nat.le_of_ble_eq_true rfl) dX0_load_99 ⟨Nat.zero_le _, Nat.zero_le _⟩ (fun b u H locs hu hP hS => ?_)
        obtain ⟨rfl, rfl⟩ := hu
        have hR := fr_R_const hV false (fun w h => hg w (by omega))
        exact W.iret (v := nI (fr_ct mk (fr_wn V))) hx hb hret (fun t ht hW => ⟨⟨_, (mk, nm, pt, va_up ro j (va_cpy mk (ro j) 0 0 (fr_wn V))), rfl, fr_fin hV hF hLj hR (by unfold fr_sLoad; rw [if_pos (by rw [fr_okB_nI hLj (by decide)]; rfl)]; rfl), by show va_P D vwCl _ t.heap; rw [ht]; exact hP⟩, hS.F ht⟩) hS.2.2 dX0_load_102
      | succ n ih =>
        refine lv_iload hx hb dX0_load_41 (lv_at hl 0 rfl) ?_
        refine lv_aload_n hx hb dX0_load_43 rfl (lv_at hl 2 rfl) ?_
        refine fr_gX 2 hx hb hw hown hK hP (by decide) mF_words rfl dX0_load_44 ?_
        refine lv_icmp_ge (tgt := 97) hx hb dX0_load_47 rfl (fun hcm => absurd hcm (nI_ge (show i < fr_wn V by omega) (by omega))) (fun hcm => ?_)
        have hi : i < fr_wn V := by omega
        refine lv_iload_n hx hb dX0_load_50 rfl (lv_at hl 1 rfl) ?_
        refine lv_if_eq (tgt := 77) hx hb dX0_load_51 rfl (fun hz => absurd hz (by decide)) (fun hz => ?_)
        refine lv_aload_n hx hb dX0_load_54 rfl (lv_at hl 2 rfl) ?_
        refine fr_gX 5 hx hb hw hown hK hP (by decide) mF_made rfl dX0_load_55 ?_
        refine lv_iload hx hb dX0_load_58 (lv_at hl 0 rfl) ?_
        refine lv_iload_n hx hb dX0_load_60 rfl (lv_at hl 4 rfl) ?_
        refine lv_iconst (v := (-1)) hx hb dX0_load_61 (by decide) ?_
        refine lv_icmp_ne (tgt := 72) hx hb dX0_load_62 rfl (fun hz => ?_) (fun hz => absurd hz (by decide))
        refine lv_lconst (v := 0) hx hb dX0_load_72 (by decide) ?_
        refine fr_last (ws2 := fr_xw V ad ka (vp_updL mk i (0)) nm pt ro) hx hb hK hP (fr_D hinj) hS 2 2 rfl rfl hi (by omega) dX0_load_73 rfl (fun H locs hP hS => ?_)
        refine lv_goto (tgt := 91) hx hb dX0_load_74 rfl ?_
        refine lv_iinc (k := 0) (v := nI (i + 1)) hx hb dX0_load_91 hl rfl (fr_inc i) (by decide) rfl (fun ls hl => ?_)
        replace hl : lv_has ls 5 [(4, .int (nI (i + 1))), (3, .int 1), (0, .ref (ad 0)), (1, .int (nI j)), (2, .int ((-2)))] := hl
        refine lv_goto (tgt := 41) hx hb dX0_load_94 rfl ?_
        exact ih _ H locs hS hP ls (i + 1) (by omega) (lv_sub hl [0, 1, 2, 3, 4] rfl) (fr_upS hg (rfl))
    ·
      refine lv_if_eq (tgt := 36) hx hb dX0_load_21 rfl (fun hz => ?_) (fun hz => absurd rfl hz)
      refine lv_iconst (v := (-1)) hx hb dX0_load_36 (by decide) ?_
      exact W.iret (v := (-1)) hx hb hret (fun t ht hW => ⟨⟨_, (mk, nm, pt, ro), rfl, by rw [show fr_sLoad V F r (-2) = (-1, F) from if_neg (fr_and2 (Or.inl (fr_okB_no (hno))))]; exact ⟨rfl, hF⟩, by show va_P D vwCl _ t.heap; rw [ht]; exact hP⟩, hS.F ht⟩) hS.2.2 dX0_load_37
  ·
    refine lv_iload_n hx hb dX0_load_6 rfl (lv_at hl 2 rfl) ?_
    refine lv_iconst (v := (-1)) hx hb dX0_load_7 (by decide) ?_
    refine lv_icmp_ne (tgt := 15) hx hb dX0_load_8 rfl (fun h2 => ?_) (fun h2 => ?_)
    ·
      refine lv_iconst (v := 0) hx hb dX0_load_15 (by decide) ?_
      refine lv_istore_n hx hb dX0_load_16 rfl hl (by decide) rfl (fun ls hl => ?_)
      replace hl : lv_has ls 5 [(3, .int 0), (0, .ref (ad 0)), (1, .int r), (2, .int what)] := hl
      refine lv_iload_n hx hb dX0_load_17 rfl (lv_at hl 2 rfl) ?_
      refine fr_cSi (As := [.int r]) hS0 (cF_isRegister l r) (cw_F_isRegister hw ⟨Nat.le_of_ble_eq_true rfl, Nat.le_of_ble_eq_true rfl⟩) (fr_pre0) rfl hl.1 rfl (Nat.le_of_ble_eq_true rfl) dX0_load_18 ⟨Nat.zero_le _, Nat.zero_le _⟩ (fun b0 hb0 => ?_)
      rcases hb0 with ⟨rfl, hOj⟩ | ⟨rfl, hno⟩
      ·
        refine lv_if_eq (tgt := 36) hx hb dX0_load_21 rfl (fun hz => absurd hz (by decide)) (fun hz => ?_)
        obtain ⟨j, hLj, rfl⟩ := fr_ok_ex (by decide) hOj
        refine lv_iload_n hx hb dX0_load_24 rfl (lv_at hl 0 rfl) ?_
        refine lv_if_ne (tgt := 38) hx hb dX0_load_25 rfl (fun hz => absurd rfl hz) (fun hz => ?_)
        refine lv_aload_n hx hb dX0_load_28 rfl (lv_at hl 1 rfl) ?_
        refine lv_iload_n hx hb dX0_load_29 rfl (lv_at hl 3 rfl) ?_
        refine fr_Xi (As := [.int what]) hS0 (cF_isVariable l D V ad ka mk nm pt ro what) (cw_F_isVariable hw ⟨Nat.le_of_ble_eq_true rfl, Nat.le_of_ble_eq_true rfl⟩) hK hP hT hS rfl hl.1 rfl (Nat.le_of_ble_eq_true rfl) dX0_load_30 ⟨Nat.zero_le _, Nat.zero_le _⟩ (fun b0 hb0 => ?_)
        rcases hb0 with ⟨rfl, hOk⟩ | ⟨rfl, hno⟩
        ·
          refine lv_if_ne (tgt := 38) hx hb dX0_load_33 rfl (fun hz => ?_) (fun hz => absurd hz (by decide))
          obtain ⟨k, hLk, rfl⟩ := fr_ok_ex (by omega) hOk
          refine lv_iconst (v := 0) hx hb dX0_load_38 (by decide) ?_
          refine lv_istore hx hb dX0_load_39 hl (by decide) rfl (fun ls hl => ?_)
          replace hl : lv_has ls 5 [(4, .int 0), (3, .int 0), (0, .ref (ad 0)), (1, .int (nI j)), (2, .int (nI k))] := hl
          obtain ⟨n, i, hin, hi0⟩ : ∃ n i : Nat, i + n = fr_wn V ∧ i = 0 := ⟨fr_wn V, 0, Nat.zero_add _, rfl⟩
          replace hl : lv_has ls 5 [(4, .int (nI i)), (3, .int 0), (0, .ref (ad 0)), (1, .int (nI j)), (2, .int (nI k))] := by rw [hi0]; exact hl
          have hg : ∀ w, w < i → mk w = fr_pw V k w := fun w h => absurd h (by omega)
          clear hi0
          induction n generalizing i ls H locs mk with
          | zero =>
            refine lv_iload hx hb dX0_load_41 (lv_at hl 0 rfl) ?_
            refine lv_aload_n hx hb dX0_load_43 rfl (lv_at hl 2 rfl) ?_
            refine fr_gX 2 hx hb hw hown hK hP (by decide) mF_words rfl dX0_load_44 ?_
            refine lv_icmp_ge (tgt := 97) hx hb dX0_load_47 rfl (fun hcm => ?_) (fun hcm => absurd (nI_le (show fr_wn V ≤ i by omega) (by omega)) hcm)
            refine lv_aload_n hx hb dX0_load_97 rfl (lv_at hl 2 rfl) ?_
            refine lv_iload_n hx hb dX0_load_98 rfl (lv_at hl 3 rfl) ?_
            refine fr_Xm (As := [.int (nI j)]) hS0 (cF_keep l D V ad ka mk nm pt ro hV hinj j hLj) (cw_F_keep hw ⟨Nat.le_of_ble_eq_true rfl, Nat.le_of_ble_eq_true rfl⟩) hK hP hT hS rfl hl.1 rfl (Nat.le_of_ble_eq_true rfl) dX0_load_99 ⟨Nat.zero_le _, Nat.zero_le _⟩ (fun b u H locs hu hP hS => ?_)
            obtain ⟨rfl, rfl⟩ := hu
            have hR := fr_R_var hV hLk (fun w h => hg w (by omega))
            exact W.iret (v := nI (fr_ct mk (fr_wn V))) hx hb hret (fun t ht hW => ⟨⟨_, (mk, nm, pt, va_up ro j (va_cpy mk (ro j) 0 0 (fr_wn V))), rfl, fr_fin hV hF hLj hR (by unfold fr_sLoad; rw [if_pos (by rw [fr_okB_nI hLj (by decide), fr_okB_nI hLk (by omega), Bool.or_true]; rfl), if_neg h1, if_neg h2, fr_v_nI (show k < 2 ^ 31 by omega)]), by show va_P D vwCl _ t.heap; rw [ht]; exact hP⟩, hS.F ht⟩) hS.2.2 dX0_load_102
          | succ n ih =>
            refine lv_iload hx hb dX0_load_41 (lv_at hl 0 rfl) ?_
            refine lv_aload_n hx hb dX0_load_43 rfl (lv_at hl 2 rfl) ?_
            refine fr_gX 2 hx hb hw hown hK hP (by decide) mF_words rfl dX0_load_44 ?_
            refine lv_icmp_ge (tgt := 97) hx hb dX0_load_47 rfl (fun hcm => absurd hcm (nI_ge (show i < fr_wn V by omega) (by omega))) (fun hcm => ?_)
            have hi : i < fr_wn V := by omega
            refine lv_iload_n hx hb dX0_load_50 rfl (lv_at hl 1 rfl) ?_
            refine lv_if_eq (tgt := 77) hx hb dX0_load_51 rfl (fun hz => ?_) (fun hz => absurd rfl hz)
            refine lv_aload_n hx hb dX0_load_77 rfl (lv_at hl 2 rfl) ?_
            refine fr_gX 5 hx hb hw hown hK hP (by decide) mF_made rfl dX0_load_78 ?_
            refine lv_iload hx hb dX0_load_81 (lv_at hl 0 rfl) ?_
            refine lv_aload_n hx hb dX0_load_83 rfl (lv_at hl 2 rfl) ?_
            refine lv_iload_n hx hb dX0_load_84 rfl (lv_at hl 4 rfl) ?_
            refine lv_iload hx hb dX0_load_85 (lv_at hl 0 rfl) ?_
            refine fr_Xl (As := [.int (nI k), .int (nI i)]) hS0 (cF_placesWhereOne l D V ad ka mk nm pt ro k i hLk hV hi) (cw_F_placesWhereOne hw ⟨Nat.le_of_ble_eq_true rfl, Nat.le_of_ble_eq_true rfl⟩) hK hP hT hS rfl hl.1 rfl (Nat.le_of_ble_eq_true rfl) dX0_load_87 ⟨Nat.zero_le _, Nat.zero_le _⟩ (fun b2 hb2 => ?_)
            subst hb2
            refine fr_last (ws2 := fr_xw V ad ka (vp_updL mk i (fr_pw V k i)) nm pt ro) hx hb hK hP (fr_D hinj) hS 2 2 rfl rfl hi (by omega) dX0_load_90 rfl (fun H locs hP hS => ?_)
            refine lv_iinc (k := 0) (v := nI (i + 1)) hx hb dX0_load_91 hl rfl (fr_inc i) (by decide) rfl (fun ls hl => ?_)
            replace hl : lv_has ls 5 [(4, .int (nI (i + 1))), (3, .int 0), (0, .ref (ad 0)), (1, .int (nI j)), (2, .int (nI k))] := hl
            refine lv_goto (tgt := 41) hx hb dX0_load_94 rfl ?_
            exact ih _ H locs hS hP ls (i + 1) (by omega) (lv_sub hl [0, 1, 2, 3, 4] rfl) (fr_upS hg (rfl))
        ·
          refine lv_if_ne (tgt := 38) hx hb dX0_load_33 rfl (fun hz => absurd rfl hz) (fun hz => ?_)
          refine lv_iconst (v := (-1)) hx hb dX0_load_36 (by decide) ?_
          exact W.iret (v := (-1)) hx hb hret (fun t ht hW => ⟨⟨_, (mk, nm, pt, ro), rfl, by rw [show fr_sLoad V F (nI j) what = (-1, F) from if_neg (by rw [fr_okB_no hno, decide_eq_false h1, decide_eq_false h2, Bool.or_false, Bool.or_false, Bool.and_false]; decide)]; exact ⟨rfl, hF⟩, by show va_P D vwCl _ t.heap; rw [ht]; exact hP⟩, hS.F ht⟩) hS.2.2 dX0_load_37
      ·
        refine lv_if_eq (tgt := 36) hx hb dX0_load_21 rfl (fun hz => ?_) (fun hz => absurd rfl hz)
        refine lv_iconst (v := (-1)) hx hb dX0_load_36 (by decide) ?_
        exact W.iret (v := (-1)) hx hb hret (fun t ht hW => ⟨⟨_, (mk, nm, pt, ro), rfl, by rw [show fr_sLoad V F r what = (-1, F) from if_neg (fr_and2 (Or.inl (fr_okB_no (hno))))]; exact ⟨rfl, hF⟩, by show va_P D vwCl _ t.heap; rw [ht]; exact hP⟩, hS.F ht⟩) hS.2.2 dX0_load_37
    ·
      obtain rfl : what = (-1) := h2
      refine lv_iconst (v := 1) hx hb dX0_load_11 (by decide) ?_
      refine lv_goto (tgt := 16) hx hb dX0_load_12 rfl ?_
      refine lv_istore_n hx hb dX0_load_16 rfl hl (by decide) rfl (fun ls hl => ?_)
      replace hl : lv_has ls 5 [(3, .int 1), (0, .ref (ad 0)), (1, .int r), (2, .int ((-1)))] := hl
      refine lv_iload_n hx hb dX0_load_17 rfl (lv_at hl 2 rfl) ?_
      refine fr_cSi (As := [.int r]) hS0 (cF_isRegister l r) (cw_F_isRegister hw ⟨Nat.le_of_ble_eq_true rfl, Nat.le_of_ble_eq_true rfl⟩) (fr_pre0) rfl hl.1 rfl (Nat.le_of_ble_eq_true rfl) dX0_load_18 ⟨Nat.zero_le _, Nat.zero_le _⟩ (fun b0 hb0 => ?_)
      rcases hb0 with ⟨rfl, hOj⟩ | ⟨rfl, hno⟩
      ·
        refine lv_if_eq (tgt := 36) hx hb dX0_load_21 rfl (fun hz => absurd hz (by decide)) (fun hz => ?_)
        obtain ⟨j, hLj, rfl⟩ := fr_ok_ex (by decide) hOj
        refine lv_iload_n hx hb dX0_load_24 rfl (lv_at hl 0 rfl) ?_
        refine lv_if_ne (tgt := 38) hx hb dX0_load_25 rfl (fun hz => ?_) (fun hz => absurd hz (by decide))
        refine lv_iconst (v := 0) hx hb dX0_load_38 (by decide) ?_
        refine lv_istore hx hb dX0_load_39 hl (by decide) rfl (fun ls hl => ?_)
        replace hl : lv_has ls 5 [(4, .int 0), (3, .int 1), (0, .ref (ad 0)), (1, .int (nI j)), (2, .int ((-1)))] := hl
        obtain ⟨n, i, hin, hi0⟩ : ∃ n i : Nat, i + n = fr_wn V ∧ i = 0 := ⟨fr_wn V, 0, Nat.zero_add _, rfl⟩
        replace hl : lv_has ls 5 [(4, .int (nI i)), (3, .int 1), (0, .ref (ad 0)), (1, .int (nI j)), (2, .int ((-1)))] := by rw [hi0]; exact hl
        have hg : ∀ w, w < i → mk w = if true = true then fr_pl V else 0 := fun w h => absurd h (by omega)
        clear hi0
        induction n generalizing i ls H locs mk with
        | zero =>
          refine lv_iload hx hb dX0_load_41 (lv_at hl 0 rfl) ?_
          refine lv_aload_n hx hb dX0_load_43 rfl (lv_at hl 2 rfl) ?_
          refine fr_gX 2 hx hb hw hown hK hP (by decide) mF_words rfl dX0_load_44 ?_
          refine lv_icmp_ge (tgt := 97) hx hb dX0_load_47 rfl (fun hcm => ?_) (fun hcm => absurd (nI_le (show fr_wn V ≤ i by omega) (by omega)) hcm)
          refine lv_aload_n hx hb dX0_load_97 rfl (lv_at hl 2 rfl) ?_
          refine lv_iload_n hx hb dX0_load_98 rfl (lv_at hl 3 rfl) ?_
          refine fr_Xm (As := [.int (nI j)]) hS0 (cF_keep l D V ad ka mk nm pt ro hV hinj j hLj) (cw_F_keep hw ⟨Nat.le_of_ble_eq_true rfl, Nat.le_of_ble_eq_true rfl⟩) hK hP hT hS rfl hl.1 rfl (Nat.le_of_ble_eq_true rfl) dX0_load_99 ⟨Nat.zero_le _, Nat.zero_le _⟩ (fun b u H locs hu hP hS => ?_)
          obtain ⟨rfl, rfl⟩ := hu
          have hR := fr_R_const hV true (fun w h => hg w (by omega))
          exact W.iret (v := nI (fr_ct mk (fr_wn V))) hx hb hret (fun t ht hW => ⟨⟨_, (mk, nm, pt, va_up ro j (va_cpy mk (ro j) 0 0 (fr_wn V))), rfl, fr_fin hV hF hLj hR (by unfold fr_sLoad; rw [if_pos (by rw [fr_okB_nI hLj (by decide)]; rfl)]; rfl), by show va_P D vwCl _ t.heap; rw [ht]; exact hP⟩, hS.F ht⟩) hS.2.2 dX0_load_102
        | succ n ih =>
          refine lv_iload hx hb dX0_load_41 (lv_at hl 0 rfl) ?_
          refine lv_aload_n hx hb dX0_load_43 rfl (lv_at hl 2 rfl) ?_
          refine fr_gX 2 hx hb hw hown hK hP (by decide) mF_words rfl dX0_load_44 ?_
          refine lv_icmp_ge (tgt := 97) hx hb dX0_load_47 rfl (fun hcm => absurd hcm (nI_ge (show i < fr_wn V by omega) (by omega))) (fun hcm => ?_)
          have hi : i < fr_wn V := by omega
          refine lv_iload_n hx hb dX0_load_50 rfl (lv_at hl 1 rfl) ?_
          refine lv_if_eq (tgt := 77) hx hb dX0_load_51 rfl (fun hz => absurd hz (by decide)) (fun hz => ?_)
          refine lv_aload_n hx hb dX0_load_54 rfl (lv_at hl 2 rfl) ?_
          refine fr_gX 5 hx hb hw hown hK hP (by decide) mF_made rfl dX0_load_55 ?_
          refine lv_iload hx hb dX0_load_58 (lv_at hl 0 rfl) ?_
          refine lv_iload_n hx hb dX0_load_60 rfl (lv_at hl 4 rfl) ?_
          refine lv_iconst (v := (-1)) hx hb dX0_load_61 (by decide) ?_
          refine lv_icmp_ne (tgt := 72) hx hb dX0_load_62 rfl (fun hz => absurd rfl hz) (fun hz => ?_)
          refine lv_aload_n hx hb dX0_load_65 rfl (lv_at hl 2 rfl) ?_
          refine fr_gX 3 hx hb hw hown hK hP (by decide) mF_places rfl dX0_load_66 ?_
          refine lv_goto (tgt := 73) hx hb dX0_load_69 rfl ?_
          refine fr_last (ws2 := fr_xw V ad ka (vp_updL mk i (fr_pl V)) nm pt ro) hx hb hK hP (fr_D hinj) hS 2 2 rfl rfl hi (by omega) dX0_load_73 rfl (fun H locs hP hS => ?_)
          refine lv_goto (tgt := 91) hx hb dX0_load_74 rfl ?_
          refine lv_iinc (k := 0) (v := nI (i + 1)) hx hb dX0_load_91 hl rfl (fr_inc i) (by decide) rfl (fun ls hl => ?_)
          replace hl : lv_has ls 5 [(4, .int (nI (i + 1))), (3, .int 1), (0, .ref (ad 0)), (1, .int (nI j)), (2, .int ((-1)))] := hl
          refine lv_goto (tgt := 41) hx hb dX0_load_94 rfl ?_
          exact ih _ H locs hS hP ls (i + 1) (by omega) (lv_sub hl [0, 1, 2, 3, 4] rfl) (fr_upS hg (rfl))
      ·
        refine lv_if_eq (tgt := 36) hx hb dX0_load_21 rfl (fun hz => ?_) (fun hz => absurd rfl hz)
        refine lv_iconst (v := (-1)) hx hb dX0_load_36 (by decide) ?_
        exact W.iret (v := (-1)) hx hb hret (fun t ht hW => ⟨⟨_, (mk, nm, pt, ro), rfl, by rw [show fr_sLoad V F r (-1) = (-1, F) from if_neg (fr_and2 (Or.inl (fr_okB_no (hno))))]; exact ⟨rfl, hF⟩, by show va_P D vwCl _ t.heap; rw [ht]; exact hP⟩, hS.F ht⟩) hS.2.2 dX0_load_37
end
section
set_option maxHeartbeats 4000000 in
set_option maxRecDepth 100000 in
theorem cF_with (l : Launch) (D : va_G) (V : Nat) (ad : Nat → Nat) (ka : Nat → ClassId) (mk : Nat → Int64) (nm pt : Nat → Int32) (ro : Nat → Nat → Int64) (F : fr_F) (hF : fr_XR V F ro) (hV : V < 10) (hV1 : 1 ≤ V) (hinj : fr_inj ad) (r a v : Int32) (one : Bool)    : Met l yX0_with wsF_with rmF_with (va_Pc [.ref (ad 0), .int r, .int a, .int v, .int (fr_bi one)] (fr_PX D V ad ka mk nm pt ro)) (va_Qi (fun res u => res = (fr_sWith V F r a v one).1 ∧ fr_XR V (fr_sWith V F r a v one).2 u.2.2.2) (fun u t => va_P D vwCl (fr_xu V ad ka u) t.heap) (fr_A ad)) 0 0 (fr_A ad) := by
  refine Met.ofW (cc := cX0_with) (maxL := 6) (ret := some .int) (by decide) rfl ?_
  intro p e s m args below meth c s₁ B hml hv
  obtain ⟨rfl, hP, hK, hT⟩ := hv
  have hx := B.exec
  have hb := B.bytes
  have hret := B.returns
  have hw := fun w (h : w ∈ WA) => atoms_spec (ws := wsF_with) B.pre w (List.mem_cons_of_mem _ h)
  have hown : s.vm.findClass "FunctionRoom" = some m.cls := findClass_of_methodNamed B.named
  have hlocks := B.notSynchronized
  have hS0 : CallFix p m c cX0_with 6 s _ WA "FunctionRoom" := ⟨hx, hb, hml, hown, hw⟩
  have hl := lv_entry ([.ref (ad 0), .int r, .int a, .int v, .int (fr_bi one)]) (n := 6) (Nat.le_of_ble_eq_true rfl)
  rw [lg_entry_eq]
  generalize (lg_sl ([.ref (ad 0), .int r, .int a, .int v, .int (fr_bi one)]) ++ List.replicate (6 - (lg_sl ([.ref (ad 0), .int r, .int a, .int v, .int (fr_bi one)])).length) Slot.unset).toArray = ls at hl ⊢
  replace hl : lv_has ls 6 [(0, .ref (ad 0)), (1, .int r), (2, .int a), (3, .int v), (4, .int (fr_bi one))] := hl
  have hw8 := (fr_wn_le V hV).2.1
  have h512 := fr_pow512 hV
  refine fr_gen (A := fr_A ad) hP (fun H locs hP2 hS => ?_)
  clear hP
  have hP := hP2
  clear hP2
  refine lv_iload_n hx hb dX0_with_0 rfl (lv_at hl 1 rfl) ?_
  refine fr_cSi (As := [.int r]) hS0 (cF_isRegister l r) (cw_F_isRegister hw ⟨Nat.le_of_ble_eq_true rfl, Nat.le_of_ble_eq_true rfl⟩) (fr_pre0) rfl hl.1 rfl (Nat.le_of_ble_eq_true rfl) dX0_with_1 ⟨Nat.zero_le _, Nat.zero_le _⟩ (fun b0 hb0 => ?_)
  rcases hb0 with ⟨rfl, hOj⟩ | ⟨rfl, hno⟩
  ·
    refine lv_if_eq (tgt := 22) hx hb dX0_with_4 rfl (fun hz => absurd hz (by decide)) (fun hz => ?_)
    obtain ⟨j, hLj, rfl⟩ := fr_ok_ex (by decide) hOj
    refine lv_iload_n hx hb dX0_with_7 rfl (lv_at hl 2 rfl) ?_
    refine fr_cSi (As := [.int a]) hS0 (cF_isRegister l a) (cw_F_isRegister hw ⟨Nat.le_of_ble_eq_true rfl, Nat.le_of_ble_eq_true rfl⟩) (fr_pre0) rfl hl.1 rfl (Nat.le_of_ble_eq_true rfl) dX0_with_8 ⟨Nat.zero_le _, Nat.zero_le _⟩ (fun b0 hb0 => ?_)
    rcases hb0 with ⟨rfl, hOx⟩ | ⟨rfl, hno⟩
    ·
      refine lv_if_eq (tgt := 22) hx hb dX0_with_11 rfl (fun hz => absurd hz (by decide)) (fun hz => ?_)
      obtain ⟨x, hLx, rfl⟩ := fr_ok_ex (by decide) hOx
      refine lv_aload_n hx hb dX0_with_14 rfl (lv_at hl 0 rfl) ?_
      refine lv_iload_n hx hb dX0_with_15 rfl (lv_at hl 3 rfl) ?_
      refine fr_Xi (As := [.int v]) hS0 (cF_isVariable l D V ad ka mk nm pt ro v) (cw_F_isVariable hw ⟨Nat.le_of_ble_eq_true rfl, Nat.le_of_ble_eq_true rfl⟩) hK hP hT hS rfl hl.1 rfl (Nat.le_of_ble_eq_true rfl) dX0_with_16 ⟨Nat.zero_le _, Nat.zero_le _⟩ (fun b0 hb0 => ?_)
      rcases hb0 with ⟨rfl, hOk⟩ | ⟨rfl, hno⟩
      ·
        refine lv_if_ne (tgt := 24) hx hb dX0_with_19 rfl (fun hz => ?_) (fun hz => absurd hz (by decide))
        obtain ⟨k, hLk, rfl⟩ := fr_ok_ex (by omega) hOk
        refine lv_iconst (v := 0) hx hb dX0_with_24 (by decide) ?_
        refine lv_istore hx hb dX0_with_25 hl (by decide) rfl (fun ls hl => ?_)
        replace hl : lv_has ls 6 [(5, .int 0), (0, .ref (ad 0)), (1, .int (nI j)), (2, .int (nI x)), (3, .int (nI k)), (4, .int (fr_bi one))] := hl
        obtain ⟨n, i, hin, hi0⟩ : ∃ n i : Nat, i + n = fr_wn V ∧ i = 0 := ⟨fr_wn V, 0, Nat.zero_add _, rfl⟩
        replace hl : lv_has ls 6 [(5, .int (nI i)), (0, .ref (ad 0)), (1, .int (nI j)), (2, .int (nI x)), (3, .int (nI k)), (4, .int (fr_bi one))] := by rw [hi0]; exact hl
        have hg : ∀ w, w < i → mk w = fr_nr V (ro x) k one w := fun w h => absurd h (by omega)
        clear hi0
        induction n generalizing i ls H locs mk with
        | zero =>
          refine lv_iload hx hb dX0_with_27 (lv_at hl 0 rfl) ?_
          refine lv_aload_n hx hb dX0_with_29 rfl (lv_at hl 1 rfl) ?_
          refine fr_gX 2 hx hb hw hown hK hP (by decide) mF_words rfl dX0_with_30 ?_
          refine lv_icmp_ge (tgt := 64) hx hb dX0_with_33 rfl (fun hcm => ?_) (fun hcm => absurd (nI_le (show fr_wn V ≤ i by omega) (by omega)) hcm)
          refine lv_aload_n hx hb dX0_with_64 rfl (lv_at hl 1 rfl) ?_
          refine lv_iload_n hx hb dX0_with_65 rfl (lv_at hl 2 rfl) ?_
          refine fr_Xm (As := [.int (nI j)]) hS0 (cF_keep l D V ad ka mk nm pt ro hV hinj j hLj) (cw_F_keep hw ⟨Nat.le_of_ble_eq_true rfl, Nat.le_of_ble_eq_true rfl⟩) hK hP hT hS rfl hl.1 rfl (Nat.le_of_ble_eq_true rfl) dX0_with_66 ⟨Nat.zero_le _, Nat.zero_le _⟩ (fun b u H locs hu hP hS => ?_)
          obtain ⟨rfl, rfl⟩ := hu
          have hR := fr_R_with hV hLk (hF x hLx) (fun w h => hg w (by omega))
          exact W.iret (v := nI (fr_ct mk (fr_wn V))) hx hb hret (fun t ht hW => ⟨⟨_, (mk, nm, pt, va_up ro j (va_cpy mk (ro j) 0 0 (fr_wn V))), rfl, fr_fin hV hF hLj hR (by unfold fr_sWith; rw [if_pos (by rw [fr_okB_nI hLj (by decide), fr_okB_nI hLx (by decide), fr_okB_nI hLk (by omega)]; rfl), fr_v_nI (show x < 2 ^ 31 by omega), fr_v_nI (show k < 2 ^ 31 by omega)]), by show va_P D vwCl _ t.heap; rw [ht]; exact hP⟩, hS.F ht⟩) hS.2.2 dX0_with_69
        | succ n ih =>
          refine lv_iload hx hb dX0_with_27 (lv_at hl 0 rfl) ?_
          refine lv_aload_n hx hb dX0_with_29 rfl (lv_at hl 1 rfl) ?_
          refine fr_gX 2 hx hb hw hown hK hP (by decide) mF_words rfl dX0_with_30 ?_
          refine lv_icmp_ge (tgt := 64) hx hb dX0_with_33 rfl (fun hcm => absurd hcm (nI_ge (show i < fr_wn V by omega) (by omega))) (fun hcm => ?_)
          have hi : i < fr_wn V := by omega
          refine lv_aload_n hx hb dX0_with_36 rfl (lv_at hl 1 rfl) ?_
          refine fr_gX 5 hx hb hw hown hK hP (by decide) mF_made rfl dX0_with_37 ?_
          refine lv_iload hx hb dX0_with_40 (lv_at hl 0 rfl) ?_
          refine lv_aload_n hx hb dX0_with_42 rfl (lv_at hl 1 rfl) ?_
          refine lv_aload_n hx hb dX0_with_43 rfl (lv_at hl 1 rfl) ?_
          refine fr_gX 4 hx hb hw hown hK hP (by decide) mF_rows rfl dX0_with_44 ?_
          refine lv_iload_n hx hb dX0_with_47 rfl (lv_at hl 3 rfl) ?_
          refine fr_aald hx hb hK hP 1 0 rfl rfl hLx (by decide) rfl dX0_with_48 ?_
          refine lv_iload_n hx hb dX0_with_49 rfl (lv_at hl 4 rfl) ?_
          refine lv_iload hx hb dX0_with_50 (lv_at hl 5 rfl) ?_
          refine lv_iload hx hb dX0_with_52 (lv_at hl 0 rfl) ?_
          refine fr_Xl (As := [.ref (ad (x + 5)), .int (nI k), .int (fr_bi one), .int (nI i)]) hS0 (cF_narrowed l D V ad ka mk nm pt ro (x + 5) 1 (ad (x + 5)) (ka 1) (ro x) (fr_row hLx) rfl k i one hLk hV hi) (cw_F_narrowed hw ⟨Nat.le_of_ble_eq_true rfl, Nat.le_of_ble_eq_true rfl⟩) hK hP hT hS rfl hl.1 rfl (Nat.le_of_ble_eq_true rfl) dX0_with_54 ⟨Nat.zero_le _, Nat.zero_le _⟩ (fun b2 hb2 => ?_)
          subst hb2
          refine fr_last (ws2 := fr_xw V ad ka (vp_updL mk i (fr_nr V (ro x) k one i)) nm pt ro) hx hb hK hP (fr_D hinj) hS 2 2 rfl rfl hi (by omega) dX0_with_57 rfl (fun H locs hP hS => ?_)
          refine lv_iinc (k := 0) (v := nI (i + 1)) hx hb dX0_with_58 hl rfl (fr_inc i) (by decide) rfl (fun ls hl => ?_)
          replace hl : lv_has ls 6 [(5, .int (nI (i + 1))), (0, .ref (ad 0)), (1, .int (nI j)), (2, .int (nI x)), (3, .int (nI k)), (4, .int (fr_bi one))] := hl
          refine lv_goto (tgt := 27) hx hb dX0_with_61 rfl ?_
          exact ih _ H locs hS hP ls (i + 1) (by omega) (lv_sub hl [0, 1, 2, 3, 4, 5] rfl) (fr_upS hg (rfl))
      ·
        refine lv_if_ne (tgt := 24) hx hb dX0_with_19 rfl (fun hz => absurd rfl hz) (fun hz => ?_)
        refine lv_iconst (v := (-1)) hx hb dX0_with_22 (by decide) ?_
        exact W.iret (v := (-1)) hx hb hret (fun t ht hW => ⟨⟨_, (mk, nm, pt, ro), rfl, by rw [show fr_sWith V F (nI j) (nI x) v one = (-1, F) from if_neg (fr_and3 (Or.inr (Or.inr (fr_okB_no (hno)))))]; exact ⟨rfl, hF⟩, by show va_P D vwCl _ t.heap; rw [ht]; exact hP⟩, hS.F ht⟩) hS.2.2 dX0_with_23
    ·
      refine lv_if_eq (tgt := 22) hx hb dX0_with_11 rfl (fun hz => ?_) (fun hz => absurd rfl hz)
      refine lv_iconst (v := (-1)) hx hb dX0_with_22 (by decide) ?_
      exact W.iret (v := (-1)) hx hb hret (fun t ht hW => ⟨⟨_, (mk, nm, pt, ro), rfl, by rw [show fr_sWith V F (nI j) a v one = (-1, F) from if_neg (fr_and3 (Or.inr (Or.inl (fr_okB_no (hno)))))]; exact ⟨rfl, hF⟩, by show va_P D vwCl _ t.heap; rw [ht]; exact hP⟩, hS.F ht⟩) hS.2.2 dX0_with_23
  ·
    refine lv_if_eq (tgt := 22) hx hb dX0_with_4 rfl (fun hz => ?_) (fun hz => absurd rfl hz)
    refine lv_iconst (v := (-1)) hx hb dX0_with_22 (by decide) ?_
    exact W.iret (v := (-1)) hx hb hret (fun t ht hW => ⟨⟨_, (mk, nm, pt, ro), rfl, by rw [show fr_sWith V F r a v one = (-1, F) from if_neg (fr_and3 (Or.inl (fr_okB_no (hno))))]; exact ⟨rfl, hF⟩, by show va_P D vwCl _ t.heap; rw [ht]; exact hP⟩, hS.F ht⟩) hS.2.2 dX0_with_23
set_option maxHeartbeats 4000000 in
set_option maxRecDepth 100000 in
theorem cF_bind (l : Launch) (D : va_G) (V : Nat) (ad : Nat → Nat) (ka : Nat → ClassId) (mk : Nat → Int64) (nm pt : Nat → Int32) (ro : Nat → Nat → Int64) (F : fr_F) (hF : fr_XR V F ro) (hV : V < 10) (hV1 : 1 ≤ V) (hinj : fr_inj ad) (r a v : Int32) (all : Bool)    : Met l yX0_bind wsF_bind rmF_bind (va_Pc [.ref (ad 0), .int r, .int a, .int v, .int (fr_bi all)] (fr_PX D V ad ka mk nm pt ro)) (va_Qi (fun res u => res = (fr_sBind V F r a v all).1 ∧ fr_XR V (fr_sBind V F r a v all).2 u.2.2.2) (fun u t => va_P D vwCl (fr_xu V ad ka u) t.heap) (fr_A ad)) 0 0 (fr_A ad) := by
  refine Met.ofW (cc := cX0_bind) (maxL := 10) (ret := some .int) (by decide) rfl ?_
  intro p e s m args below meth c s₁ B hml hv
  obtain ⟨rfl, hP, hK, hT⟩ := hv
  have hx := B.exec
  have hb := B.bytes
  have hret := B.returns
  have hw := fun w (h : w ∈ WA) => atoms_spec (ws := wsF_bind) B.pre w (List.mem_cons_of_mem _ h)
  have hown : s.vm.findClass "FunctionRoom" = some m.cls := findClass_of_methodNamed B.named
  have hlocks := B.notSynchronized
  have hS0 : CallFix p m c cX0_bind 10 s _ WA "FunctionRoom" := ⟨hx, hb, hml, hown, hw⟩
  have hl := lv_entry ([.ref (ad 0), .int r, .int a, .int v, .int (fr_bi all)]) (n := 10) (Nat.le_of_ble_eq_true rfl)
  rw [lg_entry_eq]
  generalize (lg_sl ([.ref (ad 0), .int r, .int a, .int v, .int (fr_bi all)]) ++ List.replicate (10 - (lg_sl ([.ref (ad 0), .int r, .int a, .int v, .int (fr_bi all)])).length) Slot.unset).toArray = ls at hl ⊢
  replace hl : lv_has ls 10 [(0, .ref (ad 0)), (1, .int r), (2, .int a), (3, .int v), (4, .int (fr_bi all))] := hl
  have hw8 := (fr_wn_le V hV).2.1
  have h512 := fr_pow512 hV
  refine fr_gen (A := fr_A ad) hP (fun H locs hP2 hS => ?_)
  clear hP
  have hP := hP2
  clear hP2
  refine lv_iload_n hx hb dX0_bind_0 rfl (lv_at hl 1 rfl) ?_
  refine fr_cSi (As := [.int r]) hS0 (cF_isRegister l r) (cw_F_isRegister hw ⟨Nat.le_of_ble_eq_true rfl, Nat.le_of_ble_eq_true rfl⟩) (fr_pre0) rfl hl.1 rfl (Nat.le_of_ble_eq_true rfl) dX0_bind_1 ⟨Nat.zero_le _, Nat.zero_le _⟩ (fun b0 hb0 => ?_)
  rcases hb0 with ⟨rfl, hOj⟩ | ⟨rfl, hno⟩
  ·
    refine lv_if_eq (tgt := 22) hx hb dX0_bind_4 rfl (fun hz => absurd hz (by decide)) (fun hz => ?_)
    obtain ⟨j, hLj, rfl⟩ := fr_ok_ex (by decide) hOj
    refine lv_iload_n hx hb dX0_bind_7 rfl (lv_at hl 2 rfl) ?_
    refine fr_cSi (As := [.int a]) hS0 (cF_isRegister l a) (cw_F_isRegister hw ⟨Nat.le_of_ble_eq_true rfl, Nat.le_of_ble_eq_true rfl⟩) (fr_pre0) rfl hl.1 rfl (Nat.le_of_ble_eq_true rfl) dX0_bind_8 ⟨Nat.zero_le _, Nat.zero_le _⟩ (fun b0 hb0 => ?_)
    rcases hb0 with ⟨rfl, hOx⟩ | ⟨rfl, hno⟩
    ·
      refine lv_if_eq (tgt := 22) hx hb dX0_bind_11 rfl (fun hz => absurd hz (by decide)) (fun hz => ?_)
      obtain ⟨x, hLx, rfl⟩ := fr_ok_ex (by decide) hOx
      refine lv_aload_n hx hb dX0_bind_14 rfl (lv_at hl 0 rfl) ?_
      refine lv_iload_n hx hb dX0_bind_15 rfl (lv_at hl 3 rfl) ?_
      refine fr_Xi (As := [.int v]) hS0 (cF_isVariable l D V ad ka mk nm pt ro v) (cw_F_isVariable hw ⟨Nat.le_of_ble_eq_true rfl, Nat.le_of_ble_eq_true rfl⟩) hK hP hT hS rfl hl.1 rfl (Nat.le_of_ble_eq_true rfl) dX0_bind_16 ⟨Nat.zero_le _, Nat.zero_le _⟩ (fun b0 hb0 => ?_)
      rcases hb0 with ⟨rfl, hOk⟩ | ⟨rfl, hno⟩
      ·
        refine lv_if_ne (tgt := 24) hx hb dX0_bind_19 rfl (fun hz => ?_) (fun hz => absurd hz (by decide))
        obtain ⟨k, hLk, rfl⟩ := fr_ok_ex (by omega) hOk
        refine lv_iconst (v := 0) hx hb dX0_bind_24 (by decide) ?_
        refine lv_istore hx hb dX0_bind_25 hl (by decide) rfl (fun ls hl => ?_)
        replace hl : lv_has ls 10 [(5, .int 0), (0, .ref (ad 0)), (1, .int (nI j)), (2, .int (nI x)), (3, .int (nI k)), (4, .int (fr_bi all))] := hl
        obtain ⟨n, i, hin, hi0⟩ : ∃ n i : Nat, i + n = fr_wn V ∧ i = 0 := ⟨fr_wn V, 0, Nat.zero_add _, rfl⟩
        replace hl : lv_has ls 10 [(5, .int (nI i)), (0, .ref (ad 0)), (1, .int (nI j)), (2, .int (nI x)), (3, .int (nI k)), (4, .int (fr_bi all))] := by rw [hi0]; exact hl
        have hg : ∀ w, w < i → mk w = if all = true then ro x w &&& fr_tn V (ro x) k w else ro x w ||| fr_tn V (ro x) k w := fun w h => absurd h (by omega)
        clear hi0
        induction n generalizing i ls H locs mk with
        | zero =>
          refine lv_iload hx hb dX0_bind_27 (lv_at hl 0 rfl) ?_
          refine lv_aload_n hx hb dX0_bind_29 rfl (lv_at hl 1 rfl) ?_
          refine fr_gX 2 hx hb hw hown hK hP (by decide) mF_words rfl dX0_bind_30 ?_
          refine lv_icmp_ge (tgt := 93) hx hb dX0_bind_33 rfl (fun hcm => ?_) (fun hcm => absurd (nI_le (show fr_wn V ≤ i by omega) (by omega)) hcm)
          refine lv_aload_n hx hb dX0_bind_93 rfl (lv_at hl 1 rfl) ?_
          refine lv_iload_n hx hb dX0_bind_94 rfl (lv_at hl 2 rfl) ?_
          refine fr_Xm (As := [.int (nI j)]) hS0 (cF_keep l D V ad ka mk nm pt ro hV hinj j hLj) (cw_F_keep hw ⟨Nat.le_of_ble_eq_true rfl, Nat.le_of_ble_eq_true rfl⟩) hK hP hT hS rfl hl.1 rfl (Nat.le_of_ble_eq_true rfl) dX0_bind_95 ⟨Nat.zero_le _, Nat.zero_le _⟩ (fun b u H locs hu hP hS => ?_)
          obtain ⟨rfl, rfl⟩ := hu
          have hR := fr_R_bind hV hLk (hF x hLx) (fun w h => hg w (by omega))
          exact W.iret (v := nI (fr_ct mk (fr_wn V))) hx hb hret (fun t ht hW => ⟨⟨_, (mk, nm, pt, va_up ro j (va_cpy mk (ro j) 0 0 (fr_wn V))), rfl, fr_fin hV hF hLj hR (by unfold fr_sBind; rw [if_pos (by rw [fr_okB_nI hLj (by decide), fr_okB_nI hLx (by decide), fr_okB_nI hLk (by omega)]; rfl), fr_v_nI (show x < 2 ^ 31 by omega), fr_v_nI (show k < 2 ^ 31 by omega)]), by show va_P D vwCl _ t.heap; rw [ht]; exact hP⟩, hS.F ht⟩) hS.2.2 dX0_bind_98
        | succ n ih =>
          refine lv_iload hx hb dX0_bind_27 (lv_at hl 0 rfl) ?_
          refine lv_aload_n hx hb dX0_bind_29 rfl (lv_at hl 1 rfl) ?_
          refine fr_gX 2 hx hb hw hown hK hP (by decide) mF_words rfl dX0_bind_30 ?_
          refine lv_icmp_ge (tgt := 93) hx hb dX0_bind_33 rfl (fun hcm => absurd hcm (nI_ge (show i < fr_wn V by omega) (by omega))) (fun hcm => ?_)
          have hi : i < fr_wn V := by omega
          refine lv_aload_n hx hb dX0_bind_36 rfl (lv_at hl 1 rfl) ?_
          refine fr_gX 4 hx hb hw hown hK hP (by decide) mF_rows rfl dX0_bind_37 ?_
          refine lv_iload_n hx hb dX0_bind_40 rfl (lv_at hl 3 rfl) ?_
          refine fr_aald hx hb hK hP 1 0 rfl rfl hLx (by decide) rfl dX0_bind_41 ?_
          refine lv_iload hx hb dX0_bind_42 (lv_at hl 0 rfl) ?_
          refine fr_lald hx hb hK hP (x + 5) 1 (fr_row hLx) rfl hi (by omega) dX0_bind_44 ?_
          refine lv_lstore hx hb dX0_bind_45 hl (by decide) rfl (fun ls hl => ?_)
          replace hl : lv_has ls 10 [(6, .long (ro x i)), (5, .int (nI i)), (0, .ref (ad 0)), (1, .int (nI j)), (2, .int (nI x)), (3, .int (nI k)), (4, .int (fr_bi all))] := hl
          refine lv_aload_n hx hb dX0_bind_47 rfl (lv_at hl 2 rfl) ?_
          refine lv_aload_n hx hb dX0_bind_48 rfl (lv_at hl 2 rfl) ?_
          refine fr_gX 4 hx hb hw hown hK hP (by decide) mF_rows rfl dX0_bind_49 ?_
          refine lv_iload_n hx hb dX0_bind_52 rfl (lv_at hl 4 rfl) ?_
          refine fr_aald hx hb hK hP 1 0 rfl rfl hLx (by decide) rfl dX0_bind_53 ?_
          refine lv_iload_n hx hb dX0_bind_54 rfl (lv_at hl 5 rfl) ?_
          refine lv_iload hx hb dX0_bind_55 (lv_at hl 1 rfl) ?_
          refine fr_Xl (As := [.ref (ad (x + 5)), .int (nI k), .int (nI i)]) hS0 (cF_turned l D V ad ka mk nm pt ro (x + 5) 1 (ad (x + 5)) (ka 1) (ro x) (fr_row hLx) rfl k i hLk hV hi) (cw_F_turned hw ⟨Nat.le_of_ble_eq_true rfl, Nat.le_of_ble_eq_true rfl⟩) hK hP hT hS rfl hl.1 rfl (Nat.le_of_ble_eq_true rfl) dX0_bind_57 ⟨Nat.zero_le _, Nat.zero_le _⟩ (fun b2 hb2 => ?_)
          subst hb2
          refine lv_lstore hx hb dX0_bind_60 hl (by decide) rfl (fun ls hl => ?_)
          replace hl : lv_has ls 10 [(8, .long (fr_tn V (ro x) k i)), (6, .long (ro x i)), (5, .int (nI i)), (0, .ref (ad 0)), (1, .int (nI j)), (2, .int (nI x)), (3, .int (nI k)), (4, .int (fr_bi all))] := hl
          refine lv_aload_n hx hb dX0_bind_62 rfl (lv_at hl 3 rfl) ?_
          refine fr_gX 5 hx hb hw hown hK hP (by decide) mF_made rfl dX0_bind_63 ?_
          refine lv_iload hx hb dX0_bind_66 (lv_at hl 2 rfl) ?_
          refine lv_iload hx hb dX0_bind_68 (lv_at hl 7 rfl) ?_
          refine lv_if_eq (tgt := 81) hx hb dX0_bind_70 rfl (fun h2 => ?_) (fun h2 => ?_)
          ·
            have h3 : all = false := by cases all <;> simp_all [fr_bi]
            refine lv_lload hx hb dX0_bind_81 (lv_at hl 1 rfl) ?_
            refine lv_lload hx hb dX0_bind_83 (lv_at hl 0 rfl) ?_
            refine lv_lor hx hb dX0_bind_85 ?_
            refine fr_last (ws2 := fr_xw V ad ka (vp_updL mk i ((ro x i ||| fr_tn V (ro x) k i))) nm pt ro) hx hb hK hP (fr_D hinj) hS 2 2 rfl rfl hi (by omega) dX0_bind_86 rfl (fun H locs hP hS => ?_)
            refine lv_iinc (k := 2) (v := nI (i + 1)) hx hb dX0_bind_87 hl rfl (fr_inc i) (by decide) rfl (fun ls hl => ?_)
            replace hl : lv_has ls 10 [(5, .int (nI (i + 1))), (8, .long (fr_tn V (ro x) k i)), (6, .long (ro x i)), (0, .ref (ad 0)), (1, .int (nI j)), (2, .int (nI x)), (3, .int (nI k)), (4, .int (fr_bi all))] := hl
            refine lv_goto (tgt := 27) hx hb dX0_bind_90 rfl ?_
            exact ih _ H locs hS hP ls (i + 1) (by omega) (lv_sub hl [0, 3, 4, 5, 6, 7] rfl) (fr_upS hg (by rw [h3]; rfl))
          ·
            have h3 : all = true := by cases all <;> simp_all [fr_bi]
            refine lv_lload hx hb dX0_bind_73 (lv_at hl 1 rfl) ?_
            refine lv_lload hx hb dX0_bind_75 (lv_at hl 0 rfl) ?_
            refine lv_land hx hb dX0_bind_77 ?_
            refine lv_goto (tgt := 86) hx hb dX0_bind_78 rfl ?_
            refine fr_last (ws2 := fr_xw V ad ka (vp_updL mk i ((ro x i &&& fr_tn V (ro x) k i))) nm pt ro) hx hb hK hP (fr_D hinj) hS 2 2 rfl rfl hi (by omega) dX0_bind_86 rfl (fun H locs hP hS => ?_)
            refine lv_iinc (k := 2) (v := nI (i + 1)) hx hb dX0_bind_87 hl rfl (fr_inc i) (by decide) rfl (fun ls hl => ?_)
            replace hl : lv_has ls 10 [(5, .int (nI (i + 1))), (8, .long (fr_tn V (ro x) k i)), (6, .long (ro x i)), (0, .ref (ad 0)), (1, .int (nI j)), (2, .int (nI x)), (3, .int (nI k)), (4, .int (fr_bi all))] := hl
            refine lv_goto (tgt := 27) hx hb dX0_bind_90 rfl ?_
            exact ih _ H locs hS hP ls (i + 1) (by omega) (lv_sub hl [0, 3, 4, 5, 6, 7] rfl) (fr_upS hg (by rw [h3]; rfl))
      ·
        refine lv_if_ne (tgt := 24) hx hb dX0_bind_19 rfl (fun hz => absurd rfl hz) (fun hz => ?_)
        refine lv_iconst (v := (-1)) hx hb dX0_bind_22 (by decide) ?_
        exact W.iret (v := (-1)) hx hb hret (fun t ht hW => ⟨⟨_, (mk, nm, pt, ro), rfl, by rw [show fr_sBind V F (nI j) (nI x) v all = (-1, F) from if_neg (fr_and3 (Or.inr (Or.inr (fr_okB_no (hno)))))]; exact ⟨rfl, hF⟩, by show va_P D vwCl _ t.heap; rw [ht]; exact hP⟩, hS.F ht⟩) hS.2.2 dX0_bind_23
    ·
      refine lv_if_eq (tgt := 22) hx hb dX0_bind_11 rfl (fun hz => ?_) (fun hz => absurd rfl hz)
      refine lv_iconst (v := (-1)) hx hb dX0_bind_22 (by decide) ?_
      exact W.iret (v := (-1)) hx hb hret (fun t ht hW => ⟨⟨_, (mk, nm, pt, ro), rfl, by rw [show fr_sBind V F (nI j) a v all = (-1, F) from if_neg (fr_and3 (Or.inr (Or.inl (fr_okB_no (hno)))))]; exact ⟨rfl, hF⟩, by show va_P D vwCl _ t.heap; rw [ht]; exact hP⟩, hS.F ht⟩) hS.2.2 dX0_bind_23
  ·
    refine lv_if_eq (tgt := 22) hx hb dX0_bind_4 rfl (fun hz => ?_) (fun hz => absurd rfl hz)
    refine lv_iconst (v := (-1)) hx hb dX0_bind_22 (by decide) ?_
    exact W.iret (v := (-1)) hx hb hret (fun t ht hW => ⟨⟨_, (mk, nm, pt, ro), rfl, by rw [show fr_sBind V F r a v all = (-1, F) from if_neg (fr_and3 (Or.inl (fr_okB_no (hno))))]; exact ⟨rfl, hF⟩, by show va_P D vwCl _ t.heap; rw [ht]; exact hP⟩, hS.F ht⟩) hS.2.2 dX0_bind_23
set_option maxHeartbeats 4000000 in
set_option maxRecDepth 100000 in
theorem cF_put (l : Launch) (D : va_G) (V : Nat) (ad : Nat → Nat) (ka : Nat → ClassId) (mk : Nat → Int64) (nm pt : Nat → Int32) (ro : Nat → Nat → Int64) (F : fr_F) (hF : fr_XR V F ro) (hV : V < 10) (hV1 : 1 ≤ V) (hinj : fr_inj ad) (r a v b : Int32)    : Met l yX0_put wsF_put rmF_put (va_Pc [.ref (ad 0), .int r, .int a, .int v, .int b] (fr_PX D V ad ka mk nm pt ro)) (va_Qi (fun res u => res = (fr_sPut V F r a v b).1 ∧ fr_XR V (fr_sPut V F r a v b).2 u.2.2.2) (fun u t => va_P D vwCl (fr_xu V ad ka u) t.heap) (fr_A ad)) 0 0 (fr_A ad) := by
  refine Met.ofW (cc := cX0_put) (maxL := 8) (ret := some .int) (by decide) rfl ?_
  intro p e s m args below meth c s₁ B hml hv
  obtain ⟨rfl, hP, hK, hT⟩ := hv
  have hx := B.exec
  have hb := B.bytes
  have hret := B.returns
  have hw := fun w (h : w ∈ WA) => atoms_spec (ws := wsF_put) B.pre w (List.mem_cons_of_mem _ h)
  have hown : s.vm.findClass "FunctionRoom" = some m.cls := findClass_of_methodNamed B.named
  have hlocks := B.notSynchronized
  have hS0 : CallFix p m c cX0_put 8 s _ WA "FunctionRoom" := ⟨hx, hb, hml, hown, hw⟩
  have hl := lv_entry ([.ref (ad 0), .int r, .int a, .int v, .int b]) (n := 8) (Nat.le_of_ble_eq_true rfl)
  rw [lg_entry_eq]
  generalize (lg_sl ([.ref (ad 0), .int r, .int a, .int v, .int b]) ++ List.replicate (8 - (lg_sl ([.ref (ad 0), .int r, .int a, .int v, .int b])).length) Slot.unset).toArray = ls at hl ⊢
  replace hl : lv_has ls 8 [(0, .ref (ad 0)), (1, .int r), (2, .int a), (3, .int v), (4, .int b)] := hl
  have hw8 := (fr_wn_le V hV).2.1
  have h512 := fr_pow512 hV
  refine fr_gen (A := fr_A ad) hP (fun H locs hP2 hS => ?_)
  clear hP
  have hP := hP2
  clear hP2
  refine lv_iload_n hx hb dX0_put_0 rfl (lv_at hl 1 rfl) ?_
  refine fr_cSi (As := [.int r]) hS0 (cF_isRegister l r) (cw_F_isRegister hw ⟨Nat.le_of_ble_eq_true rfl, Nat.le_of_ble_eq_true rfl⟩) (fr_pre0) rfl hl.1 rfl (Nat.le_of_ble_eq_true rfl) dX0_put_1 ⟨Nat.zero_le _, Nat.zero_le _⟩ (fun b0 hb0 => ?_)
  rcases hb0 with ⟨rfl, hOj⟩ | ⟨rfl, hno⟩
  ·
    refine lv_if_eq (tgt := 30) hx hb dX0_put_4 rfl (fun hz => absurd hz (by decide)) (fun hz => ?_)
    obtain ⟨j, hLj, rfl⟩ := fr_ok_ex (by decide) hOj
    refine lv_iload_n hx hb dX0_put_7 rfl (lv_at hl 2 rfl) ?_
    refine fr_cSi (As := [.int a]) hS0 (cF_isRegister l a) (cw_F_isRegister hw ⟨Nat.le_of_ble_eq_true rfl, Nat.le_of_ble_eq_true rfl⟩) (fr_pre0) rfl hl.1 rfl (Nat.le_of_ble_eq_true rfl) dX0_put_8 ⟨Nat.zero_le _, Nat.zero_le _⟩ (fun b0 hb0 => ?_)
    rcases hb0 with ⟨rfl, hOx⟩ | ⟨rfl, hno⟩
    ·
      refine lv_if_eq (tgt := 30) hx hb dX0_put_11 rfl (fun hz => absurd hz (by decide)) (fun hz => ?_)
      obtain ⟨x, hLx, rfl⟩ := fr_ok_ex (by decide) hOx
      refine lv_aload_n hx hb dX0_put_14 rfl (lv_at hl 0 rfl) ?_
      refine lv_iload_n hx hb dX0_put_15 rfl (lv_at hl 3 rfl) ?_
      refine fr_Xi (As := [.int v]) hS0 (cF_isVariable l D V ad ka mk nm pt ro v) (cw_F_isVariable hw ⟨Nat.le_of_ble_eq_true rfl, Nat.le_of_ble_eq_true rfl⟩) hK hP hT hS rfl hl.1 rfl (Nat.le_of_ble_eq_true rfl) dX0_put_16 ⟨Nat.zero_le _, Nat.zero_le _⟩ (fun b0 hb0 => ?_)
      rcases hb0 with ⟨rfl, hOk⟩ | ⟨rfl, hno⟩
      ·
        refine lv_if_eq (tgt := 30) hx hb dX0_put_19 rfl (fun hz => absurd hz (by decide)) (fun hz => ?_)
        obtain ⟨k, hLk, rfl⟩ := fr_ok_ex (by omega) hOk
        refine lv_iload hx hb dX0_put_22 (lv_at hl 4 rfl) ?_
        refine fr_cSi (As := [.int b]) hS0 (cF_isRegister l b) (cw_F_isRegister hw ⟨Nat.le_of_ble_eq_true rfl, Nat.le_of_ble_eq_true rfl⟩) (fr_pre0) rfl hl.1 rfl (Nat.le_of_ble_eq_true rfl) dX0_put_24 ⟨Nat.zero_le _, Nat.zero_le _⟩ (fun b0 hb0 => ?_)
        rcases hb0 with ⟨rfl, hOy⟩ | ⟨rfl, hno⟩
        ·
          refine lv_if_ne (tgt := 32) hx hb dX0_put_27 rfl (fun hz => ?_) (fun hz => absurd hz (by decide))
          obtain ⟨y, hLy, rfl⟩ := fr_ok_ex (by decide) hOy
          refine lv_iconst (v := 0) hx hb dX0_put_32 (by decide) ?_
          refine lv_istore hx hb dX0_put_33 hl (by decide) rfl (fun ls hl => ?_)
          replace hl : lv_has ls 8 [(5, .int 0), (0, .ref (ad 0)), (1, .int (nI j)), (2, .int (nI x)), (3, .int (nI k)), (4, .int (nI y))] := hl
          obtain ⟨n, i, hin, hi0⟩ : ∃ n i : Nat, i + n = fr_wn V ∧ i = 0 := ⟨fr_wn V, 0, Nat.zero_add _, rfl⟩
          replace hl : lv_has ls 8 [(5, .int (nI i)), (0, .ref (ad 0)), (1, .int (nI j)), (2, .int (nI x)), (3, .int (nI k)), (4, .int (nI y))] := by rw [hi0]; exact hl
          have hg : ∀ w, w < i → mk w = (ro y w &&& fr_nr V (ro x) k true w) ||| ((ro y w ^^^ (-1)) &&& fr_nr V (ro x) k false w) := fun w h => absurd h (by omega)
          clear hi0
          induction n generalizing i ls H locs mk with
          | zero =>
            refine lv_iload hx hb dX0_put_35 (lv_at hl 0 rfl) ?_
            refine lv_aload_n hx hb dX0_put_37 rfl (lv_at hl 1 rfl) ?_
            refine fr_gX 2 hx hb hw hown hK hP (by decide) mF_words rfl dX0_put_38 ?_
            refine lv_icmp_ge (tgt := 108) hx hb dX0_put_41 rfl (fun hcm => ?_) (fun hcm => absurd (nI_le (show fr_wn V ≤ i by omega) (by omega)) hcm)
            refine lv_aload_n hx hb dX0_put_108 rfl (lv_at hl 1 rfl) ?_
            refine lv_iload_n hx hb dX0_put_109 rfl (lv_at hl 2 rfl) ?_
            refine fr_Xm (As := [.int (nI j)]) hS0 (cF_keep l D V ad ka mk nm pt ro hV hinj j hLj) (cw_F_keep hw ⟨Nat.le_of_ble_eq_true rfl, Nat.le_of_ble_eq_true rfl⟩) hK hP hT hS rfl hl.1 rfl (Nat.le_of_ble_eq_true rfl) dX0_put_110 ⟨Nat.zero_le _, Nat.zero_le _⟩ (fun b u H locs hu hP hS => ?_)
            obtain ⟨rfl, rfl⟩ := hu
            have hR := fr_R_put hV hLk (hF x hLx) (hF y hLy) (fun w h => hg w (by omega))
            exact W.iret (v := nI (fr_ct mk (fr_wn V))) hx hb hret (fun t ht hW => ⟨⟨_, (mk, nm, pt, va_up ro j (va_cpy mk (ro j) 0 0 (fr_wn V))), rfl, fr_fin hV hF hLj hR (by unfold fr_sPut; rw [if_pos (by rw [fr_okB_nI hLj (by decide), fr_okB_nI hLx (by decide), fr_okB_nI hLk (by omega), fr_okB_nI hLy (by decide)]; rfl), fr_v_nI (show x < 2 ^ 31 by omega), fr_v_nI (show k < 2 ^ 31 by omega), fr_v_nI (show y < 2 ^ 31 by omega)]), by show va_P D vwCl _ t.heap; rw [ht]; exact hP⟩, hS.F ht⟩) hS.2.2 dX0_put_113
          | succ n ih =>
            refine lv_iload hx hb dX0_put_35 (lv_at hl 0 rfl) ?_
            refine lv_aload_n hx hb dX0_put_37 rfl (lv_at hl 1 rfl) ?_
            refine fr_gX 2 hx hb hw hown hK hP (by decide) mF_words rfl dX0_put_38 ?_
            refine lv_icmp_ge (tgt := 108) hx hb dX0_put_41 rfl (fun hcm => absurd hcm (nI_ge (show i < fr_wn V by omega) (by omega))) (fun hcm => ?_)
            have hi : i < fr_wn V := by omega
            refine lv_aload_n hx hb dX0_put_44 rfl (lv_at hl 1 rfl) ?_
            refine fr_gX 4 hx hb hw hown hK hP (by decide) mF_rows rfl dX0_put_45 ?_
            refine lv_iload hx hb dX0_put_48 (lv_at hl 5 rfl) ?_
            refine fr_aald hx hb hK hP 1 0 rfl rfl hLy (by decide) rfl dX0_put_50 ?_
            refine lv_iload hx hb dX0_put_51 (lv_at hl 0 rfl) ?_
            refine fr_lald hx hb hK hP (y + 5) 1 (fr_row hLy) rfl hi (by omega) dX0_put_53 ?_
            refine lv_lstore hx hb dX0_put_54 hl (by decide) rfl (fun ls hl => ?_)
            replace hl : lv_has ls 8 [(6, .long (ro y i)), (5, .int (nI i)), (0, .ref (ad 0)), (1, .int (nI j)), (2, .int (nI x)), (3, .int (nI k)), (4, .int (nI y))] := hl
            refine lv_aload_n hx hb dX0_put_56 rfl (lv_at hl 2 rfl) ?_
            refine fr_gX 5 hx hb hw hown hK hP (by decide) mF_made rfl dX0_put_57 ?_
            refine lv_iload hx hb dX0_put_60 (lv_at hl 1 rfl) ?_
            refine lv_lload hx hb dX0_put_62 (lv_at hl 0 rfl) ?_
            refine lv_aload_n hx hb dX0_put_64 rfl (lv_at hl 2 rfl) ?_
            refine lv_aload_n hx hb dX0_put_65 rfl (lv_at hl 2 rfl) ?_
            refine fr_gX 4 hx hb hw hown hK hP (by decide) mF_rows rfl dX0_put_66 ?_
            refine lv_iload_n hx hb dX0_put_69 rfl (lv_at hl 4 rfl) ?_
            refine fr_aald hx hb hK hP 1 0 rfl rfl hLx (by decide) rfl dX0_put_70 ?_
            refine lv_iload_n hx hb dX0_put_71 rfl (lv_at hl 5 rfl) ?_
            refine lv_iconst (v := 1) hx hb dX0_put_72 (by decide) ?_
            refine lv_iload hx hb dX0_put_73 (lv_at hl 1 rfl) ?_
            refine fr_Xl (As := [.ref (ad (x + 5)), .int (nI k), .int (fr_bi true), .int (nI i)]) hS0 (cF_narrowed l D V ad ka mk nm pt ro (x + 5) 1 (ad (x + 5)) (ka 1) (ro x) (fr_row hLx) rfl k i true hLk hV hi) (cw_F_narrowed hw ⟨Nat.le_of_ble_eq_true rfl, Nat.le_of_ble_eq_true rfl⟩) hK hP hT hS rfl hl.1 rfl (Nat.le_of_ble_eq_true rfl) dX0_put_75 ⟨Nat.zero_le _, Nat.zero_le _⟩ (fun b2 hb2 => ?_)
            subst hb2
            refine lv_land hx hb dX0_put_78 ?_
            refine lv_lload hx hb dX0_put_79 (lv_at hl 0 rfl) ?_
            refine lv_ldc2 (v := (-1)) hx hb hown (hw _ mC_F_28) dX0_put_81 ?_
            refine lv_lxor hx hb dX0_put_84 ?_
            refine lv_aload_n hx hb dX0_put_85 rfl (lv_at hl 2 rfl) ?_
            refine lv_aload_n hx hb dX0_put_86 rfl (lv_at hl 2 rfl) ?_
            refine fr_gX 4 hx hb hw hown hK hP (by decide) mF_rows rfl dX0_put_87 ?_
            refine lv_iload_n hx hb dX0_put_90 rfl (lv_at hl 4 rfl) ?_
            refine fr_aald hx hb hK hP 1 0 rfl rfl hLx (by decide) rfl dX0_put_91 ?_
            refine lv_iload_n hx hb dX0_put_92 rfl (lv_at hl 5 rfl) ?_
            refine lv_iconst (v := 0) hx hb dX0_put_93 (by decide) ?_
            refine lv_iload hx hb dX0_put_94 (lv_at hl 1 rfl) ?_
            refine fr_Xl (As := [.ref (ad (x + 5)), .int (nI k), .int (fr_bi false), .int (nI i)]) hS0 (cF_narrowed l D V ad ka mk nm pt ro (x + 5) 1 (ad (x + 5)) (ka 1) (ro x) (fr_row hLx) rfl k i false hLk hV hi) (cw_F_narrowed hw ⟨Nat.le_of_ble_eq_true rfl, Nat.le_of_ble_eq_true rfl⟩) hK hP hT hS rfl hl.1 rfl (Nat.le_of_ble_eq_true rfl) dX0_put_96 ⟨Nat.zero_le _, Nat.zero_le _⟩ (fun b2 hb2 => ?_)
            subst hb2
            refine lv_land hx hb dX0_put_99 ?_
            refine lv_lor hx hb dX0_put_100 ?_
            refine fr_last (ws2 := fr_xw V ad ka (vp_updL mk i (((ro y i &&& fr_nr V (ro x) k true i) ||| ((ro y i ^^^ (-1)) &&& fr_nr V (ro x) k false i)))) nm pt ro) hx hb hK hP (fr_D hinj) hS 2 2 rfl rfl hi (by omega) dX0_put_101 rfl (fun H locs hP hS => ?_)
            refine lv_iinc (k := 1) (v := nI (i + 1)) hx hb dX0_put_102 hl rfl (fr_inc i) (by decide) rfl (fun ls hl => ?_)
            replace hl : lv_has ls 8 [(5, .int (nI (i + 1))), (6, .long (ro y i)), (0, .ref (ad 0)), (1, .int (nI j)), (2, .int (nI x)), (3, .int (nI k)), (4, .int (nI y))] := hl
            refine lv_goto (tgt := 35) hx hb dX0_put_105 rfl ?_
            exact ih _ H locs hS hP ls (i + 1) (by omega) (lv_sub hl [0, 2, 3, 4, 5, 6] rfl) (fr_upS hg (rfl))
        ·
          refine lv_if_ne (tgt := 32) hx hb dX0_put_27 rfl (fun hz => absurd rfl hz) (fun hz => ?_)
          refine lv_iconst (v := (-1)) hx hb dX0_put_30 (by decide) ?_
          exact W.iret (v := (-1)) hx hb hret (fun t ht hW => ⟨⟨_, (mk, nm, pt, ro), rfl, by rw [show fr_sPut V F (nI j) (nI x) (nI k) b = (-1, F) from if_neg (fr_and4 (Or.inr (Or.inr (Or.inr (fr_okB_no (hno))))))]; exact ⟨rfl, hF⟩, by show va_P D vwCl _ t.heap; rw [ht]; exact hP⟩, hS.F ht⟩) hS.2.2 dX0_put_31
      ·
        refine lv_if_eq (tgt := 30) hx hb dX0_put_19 rfl (fun hz => ?_) (fun hz => absurd rfl hz)
        refine lv_iconst (v := (-1)) hx hb dX0_put_30 (by decide) ?_
        exact W.iret (v := (-1)) hx hb hret (fun t ht hW => ⟨⟨_, (mk, nm, pt, ro), rfl, by rw [show fr_sPut V F (nI j) (nI x) v b = (-1, F) from if_neg (fr_and4 (Or.inr (Or.inr (Or.inl (fr_okB_no (hno))))))]; exact ⟨rfl, hF⟩, by show va_P D vwCl _ t.heap; rw [ht]; exact hP⟩, hS.F ht⟩) hS.2.2 dX0_put_31
    ·
      refine lv_if_eq (tgt := 30) hx hb dX0_put_11 rfl (fun hz => ?_) (fun hz => absurd rfl hz)
      refine lv_iconst (v := (-1)) hx hb dX0_put_30 (by decide) ?_
      exact W.iret (v := (-1)) hx hb hret (fun t ht hW => ⟨⟨_, (mk, nm, pt, ro), rfl, by rw [show fr_sPut V F (nI j) a v b = (-1, F) from if_neg (fr_and4 (Or.inr (Or.inl (fr_okB_no (hno)))))]; exact ⟨rfl, hF⟩, by show va_P D vwCl _ t.heap; rw [ht]; exact hP⟩, hS.F ht⟩) hS.2.2 dX0_put_31
  ·
    refine lv_if_eq (tgt := 30) hx hb dX0_put_4 rfl (fun hz => ?_) (fun hz => absurd rfl hz)
    refine lv_iconst (v := (-1)) hx hb dX0_put_30 (by decide) ?_
    exact W.iret (v := (-1)) hx hb hret (fun t ht hW => ⟨⟨_, (mk, nm, pt, ro), rfl, by rw [show fr_sPut V F r a v b = (-1, F) from if_neg (fr_and4 (Or.inl (fr_okB_no (hno))))]; exact ⟨rfl, hF⟩, by show va_P D vwCl _ t.heap; rw [ht]; exact hP⟩, hS.F ht⟩) hS.2.2 dX0_put_31
end
section
set_option maxHeartbeats 4000000 in
set_option maxRecDepth 100000 in
theorem cF_many (l : Launch) (D : va_G) (V : Nat) (ad : Nat → Nat) (ka : Nat → ClassId) (mk : Nat → Int64) (nm pt : Nat → Int32) (ro : Nat → Nat → Int64) (F : fr_F) (hF : fr_XR V F ro) (hV : V < 10) (hV1 : 1 ≤ V) (hinj : fr_inj ad) (r : Int32) : Met l yX0_many wsF_many rmF_many (va_Pc [.ref (ad 0), .int r] (fr_PX D V ad ka mk nm pt ro)) (vp_Si (fun res => res = fr_sMany V F r)) 0 0 (fun _ => False) := by
  refine Met.ofW (cc := cX0_many) (maxL := 2) (ret := some .int) (by decide) rfl ?_
  intro p e s m args below meth c s₁ B hml hv
  obtain ⟨rfl, hP, hK, hT⟩ := hv
  have hx := B.exec
  have hb := B.bytes
  have hret := B.returns
  have hw := fun w (h : w ∈ WA) => atoms_spec (ws := wsF_many) B.pre w (List.mem_cons_of_mem _ h)
  have hown : s.vm.findClass "FunctionRoom" = some m.cls := findClass_of_methodNamed B.named
  have hlocks := B.notSynchronized
  have hS0 : CallFix p m c cX0_many 2 s _ WA "FunctionRoom" := ⟨hx, hb, hml, hown, hw⟩
  have hl := lv_entry ([.ref (ad 0), .int r]) (n := 2) (Nat.le_of_ble_eq_true rfl)
  rw [lg_entry_eq]
  generalize (lg_sl ([.ref (ad 0), .int r]) ++ List.replicate (2 - (lg_sl ([.ref (ad 0), .int r])).length) Slot.unset).toArray = ls at hl ⊢
  replace hl : lv_has ls 2 [(0, .ref (ad 0)), (1, .int r)] := hl
  have hw8 := (fr_wn_le V hV).2.1
  have h512 := fr_pow512 hV
  have hS : va_S (fr_A ad) s.heap s.heap [] := va_S.rf
  refine lv_iload_n hx hb dX0_many_0 rfl (lv_at hl 1 rfl) ?_
  refine fr_cSi (As := [.int r]) hS0 (cF_isRegister l r) (cw_F_isRegister hw ⟨Nat.le_of_ble_eq_true rfl, Nat.le_of_ble_eq_true rfl⟩) (fr_pre0) rfl hl.1 rfl (Nat.le_of_ble_eq_true rfl) dX0_many_1 ⟨Nat.zero_le _, Nat.zero_le _⟩ (fun b0 hb0 => ?_)
  rcases hb0 with ⟨rfl, hOj⟩ | ⟨rfl, hno⟩
  ·
    refine lv_if_eq (tgt := 20) hx hb dX0_many_4 rfl (fun hz => absurd hz (by decide)) (fun hz => ?_)
    obtain ⟨j, hLj, rfl⟩ := fr_ok_ex (by decide) hOj
    refine lv_aload_n hx hb dX0_many_7 rfl (lv_at hl 0 rfl) ?_
    refine lv_aload_n hx hb dX0_many_8 rfl (lv_at hl 0 rfl) ?_
    refine fr_gX 4 hx hb hw hown hK hP (by decide) mF_rows rfl dX0_many_9 ?_
    refine lv_iload_n hx hb dX0_many_12 rfl (lv_at hl 1 rfl) ?_
    refine fr_aald hx hb hK hP 1 0 rfl rfl hLj (by decide) rfl dX0_many_13 ?_
    refine fr_Xi (As := [.ref (ad (j + 5))]) hS0 (cF_count l D V ad ka mk nm pt ro (j + 5) 1 (ad (j + 5)) (ka 1) (ro j) (fr_row hLj) rfl hV) (cw_F_count hw ⟨Nat.le_of_ble_eq_true rfl, Nat.le_of_ble_eq_true rfl⟩) hK hP hT hS rfl hl.1 rfl (Nat.le_of_ble_eq_true rfl) dX0_many_14 ⟨Nat.zero_le _, Nat.zero_le _⟩ (fun b hb1 => ?_)
    subst hb1
    refine lv_goto (tgt := 21) hx hb dX0_many_17 rfl ?_
    exact W.iret (v := nI (fr_ct (ro j) (fr_wn V))) hx hb hret (fun t ht hW => ⟨_, rfl, by unfold fr_sMany; rw [if_pos (fr_okB_nI hLj (by decide)), fr_v_nI (show j < 2 ^ 31 by omega), fr_ct_R hV (hF j hLj)], ht⟩) (fun q hq => by cases hq) dX0_many_21
  ·
    refine lv_if_eq (tgt := 20) hx hb dX0_many_4 rfl (fun hz => ?_) (fun hz => absurd rfl hz)
    refine lv_iconst (v := (-1)) hx hb dX0_many_20 (by decide) ?_
    exact W.iret (v := (-1)) hx hb hret (fun t ht hW => ⟨_, rfl, (if_neg (by rw [fr_okB_no (hno)]; decide)).symm, ht⟩) (fun q hq => by cases hq) dX0_many_21
set_option maxHeartbeats 4000000 in
set_option maxRecDepth 100000 in
theorem cF_value (l : Launch) (D : va_G) (V : Nat) (ad : Nat → Nat) (ka : Nat → ClassId) (mk : Nat → Int64) (nm pt : Nat → Int32) (ro : Nat → Nat → Int64) (F : fr_F) (hF : fr_XR V F ro) (hV : V < 10) (hV1 : 1 ≤ V) (hinj : fr_inj ad) (r x0 : Int32)  : Met l yX0_value wsF_value rmF_value (va_Pc [.ref (ad 0), .int r, .int x0] (fr_PX D V ad ka mk nm pt ro)) (vp_Si (fun res => res = fr_sValue V F r x0)) 0 0 (fun _ => False) := by
  refine Met.ofW (cc := cX0_value) (maxL := 3) (ret := some .int) (by decide) rfl ?_
  intro p e s m args below meth c s₁ B hml hv
  obtain ⟨rfl, hP, hK, hT⟩ := hv
  have hx := B.exec
  have hb := B.bytes
  have hret := B.returns
  have hw := fun w (h : w ∈ WA) => atoms_spec (ws := wsF_value) B.pre w (List.mem_cons_of_mem _ h)
  have hown : s.vm.findClass "FunctionRoom" = some m.cls := findClass_of_methodNamed B.named
  have hlocks := B.notSynchronized
  have hS0 : CallFix p m c cX0_value 3 s _ WA "FunctionRoom" := ⟨hx, hb, hml, hown, hw⟩
  have hl := lv_entry ([.ref (ad 0), .int r, .int x0]) (n := 3) (Nat.le_of_ble_eq_true rfl)
  rw [lg_entry_eq]
  generalize (lg_sl ([.ref (ad 0), .int r, .int x0]) ++ List.replicate (3 - (lg_sl ([.ref (ad 0), .int r, .int x0])).length) Slot.unset).toArray = ls at hl ⊢
  replace hl : lv_has ls 3 [(0, .ref (ad 0)), (1, .int r), (2, .int x0)] := hl
  have hw8 := (fr_wn_le V hV).2.1
  have h512 := fr_pow512 hV
  have hS : va_S (fr_A ad) s.heap s.heap [] := va_S.rf
  refine lv_iload_n hx hb dX0_value_0 rfl (lv_at hl 1 rfl) ?_
  refine fr_cSi (As := [.int r]) hS0 (cF_isRegister l r) (cw_F_isRegister hw ⟨Nat.le_of_ble_eq_true rfl, Nat.le_of_ble_eq_true rfl⟩) (fr_pre0) rfl hl.1 rfl (Nat.le_of_ble_eq_true rfl) dX0_value_1 ⟨Nat.zero_le _, Nat.zero_le _⟩ (fun b0 hb0 => ?_)
  rcases hb0 with ⟨rfl, hOj⟩ | ⟨rfl, hno⟩
  ·
    refine lv_if_eq (tgt := 19) hx hb dX0_value_4 rfl (fun hz => absurd hz (by decide)) (fun hz => ?_)
    obtain ⟨j, hLj, rfl⟩ := fr_ok_ex (by decide) hOj
    refine lv_iload_n hx hb dX0_value_7 rfl (lv_at hl 2 rfl) ?_
    refine lv_if_lt (tgt := 19) hx hb dX0_value_8 rfl (fun h1 => ?_) (fun h1 => ?_)
    ·
      refine lv_iconst (v := (-1)) hx hb dX0_value_19 (by decide) ?_
      exact W.iret (v := (-1)) hx hb hret (fun t ht hW => ⟨_, rfl, (if_neg (fr_and2 (Or.inr (fr_okB_no (fun z => z.1 h1))))).symm, ht⟩) (fun q hq => by cases hq) dX0_value_20
    ·
      refine lv_iload_n hx hb dX0_value_11 rfl (lv_at hl 2 rfl) ?_
      refine lv_aload_n hx hb dX0_value_12 rfl (lv_at hl 0 rfl) ?_
      refine fr_gX 1 hx hb hw hown hK hP (by decide) mF_assignments rfl dX0_value_13 ?_
      refine lv_icmp_lt (tgt := 21) hx hb dX0_value_16 rfl (fun h2 => ?_) (fun h2 => ?_)
      ·
        obtain ⟨x, hLx, rfl⟩ := fr_ok_ex (by omega) ⟨h1, fun z => fr_ltle h2 z⟩
        obtain ⟨hx6, hx7⟩ := fr_R_in hV (hF j hLj) hLx
        refine lv_aload_n hx hb dX0_value_21 rfl (lv_at hl 0 rfl) ?_
        refine fr_gX 4 hx hb hw hown hK hP (by decide) mF_rows rfl dX0_value_22 ?_
        refine lv_iload_n hx hb dX0_value_25 rfl (lv_at hl 1 rfl) ?_
        refine fr_aald hx hb hK hP 1 0 rfl rfl hLj (by decide) rfl dX0_value_26 ?_
        refine lv_iload_n hx hb dX0_value_27 rfl (lv_at hl 2 rfl) ?_
        refine fr_cSi (As := [.ref (ad (j + 5)), .int (nI x)]) hS0 (cF_valueAt l D (ad (j + 5)) (ka 1) (fr_wn V) (ro j) x (by omega) hx6 (by omega)) (cw_F_valueAt hw ⟨Nat.le_of_ble_eq_true rfl, Nat.le_of_ble_eq_true rfl⟩) (fr_preA hK hP (fr_row hLj) (tq := 1) rfl) rfl hl.1 rfl (Nat.le_of_ble_eq_true rfl) dX0_value_28 ⟨Nat.zero_le _, Nat.zero_le _⟩ (fun b hb1 => ?_)
        subst hb1
        exact W.iret (v := fr_bi (fr_b (ro j (x / 64)) (x % 64))) hx hb hret (fun t ht hW => ⟨_, rfl, by unfold fr_sValue; rw [if_pos (by rw [fr_okB_nI hLj (by decide), fr_okB_nI hLx (by omega)]; rfl), fr_v_nI (show j < 2 ^ 31 by omega), fr_v_nI (show x < 2 ^ 31 by omega), hx7], ht⟩) (fun q hq => by cases hq) dX0_value_31
      ·
        refine lv_iconst (v := (-1)) hx hb dX0_value_19 (by decide) ?_
        exact W.iret (v := (-1)) hx hb hret (fun t ht hW => ⟨_, rfl, (if_neg (fr_and2 (Or.inr (fr_okB_no (fun z => h2 (fr_nle z)))))).symm, ht⟩) (fun q hq => by cases hq) dX0_value_20
  ·
    refine lv_if_eq (tgt := 19) hx hb dX0_value_4 rfl (fun hz => ?_) (fun hz => absurd rfl hz)
    refine lv_iconst (v := (-1)) hx hb dX0_value_19 (by decide) ?_
    exact W.iret (v := (-1)) hx hb hret (fun t ht hW => ⟨_, rfl, (if_neg (fr_and2 (Or.inl (fr_okB_no (hno))))).symm, ht⟩) (fun q hq => by cases hq) dX0_value_20
set_option maxHeartbeats 4000000 in
set_option maxRecDepth 100000 in
theorem cF_same (l : Launch) (D : va_G) (V : Nat) (ad : Nat → Nat) (ka : Nat → ClassId) (mk : Nat → Int64) (nm pt : Nat → Int32) (ro : Nat → Nat → Int64) (F : fr_F) (hF : fr_XR V F ro) (hV : V < 10) (hV1 : 1 ≤ V) (hinj : fr_inj ad) (a b : Int32)  : Met l yX0_same wsF_same rmF_same (va_Pc [.ref (ad 0), .int a, .int b] (fr_PX D V ad ka mk nm pt ro)) (vp_Si (fun res => res = fr_sSame V F a b)) 0 0 (fun _ => False) := by
  refine Met.ofW (cc := cX0_same) (maxL := 4) (ret := some .boolean) (by decide) rfl ?_
  intro p e s m args below meth c s₁ B hml hv
  obtain ⟨rfl, hP, hK, hT⟩ := hv
  have hx := B.exec
  have hb := B.bytes
  have hret := B.returns
  have hw := fun w (h : w ∈ WA) => atoms_spec (ws := wsF_same) B.pre w (List.mem_cons_of_mem _ h)
  have hown : s.vm.findClass "FunctionRoom" = some m.cls := findClass_of_methodNamed B.named
  have hlocks := B.notSynchronized
  have hS0 : CallFix p m c cX0_same 4 s _ WA "FunctionRoom" := ⟨hx, hb, hml, hown, hw⟩
  have hl := lv_entry ([.ref (ad 0), .int a, .int b]) (n := 4) (Nat.le_of_ble_eq_true rfl)
  rw [lg_entry_eq]
  generalize (lg_sl ([.ref (ad 0), .int a, .int b]) ++ List.replicate (4 - (lg_sl ([.ref (ad 0), .int a, .int b])).length) Slot.unset).toArray = ls at hl ⊢
  replace hl : lv_has ls 4 [(0, .ref (ad 0)), (1, .int a), (2, .int b)] := hl
  have hw8 := (fr_wn_le V hV).2.1
  have h512 := fr_pow512 hV
  have hS : va_S (fr_A ad) s.heap s.heap [] := va_S.rf
  refine lv_iload_n hx hb dX0_same_0 rfl (lv_at hl 1 rfl) ?_
  refine fr_cSi (As := [.int a]) hS0 (cF_isRegister l a) (cw_F_isRegister hw ⟨Nat.le_of_ble_eq_true rfl, Nat.le_of_ble_eq_true rfl⟩) (fr_pre0) rfl hl.1 rfl (Nat.le_of_ble_eq_true rfl) dX0_same_1 ⟨Nat.zero_le _, Nat.zero_le _⟩ (fun b0 hb0 => ?_)
  rcases hb0 with ⟨rfl, hOx⟩ | ⟨rfl, hno⟩
  ·
    refine lv_if_eq (tgt := 14) hx hb dX0_same_4 rfl (fun hz => absurd hz (by decide)) (fun hz => ?_)
    obtain ⟨x, hLx, rfl⟩ := fr_ok_ex (by decide) hOx
    refine lv_iload_n hx hb dX0_same_7 rfl (lv_at hl 2 rfl) ?_
    refine fr_cSi (As := [.int b]) hS0 (cF_isRegister l b) (cw_F_isRegister hw ⟨Nat.le_of_ble_eq_true rfl, Nat.le_of_ble_eq_true rfl⟩) (fr_pre0) rfl hl.1 rfl (Nat.le_of_ble_eq_true rfl) dX0_same_8 ⟨Nat.zero_le _, Nat.zero_le _⟩ (fun b0 hb0 => ?_)
    rcases hb0 with ⟨rfl, hOy⟩ | ⟨rfl, hno⟩
    ·
      refine lv_if_ne (tgt := 16) hx hb dX0_same_11 rfl (fun hz => ?_) (fun hz => absurd hz (by decide))
      obtain ⟨y, hLy, rfl⟩ := fr_ok_ex (by decide) hOy
      refine lv_iconst (v := 0) hx hb dX0_same_16 (by decide) ?_
      refine lv_istore_n hx hb dX0_same_17 rfl hl (by decide) rfl (fun ls hl => ?_)
      replace hl : lv_has ls 4 [(3, .int 0), (0, .ref (ad 0)), (1, .int (nI x)), (2, .int (nI y))] := hl
      have hsm := fr_R_same hV (hF x hLx) (hF y hLy)
      have hsp : fr_sSame V F (nI x) (nI y) = fr_bi (fr_eqB V (F x) (F y)) := by unfold fr_sSame; rw [if_pos (by rw [fr_okB_nI hLx (by decide), fr_okB_nI hLy (by decide)]; rfl), fr_v_nI (show x < 2 ^ 31 by omega), fr_v_nI (show y < 2 ^ 31 by omega)]
      obtain ⟨n, i, hin, hi0⟩ : ∃ n i : Nat, i + n = fr_wn V ∧ i = 0 := ⟨fr_wn V, 0, Nat.zero_add _, rfl⟩
      replace hl : lv_has ls 4 [(3, .int (nI i)), (0, .ref (ad 0)), (1, .int (nI x)), (2, .int (nI y))] := by rw [hi0]; exact hl
      have hg : ∀ w, w < i → ro x w = ro y w := fun w h => absurd h (by omega)
      clear hi0
      induction n generalizing i ls  with
      | zero =>
        refine lv_iload_n hx hb dX0_same_18 rfl (lv_at hl 0 rfl) ?_
        refine lv_aload_n hx hb dX0_same_19 rfl (lv_at hl 1 rfl) ?_
        refine fr_gX 2 hx hb hw hown hK hP (by decide) mF_words rfl dX0_same_20 ?_
        refine lv_icmp_ge (tgt := 54) hx hb dX0_same_23 rfl (fun hcm => ?_) (fun hcm => absurd (nI_le (show fr_wn V ≤ i by omega) (by omega)) hcm)
        refine lv_iconst (v := 1) hx hb dX0_same_54 (by decide) ?_
        exact W.zret (v := 1) hx hb hret rfl (fun t ht hW => ⟨_, rfl, by rw [hsp, show fr_eqB V (F x) (F y) = true from decide_eq_true (hsm.mp (fun w h => hg w (by omega)))]; rfl, ht⟩) (fun q hq => by cases hq) dX0_same_55
      | succ n ih =>
        refine lv_iload_n hx hb dX0_same_18 rfl (lv_at hl 0 rfl) ?_
        refine lv_aload_n hx hb dX0_same_19 rfl (lv_at hl 1 rfl) ?_
        refine fr_gX 2 hx hb hw hown hK hP (by decide) mF_words rfl dX0_same_20 ?_
        refine lv_icmp_ge (tgt := 54) hx hb dX0_same_23 rfl (fun hcm => absurd hcm (nI_ge (show i < fr_wn V by omega) (by omega))) (fun hcm => ?_)
        have hi : i < fr_wn V := by omega
        refine lv_aload_n hx hb dX0_same_26 rfl (lv_at hl 1 rfl) ?_
        refine fr_gX 4 hx hb hw hown hK hP (by decide) mF_rows rfl dX0_same_27 ?_
        refine lv_iload_n hx hb dX0_same_30 rfl (lv_at hl 2 rfl) ?_
        refine fr_aald hx hb hK hP 1 0 rfl rfl hLx (by decide) rfl dX0_same_31 ?_
        refine lv_iload_n hx hb dX0_same_32 rfl (lv_at hl 0 rfl) ?_
        refine fr_lald hx hb hK hP (x + 5) 1 (fr_row hLx) rfl hi (by omega) dX0_same_33 ?_
        refine lv_aload_n hx hb dX0_same_34 rfl (lv_at hl 1 rfl) ?_
        refine fr_gX 4 hx hb hw hown hK hP (by decide) mF_rows rfl dX0_same_35 ?_
        refine lv_iload_n hx hb dX0_same_38 rfl (lv_at hl 3 rfl) ?_
        refine fr_aald hx hb hK hP 1 0 rfl rfl hLy (by decide) rfl dX0_same_39 ?_
        refine lv_iload_n hx hb dX0_same_40 rfl (lv_at hl 0 rfl) ?_
        refine fr_lald hx hb hK hP (y + 5) 1 (fr_row hLy) rfl hi (by omega) dX0_same_41 ?_
        refine W.lcmp hx hb dX0_same_42 ?_
        refine lv_if_eq (tgt := 48) hx hb dX0_same_43 rfl (fun h2 => ?_) (fun h2 => ?_)
        ·
          refine lv_iinc (k := 0) (v := nI (i + 1)) hx hb dX0_same_48 hl rfl (fr_inc i) (by decide) rfl (fun ls hl => ?_)
          replace hl : lv_has ls 4 [(3, .int (nI (i + 1))), (0, .ref (ad 0)), (1, .int (nI x)), (2, .int (nI y))] := hl
          refine lv_goto (tgt := 18) hx hb dX0_same_51 rfl ?_
          exact ih ls (i + 1) (by omega) (lv_sub hl [0, 1, 2, 3] rfl) (lt_s hg ((lg_cmp_eq _ _).mp h2))
        ·
          refine lv_iconst (v := 0) hx hb dX0_same_46 (by decide) ?_
          exact W.zret (v := 0) hx hb hret rfl (fun t ht hW => ⟨_, rfl, by rw [hsp, show fr_eqB V (F x) (F y) = false from decide_eq_false (fun z => h2 ((lg_cmp_eq _ _).mpr (hsm.mpr z i hi)))]; rfl, ht⟩) (fun q hq => by cases hq) dX0_same_47
    ·
      refine lv_if_ne (tgt := 16) hx hb dX0_same_11 rfl (fun hz => absurd rfl hz) (fun hz => ?_)
      refine lv_iconst (v := 0) hx hb dX0_same_14 (by decide) ?_
      exact W.zret (v := 0) hx hb hret rfl (fun t ht hW => ⟨_, rfl, (if_neg (fr_and2 (Or.inr (fr_okB_no (hno))))).symm, ht⟩) (fun q hq => by cases hq) dX0_same_15
  ·
    refine lv_if_eq (tgt := 14) hx hb dX0_same_4 rfl (fun hz => ?_) (fun hz => absurd rfl hz)
    refine lv_iconst (v := 0) hx hb dX0_same_14 (by decide) ?_
    exact W.zret (v := 0) hx hb hret rfl (fun t ht hW => ⟨_, rfl, (if_neg (fr_and2 (Or.inl (fr_okB_no (hno))))).symm, ht⟩) (fun q hq => by cases hq) dX0_same_15
set_option maxHeartbeats 4000000 in
set_option maxRecDepth 100000 in
theorem cF_nth (l : Launch) (D : va_G) (V : Nat) (ad : Nat → Nat) (ka : Nat → ClassId) (mk : Nat → Int64) (nm pt : Nat → Int32) (ro : Nat → Nat → Int64) (F : fr_F) (hF : fr_XR V F ro) (hV : V < 10) (hV1 : 1 ≤ V) (hinj : fr_inj ad) (r k : Int32)  : Met l yX0_nth wsF_nth rmF_nth (va_Pc [.ref (ad 0), .int r, .int k] (fr_PX D V ad ka mk nm pt ro)) (vp_Si (fun res => res = fr_sNth V F r k)) 0 0 (fun _ => False) := by
  refine Met.ofW (cc := cX0_nth) (maxL := 5) (ret := some .int) (by decide) rfl ?_
  intro p e s m args below meth c s₁ B hml hv
  obtain ⟨rfl, hP, hK, hT⟩ := hv
  have hx := B.exec
  have hb := B.bytes
  have hret := B.returns
  have hw := fun w (h : w ∈ WA) => atoms_spec (ws := wsF_nth) B.pre w (List.mem_cons_of_mem _ h)
  have hown : s.vm.findClass "FunctionRoom" = some m.cls := findClass_of_methodNamed B.named
  have hlocks := B.notSynchronized
  have hS0 : CallFix p m c cX0_nth 5 s _ WA "FunctionRoom" := ⟨hx, hb, hml, hown, hw⟩
  have hl := lv_entry ([.ref (ad 0), .int r, .int k]) (n := 5) (Nat.le_of_ble_eq_true rfl)
  rw [lg_entry_eq]
  generalize (lg_sl ([.ref (ad 0), .int r, .int k]) ++ List.replicate (5 - (lg_sl ([.ref (ad 0), .int r, .int k])).length) Slot.unset).toArray = ls at hl ⊢
  replace hl : lv_has ls 5 [(0, .ref (ad 0)), (1, .int r), (2, .int k)] := hl
  have hw8 := (fr_wn_le V hV).2.1
  have h512 := fr_pow512 hV
  have hS : va_S (fr_A ad) s.heap s.heap [] := va_S.rf
  refine lv_iload_n hx hb dX0_nth_0 rfl (lv_at hl 1 rfl) ?_
  refine fr_cSi (As := [.int r]) hS0 (cF_isRegister l r) (cw_F_isRegister hw ⟨Nat.le_of_ble_eq_true rfl, Nat.le_of_ble_eq_true rfl⟩) (fr_pre0) rfl hl.1 rfl (Nat.le_of_ble_eq_true rfl) dX0_nth_1 ⟨Nat.zero_le _, Nat.zero_le _⟩ (fun b0 hb0 => ?_)
  rcases hb0 with ⟨rfl, hOj⟩ | ⟨rfl, hno⟩
  ·
    refine lv_if_ne (tgt := 9) hx hb dX0_nth_4 rfl (fun hz => ?_) (fun hz => absurd hz (by decide))
    obtain ⟨j, hLj, rfl⟩ := fr_ok_ex (by decide) hOj
    refine lv_iconst (v := 0) hx hb dX0_nth_9 (by decide) ?_
    refine lv_istore_n hx hb dX0_nth_10 rfl hl (by decide) rfl (fun ls hl => ?_)
    replace hl : lv_has ls 5 [(3, .int 0), (0, .ref (ad 0)), (1, .int (nI j)), (2, .int k)] := hl
    refine lv_iconst (v := 0) hx hb dX0_nth_11 (by decide) ?_
    refine lv_istore hx hb dX0_nth_12 hl (by decide) rfl (fun ls hl => ?_)
    replace hl : lv_has ls 5 [(4, .int 0), (3, .int 0), (0, .ref (ad 0)), (1, .int (nI j)), (2, .int k)] := hl
    have hsp : fr_sNth V F (nI j) k = fr_nthS (F j) k (2 ^ V) 0 0 := by unfold fr_sNth; rw [if_pos (fr_okB_nI hLj (by decide)), fr_v_nI (show j < 2 ^ 31 by omega)]
    obtain ⟨n, i, c0, hin, hi0, hc0⟩ : ∃ n i c0 : Nat, i + n = 2 ^ V ∧ i = 0 ∧ c0 = 0 := ⟨2 ^ V, 0, 0, by omega, rfl, rfl⟩
    replace hl : lv_has ls 5 [(4, .int (nI i)), (3, .int (nI c0)), (0, .ref (ad 0)), (1, .int (nI j)), (2, .int k)] := by rw [hi0, hc0]; exact hl
    have hg : fr_nthS (F j) k n i c0 = fr_sNth V F (nI j) k := by rw [hsp, hi0, hc0, show n = 2 ^ V by omega]
    have hci : c0 ≤ i := by omega
    clear hi0 hc0 hsp
    induction n generalizing i ls c0 with
    | zero =>
      refine lv_iload hx hb dX0_nth_14 (lv_at hl 0 rfl) ?_
      refine lv_aload_n hx hb dX0_nth_16 rfl (lv_at hl 2 rfl) ?_
      refine fr_gX 1 hx hb hw hown hK hP (by decide) mF_assignments rfl dX0_nth_17 ?_
      refine lv_icmp_ge (tgt := 55) hx hb dX0_nth_20 rfl (fun hcm => ?_) (fun hcm => absurd (nI_le (show 2 ^ V ≤ i by omega) (by omega)) hcm)
      refine lv_bipush (v := (-2)) hx hb dX0_nth_55 (by decide) ?_
      exact W.iret (v := (-2)) hx hb hret (fun t ht hW => ⟨_, rfl, by rw [← hg]; rfl, ht⟩) (fun q hq => by cases hq) dX0_nth_57
    | succ n ih =>
      refine lv_iload hx hb dX0_nth_14 (lv_at hl 0 rfl) ?_
      refine lv_aload_n hx hb dX0_nth_16 rfl (lv_at hl 2 rfl) ?_
      refine fr_gX 1 hx hb hw hown hK hP (by decide) mF_assignments rfl dX0_nth_17 ?_
      refine lv_icmp_ge (tgt := 55) hx hb dX0_nth_20 rfl (fun hcm => absurd hcm (nI_ge (show i < 2 ^ V by omega) (by omega))) (fun hcm => ?_)
      have hi : i < 2 ^ V := by omega
      obtain ⟨hx6, hx7⟩ := fr_R_in hV (hF j hLj) hi
      refine lv_aload_n hx hb dX0_nth_23 rfl (lv_at hl 2 rfl) ?_
      refine fr_gX 4 hx hb hw hown hK hP (by decide) mF_rows rfl dX0_nth_24 ?_
      refine lv_iload_n hx hb dX0_nth_27 rfl (lv_at hl 3 rfl) ?_
      refine fr_aald hx hb hK hP 1 0 rfl rfl hLj (by decide) rfl dX0_nth_28 ?_
      refine lv_iload hx hb dX0_nth_29 (lv_at hl 0 rfl) ?_
      refine fr_cSi (As := [.ref (ad (j + 5)), .int (nI i)]) hS0 (cF_valueAt l D (ad (j + 5)) (ka 1) (fr_wn V) (ro j) i (by omega) hx6 (by omega)) (cw_F_valueAt hw ⟨Nat.le_of_ble_eq_true rfl, Nat.le_of_ble_eq_true rfl⟩) (fr_preA hK hP (fr_row hLj) (tq := 1) rfl) rfl hl.1 rfl (Nat.le_of_ble_eq_true rfl) dX0_nth_31 ⟨Nat.zero_le _, Nat.zero_le _⟩ (fun b hb1 => ?_)
      subst hb1
      rw [hx7]
      refine lv_iconst (v := 1) hx hb dX0_nth_34 (by decide) ?_
      refine lv_icmp_ne (tgt := 49) hx hb dX0_nth_35 rfl (fun h2 => ?_) (fun h2 => ?_)
      ·
        have h3 : F j i = false := by cases hq : F j i <;> simp_all [fr_bi]
        refine lv_iinc (k := 0) (v := nI (i + 1)) hx hb dX0_nth_49 hl rfl (fr_inc i) (by decide) rfl (fun ls hl => ?_)
        replace hl : lv_has ls 5 [(4, .int (nI (i + 1))), (3, .int (nI c0)), (0, .ref (ad 0)), (1, .int (nI j)), (2, .int k)] := hl
        refine lv_goto (tgt := 14) hx hb dX0_nth_52 rfl ?_
        exact ih ls (i + 1) c0 (by omega) (lv_sub hl [0, 1, 2, 3, 4] rfl) (by rw [← hg]; show _ = (if F j i = true then _ else _); rw [h3]; rfl) (by omega)
      ·
        have h3 : F j i = true := by cases hq : F j i <;> simp_all [fr_bi]
        refine lv_iload_n hx hb dX0_nth_38 rfl (lv_at hl 1 rfl) ?_
        refine lv_iload_n hx hb dX0_nth_39 rfl (lv_at hl 4 rfl) ?_
        refine lv_icmp_ne (tgt := 46) hx hb dX0_nth_40 rfl (fun h4 => ?_) (fun h4 => ?_)
        ·
          refine lv_iinc (k := 1) (v := nI (c0 + 1)) hx hb dX0_nth_46 hl rfl (fr_inc c0) (by decide) rfl (fun ls hl => ?_)
          replace hl : lv_has ls 5 [(3, .int (nI (c0 + 1))), (4, .int (nI i)), (0, .ref (ad 0)), (1, .int (nI j)), (2, .int k)] := hl
          refine lv_iinc (k := 1) (v := nI (i + 1)) hx hb dX0_nth_49 hl rfl (fr_inc i) (by decide) rfl (fun ls hl => ?_)
          replace hl : lv_has ls 5 [(4, .int (nI (i + 1))), (3, .int (nI (c0 + 1))), (0, .ref (ad 0)), (1, .int (nI j)), (2, .int k)] := hl
          refine lv_goto (tgt := 14) hx hb dX0_nth_52 rfl ?_
          exact ih ls (i + 1) (c0 + 1) (by omega) (lv_sub hl [0, 1, 2, 3, 4] rfl) (by rw [← hg]; show _ = (if F j i = true then (if nI c0 = k then _ else _) else _); rw [h3, if_pos rfl, if_neg h4]) (by omega)
        ·
          refine lv_iload hx hb dX0_nth_43 (lv_at hl 0 rfl) ?_
          exact W.iret (v := nI i) hx hb hret (fun t ht hW => ⟨_, rfl, by rw [← hg]; show _ = (if F j i = true then (if nI c0 = k then _ else _) else _); rw [h3, if_pos rfl, if_pos h4], ht⟩) (fun q hq => by cases hq) dX0_nth_45
  ·
    refine lv_if_ne (tgt := 9) hx hb dX0_nth_4 rfl (fun hz => absurd rfl hz) (fun hz => ?_)
    refine lv_iconst (v := (-1)) hx hb dX0_nth_7 (by decide) ?_
    exact W.iret (v := (-1)) hx hb hret (fun t ht hW => ⟨_, rfl, (if_neg (by rw [fr_okB_no (hno)]; decide)).symm, ht⟩) (fun q hq => by cases hq) dX0_nth_8
set_option maxHeartbeats 4000000 in
set_option maxRecDepth 100000 in
theorem cF_matters (l : Launch) (D : va_G) (V : Nat) (ad : Nat → Nat) (ka : Nat → ClassId) (mk : Nat → Int64) (nm pt : Nat → Int32) (ro : Nat → Nat → Int64) (F : fr_F) (hF : fr_XR V F ro) (hV : V < 10) (hV1 : 1 ≤ V) (hinj : fr_inj ad) (r : Int32) : Met l yX0_matters wsF_matters rmF_matters (va_Pc [.ref (ad 0), .int r] (fr_PX D V ad ka mk nm pt ro)) (vp_Si (fun res => res = fr_sMatters V F r)) 0 0 (fun _ => False) := by
  refine Met.ofW (cc := cX0_matters) (maxL := 4) (ret := some .int) (by decide) rfl ?_
  intro p e s m args below meth c s₁ B hml hv
  obtain ⟨rfl, hP, hK, hT⟩ := hv
  have hx := B.exec
  have hb := B.bytes
  have hret := B.returns
  have hw := fun w (h : w ∈ WA) => atoms_spec (ws := wsF_matters) B.pre w (List.mem_cons_of_mem _ h)
  have hown : s.vm.findClass "FunctionRoom" = some m.cls := findClass_of_methodNamed B.named
  have hlocks := B.notSynchronized
  have hS0 : CallFix p m c cX0_matters 4 s _ WA "FunctionRoom" := ⟨hx, hb, hml, hown, hw⟩
  have hl := lv_entry ([.ref (ad 0), .int r]) (n := 4) (Nat.le_of_ble_eq_true rfl)
  rw [lg_entry_eq]
  generalize (lg_sl ([.ref (ad 0), .int r]) ++ List.replicate (4 - (lg_sl ([.ref (ad 0), .int r])).length) Slot.unset).toArray = ls at hl ⊢
  replace hl : lv_has ls 4 [(0, .ref (ad 0)), (1, .int r)] := hl
  have hw8 := (fr_wn_le V hV).2.1
  have h512 := fr_pow512 hV
  have hS : va_S (fr_A ad) s.heap s.heap [] := va_S.rf
  refine lv_iload_n hx hb dX0_matters_0 rfl (lv_at hl 1 rfl) ?_
  refine fr_cSi (As := [.int r]) hS0 (cF_isRegister l r) (cw_F_isRegister hw ⟨Nat.le_of_ble_eq_true rfl, Nat.le_of_ble_eq_true rfl⟩) (fr_pre0) rfl hl.1 rfl (Nat.le_of_ble_eq_true rfl) dX0_matters_1 ⟨Nat.zero_le _, Nat.zero_le _⟩ (fun b0 hb0 => ?_)
  rcases hb0 with ⟨rfl, hOj⟩ | ⟨rfl, hno⟩
  ·
    refine lv_if_ne (tgt := 9) hx hb dX0_matters_4 rfl (fun hz => ?_) (fun hz => absurd hz (by decide))
    obtain ⟨j, hLj, rfl⟩ := fr_ok_ex (by decide) hOj
    refine lv_iconst (v := 0) hx hb dX0_matters_9 (by decide) ?_
    refine lv_istore_n hx hb dX0_matters_10 rfl hl (by decide) rfl (fun ls hl => ?_)
    replace hl : lv_has ls 4 [(2, .int 0), (0, .ref (ad 0)), (1, .int (nI j))] := hl
    refine lv_iconst (v := 0) hx hb dX0_matters_11 (by decide) ?_
    refine lv_istore_n hx hb dX0_matters_12 rfl hl (by decide) rfl (fun ls hl => ?_)
    replace hl : lv_has ls 4 [(3, .int 0), (2, .int 0), (0, .ref (ad 0)), (1, .int (nI j))] := hl
    obtain ⟨n, i, hin, hi0⟩ : ∃ n i : Nat, i + n = V ∧ i = 0 := ⟨V, 0, Nat.zero_add _, rfl⟩
    replace hl : lv_has ls 4 [(3, .int (nI i)), (2, .int (nI (fr_mt V (F j) i))), (0, .ref (ad 0)), (1, .int (nI j))] := by rw [hi0]; exact hl
    clear hi0
    induction n generalizing i ls  with
    | zero =>
      refine lv_iload_n hx hb dX0_matters_13 rfl (lv_at hl 0 rfl) ?_
      refine lv_aload_n hx hb dX0_matters_14 rfl (lv_at hl 2 rfl) ?_
      refine fr_gX 0 hx hb hw hown hK hP (by decide) mF_variables rfl dX0_matters_15 ?_
      refine lv_icmp_ge (tgt := 47) hx hb dX0_matters_18 rfl (fun hcm => ?_) (fun hcm => absurd (nI_le (show V ≤ i by omega) (by omega)) hcm)
      refine lv_iload_n hx hb dX0_matters_47 rfl (lv_at hl 1 rfl) ?_
      exact W.iret (v := nI (fr_mt V (F j) i)) hx hb hret (fun t ht hW => ⟨_, rfl, by unfold fr_sMatters; rw [if_pos (fr_okB_nI hLj (by decide)), fr_v_nI (show j < 2 ^ 31 by omega), show i = V by omega], ht⟩) (fun q hq => by cases hq) dX0_matters_48
    | succ n ih =>
      refine lv_iload_n hx hb dX0_matters_13 rfl (lv_at hl 0 rfl) ?_
      refine lv_aload_n hx hb dX0_matters_14 rfl (lv_at hl 2 rfl) ?_
      refine fr_gX 0 hx hb hw hown hK hP (by decide) mF_variables rfl dX0_matters_15 ?_
      refine lv_icmp_ge (tgt := 47) hx hb dX0_matters_18 rfl (fun hcm => absurd hcm (nI_ge (show i < V by omega) (by omega))) (fun hcm => ?_)
      have hi : i < V := by omega
      have hdp := fr_R_dep hV hi (hF j hLj)
      refine lv_aload_n hx hb dX0_matters_21 rfl (lv_at hl 2 rfl) ?_
      refine lv_aload_n hx hb dX0_matters_22 rfl (lv_at hl 2 rfl) ?_
      refine fr_gX 4 hx hb hw hown hK hP (by decide) mF_rows rfl dX0_matters_23 ?_
      refine lv_iload_n hx hb dX0_matters_26 rfl (lv_at hl 3 rfl) ?_
      refine fr_aald hx hb hK hP 1 0 rfl rfl hLj (by decide) rfl dX0_matters_27 ?_
      refine lv_iload_n hx hb dX0_matters_28 rfl (lv_at hl 0 rfl) ?_
      refine fr_Xi (As := [.ref (ad (j + 5)), .int (nI i)]) hS0 (cF_dependsOn l D V ad ka mk nm pt ro (j + 5) 1 (ad (j + 5)) (ka 1) (ro j) (fr_row hLj) rfl i hi hV) (cw_F_dependsOn hw ⟨Nat.le_of_ble_eq_true rfl, Nat.le_of_ble_eq_true rfl⟩) hK hP hT hS rfl hl.1 rfl (Nat.le_of_ble_eq_true rfl) dX0_matters_29 ⟨Nat.zero_le _, Nat.zero_le _⟩ (fun b2 hb2 => ?_)
      rcases hb2 with ⟨rfl, hd⟩ | ⟨rfl, hd⟩
      ·
        have he : fr_eqB V (F j) (fun x => F j (x ^^^ 2 ^ (V - 1 - i))) = false := decide_eq_false (fun z => hd (hdp.mpr z))
        refine lv_if_eq (tgt := 41) hx hb dX0_matters_32 rfl (fun hz => absurd hz (by decide)) (fun hz => ?_)
        refine lv_iload_n hx hb dX0_matters_35 rfl (lv_at hl 1 rfl) ?_
        refine lv_iconst (v := 1) hx hb dX0_matters_36 (by decide) ?_
        refine lv_iload_n hx hb dX0_matters_37 rfl (lv_at hl 0 rfl) ?_
        refine lv_ishl hx hb dX0_matters_38 ?_
        refine lv_ior hx hb dX0_matters_39 ?_
        refine fr_top (show ((nI (fr_mt V (F j) i) ||| (1 <<< (nI i &&& 31))) : Int32) = nI (fr_mt V (F j) (i + 1)) from by rw [fr_shl1 i (by omega)]; exact fr_mtor he) ?_
        refine lv_istore_n hx hb dX0_matters_40 rfl hl (by decide) rfl (fun ls hl => ?_)
        replace hl : lv_has ls 4 [(2, .int (nI (fr_mt V (F j) (i + 1)))), (3, .int (nI i)), (0, .ref (ad 0)), (1, .int (nI j))] := hl
        refine lv_iinc (k := 1) (v := nI (i + 1)) hx hb dX0_matters_41 hl rfl (fr_inc i) (by decide) rfl (fun ls hl => ?_)
        replace hl : lv_has ls 4 [(3, .int (nI (i + 1))), (2, .int (nI (fr_mt V (F j) (i + 1)))), (0, .ref (ad 0)), (1, .int (nI j))] := hl
        refine lv_goto (tgt := 13) hx hb dX0_matters_44 rfl ?_
        exact ih ls (i + 1) (by omega) (lv_sub hl [0, 1, 2, 3] rfl)
      ·
        have he : fr_eqB V (F j) (fun x => F j (x ^^^ 2 ^ (V - 1 - i))) = true := decide_eq_true (hdp.mp hd)
        refine lv_if_eq (tgt := 41) hx hb dX0_matters_32 rfl (fun hz => ?_) (fun hz => absurd rfl hz)
        refine lv_iinc (k := 0) (v := nI (i + 1)) hx hb dX0_matters_41 hl rfl (fr_inc i) (by decide) rfl (fun ls hl => ?_)
        replace hl : lv_has ls 4 [(3, .int (nI (i + 1))), (2, .int (nI (fr_mt V (F j) i))), (0, .ref (ad 0)), (1, .int (nI j))] := hl
        refine lv_goto (tgt := 13) hx hb dX0_matters_44 rfl ?_
        have hmt : fr_mt V (F j) (i + 1) = fr_mt V (F j) i := by show fr_mt V (F j) i + (if fr_eqB V (F j) (fun x => F j (x ^^^ 2 ^ (V - 1 - i))) = true then 0 else 2 ^ i) = _; rw [he]; rfl
        exact ih ls (i + 1) (by omega) (by rw [hmt]; exact lv_sub hl [0, 1, 2, 3] rfl)
  ·
    refine lv_if_ne (tgt := 9) hx hb dX0_matters_4 rfl (fun hz => absurd rfl hz) (fun hz => ?_)
    refine lv_iconst (v := (-1)) hx hb dX0_matters_7 (by decide) ?_
    exact W.iret (v := (-1)) hx hb hret (fun t ht hW => ⟨_, rfl, (if_neg (by rw [fr_okB_no (hno)]; decide)).symm, ht⟩) (fun q hq => by cases hq) dX0_matters_8
end
section
set_option maxHeartbeats 4000000 in
set_option maxRecDepth 100000 in
theorem cF_placeOfPart (l : Launch) (D : va_G) (V : Nat) (ad : Nat → Nat) (ka : Nat → ClassId) (mk : Nat → Int64) (nm pt : Nat → Int32) (ro : Nat → Nat → Int64) (hV : V < 10) (part : Int32) (fb fd : Nat) (hbd : fb ≤ fd) (hd : fd ≤ 2 ^ V) : Met l yX0_placeOfPart wsF_placeOfPart rmF_placeOfPart (va_Pc [.ref (ad 0), .int part, .int (nI fb), .int (nI fd)] (fr_PX D V ad ka mk nm pt ro)) (vp_Si (fun res => ∃ a, res = nI a ∧ fb ≤ a ∧ a ≤ fd ∧ (∀ b, fb ≤ b → b < a → pt b ≠ part) ∧ (a < fd → pt a = part))) 0 0 (fun _ => False) := by
  refine Met.ofW (cc := cX0_placeOfPart) (maxL := 5) (ret := some .int) (by decide) rfl ?_
  intro p e s m args below meth c s₁ B hml hv
  obtain ⟨rfl, hP, hK, hT⟩ := hv
  have hx := B.exec
  have hb := B.bytes
  have hret := B.returns
  have hw := fun w (h : w ∈ WA) => atoms_spec (ws := wsF_placeOfPart) B.pre w (List.mem_cons_of_mem _ h)
  have hown : s.vm.findClass "FunctionRoom" = some m.cls := findClass_of_methodNamed B.named
  have hlocks := B.notSynchronized
  have hS0 : CallFix p m c cX0_placeOfPart 5 s _ WA "FunctionRoom" := ⟨hx, hb, hml, hown, hw⟩
  have hl := lv_entry ([.ref (ad 0), .int part, .int (nI fb), .int (nI fd)]) (n := 5) (Nat.le_of_ble_eq_true rfl)
  rw [lg_entry_eq]
  generalize (lg_sl ([.ref (ad 0), .int part, .int (nI fb), .int (nI fd)]) ++ List.replicate (5 - (lg_sl ([.ref (ad 0), .int part, .int (nI fb), .int (nI fd)])).length) Slot.unset).toArray = ls at hl ⊢
  replace hl : lv_has ls 5 [(0, .ref (ad 0)), (1, .int part), (2, .int (nI fb)), (3, .int (nI fd))] := hl
  have hS : va_S (fr_A ad) s.heap s.heap [] := va_S.rf
  have h512 := fr_pow512 hV
  refine lv_iload_n hx hb dX0_placeOfPart_0 rfl (lv_at hl 2 rfl) ?_
  refine lv_istore hx hb dX0_placeOfPart_1 hl (by decide) rfl (fun ls hl => ?_)
  replace hl : lv_has ls 5 [(4, .int (nI fb)), (0, .ref (ad 0)), (1, .int part), (2, .int (nI fb)), (3, .int (nI fd))] := hl
  obtain ⟨n, i, hin, hi0⟩ : ∃ n i : Nat, i + n = fd ∧ i = fb := ⟨fd - fb, fb, by omega, rfl⟩
  replace hl : lv_has ls 5 [(4, .int (nI i)), (0, .ref (ad 0)), (1, .int part), (2, .int (nI fb)), (3, .int (nI fd))] := by rw [hi0]; exact hl
  have hbi : fb ≤ i := by omega
  have hg : ∀ b, fb ≤ b → b < i → pt b ≠ part := fun b h1 h2 => by omega
  clear hi0
  induction n generalizing i ls  with
  | zero =>
    refine lv_iload hx hb dX0_placeOfPart_3 (lv_at hl 0 rfl) ?_
    refine lv_iload_n hx hb dX0_placeOfPart_5 rfl (lv_at hl 4 rfl) ?_
    refine lv_icmp_ge (tgt := 29) hx hb dX0_placeOfPart_6 rfl (fun hcm => ?_) (fun hcm => absurd (nI_le (show fd ≤ i by omega) (by omega)) hcm)
    refine lv_iload_n hx hb dX0_placeOfPart_29 rfl (lv_at hl 4 rfl) ?_
    exact W.iret (v := nI fd) hx hb hret (fun t ht hW => ⟨_, rfl, ⟨fd, rfl, by omega, by omega, fun b h1 h2 => hg b h1 (by omega), fun h => by omega⟩, ht⟩) (fun q hq => by cases hq) dX0_placeOfPart_30
  | succ n ih =>
    refine lv_iload hx hb dX0_placeOfPart_3 (lv_at hl 0 rfl) ?_
    refine lv_iload_n hx hb dX0_placeOfPart_5 rfl (lv_at hl 4 rfl) ?_
    refine lv_icmp_ge (tgt := 29) hx hb dX0_placeOfPart_6 rfl (fun hcm => absurd hcm (nI_ge (show i < fd by omega) (by omega))) (fun hcm => ?_)
    refine lv_aload_n hx hb dX0_placeOfPart_9 rfl (lv_at hl 1 rfl) ?_
    refine fr_gX 7 hx hb hw hown hK hP (by decide) mF_parts rfl dX0_placeOfPart_10 ?_
    refine lv_iload hx hb dX0_placeOfPart_13 (lv_at hl 0 rfl) ?_
    refine fr_iald hx hb hK hP 4 4 rfl rfl (show i < 2 ^ V by omega) (by omega) dX0_placeOfPart_15 ?_
    refine lv_iload_n hx hb dX0_placeOfPart_16 rfl (lv_at hl 2 rfl) ?_
    refine lv_icmp_ne (tgt := 23) hx hb dX0_placeOfPart_17 rfl (fun h2 => ?_) (fun h2 => ?_)
    ·
      refine lv_iinc (k := 0) (v := nI (i + 1)) hx hb dX0_placeOfPart_23 hl rfl (fr_inc i) (by decide) rfl (fun ls hl => ?_)
      replace hl : lv_has ls 5 [(4, .int (nI (i + 1))), (0, .ref (ad 0)), (1, .int part), (2, .int (nI fb)), (3, .int (nI fd))] := hl
      refine lv_goto (tgt := 3) hx hb dX0_placeOfPart_26 rfl ?_
      exact ih ls (i + 1) (by omega) (lv_sub hl [0, 1, 2, 3, 4] rfl) (by omega) (fun b h3 h4 => by rcases Nat.lt_or_ge b i with h5 | h5; exact hg b h3 h5; rw [show b = i by omega]; exact h2)
    ·
      refine lv_iload hx hb dX0_placeOfPart_20 (lv_at hl 0 rfl) ?_
      exact W.iret (v := nI i) hx hb hret (fun t ht hW => ⟨_, rfl, ⟨i, rfl, hbi, by omega, hg, fun _ => h2⟩, ht⟩) (fun q hq => by cases hq) dX0_placeOfPart_22
set_option maxHeartbeats 4000000 in
set_option maxRecDepth 100000 in
theorem cF_joinHalves (l : Launch) (D : va_G) (V : Nat) (ad : Nat → Nat) (ka : Nat → ClassId) (mk : Nat → Int64) (nm pt : Nat → Int32) (ro : Nat → Nat → Int64) (hV : V < 10) (hinj : fr_inj ad) (k fb : Nat) (N : Nat → Nat) (hk : k < V) (hfb : fb + 2 ^ (k + 1) ≤ 2 ^ V) (hN : ∀ i, i < 2 * 2 ^ k → nm i = nI (N i)) (hNb : ∀ i, i < 2 * 2 ^ k → N i < fb + 2) : Met l yX0_joinHalves wsF_joinHalves rmF_joinHalves (va_Pc [.ref (ad 0), .int (nI k), .int (nI fb)] (fr_PX D V ad ka mk nm pt ro)) (va_Qi (fun res u => ∃ fd N', res = nI fd ∧ u.1 = mk ∧ u.2.2.2 = ro ∧ fr_J (2 ^ k) N N' fb (2 ^ k) fd u.2.1 u.2.2.1) (fun u t => va_P D vwCl (fr_xu V ad ka u) t.heap) (fr_A ad)) 0 0 (fr_A ad) := by
  refine Met.ofW (cc := cX0_joinHalves) (maxL := 9) (ret := some .int) (by decide) rfl ?_
  intro p e s m args below meth c s₁ B hml hv
  obtain ⟨rfl, hP, hK, hT⟩ := hv
  have hx := B.exec
  have hb := B.bytes
  have hret := B.returns
  have hw := fun w (h : w ∈ WA) => atoms_spec (ws := wsF_joinHalves) B.pre w (List.mem_cons_of_mem _ h)
  have hown : s.vm.findClass "FunctionRoom" = some m.cls := findClass_of_methodNamed B.named
  have hlocks := B.notSynchronized
  have hS0 : CallFix p m c cX0_joinHalves 9 s _ WA "FunctionRoom" := ⟨hx, hb, hml, hown, hw⟩
  have hl := lv_entry ([.ref (ad 0), .int (nI k), .int (nI fb)]) (n := 9) (Nat.le_of_ble_eq_true rfl)
  rw [lg_entry_eq]
  generalize (lg_sl ([.ref (ad 0), .int (nI k), .int (nI fb)]) ++ List.replicate (9 - (lg_sl ([.ref (ad 0), .int (nI k), .int (nI fb)])).length) Slot.unset).toArray = ls at hl ⊢
  replace hl : lv_has ls 9 [(0, .ref (ad 0)), (1, .int (nI k)), (2, .int (nI fb))] := hl
  have h512 := fr_pow512 hV
  have hk2 : 2 ^ (k + 1) = 2 * 2 ^ k := by rw [Nat.pow_succ]; omega
  refine fr_gen (A := fr_A ad) hP (fun H locs hP2 hS => ?_)
  clear hP
  have hP := hP2
  clear hP2
  refine lv_iload_n hx hb dX0_joinHalves_0 rfl (lv_at hl 2 rfl) ?_
  refine lv_istore_n hx hb dX0_joinHalves_1 rfl hl (by decide) rfl (fun ls hl => ?_)
  replace hl : lv_has ls 9 [(3, .int (nI fb)), (0, .ref (ad 0)), (1, .int (nI k)), (2, .int (nI fb))] := hl
  refine lv_iconst (v := 0) hx hb dX0_joinHalves_2 (by decide) ?_
  refine lv_istore hx hb dX0_joinHalves_3 hl (by decide) rfl (fun ls hl => ?_)
  replace hl : lv_has ls 9 [(4, .int 0), (3, .int (nI fb)), (0, .ref (ad 0)), (1, .int (nI k)), (2, .int (nI fb))] := hl
  obtain ⟨n, i, hin, hi0⟩ : ∃ n i : Nat, i + n = 2 ^ k ∧ i = 0 := ⟨2 ^ k, 0, by omega, rfl⟩
  obtain ⟨fd, hfd⟩ : ∃ fd, fd = fb := ⟨fb, rfl⟩
  obtain ⟨N', hN'⟩ : ∃ N' : Nat → Nat, N' = N := ⟨N, rfl⟩
  replace hl : lv_has ls 9 [(4, .int (nI i)), (3, .int (nI fd)), (0, .ref (ad 0)), (1, .int (nI k)), (2, .int (nI fb))] := by rw [hi0, hfd]; exact hl
  have hJ : fr_J (2 ^ k) N N' fb i fd nm pt := by rw [hi0, hfd, hN']; exact fr_J_0 hN
  clear hi0 hfd hN' hN
  induction n generalizing i ls H locs nm pt fd N' with
  | zero =>
    refine lv_iload hx hb dX0_joinHalves_5 (lv_at hl 0 rfl) ?_
    refine lv_iconst (v := 1) hx hb dX0_joinHalves_7 (by decide) ?_
    refine lv_iload_n hx hb dX0_joinHalves_8 rfl (lv_at hl 3 rfl) ?_
    refine lv_ishl hx hb dX0_joinHalves_9 ?_
    refine fr_top (show ((1 <<< (nI k &&& 31)) : Int32) = nI (2 ^ k) from fr_shl1 k (by omega)) ?_
    refine lv_icmp_ge (tgt := 111) hx hb dX0_joinHalves_10 rfl (fun hcm => ?_) (fun hcm => absurd (nI_le (show 2 ^ k ≤ i by omega) (by omega)) hcm)
    have hik : i = 2 ^ k := by omega
    rw [hik] at hJ
    refine lv_iload_n hx hb dX0_joinHalves_111 rfl (lv_at hl 1 rfl) ?_
    exact W.iret (v := nI fd) hx hb hret (fun t ht hW => ⟨⟨_, (mk, nm, pt, ro), rfl, ⟨fd, N', rfl, rfl, rfl, hJ⟩, by show va_P D vwCl _ t.heap; rw [ht]; exact hP⟩, hS.F ht⟩) hS.2.2 dX0_joinHalves_112
  | succ n ih =>
    refine lv_iload hx hb dX0_joinHalves_5 (lv_at hl 0 rfl) ?_
    refine lv_iconst (v := 1) hx hb dX0_joinHalves_7 (by decide) ?_
    refine lv_iload_n hx hb dX0_joinHalves_8 rfl (lv_at hl 3 rfl) ?_
    refine lv_ishl hx hb dX0_joinHalves_9 ?_
    refine fr_top (show ((1 <<< (nI k &&& 31)) : Int32) = nI (2 ^ k) from fr_shl1 k (by omega)) ?_
    refine lv_icmp_ge (tgt := 111) hx hb dX0_joinHalves_10 rfl (fun hcm => absurd hcm (nI_ge (show i < 2 ^ k by omega) (by omega))) (fun hcm => ?_)
    have hik : i < 2 ^ k := by omega
    have hn0 := hNb (2 * i) (by omega)
    have hn1 := hNb (2 * i + 1) (by omega)
    have hfd : fd ≤ fb + i ∧ fb ≤ fd := by have h3 := hJ.2.2.1; have h4 := fr_cn_le (fr_nN N) i; omega
    refine lv_aload_n hx hb dX0_joinHalves_13 rfl (lv_at hl 2 rfl) ?_
    refine fr_gX 6 hx hb hw hown hK hP (by decide) mF_names rfl dX0_joinHalves_14 ?_
    refine lv_iconst (v := 2) hx hb dX0_joinHalves_17 (by decide) ?_
    refine lv_iload hx hb dX0_joinHalves_18 (lv_at hl 0 rfl) ?_
    refine lv_imul hx hb dX0_joinHalves_20 ?_
    refine fr_top (show ((2 * nI i) : Int32) = nI (2 * i) from pk_mul 2 i) ?_
    refine fr_iald hx hb hK hP 3 3 rfl rfl (show 2 * i < 2 ^ V by omega) (by omega) dX0_joinHalves_21 ?_
    refine fr_top (show (nm (2 * i) : Int32) = nI (N (2 * i)) from hJ.2.1 (2 * i) (by omega) (by omega)) ?_
    refine lv_istore hx hb dX0_joinHalves_22 hl (by decide) rfl (fun ls hl => ?_)
    replace hl : lv_has ls 9 [(5, .int (nI (N (2 * i)))), (4, .int (nI i)), (3, .int (nI fd)), (0, .ref (ad 0)), (1, .int (nI k)), (2, .int (nI fb))] := hl
    refine lv_aload_n hx hb dX0_joinHalves_24 rfl (lv_at hl 3 rfl) ?_
    refine fr_gX 6 hx hb hw hown hK hP (by decide) mF_names rfl dX0_joinHalves_25 ?_
    refine lv_iconst (v := 2) hx hb dX0_joinHalves_28 (by decide) ?_
    refine lv_iload hx hb dX0_joinHalves_29 (lv_at hl 1 rfl) ?_
    refine lv_imul hx hb dX0_joinHalves_31 ?_
    refine lv_iconst (v := 1) hx hb dX0_joinHalves_32 (by decide) ?_
    refine lv_iadd hx hb dX0_joinHalves_33 ?_
    refine fr_top (show (((2 * nI i) + 1) : Int32) = nI (2 * i + 1) from by rw [show (2 : Int32) * nI i = nI (2 * i) from pk_mul 2 i]; exact nI_1 _) ?_
    refine fr_iald hx hb hK hP 3 3 rfl rfl (show 2 * i + 1 < 2 ^ V by omega) (by omega) dX0_joinHalves_34 ?_
    refine fr_top (show (nm (2 * i + 1) : Int32) = nI (N (2 * i + 1)) from hJ.2.1 (2 * i + 1) (by omega) (by omega)) ?_
    refine lv_istore hx hb dX0_joinHalves_35 hl (by decide) rfl (fun ls hl => ?_)
    replace hl : lv_has ls 9 [(6, .int (nI (N (2 * i + 1)))), (5, .int (nI (N (2 * i)))), (4, .int (nI i)), (3, .int (nI fd)), (0, .ref (ad 0)), (1, .int (nI k)), (2, .int (nI fb))] := hl
    refine lv_iload hx hb dX0_joinHalves_37 (lv_at hl 1 rfl) ?_
    refine lv_iload hx hb dX0_joinHalves_39 (lv_at hl 0 rfl) ?_
    refine lv_icmp_ne (tgt := 56) hx hb dX0_joinHalves_41 rfl (fun h2 => ?_) (fun h2 => ?_)
    ·
      have hne : N (2 * i) ≠ N (2 * i + 1) := fun z => h2 (by rw [z])
      refine lv_iload hx hb dX0_joinHalves_56 (lv_at hl 1 rfl) ?_
      refine lv_bipush (v := 10) hx hb dX0_joinHalves_58 (by decide) ?_
      refine lv_ishl hx hb dX0_joinHalves_60 ?_
      refine lv_iload hx hb dX0_joinHalves_61 (lv_at hl 0 rfl) ?_
      refine lv_ior hx hb dX0_joinHalves_63 ?_
      refine fr_top (show (((nI (N (2 * i)) <<< (10 &&& 31)) ||| nI (N (2 * i + 1))) : Int32) = fr_pr N i from fr_part (by omega) (by omega)) ?_
      refine lv_istore hx hb dX0_joinHalves_64 hl (by decide) rfl (fun ls hl => ?_)
      replace hl : lv_has ls 9 [(7, .int (fr_pr N i)), (6, .int (nI (N (2 * i + 1)))), (5, .int (nI (N (2 * i)))), (4, .int (nI i)), (3, .int (nI fd)), (0, .ref (ad 0)), (1, .int (nI k)), (2, .int (nI fb))] := hl
      refine lv_aload_n hx hb dX0_joinHalves_66 rfl (lv_at hl 5 rfl) ?_
      refine lv_iload hx hb dX0_joinHalves_67 (lv_at hl 0 rfl) ?_
      refine lv_iload_n hx hb dX0_joinHalves_69 rfl (lv_at hl 7 rfl) ?_
      refine lv_iload_n hx hb dX0_joinHalves_70 rfl (lv_at hl 4 rfl) ?_
      refine fr_Xi (As := [.int (fr_pr N i), .int (nI fb), .int (nI fd)]) hS0 (cF_placeOfPart l D V ad ka mk nm pt ro hV (fr_pr N i) fb fd (by omega) (by omega)) (cw_F_placeOfPart hw ⟨Nat.le_of_ble_eq_true rfl, Nat.le_of_ble_eq_true rfl⟩) hK hP hT hS rfl hl.1 rfl (Nat.le_of_ble_eq_true rfl) dX0_joinHalves_71 ⟨Nat.zero_le _, Nat.zero_le _⟩ (fun b2 hb2 => ?_)
      obtain ⟨a, rfl, ha1, ha2, ha3, ha4⟩ := hb2
      refine lv_istore hx hb dX0_joinHalves_74 hl (by decide) rfl (fun ls hl => ?_)
      replace hl : lv_has ls 9 [(8, .int (nI a)), (7, .int (fr_pr N i)), (6, .int (nI (N (2 * i + 1)))), (5, .int (nI (N (2 * i)))), (4, .int (nI i)), (3, .int (nI fd)), (0, .ref (ad 0)), (1, .int (nI k)), (2, .int (nI fb))] := hl
      refine lv_aload_n hx hb dX0_joinHalves_76 rfl (lv_at hl 6 rfl) ?_
      refine fr_gX 7 hx hb hw hown hK hP (by decide) mF_parts rfl dX0_joinHalves_77 ?_
      refine lv_iload hx hb dX0_joinHalves_80 (lv_at hl 0 rfl) ?_
      refine lv_iload hx hb dX0_joinHalves_82 (lv_at hl 1 rfl) ?_
      refine fr_iast (ws2 := fr_xw V ad ka mk nm (upd pt a (fr_pr N i)) ro) hx hb hK hP (fr_D hinj) hS 4 4 rfl rfl (show a < 2 ^ V by omega) (by omega) dX0_joinHalves_84 rfl (fun H locs hP hS => ?_)
      refine lv_iload_n hx hb dX0_joinHalves_85 rfl (lv_at hl 5 rfl) ?_
      refine lv_iload hx hb dX0_joinHalves_86 (lv_at hl 0 rfl) ?_
      refine lv_iconst (v := 1) hx hb dX0_joinHalves_88 (by decide) ?_
      refine lv_iadd hx hb dX0_joinHalves_89 ?_
      refine fr_top (show ((nI a + 1) : Int32) = nI (a + 1) from nI_1 a) ?_
      refine va_mmax hx hb (by rw [hml, hl.1]) hown (hw _ mM_F_max) (hw _ mS_max) (hw _ mI_Math) (hw _ mO_max) (Nat.le_of_ble_eq_true rfl) (Nat.le_of_ble_eq_true rfl) (Nat.zero_le _) (Nat.zero_le _) dX0_joinHalves_90 ?_
      rcases Nat.lt_or_ge a fd with hlt | hge
      ·
        refine fr_top (show ((if nI fd < nI (a + 1) then nI (a + 1) else nI fd) : Int32) = nI fd from if_neg (nI_nlt (by omega) (by omega))) ?_
        refine lv_istore_n hx hb dX0_joinHalves_93 rfl hl (by decide) rfl (fun ls hl => ?_)
        replace hl : lv_has ls 9 [(3, .int (nI fd)), (8, .int (nI a)), (7, .int (fr_pr N i)), (6, .int (nI (N (2 * i + 1)))), (5, .int (nI (N (2 * i)))), (4, .int (nI i)), (0, .ref (ad 0)), (1, .int (nI k)), (2, .int (nI fb))] := hl
        refine lv_aload_n hx hb dX0_joinHalves_94 rfl (lv_at hl 6 rfl) ?_
        refine fr_gX 6 hx hb hw hown hK hP (by decide) mF_names rfl dX0_joinHalves_95 ?_
        refine lv_iload hx hb dX0_joinHalves_98 (lv_at hl 5 rfl) ?_
        refine lv_iconst (v := 2) hx hb dX0_joinHalves_100 (by decide) ?_
        refine lv_iload hx hb dX0_joinHalves_101 (lv_at hl 1 rfl) ?_
        refine lv_iadd hx hb dX0_joinHalves_103 ?_
        refine fr_top (show ((2 + nI a) : Int32) = nI (2 + a) from nI_add 2 a) ?_
        refine fr_iast (ws2 := fr_xw V ad ka mk (upd nm i (nI (2 + a))) (upd pt a (fr_pr N i)) ro) hx hb hK hP (fr_D hinj) hS 3 3 rfl rfl (show i < 2 ^ V by omega) (by omega) dX0_joinHalves_104 rfl (fun H locs hP hS => ?_)
        refine lv_iinc (k := 5) (v := nI (i + 1)) hx hb dX0_joinHalves_105 hl rfl (fr_inc i) (by decide) rfl (fun ls hl => ?_)
        replace hl : lv_has ls 9 [(4, .int (nI (i + 1))), (3, .int (nI fd)), (8, .int (nI a)), (7, .int (fr_pr N i)), (6, .int (nI (N (2 * i + 1)))), (5, .int (nI (N (2 * i)))), (0, .ref (ad 0)), (1, .int (nI k)), (2, .int (nI fb))] := hl
        refine lv_goto (tgt := 5) hx hb dX0_joinHalves_108 rfl ?_
        exact ih _ _ H locs hS hP ls (i + 1) (by omega) fd _ (lv_sub hl [0, 1, 6, 7, 8] rfl) (fr_J_old (fun x h => by have := hNb x h; omega) hik hJ hne ha1 hlt (ha4 hlt))
      ·
        obtain rfl : a = fd := by omega
        refine fr_top (show ((if nI a < nI (a + 1) then nI (a + 1) else nI a) : Int32) = nI (a + 1) from if_pos (nI_lt (by omega) (by omega))) ?_
        refine lv_istore_n hx hb dX0_joinHalves_93 rfl hl (by decide) rfl (fun ls hl => ?_)
        replace hl : lv_has ls 9 [(3, .int (nI (a + 1))), (8, .int (nI a)), (7, .int (fr_pr N i)), (6, .int (nI (N (2 * i + 1)))), (5, .int (nI (N (2 * i)))), (4, .int (nI i)), (0, .ref (ad 0)), (1, .int (nI k)), (2, .int (nI fb))] := hl
        refine lv_aload_n hx hb dX0_joinHalves_94 rfl (lv_at hl 6 rfl) ?_
        refine fr_gX 6 hx hb hw hown hK hP (by decide) mF_names rfl dX0_joinHalves_95 ?_
        refine lv_iload hx hb dX0_joinHalves_98 (lv_at hl 5 rfl) ?_
        refine lv_iconst (v := 2) hx hb dX0_joinHalves_100 (by decide) ?_
        refine lv_iload hx hb dX0_joinHalves_101 (lv_at hl 1 rfl) ?_
        refine lv_iadd hx hb dX0_joinHalves_103 ?_
        refine fr_top (show ((2 + nI a) : Int32) = nI (2 + a) from nI_add 2 a) ?_
        refine fr_iast (ws2 := fr_xw V ad ka mk (upd nm i (nI (2 + a))) (upd pt a (fr_pr N i)) ro) hx hb hK hP (fr_D hinj) hS 3 3 rfl rfl (show i < 2 ^ V by omega) (by omega) dX0_joinHalves_104 rfl (fun H locs hP hS => ?_)
        refine lv_iinc (k := 5) (v := nI (i + 1)) hx hb dX0_joinHalves_105 hl rfl (fr_inc i) (by decide) rfl (fun ls hl => ?_)
        replace hl : lv_has ls 9 [(4, .int (nI (i + 1))), (3, .int (nI (a + 1))), (8, .int (nI a)), (7, .int (fr_pr N i)), (6, .int (nI (N (2 * i + 1)))), (5, .int (nI (N (2 * i)))), (0, .ref (ad 0)), (1, .int (nI k)), (2, .int (nI fb))] := hl
        refine lv_goto (tgt := 5) hx hb dX0_joinHalves_108 rfl ?_
        exact ih _ _ H locs hS hP ls (i + 1) (by omega) (a + 1) _ (lv_sub hl [0, 1, 6, 7, 8] rfl) (fr_J_new (fun x h => by have := hNb x h; omega) hik hJ hne ha3)
    ·
      have heq : N (2 * i) = N (2 * i + 1) := (nI_eq (by omega) (by omega)).mp h2
      refine lv_aload_n hx hb dX0_joinHalves_44 rfl (lv_at hl 4 rfl) ?_
      refine fr_gX 6 hx hb hw hown hK hP (by decide) mF_names rfl dX0_joinHalves_45 ?_
      refine lv_iload hx hb dX0_joinHalves_48 (lv_at hl 2 rfl) ?_
      refine lv_iload hx hb dX0_joinHalves_50 (lv_at hl 1 rfl) ?_
      refine fr_iast (ws2 := fr_xw V ad ka mk (upd nm i (nI (N (2 * i)))) pt ro) hx hb hK hP (fr_D hinj) hS 3 3 rfl rfl (show i < 2 ^ V by omega) (by omega) dX0_joinHalves_52 rfl (fun H locs hP hS => ?_)
      refine lv_goto (tgt := 105) hx hb dX0_joinHalves_53 rfl ?_
      refine lv_iinc (k := 2) (v := nI (i + 1)) hx hb dX0_joinHalves_105 hl rfl (fr_inc i) (by decide) rfl (fun ls hl => ?_)
      replace hl : lv_has ls 9 [(4, .int (nI (i + 1))), (6, .int (nI (N (2 * i + 1)))), (5, .int (nI (N (2 * i)))), (3, .int (nI fd)), (0, .ref (ad 0)), (1, .int (nI k)), (2, .int (nI fb))] := hl
      refine lv_goto (tgt := 5) hx hb dX0_joinHalves_108 rfl ?_
      exact ih _ _ H locs hS hP ls (i + 1) (by omega) fd _ (lv_sub hl [0, 3, 4, 5, 6] rfl) (fr_J_same hJ heq)
end
section
set_option maxHeartbeats 4000000 in
set_option maxRecDepth 100000 in
theorem cF_size (l : Launch) (D : va_G) (V : Nat) (ad : Nat → Nat) (ka : Nat → ClassId) (mk : Nat → Int64) (nm pt : Nat → Int32) (ro : Nat → Nat → Int64) (F : fr_F) (hF : fr_XR V F ro) (hV : V < 10) (hV1 : 1 ≤ V) (hinj : fr_inj ad) (r : Int32) : Met l yX0_size wsF_size rmF_size (va_Pc [.ref (ad 0), .int r] (fr_PX D V ad ka mk nm pt ro)) (va_Qi (fun res u => res = fr_sSize V F r ∧ fr_XR V F u.2.2.2) (fun u t => va_P D vwCl (fr_xu V ad ka u) t.heap) (fr_A ad)) 0 0 (fr_A ad) := by
  refine Met.ofW (cc := cX0_size) (maxL := 4) (ret := some .int) (by decide) rfl ?_
  intro p e s m args below meth c s₁ B hml hv
  obtain ⟨rfl, hP, hK, hT⟩ := hv
  have hx := B.exec
  have hb := B.bytes
  have hret := B.returns
  have hw := fun w (h : w ∈ WA) => atoms_spec (ws := wsF_size) B.pre w (List.mem_cons_of_mem _ h)
  have hown : s.vm.findClass "FunctionRoom" = some m.cls := findClass_of_methodNamed B.named
  have hlocks := B.notSynchronized
  have hS0 : CallFix p m c cX0_size 4 s _ WA "FunctionRoom" := ⟨hx, hb, hml, hown, hw⟩
  have hl := lv_entry ([.ref (ad 0), .int r]) (n := 4) (Nat.le_of_ble_eq_true rfl)
  rw [lg_entry_eq]
  generalize (lg_sl ([.ref (ad 0), .int r]) ++ List.replicate (4 - (lg_sl ([.ref (ad 0), .int r])).length) Slot.unset).toArray = ls at hl ⊢
  replace hl : lv_has ls 4 [(0, .ref (ad 0)), (1, .int r)] := hl
  have hw8 := (fr_wn_le V hV).2.1
  have h512 := fr_pow512 hV
  refine fr_gen (A := fr_A ad) hP (fun H locs hP2 hS => ?_)
  clear hP
  have hP := hP2
  clear hP2
  refine lv_iload_n hx hb dX0_size_0 rfl (lv_at hl 1 rfl) ?_
  refine fr_cSi (As := [.int r]) hS0 (cF_isRegister l r) (cw_F_isRegister hw ⟨Nat.le_of_ble_eq_true rfl, Nat.le_of_ble_eq_true rfl⟩) (fr_pre0) rfl hl.1 rfl (Nat.le_of_ble_eq_true rfl) dX0_size_1 ⟨Nat.zero_le _, Nat.zero_le _⟩ (fun b0 hb0 => ?_)
  rcases hb0 with ⟨rfl, hOj⟩ | ⟨rfl, hno⟩
  ·
    refine lv_if_ne (tgt := 9) hx hb dX0_size_4 rfl (fun hz => ?_) (fun hz => absurd hz (by decide))
    obtain ⟨j, hLj, rfl⟩ := fr_ok_ex (by decide) hOj
    refine lv_iconst (v := 0) hx hb dX0_size_9 (by decide) ?_
    refine lv_istore_n hx hb dX0_size_10 rfl hl (by decide) rfl (fun ls hl => ?_)
    replace hl : lv_has ls 4 [(2, .int 0), (0, .ref (ad 0)), (1, .int (nI j))] := hl
    obtain ⟨n, i, hin, hi0⟩ : ∃ n i : Nat, i + n = 2 ^ V ∧ i = 0 := ⟨2 ^ V, 0, Nat.zero_add _, rfl⟩
    replace hl : lv_has ls 4 [(2, .int (nI i)), (0, .ref (ad 0)), (1, .int (nI j))] := by rw [hi0]; exact hl
    have hg : ∀ x, x < i → nm x = fr_bi (F j x) := fun x h => absurd h (by omega)
    clear hi0
    induction n generalizing i ls H locs nm with
    | zero =>
      refine lv_iload_n hx hb dX0_size_11 rfl (lv_at hl 0 rfl) ?_
      refine lv_aload_n hx hb dX0_size_12 rfl (lv_at hl 1 rfl) ?_
      refine fr_gX 1 hx hb hw hown hK hP (by decide) mF_assignments rfl dX0_size_13 ?_
      refine lv_icmp_ge (tgt := 41) hx hb dX0_size_16 rfl (fun hcm => ?_) (fun hcm => absurd (nI_le (show 2 ^ V ≤ i by omega) (by omega)) hcm)
      have hN : ∀ x, x < 2 ^ V → nm x = nI ((fun x => if F j x = true then 1 else 0) x) := fun x h => by rw [hg x (by omega)]; show fr_bi (F j x) = nI (if F j x = true then 1 else 0); unfold fr_bi; cases F j x <;> rfl
      clear hg hin
      refine lv_iconst (v := 0) hx hb dX0_size_41 (by decide) ?_
      refine lv_istore_n hx hb dX0_size_42 rfl hl (by decide) rfl (fun ls hl => ?_)
      replace hl : lv_has ls 4 [(2, .int 0), (0, .ref (ad 0)), (1, .int (nI j))] := hl
      refine lv_aload_n hx hb dX0_size_43 rfl (lv_at hl 1 rfl) ?_
      refine fr_gX 0 hx hb hw hown hK hP (by decide) mF_variables rfl dX0_size_44 ?_
      refine lv_iconst (v := 1) hx hb dX0_size_47 (by decide) ?_
      refine lv_isub hx hb dX0_size_48 ?_
      refine lv_istore_n hx hb dX0_size_49 rfl hl (by decide) rfl (fun ls hl => ?_)
      replace hl : lv_has ls 4 [(3, .int ((nI V - 1))), (2, .int 0), (0, .ref (ad 0)), (1, .int (nI j))] := hl
      obtain ⟨n, fb, N, hn0, hN1, hNP, hfb, hfv⟩ : ∃ (n fb : Nat) (N : Nat → Nat), n ≤ V ∧ (∀ x, x < 2 ^ n → nm x = nI (N x)) ∧ fr_NP (F j) V (V - n) fb N ∧ fb = fr_up (F j) V (V - n) ∧ n = V ∧ fb = 0 := ⟨V, 0, _, Nat.le_refl V, hN, by rw [Nat.sub_self]; exact fr_NP_0, by rw [Nat.sub_self]; rfl, rfl, rfl⟩
      replace hl : lv_has ls 4 [(3, .int ((nI n - 1))), (2, .int (nI fb)), (0, .ref (ad 0)), (1, .int (nI j))] := by rw [hfv.1, hfv.2]; exact hl
      clear hfv hN
      induction n generalizing ls H locs nm pt fb N with
      | zero =>
        refine lv_iload_n hx hb dX0_size_50 rfl (lv_at hl 0 rfl) ?_
        refine lv_if_lt (tgt := 67) hx hb dX0_size_51 rfl (fun hcm => ?_) (fun hcm => absurd (by decide) hcm)
        have hsz := fr_up_sz (F j) V V (Nat.le_refl V)
        rw [Nat.sub_self] at hsz
        refine lv_iload_n hx hb dX0_size_67 rfl (lv_at hl 1 rfl) ?_
        exact W.iret (v := nI fb) hx hb hret (fun t ht hW => ⟨⟨_, (mk, nm, pt, ro), rfl, by refine ⟨?_, hF⟩; unfold fr_sSize; rw [if_pos (fr_okB_nI hLj (by decide)), fr_v_nI (show j < 2 ^ 31 by omega), hfb, Nat.sub_zero, ← hsz]; rfl, by show va_P D vwCl _ t.heap; rw [ht]; exact hP⟩, hS.F ht⟩) hS.2.2 dX0_size_68
      | succ n ih =>
        have hfl := fr_up_le (F j) V (V - (n + 1)) (by omega)
        rw [show V - (V - (n + 1)) = n + 1 by omega, ← hfb] at hfl
        have hp2 : 2 ^ (n + 1) = 2 * 2 ^ n := by rw [Nat.pow_succ]; omega
        replace hl : lv_has ls 4 [(3, .int (nI n)), (2, .int (nI fb)), (0, .ref (ad 0)), (1, .int (nI j))] := by rw [nI_pred] at hl; exact hl
        refine lv_iload_n hx hb dX0_size_50 rfl (lv_at hl 0 rfl) ?_
        refine lv_if_lt (tgt := 67) hx hb dX0_size_51 rfl (fun hcm => absurd hcm (nI_pos (by omega))) (fun hcm => ?_)
        refine lv_aload_n hx hb dX0_size_54 rfl (lv_at hl 2 rfl) ?_
        refine lv_iload_n hx hb dX0_size_55 rfl (lv_at hl 0 rfl) ?_
        refine lv_iload_n hx hb dX0_size_56 rfl (lv_at hl 1 rfl) ?_
        refine fr_Xm (As := [.int (nI n), .int (nI fb)]) hS0 (cF_joinHalves l D V ad ka mk nm pt ro hV hinj n fb N (by omega) hfl (fun x h => hN1 x (by omega)) (fun x h => hNP.1 x (by rw [show V - (V - (n + 1)) = n + 1 by omega]; omega))) (cw_F_joinHalves hw ⟨Nat.le_of_ble_eq_true rfl, Nat.le_of_ble_eq_true rfl⟩) hK hP hT hS rfl hl.1 rfl (Nat.le_of_ble_eq_true rfl) dX0_size_57 ⟨Nat.zero_le _, Nat.zero_le _⟩ (fun b u H2 locs2 hu hP2 hS2 => ?_)
        clear hP hS
        obtain ⟨fd, N', rfl, hu1, hu2, hJ⟩ := hu
        obtain ⟨mk2, nm2, pt2, ro2⟩ := u
        obtain rfl : mk2 = mk := hu1
        obtain rfl : ro2 = ro := hu2
        have hfd := hJ.2.2.1
        obtain ⟨hE1, hE2⟩ := fr_J_end (fun x h => hNP.1 x (by rw [show V - (V - (n + 1)) = n + 1 by omega]; omega)) (by omega) hJ
        have hst := fr_NP_step (d := V - (n + 1)) (by omega) hNP (by rw [show V - (V - (n + 1)) - 1 = n by omega]; exact hE1) (by rw [show V - (V - (n + 1)) - 1 = n by omega]; exact hE2)
        rw [show V - (V - (n + 1)) - 1 = n by omega, show V - (n + 1) + 1 = V - n by omega] at hst
        refine lv_istore_n hx hb dX0_size_60 rfl hl (by decide) rfl (fun ls hl => ?_)
        replace hl : lv_has ls 4 [(2, .int (nI fd)), (3, .int (nI n)), (0, .ref (ad 0)), (1, .int (nI j))] := hl
        refine lv_iinc (k := 1) (v := (nI n - 1)) hx hb dX0_size_61 hl rfl (fr_decm n) (by decide) rfl (fun ls hl => ?_)
        replace hl : lv_has ls 4 [(3, .int ((nI n - 1))), (2, .int (nI fd)), (0, .ref (ad 0)), (1, .int (nI j))] := hl
        refine lv_goto (tgt := 50) hx hb dX0_size_64 rfl ?_
        exact ih pt2 nm2 H2 locs2 hS2 hP2 ls fd N' (by omega) (fun x h => hJ.1 x h) hst.1 (by rw [hfd, hfb, show V - n = (V - (n + 1)) + 1 by omega]; show _ = fr_up (F j) V (V - (n + 1)) + fr_cn (fr_nw (F j) (2 ^ (V - (n + 1) + 1))) (2 ^ (V - (V - (n + 1)) - 1)); rw [show V - (V - (n + 1)) - 1 = n by omega, show V - (n + 1) + 1 = V - n by omega, fr_cn_congr _ hst.2]) (lv_sub hl [0, 1, 2, 3] rfl)
    | succ n ih =>
      refine lv_iload_n hx hb dX0_size_11 rfl (lv_at hl 0 rfl) ?_
      refine lv_aload_n hx hb dX0_size_12 rfl (lv_at hl 1 rfl) ?_
      refine fr_gX 1 hx hb hw hown hK hP (by decide) mF_assignments rfl dX0_size_13 ?_
      refine lv_icmp_ge (tgt := 41) hx hb dX0_size_16 rfl (fun hcm => absurd hcm (nI_ge (show i < 2 ^ V by omega) (by omega))) (fun hcm => ?_)
      have hi : i < 2 ^ V := by omega
      obtain ⟨hx6, hx7⟩ := fr_R_in hV (hF j hLj) hi
      refine lv_aload_n hx hb dX0_size_19 rfl (lv_at hl 1 rfl) ?_
      refine fr_gX 6 hx hb hw hown hK hP (by decide) mF_names rfl dX0_size_20 ?_
      refine lv_iload_n hx hb dX0_size_23 rfl (lv_at hl 0 rfl) ?_
      refine lv_aload_n hx hb dX0_size_24 rfl (lv_at hl 1 rfl) ?_
      refine fr_gX 4 hx hb hw hown hK hP (by decide) mF_rows rfl dX0_size_25 ?_
      refine lv_iload_n hx hb dX0_size_28 rfl (lv_at hl 2 rfl) ?_
      refine fr_aald hx hb hK hP 1 0 rfl rfl hLj (by decide) rfl dX0_size_29 ?_
      refine lv_iload_n hx hb dX0_size_30 rfl (lv_at hl 0 rfl) ?_
      refine fr_cSi (As := [.ref (ad (j + 5)), .int (nI i)]) hS0 (cF_valueAt l D (ad (j + 5)) (ka 1) (fr_wn V) (ro j) i (by omega) hx6 (by omega)) (cw_F_valueAt hw ⟨Nat.le_of_ble_eq_true rfl, Nat.le_of_ble_eq_true rfl⟩) (fr_preA hK hP (fr_row hLj) (tq := 1) rfl) rfl hl.1 rfl (Nat.le_of_ble_eq_true rfl) dX0_size_31 ⟨Nat.zero_le _, Nat.zero_le _⟩ (fun b hb1 => ?_)
      subst hb1
      rw [hx7]
      refine fr_iast (ws2 := fr_xw V ad ka mk (upd nm i (fr_bi (F j i))) pt ro) hx hb hK hP (fr_D hinj) hS 3 3 rfl rfl hi (by omega) dX0_size_34 rfl (fun H locs hP hS => ?_)
      refine lv_iinc (k := 0) (v := nI (i + 1)) hx hb dX0_size_35 hl rfl (fr_inc i) (by decide) rfl (fun ls hl => ?_)
      replace hl : lv_has ls 4 [(2, .int (nI (i + 1))), (0, .ref (ad 0)), (1, .int (nI j))] := hl
      refine lv_goto (tgt := 11) hx hb dX0_size_38 rfl ?_
      exact ih _ H locs hS hP ls (i + 1) (by omega) (lv_sub hl [0, 1, 2] rfl) (fr_updS hg)
  ·
    refine lv_if_ne (tgt := 9) hx hb dX0_size_4 rfl (fun hz => absurd rfl hz) (fun hz => ?_)
    refine lv_iconst (v := (-1)) hx hb dX0_size_7 (by decide) ?_
    exact W.iret (v := (-1)) hx hb hret (fun t ht hW => ⟨⟨_, (mk, nm, pt, ro), rfl, by refine ⟨?_, hF⟩; unfold fr_sSize; rw [if_neg (by rw [fr_okB_no hno]; decide)], by show va_P D vwCl _ t.heap; rw [ht]; exact hP⟩, hS.F ht⟩) hS.2.2 dX0_size_8
end
section
set_option maxHeartbeats 4000000 in
set_option maxRecDepth 100000 in
theorem cM_is (l : Launch) (r : Int32) : Met l yX1_is wsM_is rmM_is (va_Pc [.int r] (fun _ => True)) (vp_Si (fun b => (b = 1 ∧ fr_ok r 32) ∨ (b = 0 ∧ ¬ fr_ok r 32))) 0 0 (fun _ => False) := by
  refine Met.ofW (cc := cX1_is) (maxL := 1) (ret := some .boolean) (by decide) rfl ?_
  intro p e s m args below meth c s₁ B hml hv
  obtain ⟨rfl, hv⟩ := hv
  have hx := B.exec
  have hb := B.bytes
  have hret := B.returns
  have hw := fun w (h : w ∈ WA) => atoms_spec (ws := wsM_is) B.pre w (List.mem_cons_of_mem _ h)
  have hown : s.vm.findClass "FunctionRoomModel" = some m.cls := findClass_of_methodNamed B.named
  have hlocks := B.notSynchronized
  have hS0 : CallFix p m c cX1_is 1 s _ WA "FunctionRoomModel" := ⟨hx, hb, hml, hown, hw⟩
  have hl := lv_entry ([.int r]) (n := 1) (Nat.le_of_ble_eq_true rfl)
  rw [lg_entry_eq]
  generalize (lg_sl ([.int r]) ++ List.replicate (1 - (lg_sl ([.int r])).length) Slot.unset).toArray = ls at hl ⊢
  replace hl : lv_has ls 1 [(0, .int r)] := hl
  refine lv_iload_n hx hb dX1_is_0 rfl (lv_at hl 0 rfl) ?_
  refine lv_if_lt (tgt := 14) hx hb dX1_is_1 rfl (fun h1 => ?_) (fun h1 => ?_)
  ·
    refine lv_iconst (v := 0) hx hb dX1_is_14 (by decide) ?_
    exact W.zret (v := 0) hx hb hret rfl (fun t ht hW => ⟨_, rfl, Or.inr ⟨rfl, fun z => z.1 h1⟩, ht⟩) (fun q hq => by cases hq) dX1_is_15
  ·
    refine lv_iload_n hx hb dX1_is_4 rfl (lv_at hl 0 rfl) ?_
    refine lv_bipush (v := 32) hx hb dX1_is_5 (by decide) ?_
    refine lv_icmp_ge (tgt := 14) hx hb dX1_is_7 rfl (fun h2 => ?_) (fun h2 => ?_)
    ·
      refine lv_iconst (v := 0) hx hb dX1_is_14 (by decide) ?_
      exact W.zret (v := 0) hx hb hret rfl (fun t ht hW => ⟨_, rfl, Or.inr ⟨rfl, fun z => z.2 h2⟩, ht⟩) (fun q hq => by cases hq) dX1_is_15
    ·
      refine lv_iconst (v := 1) hx hb dX1_is_10 (by decide) ?_
      refine lv_goto (tgt := 15) hx hb dX1_is_11 rfl ?_
      exact W.zret (v := 1) hx hb hret rfl (fun t ht hW => ⟨_, rfl, Or.inl ⟨rfl, h1, h2⟩, ht⟩) (fun q hq => by cases hq) dX1_is_15
set_option maxHeartbeats 4000000 in
set_option maxRecDepth 100000 in
theorem cM_var (l : Launch) (D : va_G) (V : Nat) (bd : Nat → Nat) (kb : Nat → ClassId) (row made : Nat → Int32) (v : Int32) : Met l yX1_var wsM_var rmM_var (va_Pc [.ref (bd 0), .int v] (fr_PM D V bd kb row made)) (vp_Si (fun b => (b = 1 ∧ fr_ok v V) ∨ (b = 0 ∧ ¬ fr_ok v V))) 0 0 (fun _ => False) := by
  refine Met.ofW (cc := cX1_var) (maxL := 2) (ret := some .boolean) (by decide) rfl ?_
  intro p e s m args below meth c s₁ B hml hv
  obtain ⟨rfl, hP, hK, -⟩ := hv
  have hx := B.exec
  have hb := B.bytes
  have hret := B.returns
  have hw := fun w (h : w ∈ WA) => atoms_spec (ws := wsM_var) B.pre w (List.mem_cons_of_mem _ h)
  have hown : s.vm.findClass "FunctionRoomModel" = some m.cls := findClass_of_methodNamed B.named
  have hlocks := B.notSynchronized
  have hS0 : CallFix p m c cX1_var 2 s _ WA "FunctionRoomModel" := ⟨hx, hb, hml, hown, hw⟩
  have hl := lv_entry ([.ref (bd 0), .int v]) (n := 2) (Nat.le_of_ble_eq_true rfl)
  rw [lg_entry_eq]
  generalize (lg_sl ([.ref (bd 0), .int v]) ++ List.replicate (2 - (lg_sl ([.ref (bd 0), .int v])).length) Slot.unset).toArray = ls at hl ⊢
  replace hl : lv_has ls 2 [(0, .ref (bd 0)), (1, .int v)] := hl
  refine lv_iload_n hx hb dX1_var_0 rfl (lv_at hl 1 rfl) ?_
  refine lv_if_lt (tgt := 16) hx hb dX1_var_1 rfl (fun h1 => ?_) (fun h1 => ?_)
  ·
    refine lv_iconst (v := 0) hx hb dX1_var_16 (by decide) ?_
    exact W.zret (v := 0) hx hb hret rfl (fun t ht hW => ⟨_, rfl, Or.inr ⟨rfl, fun z => z.1 h1⟩, ht⟩) (fun q hq => by cases hq) dX1_var_17
  ·
    refine lv_iload_n hx hb dX1_var_4 rfl (lv_at hl 1 rfl) ?_
    refine lv_aload_n hx hb dX1_var_5 rfl (lv_at hl 0 rfl) ?_
    refine fr_gM 0 hx hb hw hown hK hP (by decide) mG_variables rfl dX1_var_6 ?_
    refine lv_icmp_ge (tgt := 16) hx hb dX1_var_9 rfl (fun h2 => ?_) (fun h2 => ?_)
    ·
      refine lv_iconst (v := 0) hx hb dX1_var_16 (by decide) ?_
      exact W.zret (v := 0) hx hb hret rfl (fun t ht hW => ⟨_, rfl, Or.inr ⟨rfl, fun z => z.2 h2⟩, ht⟩) (fun q hq => by cases hq) dX1_var_17
    ·
      refine lv_iconst (v := 1) hx hb dX1_var_12 (by decide) ?_
      refine lv_goto (tgt := 17) hx hb dX1_var_13 rfl ?_
      exact W.zret (v := 1) hx hb hret rfl (fun t ht hW => ⟨_, rfl, Or.inl ⟨rfl, h1, h2⟩, ht⟩) (fun q hq => by cases hq) dX1_var_17
set_option maxHeartbeats 4000000 in
set_option maxRecDepth 100000 in
theorem cM_bit (l : Launch) (D : va_G) (V : Nat) (bd : Nat → Nat) (kb : Nat → ClassId) (row made : Nat → Int32) (k : Nat) (hk : k < V) (hV : V < 10) : Met l yX1_bit wsM_bit rmM_bit (va_Pc [.ref (bd 0), .int (nI k)] (fr_PM D V bd kb row made)) (vp_Si (fun b => b = nI (2 ^ (V - 1 - k)))) 0 0 (fun _ => False) := by
  refine Met.ofW (cc := cX1_bit) (maxL := 2) (ret := some .int) (by decide) rfl ?_
  intro p e s m args below meth c s₁ B hml hv
  obtain ⟨rfl, hP, hK, -⟩ := hv
  have hx := B.exec
  have hb := B.bytes
  have hret := B.returns
  have hw := fun w (h : w ∈ WA) => atoms_spec (ws := wsM_bit) B.pre w (List.mem_cons_of_mem _ h)
  have hown : s.vm.findClass "FunctionRoomModel" = some m.cls := findClass_of_methodNamed B.named
  have hlocks := B.notSynchronized
  have hS0 : CallFix p m c cX1_bit 2 s _ WA "FunctionRoomModel" := ⟨hx, hb, hml, hown, hw⟩
  have hl := lv_entry ([.ref (bd 0), .int (nI k)]) (n := 2) (Nat.le_of_ble_eq_true rfl)
  rw [lg_entry_eq]
  generalize (lg_sl ([.ref (bd 0), .int (nI k)]) ++ List.replicate (2 - (lg_sl ([.ref (bd 0), .int (nI k)])).length) Slot.unset).toArray = ls at hl ⊢
  replace hl : lv_has ls 2 [(0, .ref (bd 0)), (1, .int (nI k))] := hl
  refine lv_iconst (v := 1) hx hb dX1_bit_0 (by decide) ?_
  refine lv_aload_n hx hb dX1_bit_1 rfl (lv_at hl 0 rfl) ?_
  refine fr_gM 0 hx hb hw hown hK hP (by decide) mG_variables rfl dX1_bit_2 ?_
  refine lv_iconst (v := 1) hx hb dX1_bit_5 (by decide) ?_
  refine lv_isub hx hb dX1_bit_6 ?_
  refine lv_iload_n hx hb dX1_bit_7 rfl (lv_at hl 1 rfl) ?_
  refine lv_isub hx hb dX1_bit_8 ?_
  refine fr_top (show (((nI V - 1) - nI k) : Int32) = nI (V - 1 - k) from by rw [show (1 : Int32) = nI 1 from rfl, pk_sub (by omega), pk_sub (by omega)]) ?_
  refine lv_ishl hx hb dX1_bit_9 ?_
  refine fr_top (show ((1 <<< (nI (V - 1 - k) &&& 31)) : Int32) = nI (2 ^ (V - 1 - k)) from fr_shl1 _ (by omega)) ?_
  exact W.iret (v := nI (2 ^ (V - 1 - k))) hx hb hret (fun t ht hW => ⟨_, rfl, rfl, ht⟩) (fun q hq => by cases hq) dX1_bit_10
end
section
set_option maxHeartbeats 4000000 in
set_option maxRecDepth 100000 in
theorem cM_many (l : Launch) (D : va_G) (V : Nat) (bd : Nat → Nat) (kb : Nat → ClassId) (row made : Nat → Int32) (F : fr_F) (hM : fr_MR V F row) (hV : V < 10) (hV1 : 1 ≤ V) (hinj : fr_injB bd) (r : Int32) : Met l yX1_many wsM_many rmM_many (va_Pc [.ref (bd 0), .int r] (fr_PM D V bd kb row made)) (vp_Si (fun res => res = fr_sMany V F r)) 0 0 (fun _ => False) := by
  refine Met.ofW (cc := cX1_many) (maxL := 4) (ret := some .int) (by decide) rfl ?_
  intro p e s m args below meth c s₁ B hml hv
  obtain ⟨rfl, hP, hK, -⟩ := hv
  have hx := B.exec
  have hb := B.bytes
  have hret := B.returns
  have hw := fun w (h : w ∈ WA) => atoms_spec (ws := wsM_many) B.pre w (List.mem_cons_of_mem _ h)
  have hown : s.vm.findClass "FunctionRoomModel" = some m.cls := findClass_of_methodNamed B.named
  have hlocks := B.notSynchronized
  have hS0 : CallFix p m c cX1_many 4 s _ WA "FunctionRoomModel" := ⟨hx, hb, hml, hown, hw⟩
  have hl := lv_entry ([.ref (bd 0), .int r]) (n := 4) (Nat.le_of_ble_eq_true rfl)
  rw [lg_entry_eq]
  generalize (lg_sl ([.ref (bd 0), .int r]) ++ List.replicate (4 - (lg_sl ([.ref (bd 0), .int r])).length) Slot.unset).toArray = ls at hl ⊢
  replace hl : lv_has ls 4 [(0, .ref (bd 0)), (1, .int r)] := hl
  have h512 := fr_pow512 hV
  refine lv_iload_n hx hb dX1_many_0 rfl (lv_at hl 1 rfl) ?_
  refine fr_cSi (As := [.int r]) hS0 (cM_is l r) (cw_M_is hw ⟨Nat.le_of_ble_eq_true rfl, Nat.le_of_ble_eq_true rfl⟩) (fr_pre0) rfl hl.1 rfl (Nat.le_of_ble_eq_true rfl) dX1_many_1 ⟨Nat.zero_le _, Nat.zero_le _⟩ (fun b0 hb0 => ?_)
  rcases hb0 with ⟨rfl, hOj⟩ | ⟨rfl, hno⟩
  ·
    refine lv_if_ne (tgt := 9) hx hb dX1_many_4 rfl (fun hz => ?_) (fun hz => absurd hz (by decide))
    obtain ⟨j, hLj, rfl⟩ := fr_ok_ex (by decide) hOj
    refine lv_iconst (v := 0) hx hb dX1_many_9 (by decide) ?_
    refine lv_istore_n hx hb dX1_many_10 rfl hl (by decide) rfl (fun ls hl => ?_)
    replace hl : lv_has ls 4 [(2, .int 0), (0, .ref (bd 0)), (1, .int (nI j))] := hl
    refine lv_iconst (v := 0) hx hb dX1_many_11 (by decide) ?_
    refine lv_istore_n hx hb dX1_many_12 rfl hl (by decide) rfl (fun ls hl => ?_)
    replace hl : lv_has ls 4 [(3, .int 0), (2, .int 0), (0, .ref (bd 0)), (1, .int (nI j))] := hl
    obtain ⟨n, i, hin, hi0⟩ : ∃ n i : Nat, i + n = 2 ^ V ∧ i = 0 := ⟨2 ^ V, 0, Nat.zero_add _, rfl⟩
    replace hl : lv_has ls 4 [(3, .int (nI i)), (2, .int (nI (fr_cn (F j) i))), (0, .ref (bd 0)), (1, .int (nI j))] := by rw [hi0]; exact hl
    clear hi0
    induction n generalizing i ls  with
    | zero =>
      refine lv_iload_n hx hb dX1_many_13 rfl (lv_at hl 0 rfl) ?_
      refine lv_aload_n hx hb dX1_many_14 rfl (lv_at hl 2 rfl) ?_
      refine fr_gM 1 hx hb hw hown hK hP (by decide) mG_all rfl dX1_many_15 ?_
      refine lv_icmp_ge (tgt := 50) hx hb dX1_many_18 rfl (fun hcm => ?_) (fun hcm => absurd (nI_le (show 2 ^ V ≤ i by omega) (by omega)) hcm)
      refine lv_iload_n hx hb dX1_many_50 rfl (lv_at hl 1 rfl) ?_
      exact W.iret (v := nI (fr_cn (F j) i)) hx hb hret (fun t ht hW => ⟨_, rfl, by unfold fr_sMany; rw [if_pos (fr_okB_nI hLj (by decide)), fr_v_nI (show j < 2 ^ 31 by omega), show i = 2 ^ V by omega], ht⟩) (fun q hq => by cases hq) dX1_many_51
    | succ n ih =>
      refine lv_iload_n hx hb dX1_many_13 rfl (lv_at hl 0 rfl) ?_
      refine lv_aload_n hx hb dX1_many_14 rfl (lv_at hl 2 rfl) ?_
      refine fr_gM 1 hx hb hw hown hK hP (by decide) mG_all rfl dX1_many_15 ?_
      refine lv_icmp_ge (tgt := 50) hx hb dX1_many_18 rfl (fun hcm => absurd hcm (nI_ge (show i < 2 ^ V by omega) (by omega))) (fun hcm => ?_)
      have hi : i < 2 ^ V := by omega
      refine lv_iload_n hx hb dX1_many_21 rfl (lv_at hl 1 rfl) ?_
      refine lv_aload_n hx hb dX1_many_22 rfl (lv_at hl 2 rfl) ?_
      refine fr_gM 2 hx hb hw hown hK hP (by decide) mG_row rfl dX1_many_23 ?_
      refine lv_sipush (v := 512) hx hb dX1_many_26 (by decide) ?_
      refine lv_iload_n hx hb dX1_many_29 rfl (lv_at hl 3 rfl) ?_
      refine lv_imul hx hb dX1_many_30 ?_
      refine lv_iload_n hx hb dX1_many_31 rfl (lv_at hl 0 rfl) ?_
      refine lv_iadd hx hb dX1_many_32 ?_
      refine fr_top (show (((512 * nI j) + nI i) : Int32) = nI (512 * j + i) from by rw [show (512 : Int32) * nI j = nI (512 * j) from pk_mul 512 j]; exact nI_add _ _) ?_
      refine fr_zald hx hb hK hP 1 0 rfl rfl (show 512 * j + i < 16384 by omega) (by decide) dX1_many_33 ?_
      refine fr_top (show (row (512 * j + i) : Int32) = fr_bi (F j i) from hM j i hLj hi) ?_
      refine lv_if_eq (tgt := 41) hx hb dX1_many_34 rfl (fun hz => ?_) (fun hz => ?_)
      ·
        have hq : F j i = false := fr_bi_ne0.mp hz
        refine lv_iconst (v := 0) hx hb dX1_many_41 (by decide) ?_
        refine lv_iadd hx hb dX1_many_42 ?_
        refine fr_top (show ((nI (fr_cn (F j) i) + 0) : Int32) = nI (fr_cn (F j) (i + 1)) from by show _ = nI (fr_cn (F j) i + (if F j i = true then 1 else 0)); rw [hq]; exact (nI_add _ 0)) ?_
        refine lv_istore_n hx hb dX1_many_43 rfl hl (by decide) rfl (fun ls hl => ?_)
        replace hl : lv_has ls 4 [(2, .int (nI (fr_cn (F j) (i + 1)))), (3, .int (nI i)), (0, .ref (bd 0)), (1, .int (nI j))] := hl
        refine lv_iinc (k := 1) (v := nI (i + 1)) hx hb dX1_many_44 hl rfl (fr_inc i) (by decide) rfl (fun ls hl => ?_)
        replace hl : lv_has ls 4 [(3, .int (nI (i + 1))), (2, .int (nI (fr_cn (F j) (i + 1)))), (0, .ref (bd 0)), (1, .int (nI j))] := hl
        refine lv_goto (tgt := 13) hx hb dX1_many_47 rfl ?_
        exact ih ls (i + 1) (by omega) (lv_sub hl [0, 1, 2, 3] rfl)
      ·
        have hq : F j i = true := fr_bit hz
        refine lv_iconst (v := 1) hx hb dX1_many_37 (by decide) ?_
        refine lv_goto (tgt := 42) hx hb dX1_many_38 rfl ?_
        refine lv_iadd hx hb dX1_many_42 ?_
        refine fr_top (show ((nI (fr_cn (F j) i) + 1) : Int32) = nI (fr_cn (F j) (i + 1)) from by show _ = nI (fr_cn (F j) i + (if F j i = true then 1 else 0)); rw [hq]; exact (nI_add _ 1)) ?_
        refine lv_istore_n hx hb dX1_many_43 rfl hl (by decide) rfl (fun ls hl => ?_)
        replace hl : lv_has ls 4 [(2, .int (nI (fr_cn (F j) (i + 1)))), (3, .int (nI i)), (0, .ref (bd 0)), (1, .int (nI j))] := hl
        refine lv_iinc (k := 1) (v := nI (i + 1)) hx hb dX1_many_44 hl rfl (fr_inc i) (by decide) rfl (fun ls hl => ?_)
        replace hl : lv_has ls 4 [(3, .int (nI (i + 1))), (2, .int (nI (fr_cn (F j) (i + 1)))), (0, .ref (bd 0)), (1, .int (nI j))] := hl
        refine lv_goto (tgt := 13) hx hb dX1_many_47 rfl ?_
        exact ih ls (i + 1) (by omega) (lv_sub hl [0, 1, 2, 3] rfl)
  ·
    refine lv_if_ne (tgt := 9) hx hb dX1_many_4 rfl (fun hz => absurd rfl hz) (fun hz => ?_)
    refine lv_iconst (v := (-1)) hx hb dX1_many_7 (by decide) ?_
    exact W.iret (v := (-1)) hx hb hret (fun t ht hW => ⟨_, rfl, (if_neg (by rw [fr_okB_no (hno)]; decide)).symm, ht⟩) (fun q hq => by cases hq) dX1_many_8
set_option maxHeartbeats 4000000 in
set_option maxRecDepth 100000 in
theorem cM_keep (l : Launch) (D : va_G) (V : Nat) (bd : Nat → Nat) (kb : Nat → ClassId) (row made : Nat → Int32) (F : fr_F) (hM : fr_MR V F row) (hV : V < 10) (hV1 : 1 ≤ V) (hinj : fr_injB bd) (j : Nat) (f : Nat → Bool) (hLj : j < 32) (hf : ∀ x, x < 2 ^ V → made x = fr_bi (f x)) : Met l yX1_keep wsM_keep rmM_keep (va_Pc [.ref (bd 0), .int (nI j)] (fr_PM D V bd kb row made)) (va_Qi (fun (res : Int32) (u : (Nat → Int32) × (Nat → Int32)) => res = nI (fr_cn f (2 ^ V)) ∧ fr_MR V (va_up F j f) u.1) (fun u t => va_P D vwCl (fr_mw V bd kb u.1 u.2) t.heap) (fr_B bd)) 0 0 (fr_B bd) := by
  refine Met.ofW (cc := cX1_keep) (maxL := 3) (ret := some .int) (by decide) rfl ?_
  intro p e s m args below meth c s₁ B hml hv
  obtain ⟨rfl, hP, hK, -⟩ := hv
  have hx := B.exec
  have hb := B.bytes
  have hret := B.returns
  have hw := fun w (h : w ∈ WA) => atoms_spec (ws := wsM_keep) B.pre w (List.mem_cons_of_mem _ h)
  have hown : s.vm.findClass "FunctionRoomModel" = some m.cls := findClass_of_methodNamed B.named
  have hlocks := B.notSynchronized
  have hS0 : CallFix p m c cX1_keep 3 s _ WA "FunctionRoomModel" := ⟨hx, hb, hml, hown, hw⟩
  have hl := lv_entry ([.ref (bd 0), .int (nI j)]) (n := 3) (Nat.le_of_ble_eq_true rfl)
  rw [lg_entry_eq]
  generalize (lg_sl ([.ref (bd 0), .int (nI j)]) ++ List.replicate (3 - (lg_sl ([.ref (bd 0), .int (nI j)])).length) Slot.unset).toArray = ls at hl ⊢
  replace hl : lv_has ls 3 [(0, .ref (bd 0)), (1, .int (nI j))] := hl
  have h512 := fr_pow512 hV
  refine fr_gen (A := fr_B bd) hP (fun H locs hP2 hS => ?_)
  clear hP
  have hP := hP2
  clear hP2
  refine lv_iconst (v := 0) hx hb dX1_keep_0 (by decide) ?_
  refine lv_istore_n hx hb dX1_keep_1 rfl hl (by decide) rfl (fun ls hl => ?_)
  replace hl : lv_has ls 3 [(2, .int 0), (0, .ref (bd 0)), (1, .int (nI j))] := hl
  obtain ⟨n, i, hin, hi0⟩ : ∃ n i : Nat, i + n = 2 ^ V ∧ i = 0 := ⟨2 ^ V, 0, Nat.zero_add _, rfl⟩
  replace hl : lv_has ls 3 [(2, .int (nI i)), (0, .ref (bd 0)), (1, .int (nI j))] := by rw [hi0]; exact hl
  have hg : ∀ x, x < i → row (512 * j + x) = fr_bi (f x) := fun x h => absurd h (by omega)
  have ho : ∀ q x, q < 32 → q ≠ j → x < 2 ^ V → row (512 * q + x) = fr_bi (F q x) := fun q x h1 _ h3 => hM q x h1 h3
  clear hi0
  clear hM
  induction n generalizing i ls H locs row with
  | zero =>
    refine lv_iload_n hx hb dX1_keep_2 rfl (lv_at hl 0 rfl) ?_
    refine lv_aload_n hx hb dX1_keep_3 rfl (lv_at hl 1 rfl) ?_
    refine fr_gM 1 hx hb hw hown hK hP (by decide) mG_all rfl dX1_keep_4 ?_
    refine lv_icmp_ge (tgt := 34) hx hb dX1_keep_7 rfl (fun hcm => ?_) (fun hcm => absurd (nI_le (show 2 ^ V ≤ i by omega) (by omega)) hcm)
    have hM2 : fr_MR V (va_up F j f) row := fr_MRs (fun x h => hg x (by omega)) ho
    refine lv_aload_n hx hb dX1_keep_34 rfl (lv_at hl 1 rfl) ?_
    refine lv_iload_n hx hb dX1_keep_35 rfl (lv_at hl 2 rfl) ?_
    refine fr_Mi (As := [.int (nI j)]) hS0 (cM_many l D V bd kb row made (va_up F j f) hM2 hV hV1 hinj (nI j)) (cw_M_many hw ⟨Nat.le_of_ble_eq_true rfl, Nat.le_of_ble_eq_true rfl⟩) hK hP rfl hl.1 rfl (Nat.le_of_ble_eq_true rfl) dX1_keep_36 ⟨Nat.zero_le _, Nat.zero_le _⟩ (fun b hb1 => ?_)
    subst hb1
    exact W.iret (v := fr_sMany V (va_up F j f) (nI j)) hx hb hret (fun t ht hW => ⟨⟨_, (row, made), rfl, ⟨by unfold fr_sMany; rw [if_pos (fr_okB_nI hLj (by decide)), fr_v_nI (show j < 2 ^ 31 by omega), va_up_self], hM2⟩, by show va_P D vwCl _ t.heap; rw [ht]; exact hP⟩, hS.F ht⟩) hS.2.2 dX1_keep_39
  | succ n ih =>
    refine lv_iload_n hx hb dX1_keep_2 rfl (lv_at hl 0 rfl) ?_
    refine lv_aload_n hx hb dX1_keep_3 rfl (lv_at hl 1 rfl) ?_
    refine fr_gM 1 hx hb hw hown hK hP (by decide) mG_all rfl dX1_keep_4 ?_
    refine lv_icmp_ge (tgt := 34) hx hb dX1_keep_7 rfl (fun hcm => absurd hcm (nI_ge (show i < 2 ^ V by omega) (by omega))) (fun hcm => ?_)
    have hi : i < 2 ^ V := by omega
    refine lv_aload_n hx hb dX1_keep_10 rfl (lv_at hl 1 rfl) ?_
    refine fr_gM 2 hx hb hw hown hK hP (by decide) mG_row rfl dX1_keep_11 ?_
    refine lv_sipush (v := 512) hx hb dX1_keep_14 (by decide) ?_
    refine lv_iload_n hx hb dX1_keep_17 rfl (lv_at hl 2 rfl) ?_
    refine lv_imul hx hb dX1_keep_18 ?_
    refine lv_iload_n hx hb dX1_keep_19 rfl (lv_at hl 0 rfl) ?_
    refine lv_iadd hx hb dX1_keep_20 ?_
    refine fr_top (show (((512 * nI j) + nI i) : Int32) = nI (512 * j + i) from by rw [show (512 : Int32) * nI j = nI (512 * j) from pk_mul 512 j]; exact nI_add _ _) ?_
    refine lv_aload_n hx hb dX1_keep_21 rfl (lv_at hl 1 rfl) ?_
    refine fr_gM 3 hx hb hw hown hK hP (by decide) mG_made rfl dX1_keep_22 ?_
    refine lv_iload_n hx hb dX1_keep_25 rfl (lv_at hl 0 rfl) ?_
    refine fr_zald hx hb hK hP 2 1 rfl rfl (show i < 512 by omega) (by decide) dX1_keep_26 ?_
    refine fr_top (show (made (i) : Int32) = fr_bi (f i) from hf i hi) ?_
    refine fr_zast (ws2 := fr_mw V bd kb (upd row (512 * j + i) (fr_bi (f i))) made) hx hb hK hP (fr_DB hinj) hS 1 0 rfl rfl (show 512 * j + i < 16384 by omega) (by decide) (fr_bi_nar _) dX1_keep_27 rfl (fun H locs hP hS => ?_)
    refine lv_iinc (k := 0) (v := nI (i + 1)) hx hb dX1_keep_28 hl rfl (fr_inc i) (by decide) rfl (fun ls hl => ?_)
    replace hl : lv_has ls 3 [(2, .int (nI (i + 1))), (0, .ref (bd 0)), (1, .int (nI j))] := hl
    refine lv_goto (tgt := 2) hx hb dX1_keep_31 rfl ?_
    exact ih _ H locs hS hP ls (i + 1) (by omega) (lv_sub hl [0, 1, 2] rfl) (fr_updK hg) (fun q x h1 h2 h3 => by rw [pk_un (by omega)]; exact ho q x h1 h2 h3)
end
section
set_option maxHeartbeats 4000000 in
set_option maxRecDepth 100000 in
theorem cM_not (l : Launch) (D : va_G) (V : Nat) (bd : Nat → Nat) (kb : Nat → ClassId) (row made : Nat → Int32) (F : fr_F) (hM : fr_MR V F row) (hV : V < 10) (hV1 : 1 ≤ V) (hinj : fr_injB bd) (r a : Int32)  : Met l yX1_not wsM_not rmM_not (va_Pc [.ref (bd 0), .int r, .int a] (fr_PM D V bd kb row made)) (va_Qi (fun (res : Int32) (u : (Nat → Int32) × (Nat → Int32)) => res = (fr_sNot V F r a).1 ∧ fr_MR V (fr_sNot V F r a).2 u.1) (fun u t => va_P D vwCl (fr_mw V bd kb u.1 u.2) t.heap) (fr_B bd)) 0 0 (fr_B bd) := by
  refine Met.ofW (cc := cX1_not) (maxL := 4) (ret := some .int) (by decide) rfl ?_
  intro p e s m args below meth c s₁ B hml hv
  obtain ⟨rfl, hP, hK, -⟩ := hv
  have hx := B.exec
  have hb := B.bytes
  have hret := B.returns
  have hw := fun w (h : w ∈ WA) => atoms_spec (ws := wsM_not) B.pre w (List.mem_cons_of_mem _ h)
  have hown : s.vm.findClass "FunctionRoomModel" = some m.cls := findClass_of_methodNamed B.named
  have hlocks := B.notSynchronized
  have hS0 : CallFix p m c cX1_not 4 s _ WA "FunctionRoomModel" := ⟨hx, hb, hml, hown, hw⟩
  have hl := lv_entry ([.ref (bd 0), .int r, .int a]) (n := 4) (Nat.le_of_ble_eq_true rfl)
  rw [lg_entry_eq]
  generalize (lg_sl ([.ref (bd 0), .int r, .int a]) ++ List.replicate (4 - (lg_sl ([.ref (bd 0), .int r, .int a])).length) Slot.unset).toArray = ls at hl ⊢
  replace hl : lv_has ls 4 [(0, .ref (bd 0)), (1, .int r), (2, .int a)] := hl
  have h512 := fr_pow512 hV
  refine fr_gen (A := fr_B bd) hP (fun H locs hP2 hS => ?_)
  clear hP
  have hP := hP2
  clear hP2
  refine lv_iload_n hx hb dX1_not_0 rfl (lv_at hl 1 rfl) ?_
  refine fr_cSi (As := [.int r]) hS0 (cM_is l r) (cw_M_is hw ⟨Nat.le_of_ble_eq_true rfl, Nat.le_of_ble_eq_true rfl⟩) (fr_pre0) rfl hl.1 rfl (Nat.le_of_ble_eq_true rfl) dX1_not_1 ⟨Nat.zero_le _, Nat.zero_le _⟩ (fun b0 hb0 => ?_)
  rcases hb0 with ⟨rfl, hOj⟩ | ⟨rfl, hno⟩
  ·
    refine lv_if_eq (tgt := 14) hx hb dX1_not_4 rfl (fun hz => absurd hz (by decide)) (fun hz => ?_)
    obtain ⟨j, hLj, rfl⟩ := fr_ok_ex (by decide) hOj
    refine lv_iload_n hx hb dX1_not_7 rfl (lv_at hl 2 rfl) ?_
    refine fr_cSi (As := [.int a]) hS0 (cM_is l a) (cw_M_is hw ⟨Nat.le_of_ble_eq_true rfl, Nat.le_of_ble_eq_true rfl⟩) (fr_pre0) rfl hl.1 rfl (Nat.le_of_ble_eq_true rfl) dX1_not_8 ⟨Nat.zero_le _, Nat.zero_le _⟩ (fun b0 hb0 => ?_)
    rcases hb0 with ⟨rfl, hOra⟩ | ⟨rfl, hno⟩
    ·
      refine lv_if_ne (tgt := 16) hx hb dX1_not_11 rfl (fun hz => ?_) (fun hz => absurd hz (by decide))
      obtain ⟨ra, hLra, rfl⟩ := fr_ok_ex (by decide) hOra
      refine lv_iconst (v := 0) hx hb dX1_not_16 (by decide) ?_
      refine lv_istore_n hx hb dX1_not_17 rfl hl (by decide) rfl (fun ls hl => ?_)
      replace hl : lv_has ls 4 [(3, .int 0), (0, .ref (bd 0)), (1, .int (nI j)), (2, .int (nI ra))] := hl
      obtain ⟨n, i, hin, hi0⟩ : ∃ n i : Nat, i + n = 2 ^ V ∧ i = 0 := ⟨2 ^ V, 0, Nat.zero_add _, rfl⟩
      replace hl : lv_has ls 4 [(3, .int (nI i)), (0, .ref (bd 0)), (1, .int (nI j)), (2, .int (nI ra))] := by rw [hi0]; exact hl
      have hg : ∀ x, x < i → made x = fr_bi (!F ra x) := fun x h => absurd h (by omega)
      clear hi0
      induction n generalizing i ls H locs made with
      | zero =>
        refine lv_iload_n hx hb dX1_not_18 rfl (lv_at hl 0 rfl) ?_
        refine lv_aload_n hx hb dX1_not_19 rfl (lv_at hl 1 rfl) ?_
        refine fr_gM 1 hx hb hw hown hK hP (by decide) mG_all rfl dX1_not_20 ?_
        refine lv_icmp_ge (tgt := 58) hx hb dX1_not_23 rfl (fun hcm => ?_) (fun hcm => absurd (nI_le (show 2 ^ V ≤ i by omega) (by omega)) hcm)
        refine lv_aload_n hx hb dX1_not_58 rfl (lv_at hl 1 rfl) ?_
        refine lv_iload_n hx hb dX1_not_59 rfl (lv_at hl 2 rfl) ?_
        refine fr_Mm (As := [.int (nI j)]) hS0 (cM_keep l D V bd kb row made F hM hV hV1 hinj j (fun x => !F ra x) hLj (fun x h => hg x (by omega))) (cw_M_keep hw ⟨Nat.le_of_ble_eq_true rfl, Nat.le_of_ble_eq_true rfl⟩) hK hP hS rfl hl.1 rfl (Nat.le_of_ble_eq_true rfl) dX1_not_60 ⟨Nat.zero_le _, Nat.zero_le _⟩ (fun b u H locs hu hP hS => ?_)
        obtain ⟨rfl, hu2⟩ := hu
        have hsp : fr_sNot V F (nI j) (nI ra) = fr_set V F (nI j) (fun x => !F ra x) := by unfold fr_sNot; rw [if_pos (by rw [fr_okB_nI hLj (by omega), fr_okB_nI hLra (by omega)]; rfl), fr_v_nI (show ra < 2 ^ 31 by omega)]
        exact W.iret (v := (nI (fr_cn (fun x => !F ra x) (2 ^ V)))) hx hb hret (fun t ht hW => ⟨⟨_, u, rfl, by rw [hsp]; refine ⟨rfl, ?_⟩; show fr_MR V (va_up F (fr_v (nI j)) _) _; rw [fr_v_nI (show j < 2 ^ 31 by omega)]; exact hu2, by show va_P D vwCl _ t.heap; rw [ht]; exact hP⟩, hS.F ht⟩) hS.2.2 dX1_not_63
      | succ n ih =>
        refine lv_iload_n hx hb dX1_not_18 rfl (lv_at hl 0 rfl) ?_
        refine lv_aload_n hx hb dX1_not_19 rfl (lv_at hl 1 rfl) ?_
        refine fr_gM 1 hx hb hw hown hK hP (by decide) mG_all rfl dX1_not_20 ?_
        refine lv_icmp_ge (tgt := 58) hx hb dX1_not_23 rfl (fun hcm => absurd hcm (nI_ge (show i < 2 ^ V by omega) (by omega))) (fun hcm => ?_)
        have hi : i < 2 ^ V := by omega
        refine lv_aload_n hx hb dX1_not_26 rfl (lv_at hl 1 rfl) ?_
        refine fr_gM 3 hx hb hw hown hK hP (by decide) mG_made rfl dX1_not_27 ?_
        refine lv_iload_n hx hb dX1_not_30 rfl (lv_at hl 0 rfl) ?_
        refine lv_aload_n hx hb dX1_not_31 rfl (lv_at hl 1 rfl) ?_
        refine fr_gM 2 hx hb hw hown hK hP (by decide) mG_row rfl dX1_not_32 ?_
        refine lv_sipush (v := 512) hx hb dX1_not_35 (by decide) ?_
        refine lv_iload_n hx hb dX1_not_38 rfl (lv_at hl 3 rfl) ?_
        refine lv_imul hx hb dX1_not_39 ?_
        refine lv_iload_n hx hb dX1_not_40 rfl (lv_at hl 0 rfl) ?_
        refine lv_iadd hx hb dX1_not_41 ?_
        refine fr_top (show (((512 * nI ra) + nI i) : Int32) = nI (512 * ra + i) from by rw [show (512 : Int32) * nI ra = nI (512 * ra) from pk_mul 512 ra]; exact nI_add _ _) ?_
        refine fr_zald hx hb hK hP 1 0 rfl rfl (show 512 * ra + i < 16384 by omega) (by decide) dX1_not_42 ?_
        refine fr_top (show (row (512 * ra + i) : Int32) = fr_bi (F ra i) from hM ra i hLra hi) ?_
        refine lv_if_ne (tgt := 50) hx hb dX1_not_43 rfl (fun hz => ?_) (fun hz => ?_)
        ·
          have hq : F ra i = true := fr_bit hz
          refine lv_iconst (v := 0) hx hb dX1_not_50 (by decide) ?_
          refine fr_zast (ws2 := fr_mw V bd kb row (upd made i (0))) hx hb hK hP (fr_DB hinj) hS 2 1 rfl rfl (show i < 512 by omega) (by decide) rfl dX1_not_51 rfl (fun H locs hP hS => ?_)
          refine lv_iinc (k := 0) (v := nI (i + 1)) hx hb dX1_not_52 hl rfl (fr_inc i) (by decide) rfl (fun ls hl => ?_)
          replace hl : lv_has ls 4 [(3, .int (nI (i + 1))), (0, .ref (bd 0)), (1, .int (nI j)), (2, .int (nI ra))] := hl
          refine lv_goto (tgt := 18) hx hb dX1_not_55 rfl ?_
          exact ih _ H locs hS hP ls (i + 1) (by omega) (lv_sub hl [0, 1, 2, 3] rfl) (fr_updZ hg (by rw [hq]; rfl))
        ·
          have hq : F ra i = false := fr_bi_ne0.mp hz
          refine lv_iconst (v := 1) hx hb dX1_not_46 (by decide) ?_
          refine lv_goto (tgt := 51) hx hb dX1_not_47 rfl ?_
          refine fr_zast (ws2 := fr_mw V bd kb row (upd made i (1))) hx hb hK hP (fr_DB hinj) hS 2 1 rfl rfl (show i < 512 by omega) (by decide) rfl dX1_not_51 rfl (fun H locs hP hS => ?_)
          refine lv_iinc (k := 0) (v := nI (i + 1)) hx hb dX1_not_52 hl rfl (fr_inc i) (by decide) rfl (fun ls hl => ?_)
          replace hl : lv_has ls 4 [(3, .int (nI (i + 1))), (0, .ref (bd 0)), (1, .int (nI j)), (2, .int (nI ra))] := hl
          refine lv_goto (tgt := 18) hx hb dX1_not_55 rfl ?_
          exact ih _ H locs hS hP ls (i + 1) (by omega) (lv_sub hl [0, 1, 2, 3] rfl) (fr_updZ hg (by rw [hq]; rfl))
    ·
      refine lv_if_ne (tgt := 16) hx hb dX1_not_11 rfl (fun hz => absurd rfl hz) (fun hz => ?_)
      refine lv_iconst (v := (-1)) hx hb dX1_not_14 (by decide) ?_
      exact W.iret (v := (-1)) hx hb hret (fun t ht hW => ⟨⟨_, (row, made), rfl, by rw [show fr_sNot V F (nI j) a = (-1, F) from if_neg (fr_and2 (Or.inr (fr_okB_no (hno))))]; exact ⟨rfl, hM⟩, by show va_P D vwCl _ t.heap; rw [ht]; exact hP⟩, hS.F ht⟩) hS.2.2 dX1_not_15
  ·
    refine lv_if_eq (tgt := 14) hx hb dX1_not_4 rfl (fun hz => ?_) (fun hz => absurd rfl hz)
    refine lv_iconst (v := (-1)) hx hb dX1_not_14 (by decide) ?_
    exact W.iret (v := (-1)) hx hb hret (fun t ht hW => ⟨⟨_, (row, made), rfl, by rw [show fr_sNot V F r a = (-1, F) from if_neg (fr_and2 (Or.inl (fr_okB_no (hno))))]; exact ⟨rfl, hM⟩, by show va_P D vwCl _ t.heap; rw [ht]; exact hP⟩, hS.F ht⟩) hS.2.2 dX1_not_15
set_option maxHeartbeats 4000000 in
set_option maxRecDepth 100000 in
theorem cM_load (l : Launch) (D : va_G) (V : Nat) (bd : Nat → Nat) (kb : Nat → ClassId) (row made : Nat → Int32) (F : fr_F) (hM : fr_MR V F row) (hV : V < 10) (hV1 : 1 ≤ V) (hinj : fr_injB bd) (r what : Int32)  : Met l yX1_load wsM_load rmM_load (va_Pc [.ref (bd 0), .int r, .int what] (fr_PM D V bd kb row made)) (va_Qi (fun (res : Int32) (u : (Nat → Int32) × (Nat → Int32)) => res = (fr_sLoad V F r what).1 ∧ fr_MR V (fr_sLoad V F r what).2 u.1) (fun u t => va_P D vwCl (fr_mw V bd kb u.1 u.2) t.heap) (fr_B bd)) 0 0 (fr_B bd) := by
  refine Met.ofW (cc := cX1_load) (maxL := 4) (ret := some .int) (by decide) rfl ?_
  intro p e s m args below meth c s₁ B hml hv
  obtain ⟨rfl, hP, hK, -⟩ := hv
  have hx := B.exec
  have hb := B.bytes
  have hret := B.returns
  have hw := fun w (h : w ∈ WA) => atoms_spec (ws := wsM_load) B.pre w (List.mem_cons_of_mem _ h)
  have hown : s.vm.findClass "FunctionRoomModel" = some m.cls := findClass_of_methodNamed B.named
  have hlocks := B.notSynchronized
  have hS0 : CallFix p m c cX1_load 4 s _ WA "FunctionRoomModel" := ⟨hx, hb, hml, hown, hw⟩
  have hl := lv_entry ([.ref (bd 0), .int r, .int what]) (n := 4) (Nat.le_of_ble_eq_true rfl)
  rw [lg_entry_eq]
  generalize (lg_sl ([.ref (bd 0), .int r, .int what]) ++ List.replicate (4 - (lg_sl ([.ref (bd 0), .int r, .int what])).length) Slot.unset).toArray = ls at hl ⊢
  replace hl : lv_has ls 4 [(0, .ref (bd 0)), (1, .int r), (2, .int what)] := hl
  have h512 := fr_pow512 hV
  refine fr_gen (A := fr_B bd) hP (fun H locs hP2 hS => ?_)
  clear hP
  have hP := hP2
  clear hP2
  refine lv_iload_n hx hb dX1_load_0 rfl (lv_at hl 1 rfl) ?_
  refine fr_cSi (As := [.int r]) hS0 (cM_is l r) (cw_M_is hw ⟨Nat.le_of_ble_eq_true rfl, Nat.le_of_ble_eq_true rfl⟩) (fr_pre0) rfl hl.1 rfl (Nat.le_of_ble_eq_true rfl) dX1_load_1 ⟨Nat.zero_le _, Nat.zero_le _⟩ (fun b0 hb0 => ?_)
  rcases hb0 with ⟨rfl, hOj⟩ | ⟨rfl, hno⟩
  ·
    refine lv_if_eq (tgt := 21) hx hb dX1_load_4 rfl (fun hz => absurd hz (by decide)) (fun hz => ?_)
    obtain ⟨j, hLj, rfl⟩ := fr_ok_ex (by decide) hOj
    refine lv_iload_n hx hb dX1_load_7 rfl (lv_at hl 2 rfl) ?_
    refine lv_bipush (v := (-2)) hx hb dX1_load_8 (by decide) ?_
    refine lv_icmp_lt (tgt := 21) hx hb dX1_load_10 rfl (fun h1 => ?_) (fun h1 => ?_)
    ·
      refine lv_iconst (v := (-1)) hx hb dX1_load_21 (by decide) ?_
      exact W.iret (v := (-1)) hx hb hret (fun t ht hW => ⟨⟨_, (row, made), rfl, by rw [show fr_sLoad V F (nI j) what = (-1, F) from if_neg (fr_ld1 h1)]; exact ⟨rfl, hM⟩, by show va_P D vwCl _ t.heap; rw [ht]; exact hP⟩, hS.F ht⟩) hS.2.2 dX1_load_22
    ·
      refine lv_iload_n hx hb dX1_load_13 rfl (lv_at hl 2 rfl) ?_
      refine lv_aload_n hx hb dX1_load_14 rfl (lv_at hl 0 rfl) ?_
      refine fr_gM 0 hx hb hw hown hK hP (by decide) mG_variables rfl dX1_load_15 ?_
      refine lv_icmp_lt (tgt := 23) hx hb dX1_load_18 rfl (fun h2 => ?_) (fun h2 => ?_)
      ·
        obtain ⟨fn, hfn, hcs⟩ := fr_ld3 (V := V) h1 h2 hV
        refine lv_iconst (v := 0) hx hb dX1_load_23 (by decide) ?_
        refine lv_istore_n hx hb dX1_load_24 rfl hl (by decide) rfl (fun ls hl => ?_)
        replace hl : lv_has ls 4 [(3, .int 0), (0, .ref (bd 0)), (1, .int (nI j)), (2, .int what)] := hl
        obtain ⟨n, i, hin, hi0⟩ : ∃ n i : Nat, i + n = 2 ^ V ∧ i = 0 := ⟨2 ^ V, 0, Nat.zero_add _, rfl⟩
        replace hl : lv_has ls 4 [(3, .int (nI i)), (0, .ref (bd 0)), (1, .int (nI j)), (2, .int what)] := by rw [hi0]; exact hl
        have hg : ∀ x, x < i → made x = fr_bi (fn x) := fun x h => absurd h (by omega)
        clear hi0
        induction n generalizing i ls H locs made with
        | zero =>
          refine lv_iload_n hx hb dX1_load_25 rfl (lv_at hl 0 rfl) ?_
          refine lv_aload_n hx hb dX1_load_26 rfl (lv_at hl 1 rfl) ?_
          refine fr_gM 1 hx hb hw hown hK hP (by decide) mG_all rfl dX1_load_27 ?_
          refine lv_icmp_ge (tgt := 69) hx hb dX1_load_30 rfl (fun hcm => ?_) (fun hcm => absurd (nI_le (show 2 ^ V ≤ i by omega) (by omega)) hcm)
          refine lv_aload_n hx hb dX1_load_69 rfl (lv_at hl 1 rfl) ?_
          refine lv_iload_n hx hb dX1_load_70 rfl (lv_at hl 2 rfl) ?_
          refine fr_Mm (As := [.int (nI j)]) hS0 (cM_keep l D V bd kb row made F hM hV hV1 hinj j (fun x => fn x) hLj (fun x h => hg x (by omega))) (cw_M_keep hw ⟨Nat.le_of_ble_eq_true rfl, Nat.le_of_ble_eq_true rfl⟩) hK hP hS rfl hl.1 rfl (Nat.le_of_ble_eq_true rfl) dX1_load_71 ⟨Nat.zero_le _, Nat.zero_le _⟩ (fun b u H locs hu hP hS => ?_)
          obtain ⟨rfl, hu2⟩ := hu
          have hsp : fr_sLoad V F (nI j) what = fr_set V F (nI j) fn := by unfold fr_sLoad; rw [fr_okB_nI hLj (by decide), Bool.true_and, if_pos hfn.1]; exact congrArg _ hfn.2
          exact W.iret (v := (nI (fr_cn (fun x => fn x) (2 ^ V)))) hx hb hret (fun t ht hW => ⟨⟨_, u, rfl, by rw [hsp]; refine ⟨rfl, ?_⟩; show fr_MR V (va_up F (fr_v (nI j)) _) _; rw [fr_v_nI (show j < 2 ^ 31 by omega)]; exact hu2, by show va_P D vwCl _ t.heap; rw [ht]; exact hP⟩, hS.F ht⟩) hS.2.2 dX1_load_74
        | succ n ih =>
          refine lv_iload_n hx hb dX1_load_25 rfl (lv_at hl 0 rfl) ?_
          refine lv_aload_n hx hb dX1_load_26 rfl (lv_at hl 1 rfl) ?_
          refine fr_gM 1 hx hb hw hown hK hP (by decide) mG_all rfl dX1_load_27 ?_
          refine lv_icmp_ge (tgt := 69) hx hb dX1_load_30 rfl (fun hcm => absurd hcm (nI_ge (show i < 2 ^ V by omega) (by omega))) (fun hcm => ?_)
          have hi : i < 2 ^ V := by omega
          refine lv_aload_n hx hb dX1_load_33 rfl (lv_at hl 1 rfl) ?_
          refine fr_gM 3 hx hb hw hown hK hP (by decide) mG_made rfl dX1_load_34 ?_
          refine lv_iload_n hx hb dX1_load_37 rfl (lv_at hl 0 rfl) ?_
          refine lv_iload_n hx hb dX1_load_38 rfl (lv_at hl 3 rfl) ?_
          refine lv_iconst (v := (-1)) hx hb dX1_load_39 (by decide) ?_
          refine lv_icmp_eq (tgt := 57) hx hb dX1_load_40 rfl (fun hm => ?_) (fun hm => ?_)
          ·
            refine lv_iconst (v := 1) hx hb dX1_load_57 (by decide) ?_
            refine lv_goto (tgt := 62) hx hb dX1_load_58 rfl ?_
            refine fr_zast (ws2 := fr_mw V bd kb row (upd made i (1))) hx hb hK hP (fr_DB hinj) hS 2 1 rfl rfl (show i < 512 by omega) (by decide) rfl dX1_load_62 rfl (fun H locs hP hS => ?_)
            refine lv_iinc (k := 0) (v := nI (i + 1)) hx hb dX1_load_63 hl rfl (fr_inc i) (by decide) rfl (fun ls hl => ?_)
            replace hl : lv_has ls 4 [(3, .int (nI (i + 1))), (0, .ref (bd 0)), (1, .int (nI j)), (2, .int what)] := hl
            refine lv_goto (tgt := 25) hx hb dX1_load_66 rfl ?_
            exact ih _ H locs hS hP ls (i + 1) (by omega) (lv_sub hl [0, 1, 2, 3] rfl) (fr_updZ hg (by rw [hcs.1 hm]; rfl))
          ·
            refine lv_iload_n hx hb dX1_load_43 rfl (lv_at hl 3 rfl) ?_
            refine lv_if_lt (tgt := 61) hx hb dX1_load_44 rfl (fun hn => ?_) (fun hn => ?_)
            ·
              refine lv_iconst (v := 0) hx hb dX1_load_61 (by decide) ?_
              refine fr_zast (ws2 := fr_mw V bd kb row (upd made i (0))) hx hb hK hP (fr_DB hinj) hS 2 1 rfl rfl (show i < 512 by omega) (by decide) rfl dX1_load_62 rfl (fun H locs hP hS => ?_)
              refine lv_iinc (k := 0) (v := nI (i + 1)) hx hb dX1_load_63 hl rfl (fr_inc i) (by decide) rfl (fun ls hl => ?_)
              replace hl : lv_has ls 4 [(3, .int (nI (i + 1))), (0, .ref (bd 0)), (1, .int (nI j)), (2, .int what)] := hl
              refine lv_goto (tgt := 25) hx hb dX1_load_66 rfl ?_
              exact ih _ H locs hS hP ls (i + 1) (by omega) (lv_sub hl [0, 1, 2, 3] rfl) (fr_updZ hg (by rw [hcs.2.1 hm hn]; rfl))
            ·
              obtain ⟨k, hLk, hwk, hfk⟩ := hcs.2.2 hn
              refine lv_iload_n hx hb dX1_load_47 rfl (lv_at hl 0 rfl) ?_
              refine lv_aload_n hx hb dX1_load_48 rfl (lv_at hl 1 rfl) ?_
              refine lv_iload_n hx hb dX1_load_49 rfl (lv_at hl 3 rfl) ?_
              refine fr_top hwk ?_
              refine fr_Mi (As := [.int (nI k)]) hS0 (cM_bit l D V bd kb row made k hLk hV) (cw_M_bit hw ⟨Nat.le_of_ble_eq_true rfl, Nat.le_of_ble_eq_true rfl⟩) hK hP rfl hl.1 rfl (Nat.le_of_ble_eq_true rfl) dX1_load_50 ⟨Nat.zero_le _, Nat.zero_le _⟩ (fun b9 hb9 => ?_)
              subst hb9
              refine lv_iand hx hb dX1_load_53 ?_
              refine fr_top (show ((nI i &&& nI (2 ^ (V - 1 - k))) : Int32) = nI (i &&& 2 ^ (V - 1 - k)) from fr_nand _ _) ?_
              refine lv_if_eq (tgt := 61) hx hb dX1_load_54 rfl (fun hb3 => ?_) (fun hb3 => ?_)
              ·
                refine lv_iconst (v := 0) hx hb dX1_load_61 (by decide) ?_
                refine fr_zast (ws2 := fr_mw V bd kb row (upd made i (0))) hx hb hK hP (fr_DB hinj) hS 2 1 rfl rfl (show i < 512 by omega) (by decide) rfl dX1_load_62 rfl (fun H locs hP hS => ?_)
                refine lv_iinc (k := 0) (v := nI (i + 1)) hx hb dX1_load_63 hl rfl (fr_inc i) (by decide) rfl (fun ls hl => ?_)
                replace hl : lv_has ls 4 [(3, .int (nI (i + 1))), (0, .ref (bd 0)), (1, .int (nI j)), (2, .int what)] := hl
                refine lv_goto (tgt := 25) hx hb dX1_load_66 rfl ?_
                exact ih _ H locs hS hP ls (i + 1) (by omega) (lv_sub hl [0, 1, 2, 3] rfl) (fr_updZ hg (by rw [hfk]; show _ = fr_bi (i.testBit (V - 1 - k)); rw [(fr_tbz (show i < 512 by omega)).mp hb3]; rfl))
              ·
                refine lv_iconst (v := 1) hx hb dX1_load_57 (by decide) ?_
                refine lv_goto (tgt := 62) hx hb dX1_load_58 rfl ?_
                refine fr_zast (ws2 := fr_mw V bd kb row (upd made i (1))) hx hb hK hP (fr_DB hinj) hS 2 1 rfl rfl (show i < 512 by omega) (by decide) rfl dX1_load_62 rfl (fun H locs hP hS => ?_)
                refine lv_iinc (k := 0) (v := nI (i + 1)) hx hb dX1_load_63 hl rfl (fr_inc i) (by decide) rfl (fun ls hl => ?_)
                replace hl : lv_has ls 4 [(3, .int (nI (i + 1))), (0, .ref (bd 0)), (1, .int (nI j)), (2, .int what)] := hl
                refine lv_goto (tgt := 25) hx hb dX1_load_66 rfl ?_
                exact ih _ H locs hS hP ls (i + 1) (by omega) (lv_sub hl [0, 1, 2, 3] rfl) (fr_updZ hg (by rw [hfk]; show _ = fr_bi (i.testBit (V - 1 - k)); rw [fr_tbn (show i < 512 by omega) hb3]; rfl))
      ·
        refine lv_iconst (v := (-1)) hx hb dX1_load_21 (by decide) ?_
        exact W.iret (v := (-1)) hx hb hret (fun t ht hW => ⟨⟨_, (row, made), rfl, by rw [show fr_sLoad V F (nI j) what = (-1, F) from if_neg (fr_ld2 h1 h2)]; exact ⟨rfl, hM⟩, by show va_P D vwCl _ t.heap; rw [ht]; exact hP⟩, hS.F ht⟩) hS.2.2 dX1_load_22
  ·
    refine lv_if_eq (tgt := 21) hx hb dX1_load_4 rfl (fun hz => ?_) (fun hz => absurd rfl hz)
    refine lv_iconst (v := (-1)) hx hb dX1_load_21 (by decide) ?_
    exact W.iret (v := (-1)) hx hb hret (fun t ht hW => ⟨⟨_, (row, made), rfl, by rw [show fr_sLoad V F r what = (-1, F) from if_neg (fr_and2 (Or.inl (fr_okB_no (hno))))]; exact ⟨rfl, hM⟩, by show va_P D vwCl _ t.heap; rw [ht]; exact hP⟩, hS.F ht⟩) hS.2.2 dX1_load_22
end
section
set_option maxHeartbeats 4000000 in
set_option maxRecDepth 100000 in
theorem cM_reckon (l : Launch) (D : va_G) (V : Nat) (bd : Nat → Nat) (kb : Nat → ClassId) (row made : Nat → Int32) (F : fr_F) (hM : fr_MR V F row) (hV : V < 10) (hV1 : 1 ≤ V) (hinj : fr_injB bd) (op r a b : Int32)    : Met l yX1_reckon wsM_reckon rmM_reckon (va_Pc [.ref (bd 0), .int op, .int r, .int a, .int b] (fr_PM D V bd kb row made)) (va_Qi (fun (res : Int32) (u : (Nat → Int32) × (Nat → Int32)) => res = (fr_sReckon V F op r a b).1 ∧ fr_MR V (fr_sReckon V F op r a b).2 u.1) (fun u t => va_P D vwCl (fr_mw V bd kb u.1 u.2) t.heap) (fr_B bd)) 0 0 (fr_B bd) := by
  refine Met.ofW (cc := cX1_reckon) (maxL := 8) (ret := some .int) (by decide) rfl ?_
  intro p e s m args below meth c s₁ B hml hv
  obtain ⟨rfl, hP, hK, -⟩ := hv
  have hx := B.exec
  have hb := B.bytes
  have hret := B.returns
  have hw := fun w (h : w ∈ WA) => atoms_spec (ws := wsM_reckon) B.pre w (List.mem_cons_of_mem _ h)
  have hown : s.vm.findClass "FunctionRoomModel" = some m.cls := findClass_of_methodNamed B.named
  have hlocks := B.notSynchronized
  have hS0 : CallFix p m c cX1_reckon 8 s _ WA "FunctionRoomModel" := ⟨hx, hb, hml, hown, hw⟩
  have hl := lv_entry ([.ref (bd 0), .int op, .int r, .int a, .int b]) (n := 8) (Nat.le_of_ble_eq_true rfl)
  rw [lg_entry_eq]
  generalize (lg_sl ([.ref (bd 0), .int op, .int r, .int a, .int b]) ++ List.replicate (8 - (lg_sl ([.ref (bd 0), .int op, .int r, .int a, .int b])).length) Slot.unset).toArray = ls at hl ⊢
  replace hl : lv_has ls 8 [(0, .ref (bd 0)), (1, .int op), (2, .int r), (3, .int a), (4, .int b)] := hl
  have h512 := fr_pow512 hV
  refine fr_gen (A := fr_B bd) hP (fun H locs hP2 hS => ?_)
  clear hP
  have hP := hP2
  clear hP2
  refine lv_iload_n hx hb dX1_reckon_0 rfl (lv_at hl 1 rfl) ?_
  refine lv_if_lt (tgt := 31) hx hb dX1_reckon_1 rfl (fun h1 => ?_) (fun h1 => ?_)
  ·
    refine lv_iconst (v := (-1)) hx hb dX1_reckon_31 (by decide) ?_
    exact W.iret (v := (-1)) hx hb hret (fun t ht hW => ⟨⟨_, (row, made), rfl, by rw [show fr_sReckon V F op r a b = (-1, F) from if_neg (fr_and4 (Or.inl (fr_okB_no (fun z => z.1 h1))))]; exact ⟨rfl, hM⟩, by show va_P D vwCl _ t.heap; rw [ht]; exact hP⟩, hS.F ht⟩) hS.2.2 dX1_reckon_32
  ·
    refine lv_iload_n hx hb dX1_reckon_4 rfl (lv_at hl 1 rfl) ?_
    refine lv_iconst (v := 4) hx hb dX1_reckon_5 (by decide) ?_
    refine lv_icmp_gt (tgt := 31) hx hb dX1_reckon_6 rfl (fun h2 => ?_) (fun h2 => ?_)
    ·
      refine lv_iconst (v := (-1)) hx hb dX1_reckon_31 (by decide) ?_
      exact W.iret (v := (-1)) hx hb hret (fun t ht hW => ⟨⟨_, (row, made), rfl, by rw [show fr_sReckon V F op r a b = (-1, F) from if_neg (fr_and4 (Or.inl (fr_okB_no (fun z => fr_gt4 z h2))))]; exact ⟨rfl, hM⟩, by show va_P D vwCl _ t.heap; rw [ht]; exact hP⟩, hS.F ht⟩) hS.2.2 dX1_reckon_32
    ·
      obtain ⟨o, hLo, rfl⟩ := fr_ok_ex (by decide) (fr_ok5 h1 h2)
      refine lv_iload_n hx hb dX1_reckon_9 rfl (lv_at hl 2 rfl) ?_
      refine fr_cSi (As := [.int r]) hS0 (cM_is l r) (cw_M_is hw ⟨Nat.le_of_ble_eq_true rfl, Nat.le_of_ble_eq_true rfl⟩) (fr_pre0) rfl hl.1 rfl (Nat.le_of_ble_eq_true rfl) dX1_reckon_10 ⟨Nat.zero_le _, Nat.zero_le _⟩ (fun b0 hb0 => ?_)
      rcases hb0 with ⟨rfl, hOj⟩ | ⟨rfl, hno⟩
      ·
        refine lv_if_eq (tgt := 31) hx hb dX1_reckon_13 rfl (fun hz => absurd hz (by decide)) (fun hz => ?_)
        obtain ⟨j, hLj, rfl⟩ := fr_ok_ex (by decide) hOj
        refine lv_iload_n hx hb dX1_reckon_16 rfl (lv_at hl 3 rfl) ?_
        refine fr_cSi (As := [.int a]) hS0 (cM_is l a) (cw_M_is hw ⟨Nat.le_of_ble_eq_true rfl, Nat.le_of_ble_eq_true rfl⟩) (fr_pre0) rfl hl.1 rfl (Nat.le_of_ble_eq_true rfl) dX1_reckon_17 ⟨Nat.zero_le _, Nat.zero_le _⟩ (fun b0 hb0 => ?_)
        rcases hb0 with ⟨rfl, hOra⟩ | ⟨rfl, hno⟩
        ·
          refine lv_if_eq (tgt := 31) hx hb dX1_reckon_20 rfl (fun hz => absurd hz (by decide)) (fun hz => ?_)
          obtain ⟨ra, hLra, rfl⟩ := fr_ok_ex (by decide) hOra
          refine lv_iload hx hb dX1_reckon_23 (lv_at hl 4 rfl) ?_
          refine fr_cSi (As := [.int b]) hS0 (cM_is l b) (cw_M_is hw ⟨Nat.le_of_ble_eq_true rfl, Nat.le_of_ble_eq_true rfl⟩) (fr_pre0) rfl hl.1 rfl (Nat.le_of_ble_eq_true rfl) dX1_reckon_25 ⟨Nat.zero_le _, Nat.zero_le _⟩ (fun b0 hb0 => ?_)
          rcases hb0 with ⟨rfl, hOrb⟩ | ⟨rfl, hno⟩
          ·
            refine lv_if_ne (tgt := 33) hx hb dX1_reckon_28 rfl (fun hz => ?_) (fun hz => absurd hz (by decide))
            obtain ⟨rb, hLrb, rfl⟩ := fr_ok_ex (by decide) hOrb
            refine lv_iconst (v := 0) hx hb dX1_reckon_33 (by decide) ?_
            refine lv_istore hx hb dX1_reckon_34 hl (by decide) rfl (fun ls hl => ?_)
            replace hl : lv_has ls 8 [(5, .int 0), (0, .ref (bd 0)), (1, .int (nI o)), (2, .int (nI j)), (3, .int (nI ra)), (4, .int (nI rb))] := hl
            obtain ⟨n, i, hin, hi0⟩ : ∃ n i : Nat, i + n = 2 ^ V ∧ i = 0 := ⟨2 ^ V, 0, Nat.zero_add _, rfl⟩
            replace hl : lv_has ls 8 [(5, .int (nI i)), (0, .ref (bd 0)), (1, .int (nI o)), (2, .int (nI j)), (3, .int (nI ra)), (4, .int (nI rb))] := by rw [hi0]; exact hl
            have hg : ∀ x, x < i → made x = fr_bi (fr_co o (F ra x) (F rb x)) := fun x h => absurd h (by omega)
            clear hi0
            induction n generalizing i ls H locs made with
            | zero =>
              refine lv_iload hx hb dX1_reckon_36 (lv_at hl 0 rfl) ?_
              refine lv_aload_n hx hb dX1_reckon_38 rfl (lv_at hl 1 rfl) ?_
              refine fr_gM 1 hx hb hw hown hK hP (by decide) mG_all rfl dX1_reckon_39 ?_
              refine lv_icmp_ge (tgt := 192) hx hb dX1_reckon_42 rfl (fun hcm => ?_) (fun hcm => absurd (nI_le (show 2 ^ V ≤ i by omega) (by omega)) hcm)
              refine lv_aload_n hx hb dX1_reckon_192 rfl (lv_at hl 1 rfl) ?_
              refine lv_iload_n hx hb dX1_reckon_193 rfl (lv_at hl 3 rfl) ?_
              refine fr_Mm (As := [.int (nI j)]) hS0 (cM_keep l D V bd kb row made F hM hV hV1 hinj j (fun x => fr_co o (F ra x) (F rb x)) hLj (fun x h => hg x (by omega))) (cw_M_keep hw ⟨Nat.le_of_ble_eq_true rfl, Nat.le_of_ble_eq_true rfl⟩) hK hP hS rfl hl.1 rfl (Nat.le_of_ble_eq_true rfl) dX1_reckon_194 ⟨Nat.zero_le _, Nat.zero_le _⟩ (fun b u H locs hu hP hS => ?_)
              obtain ⟨rfl, hu2⟩ := hu
              have hsp : fr_sReckon V F (nI o) (nI j) (nI ra) (nI rb) = fr_set V F (nI j) (fun x => fr_co o (F ra x) (F rb x)) := by unfold fr_sReckon; rw [if_pos (by rw [fr_okB_nI hLo (by omega), fr_okB_nI hLj (by omega), fr_okB_nI hLra (by omega), fr_okB_nI hLrb (by omega)]; rfl), fr_v_nI (show o < 2 ^ 31 by omega), fr_v_nI (show ra < 2 ^ 31 by omega), fr_v_nI (show rb < 2 ^ 31 by omega)]
              exact W.iret (v := (nI (fr_cn (fun x => fr_co o (F ra x) (F rb x)) (2 ^ V)))) hx hb hret (fun t ht hW => ⟨⟨_, u, rfl, by rw [hsp]; refine ⟨rfl, ?_⟩; show fr_MR V (va_up F (fr_v (nI j)) _) _; rw [fr_v_nI (show j < 2 ^ 31 by omega)]; exact hu2, by show va_P D vwCl _ t.heap; rw [ht]; exact hP⟩, hS.F ht⟩) hS.2.2 dX1_reckon_197
            | succ n ih =>
              refine lv_iload hx hb dX1_reckon_36 (lv_at hl 0 rfl) ?_
              refine lv_aload_n hx hb dX1_reckon_38 rfl (lv_at hl 1 rfl) ?_
              refine fr_gM 1 hx hb hw hown hK hP (by decide) mG_all rfl dX1_reckon_39 ?_
              refine lv_icmp_ge (tgt := 192) hx hb dX1_reckon_42 rfl (fun hcm => absurd hcm (nI_ge (show i < 2 ^ V by omega) (by omega))) (fun hcm => ?_)
              have hi : i < 2 ^ V := by omega
              refine lv_aload_n hx hb dX1_reckon_45 rfl (lv_at hl 1 rfl) ?_
              refine fr_gM 2 hx hb hw hown hK hP (by decide) mG_row rfl dX1_reckon_46 ?_
              refine lv_sipush (v := 512) hx hb dX1_reckon_49 (by decide) ?_
              refine lv_iload_n hx hb dX1_reckon_52 rfl (lv_at hl 4 rfl) ?_
              refine lv_imul hx hb dX1_reckon_53 ?_
              refine lv_iload hx hb dX1_reckon_54 (lv_at hl 0 rfl) ?_
              refine lv_iadd hx hb dX1_reckon_56 ?_
              refine fr_top (show (((512 * nI ra) + nI i) : Int32) = nI (512 * ra + i) from by rw [show (512 : Int32) * nI ra = nI (512 * ra) from pk_mul 512 ra]; exact nI_add _ _) ?_
              refine fr_zald hx hb hK hP 1 0 rfl rfl (show 512 * ra + i < 16384 by omega) (by decide) dX1_reckon_57 ?_
              refine fr_top (show (row (512 * ra + i) : Int32) = fr_bi (F ra i) from hM ra i hLra hi) ?_
              refine lv_istore hx hb dX1_reckon_58 hl (by decide) rfl (fun ls hl => ?_)
              replace hl : lv_has ls 8 [(6, .int (fr_bi (F ra i))), (5, .int (nI i)), (0, .ref (bd 0)), (1, .int (nI o)), (2, .int (nI j)), (3, .int (nI ra)), (4, .int (nI rb))] := hl
              refine lv_aload_n hx hb dX1_reckon_60 rfl (lv_at hl 2 rfl) ?_
              refine fr_gM 2 hx hb hw hown hK hP (by decide) mG_row rfl dX1_reckon_61 ?_
              refine lv_sipush (v := 512) hx hb dX1_reckon_64 (by decide) ?_
              refine lv_iload hx hb dX1_reckon_67 (lv_at hl 6 rfl) ?_
              refine lv_imul hx hb dX1_reckon_69 ?_
              refine lv_iload hx hb dX1_reckon_70 (lv_at hl 1 rfl) ?_
              refine lv_iadd hx hb dX1_reckon_72 ?_
              refine fr_top (show (((512 * nI rb) + nI i) : Int32) = nI (512 * rb + i) from by rw [show (512 : Int32) * nI rb = nI (512 * rb) from pk_mul 512 rb]; exact nI_add _ _) ?_
              refine fr_zald hx hb hK hP 1 0 rfl rfl (show 512 * rb + i < 16384 by omega) (by decide) dX1_reckon_73 ?_
              refine fr_top (show (row (512 * rb + i) : Int32) = fr_bi (F rb i) from hM rb i hLrb hi) ?_
              refine lv_istore hx hb dX1_reckon_74 hl (by decide) rfl (fun ls hl => ?_)
              replace hl : lv_has ls 8 [(7, .int (fr_bi (F rb i))), (6, .int (fr_bi (F ra i))), (5, .int (nI i)), (0, .ref (bd 0)), (1, .int (nI o)), (2, .int (nI j)), (3, .int (nI ra)), (4, .int (nI rb))] := hl
              refine lv_aload_n hx hb dX1_reckon_76 rfl (lv_at hl 3 rfl) ?_
              refine fr_gM 3 hx hb hw hown hK hP (by decide) mG_made rfl dX1_reckon_77 ?_
              refine lv_iload hx hb dX1_reckon_80 (lv_at hl 2 rfl) ?_
              rcases (show o = 0 ∨ o = 1 ∨ o = 2 ∨ o = 3 ∨ o = 4 by omega) with rfl | rfl | rfl | rfl | rfl
              ·
                refine lv_iload_n hx hb dX1_reckon_82 rfl (lv_at hl 4 rfl) ?_
                refine lv_if_ne (tgt := 104) hx hb dX1_reckon_83 rfl (fun hz => absurd rfl hz) (fun hz => ?_)
                refine lv_iload hx hb dX1_reckon_86 (lv_at hl 1 rfl) ?_
                refine lv_if_eq (tgt := 100) hx hb dX1_reckon_88 rfl (fun hz => ?_) (fun hz => ?_)
                ·
                  have hp88 : (F ra i) = false := fr_bi_ne0.mp hz
                  refine lv_iconst (v := 0) hx hb dX1_reckon_100 (by decide) ?_
                  refine lv_goto (tgt := 185) hx hb dX1_reckon_101 rfl ?_
                  refine fr_zast (ws2 := fr_mw V bd kb row (upd made i (0))) hx hb hK hP (fr_DB hinj) hS 2 1 rfl rfl (show i < 512 by omega) (by decide) rfl dX1_reckon_185 rfl (fun H locs hP hS => ?_)
                  refine lv_iinc (k := 2) (v := nI (i + 1)) hx hb dX1_reckon_186 hl rfl (fr_inc i) (by decide) rfl (fun ls hl => ?_)
                  replace hl : lv_has ls 8 [(5, .int (nI (i + 1))), (7, .int (fr_bi (F rb i))), (6, .int (fr_bi (F ra i))), (0, .ref (bd 0)), (1, .int (nI 0)), (2, .int (nI j)), (3, .int (nI ra)), (4, .int (nI rb))] := hl
                  refine lv_goto (tgt := 36) hx hb dX1_reckon_189 rfl ?_
                  exact ih _ H locs hS hP ls (i + 1) (by omega) (lv_sub hl [0, 3, 4, 5, 6, 7] rfl) (fr_updZ hg (by simp [fr_co, fr_bi, hp88]))
                ·
                  have hp88 : (F ra i) = true := fr_bit hz
                  refine lv_iload hx hb dX1_reckon_91 (lv_at hl 0 rfl) ?_
                  refine lv_if_eq (tgt := 100) hx hb dX1_reckon_93 rfl (fun hz => ?_) (fun hz => ?_)
                  ·
                    have hp93 : (F rb i) = false := fr_bi_ne0.mp hz
                    refine lv_iconst (v := 0) hx hb dX1_reckon_100 (by decide) ?_
                    refine lv_goto (tgt := 185) hx hb dX1_reckon_101 rfl ?_
                    refine fr_zast (ws2 := fr_mw V bd kb row (upd made i (0))) hx hb hK hP (fr_DB hinj) hS 2 1 rfl rfl (show i < 512 by omega) (by decide) rfl dX1_reckon_185 rfl (fun H locs hP hS => ?_)
                    refine lv_iinc (k := 2) (v := nI (i + 1)) hx hb dX1_reckon_186 hl rfl (fr_inc i) (by decide) rfl (fun ls hl => ?_)
                    replace hl : lv_has ls 8 [(5, .int (nI (i + 1))), (7, .int (fr_bi (F rb i))), (6, .int (fr_bi (F ra i))), (0, .ref (bd 0)), (1, .int (nI 0)), (2, .int (nI j)), (3, .int (nI ra)), (4, .int (nI rb))] := hl
                    refine lv_goto (tgt := 36) hx hb dX1_reckon_189 rfl ?_
                    exact ih _ H locs hS hP ls (i + 1) (by omega) (lv_sub hl [0, 3, 4, 5, 6, 7] rfl) (fr_updZ hg (by simp [fr_co, fr_bi, hp88, hp93]))
                  ·
                    have hp93 : (F rb i) = true := fr_bit hz
                    refine lv_iconst (v := 1) hx hb dX1_reckon_96 (by decide) ?_
                    refine lv_goto (tgt := 185) hx hb dX1_reckon_97 rfl ?_
                    refine fr_zast (ws2 := fr_mw V bd kb row (upd made i (1))) hx hb hK hP (fr_DB hinj) hS 2 1 rfl rfl (show i < 512 by omega) (by decide) rfl dX1_reckon_185 rfl (fun H locs hP hS => ?_)
                    refine lv_iinc (k := 2) (v := nI (i + 1)) hx hb dX1_reckon_186 hl rfl (fr_inc i) (by decide) rfl (fun ls hl => ?_)
                    replace hl : lv_has ls 8 [(5, .int (nI (i + 1))), (7, .int (fr_bi (F rb i))), (6, .int (fr_bi (F ra i))), (0, .ref (bd 0)), (1, .int (nI 0)), (2, .int (nI j)), (3, .int (nI ra)), (4, .int (nI rb))] := hl
                    refine lv_goto (tgt := 36) hx hb dX1_reckon_189 rfl ?_
                    exact ih _ H locs hS hP ls (i + 1) (by omega) (lv_sub hl [0, 3, 4, 5, 6, 7] rfl) (fr_updZ hg (by simp [fr_co, fr_bi, hp88, hp93]))
              ·
                refine lv_iload_n hx hb dX1_reckon_82 rfl (lv_at hl 4 rfl) ?_
                refine lv_if_ne (tgt := 104) hx hb dX1_reckon_83 rfl (fun hz => ?_) (fun hz => absurd hz (by decide))
                refine lv_iload_n hx hb dX1_reckon_104 rfl (lv_at hl 4 rfl) ?_
                refine lv_iconst (v := 1) hx hb dX1_reckon_105 (by decide) ?_
                refine lv_icmp_ne (tgt := 127) hx hb dX1_reckon_106 rfl (fun hz => absurd rfl hz) (fun hz => ?_)
                refine lv_iload hx hb dX1_reckon_109 (lv_at hl 1 rfl) ?_
                refine lv_if_ne (tgt := 119) hx hb dX1_reckon_111 rfl (fun hz => ?_) (fun hz => ?_)
                ·
                  have hp111 : (F ra i) = true := fr_bit hz
                  refine lv_iconst (v := 1) hx hb dX1_reckon_119 (by decide) ?_
                  refine lv_goto (tgt := 185) hx hb dX1_reckon_120 rfl ?_
                  refine fr_zast (ws2 := fr_mw V bd kb row (upd made i (1))) hx hb hK hP (fr_DB hinj) hS 2 1 rfl rfl (show i < 512 by omega) (by decide) rfl dX1_reckon_185 rfl (fun H locs hP hS => ?_)
                  refine lv_iinc (k := 2) (v := nI (i + 1)) hx hb dX1_reckon_186 hl rfl (fr_inc i) (by decide) rfl (fun ls hl => ?_)
                  replace hl : lv_has ls 8 [(5, .int (nI (i + 1))), (7, .int (fr_bi (F rb i))), (6, .int (fr_bi (F ra i))), (0, .ref (bd 0)), (1, .int (nI 1)), (2, .int (nI j)), (3, .int (nI ra)), (4, .int (nI rb))] := hl
                  refine lv_goto (tgt := 36) hx hb dX1_reckon_189 rfl ?_
                  exact ih _ H locs hS hP ls (i + 1) (by omega) (lv_sub hl [0, 3, 4, 5, 6, 7] rfl) (fr_updZ hg (by simp [fr_co, fr_bi, hp111]))
                ·
                  have hp111 : (F ra i) = false := fr_bi_ne0.mp hz
                  refine lv_iload hx hb dX1_reckon_114 (lv_at hl 0 rfl) ?_
                  refine lv_if_eq (tgt := 123) hx hb dX1_reckon_116 rfl (fun hz => ?_) (fun hz => ?_)
                  ·
                    have hp116 : (F rb i) = false := fr_bi_ne0.mp hz
                    refine lv_iconst (v := 0) hx hb dX1_reckon_123 (by decide) ?_
                    refine lv_goto (tgt := 185) hx hb dX1_reckon_124 rfl ?_
                    refine fr_zast (ws2 := fr_mw V bd kb row (upd made i (0))) hx hb hK hP (fr_DB hinj) hS 2 1 rfl rfl (show i < 512 by omega) (by decide) rfl dX1_reckon_185 rfl (fun H locs hP hS => ?_)
                    refine lv_iinc (k := 2) (v := nI (i + 1)) hx hb dX1_reckon_186 hl rfl (fr_inc i) (by decide) rfl (fun ls hl => ?_)
                    replace hl : lv_has ls 8 [(5, .int (nI (i + 1))), (7, .int (fr_bi (F rb i))), (6, .int (fr_bi (F ra i))), (0, .ref (bd 0)), (1, .int (nI 1)), (2, .int (nI j)), (3, .int (nI ra)), (4, .int (nI rb))] := hl
                    refine lv_goto (tgt := 36) hx hb dX1_reckon_189 rfl ?_
                    exact ih _ H locs hS hP ls (i + 1) (by omega) (lv_sub hl [0, 3, 4, 5, 6, 7] rfl) (fr_updZ hg (by simp [fr_co, fr_bi, hp111, hp116]))
                  ·
                    have hp116 : (F rb i) = true := fr_bit hz
                    refine lv_iconst (v := 1) hx hb dX1_reckon_119 (by decide) ?_
                    refine lv_goto (tgt := 185) hx hb dX1_reckon_120 rfl ?_
                    refine fr_zast (ws2 := fr_mw V bd kb row (upd made i (1))) hx hb hK hP (fr_DB hinj) hS 2 1 rfl rfl (show i < 512 by omega) (by decide) rfl dX1_reckon_185 rfl (fun H locs hP hS => ?_)
                    refine lv_iinc (k := 2) (v := nI (i + 1)) hx hb dX1_reckon_186 hl rfl (fr_inc i) (by decide) rfl (fun ls hl => ?_)
                    replace hl : lv_has ls 8 [(5, .int (nI (i + 1))), (7, .int (fr_bi (F rb i))), (6, .int (fr_bi (F ra i))), (0, .ref (bd 0)), (1, .int (nI 1)), (2, .int (nI j)), (3, .int (nI ra)), (4, .int (nI rb))] := hl
                    refine lv_goto (tgt := 36) hx hb dX1_reckon_189 rfl ?_
                    exact ih _ H locs hS hP ls (i + 1) (by omega) (lv_sub hl [0, 3, 4, 5, 6, 7] rfl) (fr_updZ hg (by simp [fr_co, fr_bi, hp111, hp116]))
              ·
                refine lv_iload_n hx hb dX1_reckon_82 rfl (lv_at hl 4 rfl) ?_
                refine lv_if_ne (tgt := 104) hx hb dX1_reckon_83 rfl (fun hz => ?_) (fun hz => absurd hz (by decide))
                refine lv_iload_n hx hb dX1_reckon_104 rfl (lv_at hl 4 rfl) ?_
                refine lv_iconst (v := 1) hx hb dX1_reckon_105 (by decide) ?_
                refine lv_icmp_ne (tgt := 127) hx hb dX1_reckon_106 rfl (fun hz => ?_) (fun hz => absurd hz (by decide))
                refine lv_iload_n hx hb dX1_reckon_127 rfl (lv_at hl 4 rfl) ?_
                refine lv_iconst (v := 2) hx hb dX1_reckon_128 (by decide) ?_
                refine lv_icmp_ne (tgt := 147) hx hb dX1_reckon_129 rfl (fun hz => absurd rfl hz) (fun hz => ?_)
                refine lv_iload hx hb dX1_reckon_132 (lv_at hl 1 rfl) ?_
                refine lv_iload hx hb dX1_reckon_134 (lv_at hl 0 rfl) ?_
                refine lv_icmp_eq (tgt := 143) hx hb dX1_reckon_136 rfl (fun hz => ?_) (fun hz => ?_)
                ·
                  have hpq : (F ra i) = (F rb i) := fr_bi_inj.mp hz
                  refine lv_iconst (v := 0) hx hb dX1_reckon_143 (by decide) ?_
                  refine lv_goto (tgt := 185) hx hb dX1_reckon_144 rfl ?_
                  refine fr_zast (ws2 := fr_mw V bd kb row (upd made i (0))) hx hb hK hP (fr_DB hinj) hS 2 1 rfl rfl (show i < 512 by omega) (by decide) rfl dX1_reckon_185 rfl (fun H locs hP hS => ?_)
                  refine lv_iinc (k := 2) (v := nI (i + 1)) hx hb dX1_reckon_186 hl rfl (fr_inc i) (by decide) rfl (fun ls hl => ?_)
                  replace hl : lv_has ls 8 [(5, .int (nI (i + 1))), (7, .int (fr_bi (F rb i))), (6, .int (fr_bi (F ra i))), (0, .ref (bd 0)), (1, .int (nI 2)), (2, .int (nI j)), (3, .int (nI ra)), (4, .int (nI rb))] := hl
                  refine lv_goto (tgt := 36) hx hb dX1_reckon_189 rfl ?_
                  exact ih _ H locs hS hP ls (i + 1) (by omega) (lv_sub hl [0, 3, 4, 5, 6, 7] rfl) (fr_updZ hg (by simp [fr_co, fr_bi, hpq]))
                ·
                  have hpq : (F ra i ^^ F rb i) = true := fr_bxor hz
                  refine lv_iconst (v := 1) hx hb dX1_reckon_139 (by decide) ?_
                  refine lv_goto (tgt := 185) hx hb dX1_reckon_140 rfl ?_
                  refine fr_zast (ws2 := fr_mw V bd kb row (upd made i (1))) hx hb hK hP (fr_DB hinj) hS 2 1 rfl rfl (show i < 512 by omega) (by decide) rfl dX1_reckon_185 rfl (fun H locs hP hS => ?_)
                  refine lv_iinc (k := 2) (v := nI (i + 1)) hx hb dX1_reckon_186 hl rfl (fr_inc i) (by decide) rfl (fun ls hl => ?_)
                  replace hl : lv_has ls 8 [(5, .int (nI (i + 1))), (7, .int (fr_bi (F rb i))), (6, .int (fr_bi (F ra i))), (0, .ref (bd 0)), (1, .int (nI 2)), (2, .int (nI j)), (3, .int (nI ra)), (4, .int (nI rb))] := hl
                  refine lv_goto (tgt := 36) hx hb dX1_reckon_189 rfl ?_
                  exact ih _ H locs hS hP ls (i + 1) (by omega) (lv_sub hl [0, 3, 4, 5, 6, 7] rfl) (fr_updZ hg (by simp [fr_co, fr_bi, hpq]))
              ·
                refine lv_iload_n hx hb dX1_reckon_82 rfl (lv_at hl 4 rfl) ?_
                refine lv_if_ne (tgt := 104) hx hb dX1_reckon_83 rfl (fun hz => ?_) (fun hz => absurd hz (by decide))
                refine lv_iload_n hx hb dX1_reckon_104 rfl (lv_at hl 4 rfl) ?_
                refine lv_iconst (v := 1) hx hb dX1_reckon_105 (by decide) ?_
                refine lv_icmp_ne (tgt := 127) hx hb dX1_reckon_106 rfl (fun hz => ?_) (fun hz => absurd hz (by decide))
                refine lv_iload_n hx hb dX1_reckon_127 rfl (lv_at hl 4 rfl) ?_
                refine lv_iconst (v := 2) hx hb dX1_reckon_128 (by decide) ?_
                refine lv_icmp_ne (tgt := 147) hx hb dX1_reckon_129 rfl (fun hz => ?_) (fun hz => absurd hz (by decide))
                refine lv_iload_n hx hb dX1_reckon_147 rfl (lv_at hl 4 rfl) ?_
                refine lv_iconst (v := 3) hx hb dX1_reckon_148 (by decide) ?_
                refine lv_icmp_ne (tgt := 170) hx hb dX1_reckon_149 rfl (fun hz => absurd rfl hz) (fun hz => ?_)
                refine lv_iload hx hb dX1_reckon_152 (lv_at hl 1 rfl) ?_
                refine lv_if_eq (tgt := 166) hx hb dX1_reckon_154 rfl (fun hz => ?_) (fun hz => ?_)
                ·
                  have hp154 : (F ra i) = false := fr_bi_ne0.mp hz
                  refine lv_iconst (v := 0) hx hb dX1_reckon_166 (by decide) ?_
                  refine lv_goto (tgt := 185) hx hb dX1_reckon_167 rfl ?_
                  refine fr_zast (ws2 := fr_mw V bd kb row (upd made i (0))) hx hb hK hP (fr_DB hinj) hS 2 1 rfl rfl (show i < 512 by omega) (by decide) rfl dX1_reckon_185 rfl (fun H locs hP hS => ?_)
                  refine lv_iinc (k := 2) (v := nI (i + 1)) hx hb dX1_reckon_186 hl rfl (fr_inc i) (by decide) rfl (fun ls hl => ?_)
                  replace hl : lv_has ls 8 [(5, .int (nI (i + 1))), (7, .int (fr_bi (F rb i))), (6, .int (fr_bi (F ra i))), (0, .ref (bd 0)), (1, .int (nI 3)), (2, .int (nI j)), (3, .int (nI ra)), (4, .int (nI rb))] := hl
                  refine lv_goto (tgt := 36) hx hb dX1_reckon_189 rfl ?_
                  exact ih _ H locs hS hP ls (i + 1) (by omega) (lv_sub hl [0, 3, 4, 5, 6, 7] rfl) (fr_updZ hg (by simp [fr_co, fr_bi, hp154]))
                ·
                  have hp154 : (F ra i) = true := fr_bit hz
                  refine lv_iload hx hb dX1_reckon_157 (lv_at hl 0 rfl) ?_
                  refine lv_if_ne (tgt := 166) hx hb dX1_reckon_159 rfl (fun hz => ?_) (fun hz => ?_)
                  ·
                    have hp159 : (F rb i) = true := fr_bit hz
                    refine lv_iconst (v := 0) hx hb dX1_reckon_166 (by decide) ?_
                    refine lv_goto (tgt := 185) hx hb dX1_reckon_167 rfl ?_
                    refine fr_zast (ws2 := fr_mw V bd kb row (upd made i (0))) hx hb hK hP (fr_DB hinj) hS 2 1 rfl rfl (show i < 512 by omega) (by decide) rfl dX1_reckon_185 rfl (fun H locs hP hS => ?_)
                    refine lv_iinc (k := 2) (v := nI (i + 1)) hx hb dX1_reckon_186 hl rfl (fr_inc i) (by decide) rfl (fun ls hl => ?_)
                    replace hl : lv_has ls 8 [(5, .int (nI (i + 1))), (7, .int (fr_bi (F rb i))), (6, .int (fr_bi (F ra i))), (0, .ref (bd 0)), (1, .int (nI 3)), (2, .int (nI j)), (3, .int (nI ra)), (4, .int (nI rb))] := hl
                    refine lv_goto (tgt := 36) hx hb dX1_reckon_189 rfl ?_
                    exact ih _ H locs hS hP ls (i + 1) (by omega) (lv_sub hl [0, 3, 4, 5, 6, 7] rfl) (fr_updZ hg (by simp [fr_co, fr_bi, hp154, hp159]))
                  ·
                    have hp159 : (F rb i) = false := fr_bi_ne0.mp hz
                    refine lv_iconst (v := 1) hx hb dX1_reckon_162 (by decide) ?_
                    refine lv_goto (tgt := 185) hx hb dX1_reckon_163 rfl ?_
                    refine fr_zast (ws2 := fr_mw V bd kb row (upd made i (1))) hx hb hK hP (fr_DB hinj) hS 2 1 rfl rfl (show i < 512 by omega) (by decide) rfl dX1_reckon_185 rfl (fun H locs hP hS => ?_)
                    refine lv_iinc (k := 2) (v := nI (i + 1)) hx hb dX1_reckon_186 hl rfl (fr_inc i) (by decide) rfl (fun ls hl => ?_)
                    replace hl : lv_has ls 8 [(5, .int (nI (i + 1))), (7, .int (fr_bi (F rb i))), (6, .int (fr_bi (F ra i))), (0, .ref (bd 0)), (1, .int (nI 3)), (2, .int (nI j)), (3, .int (nI ra)), (4, .int (nI rb))] := hl
                    refine lv_goto (tgt := 36) hx hb dX1_reckon_189 rfl ?_
                    exact ih _ H locs hS hP ls (i + 1) (by omega) (lv_sub hl [0, 3, 4, 5, 6, 7] rfl) (fr_updZ hg (by simp [fr_co, fr_bi, hp154, hp159]))
              ·
                refine lv_iload_n hx hb dX1_reckon_82 rfl (lv_at hl 4 rfl) ?_
                refine lv_if_ne (tgt := 104) hx hb dX1_reckon_83 rfl (fun hz => ?_) (fun hz => absurd hz (by decide))
                refine lv_iload_n hx hb dX1_reckon_104 rfl (lv_at hl 4 rfl) ?_
                refine lv_iconst (v := 1) hx hb dX1_reckon_105 (by decide) ?_
                refine lv_icmp_ne (tgt := 127) hx hb dX1_reckon_106 rfl (fun hz => ?_) (fun hz => absurd hz (by decide))
                refine lv_iload_n hx hb dX1_reckon_127 rfl (lv_at hl 4 rfl) ?_
                refine lv_iconst (v := 2) hx hb dX1_reckon_128 (by decide) ?_
                refine lv_icmp_ne (tgt := 147) hx hb dX1_reckon_129 rfl (fun hz => ?_) (fun hz => absurd hz (by decide))
                refine lv_iload_n hx hb dX1_reckon_147 rfl (lv_at hl 4 rfl) ?_
                refine lv_iconst (v := 3) hx hb dX1_reckon_148 (by decide) ?_
                refine lv_icmp_ne (tgt := 170) hx hb dX1_reckon_149 rfl (fun hz => ?_) (fun hz => absurd hz (by decide))
                refine lv_iload hx hb dX1_reckon_170 (lv_at hl 1 rfl) ?_
                refine lv_if_eq (tgt := 180) hx hb dX1_reckon_172 rfl (fun hz => ?_) (fun hz => ?_)
                ·
                  have hp172 : (F ra i) = false := fr_bi_ne0.mp hz
                  refine lv_iconst (v := 1) hx hb dX1_reckon_180 (by decide) ?_
                  refine lv_goto (tgt := 185) hx hb dX1_reckon_181 rfl ?_
                  refine fr_zast (ws2 := fr_mw V bd kb row (upd made i (1))) hx hb hK hP (fr_DB hinj) hS 2 1 rfl rfl (show i < 512 by omega) (by decide) rfl dX1_reckon_185 rfl (fun H locs hP hS => ?_)
                  refine lv_iinc (k := 2) (v := nI (i + 1)) hx hb dX1_reckon_186 hl rfl (fr_inc i) (by decide) rfl (fun ls hl => ?_)
                  replace hl : lv_has ls 8 [(5, .int (nI (i + 1))), (7, .int (fr_bi (F rb i))), (6, .int (fr_bi (F ra i))), (0, .ref (bd 0)), (1, .int (nI 4)), (2, .int (nI j)), (3, .int (nI ra)), (4, .int (nI rb))] := hl
                  refine lv_goto (tgt := 36) hx hb dX1_reckon_189 rfl ?_
                  exact ih _ H locs hS hP ls (i + 1) (by omega) (lv_sub hl [0, 3, 4, 5, 6, 7] rfl) (fr_updZ hg (by simp [fr_co, fr_bi, hp172]))
                ·
                  have hp172 : (F ra i) = true := fr_bit hz
                  refine lv_iload hx hb dX1_reckon_175 (lv_at hl 0 rfl) ?_
                  refine lv_if_eq (tgt := 184) hx hb dX1_reckon_177 rfl (fun hz => ?_) (fun hz => ?_)
                  ·
                    have hp177 : (F rb i) = false := fr_bi_ne0.mp hz
                    refine lv_iconst (v := 0) hx hb dX1_reckon_184 (by decide) ?_
                    refine fr_zast (ws2 := fr_mw V bd kb row (upd made i (0))) hx hb hK hP (fr_DB hinj) hS 2 1 rfl rfl (show i < 512 by omega) (by decide) rfl dX1_reckon_185 rfl (fun H locs hP hS => ?_)
                    refine lv_iinc (k := 2) (v := nI (i + 1)) hx hb dX1_reckon_186 hl rfl (fr_inc i) (by decide) rfl (fun ls hl => ?_)
                    replace hl : lv_has ls 8 [(5, .int (nI (i + 1))), (7, .int (fr_bi (F rb i))), (6, .int (fr_bi (F ra i))), (0, .ref (bd 0)), (1, .int (nI 4)), (2, .int (nI j)), (3, .int (nI ra)), (4, .int (nI rb))] := hl
                    refine lv_goto (tgt := 36) hx hb dX1_reckon_189 rfl ?_
                    exact ih _ H locs hS hP ls (i + 1) (by omega) (lv_sub hl [0, 3, 4, 5, 6, 7] rfl) (fr_updZ hg (by simp [fr_co, fr_bi, hp172, hp177]))
                  ·
                    have hp177 : (F rb i) = true := fr_bit hz
                    refine lv_iconst (v := 1) hx hb dX1_reckon_180 (by decide) ?_
                    refine lv_goto (tgt := 185) hx hb dX1_reckon_181 rfl ?_
                    refine fr_zast (ws2 := fr_mw V bd kb row (upd made i (1))) hx hb hK hP (fr_DB hinj) hS 2 1 rfl rfl (show i < 512 by omega) (by decide) rfl dX1_reckon_185 rfl (fun H locs hP hS => ?_)
                    refine lv_iinc (k := 2) (v := nI (i + 1)) hx hb dX1_reckon_186 hl rfl (fr_inc i) (by decide) rfl (fun ls hl => ?_)
                    replace hl : lv_has ls 8 [(5, .int (nI (i + 1))), (7, .int (fr_bi (F rb i))), (6, .int (fr_bi (F ra i))), (0, .ref (bd 0)), (1, .int (nI 4)), (2, .int (nI j)), (3, .int (nI ra)), (4, .int (nI rb))] := hl
                    refine lv_goto (tgt := 36) hx hb dX1_reckon_189 rfl ?_
                    exact ih _ H locs hS hP ls (i + 1) (by omega) (lv_sub hl [0, 3, 4, 5, 6, 7] rfl) (fr_updZ hg (by simp [fr_co, fr_bi, hp172, hp177]))
          ·
            refine lv_if_ne (tgt := 33) hx hb dX1_reckon_28 rfl (fun hz => absurd rfl hz) (fun hz => ?_)
            refine lv_iconst (v := (-1)) hx hb dX1_reckon_31 (by decide) ?_
            exact W.iret (v := (-1)) hx hb hret (fun t ht hW => ⟨⟨_, (row, made), rfl, by rw [show fr_sReckon V F (nI o) (nI j) (nI ra) b = (-1, F) from if_neg (fr_and4 (Or.inr (Or.inr (Or.inr (fr_okB_no (hno))))))]; exact ⟨rfl, hM⟩, by show va_P D vwCl _ t.heap; rw [ht]; exact hP⟩, hS.F ht⟩) hS.2.2 dX1_reckon_32
        ·
          refine lv_if_eq (tgt := 31) hx hb dX1_reckon_20 rfl (fun hz => ?_) (fun hz => absurd rfl hz)
          refine lv_iconst (v := (-1)) hx hb dX1_reckon_31 (by decide) ?_
          exact W.iret (v := (-1)) hx hb hret (fun t ht hW => ⟨⟨_, (row, made), rfl, by rw [show fr_sReckon V F (nI o) (nI j) a b = (-1, F) from if_neg (fr_and4 (Or.inr (Or.inr (Or.inl (fr_okB_no (hno))))))]; exact ⟨rfl, hM⟩, by show va_P D vwCl _ t.heap; rw [ht]; exact hP⟩, hS.F ht⟩) hS.2.2 dX1_reckon_32
      ·
        refine lv_if_eq (tgt := 31) hx hb dX1_reckon_13 rfl (fun hz => ?_) (fun hz => absurd rfl hz)
        refine lv_iconst (v := (-1)) hx hb dX1_reckon_31 (by decide) ?_
        exact W.iret (v := (-1)) hx hb hret (fun t ht hW => ⟨⟨_, (row, made), rfl, by rw [show fr_sReckon V F (nI o) r a b = (-1, F) from if_neg (fr_and4 (Or.inr (Or.inl (fr_okB_no (hno)))))]; exact ⟨rfl, hM⟩, by show va_P D vwCl _ t.heap; rw [ht]; exact hP⟩, hS.F ht⟩) hS.2.2 dX1_reckon_32
set_option maxHeartbeats 4000000 in
set_option maxRecDepth 100000 in
theorem cM_with (l : Launch) (D : va_G) (V : Nat) (bd : Nat → Nat) (kb : Nat → ClassId) (row made : Nat → Int32) (F : fr_F) (hM : fr_MR V F row) (hV : V < 10) (hV1 : 1 ≤ V) (hinj : fr_injB bd) (r a v : Int32) (one : Bool)    : Met l yX1_with wsM_with rmM_with (va_Pc [.ref (bd 0), .int r, .int a, .int v, .int (fr_bi one)] (fr_PM D V bd kb row made)) (va_Qi (fun (res : Int32) (u : (Nat → Int32) × (Nat → Int32)) => res = (fr_sWith V F r a v one).1 ∧ fr_MR V (fr_sWith V F r a v one).2 u.1) (fun u t => va_P D vwCl (fr_mw V bd kb u.1 u.2) t.heap) (fr_B bd)) 0 0 (fr_B bd) := by
  refine Met.ofW (cc := cX1_with) (maxL := 6) (ret := some .int) (by decide) rfl ?_
  intro p e s m args below meth c s₁ B hml hv
  obtain ⟨rfl, hP, hK, -⟩ := hv
  have hx := B.exec
  have hb := B.bytes
  have hret := B.returns
  have hw := fun w (h : w ∈ WA) => atoms_spec (ws := wsM_with) B.pre w (List.mem_cons_of_mem _ h)
  have hown : s.vm.findClass "FunctionRoomModel" = some m.cls := findClass_of_methodNamed B.named
  have hlocks := B.notSynchronized
  have hS0 : CallFix p m c cX1_with 6 s _ WA "FunctionRoomModel" := ⟨hx, hb, hml, hown, hw⟩
  have hl := lv_entry ([.ref (bd 0), .int r, .int a, .int v, .int (fr_bi one)]) (n := 6) (Nat.le_of_ble_eq_true rfl)
  rw [lg_entry_eq]
  generalize (lg_sl ([.ref (bd 0), .int r, .int a, .int v, .int (fr_bi one)]) ++ List.replicate (6 - (lg_sl ([.ref (bd 0), .int r, .int a, .int v, .int (fr_bi one)])).length) Slot.unset).toArray = ls at hl ⊢
  replace hl : lv_has ls 6 [(0, .ref (bd 0)), (1, .int r), (2, .int a), (3, .int v), (4, .int (fr_bi one))] := hl
  have h512 := fr_pow512 hV
  refine fr_gen (A := fr_B bd) hP (fun H locs hP2 hS => ?_)
  clear hP
  have hP := hP2
  clear hP2
  refine lv_iload_n hx hb dX1_with_0 rfl (lv_at hl 1 rfl) ?_
  refine fr_cSi (As := [.int r]) hS0 (cM_is l r) (cw_M_is hw ⟨Nat.le_of_ble_eq_true rfl, Nat.le_of_ble_eq_true rfl⟩) (fr_pre0) rfl hl.1 rfl (Nat.le_of_ble_eq_true rfl) dX1_with_1 ⟨Nat.zero_le _, Nat.zero_le _⟩ (fun b0 hb0 => ?_)
  rcases hb0 with ⟨rfl, hOj⟩ | ⟨rfl, hno⟩
  ·
    refine lv_if_eq (tgt := 22) hx hb dX1_with_4 rfl (fun hz => absurd hz (by decide)) (fun hz => ?_)
    obtain ⟨j, hLj, rfl⟩ := fr_ok_ex (by decide) hOj
    refine lv_iload_n hx hb dX1_with_7 rfl (lv_at hl 2 rfl) ?_
    refine fr_cSi (As := [.int a]) hS0 (cM_is l a) (cw_M_is hw ⟨Nat.le_of_ble_eq_true rfl, Nat.le_of_ble_eq_true rfl⟩) (fr_pre0) rfl hl.1 rfl (Nat.le_of_ble_eq_true rfl) dX1_with_8 ⟨Nat.zero_le _, Nat.zero_le _⟩ (fun b0 hb0 => ?_)
    rcases hb0 with ⟨rfl, hOra⟩ | ⟨rfl, hno⟩
    ·
      refine lv_if_eq (tgt := 22) hx hb dX1_with_11 rfl (fun hz => absurd hz (by decide)) (fun hz => ?_)
      obtain ⟨ra, hLra, rfl⟩ := fr_ok_ex (by decide) hOra
      refine lv_aload_n hx hb dX1_with_14 rfl (lv_at hl 0 rfl) ?_
      refine lv_iload_n hx hb dX1_with_15 rfl (lv_at hl 3 rfl) ?_
      refine fr_Mi (As := [.int v]) hS0 (cM_var l D V bd kb row made v) (cw_M_var hw ⟨Nat.le_of_ble_eq_true rfl, Nat.le_of_ble_eq_true rfl⟩) hK hP rfl hl.1 rfl (Nat.le_of_ble_eq_true rfl) dX1_with_16 ⟨Nat.zero_le _, Nat.zero_le _⟩ (fun b0 hb0 => ?_)
      rcases hb0 with ⟨rfl, hOk⟩ | ⟨rfl, hno⟩
      ·
        refine lv_if_ne (tgt := 24) hx hb dX1_with_19 rfl (fun hz => ?_) (fun hz => absurd hz (by decide))
        obtain ⟨k, hLk, rfl⟩ := fr_ok_ex (by omega) hOk
        refine lv_iconst (v := 0) hx hb dX1_with_24 (by decide) ?_
        refine lv_istore hx hb dX1_with_25 hl (by decide) rfl (fun ls hl => ?_)
        replace hl : lv_has ls 6 [(5, .int 0), (0, .ref (bd 0)), (1, .int (nI j)), (2, .int (nI ra)), (3, .int (nI k)), (4, .int (fr_bi one))] := hl
        obtain ⟨n, i, hin, hi0⟩ : ∃ n i : Nat, i + n = 2 ^ V ∧ i = 0 := ⟨2 ^ V, 0, Nat.zero_add _, rfl⟩
        replace hl : lv_has ls 6 [(5, .int (nI i)), (0, .ref (bd 0)), (1, .int (nI j)), (2, .int (nI ra)), (3, .int (nI k)), (4, .int (fr_bi one))] := by rw [hi0]; exact hl
        have hg : ∀ x, x < i → made x = fr_bi (F ra (fr_sb x (V - 1 - k) one)) := fun x h => absurd h (by omega)
        clear hi0
        induction n generalizing i ls H locs made with
        | zero =>
          refine lv_iload hx hb dX1_with_27 (lv_at hl 0 rfl) ?_
          refine lv_aload_n hx hb dX1_with_29 rfl (lv_at hl 1 rfl) ?_
          refine fr_gM 1 hx hb hw hown hK hP (by decide) mG_all rfl dX1_with_30 ?_
          refine lv_icmp_ge (tgt := 86) hx hb dX1_with_33 rfl (fun hcm => ?_) (fun hcm => absurd (nI_le (show 2 ^ V ≤ i by omega) (by omega)) hcm)
          refine lv_aload_n hx hb dX1_with_86 rfl (lv_at hl 1 rfl) ?_
          refine lv_iload_n hx hb dX1_with_87 rfl (lv_at hl 2 rfl) ?_
          refine fr_Mm (As := [.int (nI j)]) hS0 (cM_keep l D V bd kb row made F hM hV hV1 hinj j (fun x => F ra (fr_sb x (V - 1 - k) one)) hLj (fun x h => hg x (by omega))) (cw_M_keep hw ⟨Nat.le_of_ble_eq_true rfl, Nat.le_of_ble_eq_true rfl⟩) hK hP hS rfl hl.1 rfl (Nat.le_of_ble_eq_true rfl) dX1_with_88 ⟨Nat.zero_le _, Nat.zero_le _⟩ (fun b u H locs hu hP hS => ?_)
          obtain ⟨rfl, hu2⟩ := hu
          have hsp : fr_sWith V F (nI j) (nI ra) (nI k) one = fr_set V F (nI j) (fun x => F ra (fr_sb x (V - 1 - k) one)) := by unfold fr_sWith; rw [if_pos (by rw [fr_okB_nI hLj (by omega), fr_okB_nI hLra (by omega), fr_okB_nI hLk (by omega)]; rfl), fr_v_nI (show ra < 2 ^ 31 by omega), fr_v_nI (show k < 2 ^ 31 by omega)]
          exact W.iret (v := (nI (fr_cn (fun x => F ra (fr_sb x (V - 1 - k) one)) (2 ^ V)))) hx hb hret (fun t ht hW => ⟨⟨_, u, rfl, by rw [hsp]; refine ⟨rfl, ?_⟩; show fr_MR V (va_up F (fr_v (nI j)) _) _; rw [fr_v_nI (show j < 2 ^ 31 by omega)]; exact hu2, by show va_P D vwCl _ t.heap; rw [ht]; exact hP⟩, hS.F ht⟩) hS.2.2 dX1_with_91
        | succ n ih =>
          refine lv_iload hx hb dX1_with_27 (lv_at hl 0 rfl) ?_
          refine lv_aload_n hx hb dX1_with_29 rfl (lv_at hl 1 rfl) ?_
          refine fr_gM 1 hx hb hw hown hK hP (by decide) mG_all rfl dX1_with_30 ?_
          refine lv_icmp_ge (tgt := 86) hx hb dX1_with_33 rfl (fun hcm => absurd hcm (nI_ge (show i < 2 ^ V by omega) (by omega))) (fun hcm => ?_)
          have hi : i < 2 ^ V := by omega
          refine lv_aload_n hx hb dX1_with_36 rfl (lv_at hl 1 rfl) ?_
          refine fr_gM 3 hx hb hw hown hK hP (by decide) mG_made rfl dX1_with_37 ?_
          refine lv_iload hx hb dX1_with_40 (lv_at hl 0 rfl) ?_
          refine lv_aload_n hx hb dX1_with_42 rfl (lv_at hl 1 rfl) ?_
          refine fr_gM 2 hx hb hw hown hK hP (by decide) mG_row rfl dX1_with_43 ?_
          refine lv_sipush (v := 512) hx hb dX1_with_46 (by decide) ?_
          refine lv_iload_n hx hb dX1_with_49 rfl (lv_at hl 3 rfl) ?_
          refine lv_imul hx hb dX1_with_50 ?_
          refine lv_iload hx hb dX1_with_51 (lv_at hl 5 rfl) ?_
          refine lv_if_eq (tgt := 67) hx hb dX1_with_53 rfl (fun hz => ?_) (fun hz => ?_)
          ·
            have hq : one = false := fr_bi_ne0.mp hz
            refine lv_iload hx hb dX1_with_67 (lv_at hl 0 rfl) ?_
            refine lv_aload_n hx hb dX1_with_69 rfl (lv_at hl 1 rfl) ?_
            refine lv_iload_n hx hb dX1_with_70 rfl (lv_at hl 4 rfl) ?_
            refine fr_Mi (As := [.int (nI k)]) hS0 (cM_bit l D V bd kb row made k hLk hV) (cw_M_bit hw ⟨Nat.le_of_ble_eq_true rfl, Nat.le_of_ble_eq_true rfl⟩) hK hP rfl hl.1 rfl (Nat.le_of_ble_eq_true rfl) dX1_with_71 ⟨Nat.zero_le _, Nat.zero_le _⟩ (fun b9 hb9 => ?_)
            subst hb9
            refine lv_iconst (v := (-1)) hx hb dX1_with_74 (by decide) ?_
            refine lv_ixor hx hb dX1_with_75 ?_
            refine lv_iand hx hb dX1_with_76 ?_
            refine fr_top (show ((nI i &&& (nI (2 ^ (V - 1 - k)) ^^^ (-1))) : Int32) = nI (fr_sb i (V - 1 - k) false) from fr_sbF _ (by omega) _ (by omega)) ?_
            refine lv_iadd hx hb dX1_with_77 ?_
            have hsb := fr_sb_lt (one := false) (show V - 1 - k < V by omega) hi
            refine fr_top (show (((512 * nI ra) + nI (fr_sb i (V - 1 - k) false)) : Int32) = nI (512 * ra + fr_sb i (V - 1 - k) false) from by rw [show (512 : Int32) * nI ra = nI (512 * ra) from pk_mul 512 ra]; exact nI_add _ _) ?_
            refine fr_zald hx hb hK hP 1 0 rfl rfl (show 512 * ra + fr_sb i (V - 1 - k) false < 16384 by omega) (by decide) dX1_with_78 ?_
            refine fr_top (show (row (512 * ra + fr_sb i (V - 1 - k) false) : Int32) = fr_bi (F ra (fr_sb i (V - 1 - k) false)) from hM ra _ hLra hsb) ?_
            refine fr_zast (ws2 := fr_mw V bd kb row (upd made i (fr_bi (F ra (fr_sb i (V - 1 - k) false))))) hx hb hK hP (fr_DB hinj) hS 2 1 rfl rfl (show i < 512 by omega) (by decide) (fr_bi_nar _) dX1_with_79 rfl (fun H locs hP hS => ?_)
            refine lv_iinc (k := 0) (v := nI (i + 1)) hx hb dX1_with_80 hl rfl (fr_inc i) (by decide) rfl (fun ls hl => ?_)
            replace hl : lv_has ls 6 [(5, .int (nI (i + 1))), (0, .ref (bd 0)), (1, .int (nI j)), (2, .int (nI ra)), (3, .int (nI k)), (4, .int (fr_bi one))] := hl
            refine lv_goto (tgt := 27) hx hb dX1_with_83 rfl ?_
            exact ih _ H locs hS hP ls (i + 1) (by omega) (lv_sub hl [0, 1, 2, 3, 4, 5] rfl) (fr_updZ hg (by rw [hq]))
          ·
            have hq : one = true := fr_bit hz
            refine lv_iload hx hb dX1_with_56 (lv_at hl 0 rfl) ?_
            refine lv_aload_n hx hb dX1_with_58 rfl (lv_at hl 1 rfl) ?_
            refine lv_iload_n hx hb dX1_with_59 rfl (lv_at hl 4 rfl) ?_
            refine fr_Mi (As := [.int (nI k)]) hS0 (cM_bit l D V bd kb row made k hLk hV) (cw_M_bit hw ⟨Nat.le_of_ble_eq_true rfl, Nat.le_of_ble_eq_true rfl⟩) hK hP rfl hl.1 rfl (Nat.le_of_ble_eq_true rfl) dX1_with_60 ⟨Nat.zero_le _, Nat.zero_le _⟩ (fun b9 hb9 => ?_)
            subst hb9
            refine lv_ior hx hb dX1_with_63 ?_
            refine lv_goto (tgt := 77) hx hb dX1_with_64 rfl ?_
            refine fr_top (show ((nI i ||| nI (2 ^ (V - 1 - k))) : Int32) = nI (fr_sb i (V - 1 - k) true) from fr_sbT _ (by omega) _ (by omega)) ?_
            refine lv_iadd hx hb dX1_with_77 ?_
            have hsb := fr_sb_lt (one := true) (show V - 1 - k < V by omega) hi
            refine fr_top (show (((512 * nI ra) + nI (fr_sb i (V - 1 - k) true)) : Int32) = nI (512 * ra + fr_sb i (V - 1 - k) true) from by rw [show (512 : Int32) * nI ra = nI (512 * ra) from pk_mul 512 ra]; exact nI_add _ _) ?_
            refine fr_zald hx hb hK hP 1 0 rfl rfl (show 512 * ra + fr_sb i (V - 1 - k) true < 16384 by omega) (by decide) dX1_with_78 ?_
            refine fr_top (show (row (512 * ra + fr_sb i (V - 1 - k) true) : Int32) = fr_bi (F ra (fr_sb i (V - 1 - k) true)) from hM ra _ hLra hsb) ?_
            refine fr_zast (ws2 := fr_mw V bd kb row (upd made i (fr_bi (F ra (fr_sb i (V - 1 - k) true))))) hx hb hK hP (fr_DB hinj) hS 2 1 rfl rfl (show i < 512 by omega) (by decide) (fr_bi_nar _) dX1_with_79 rfl (fun H locs hP hS => ?_)
            refine lv_iinc (k := 0) (v := nI (i + 1)) hx hb dX1_with_80 hl rfl (fr_inc i) (by decide) rfl (fun ls hl => ?_)
            replace hl : lv_has ls 6 [(5, .int (nI (i + 1))), (0, .ref (bd 0)), (1, .int (nI j)), (2, .int (nI ra)), (3, .int (nI k)), (4, .int (fr_bi one))] := hl
            refine lv_goto (tgt := 27) hx hb dX1_with_83 rfl ?_
            exact ih _ H locs hS hP ls (i + 1) (by omega) (lv_sub hl [0, 1, 2, 3, 4, 5] rfl) (fr_updZ hg (by rw [hq]))
      ·
        refine lv_if_ne (tgt := 24) hx hb dX1_with_19 rfl (fun hz => absurd rfl hz) (fun hz => ?_)
        refine lv_iconst (v := (-1)) hx hb dX1_with_22 (by decide) ?_
        exact W.iret (v := (-1)) hx hb hret (fun t ht hW => ⟨⟨_, (row, made), rfl, by rw [show fr_sWith V F (nI j) (nI ra) v one = (-1, F) from if_neg (fr_and3 (Or.inr (Or.inr (fr_okB_no (hno)))))]; exact ⟨rfl, hM⟩, by show va_P D vwCl _ t.heap; rw [ht]; exact hP⟩, hS.F ht⟩) hS.2.2 dX1_with_23
    ·
      refine lv_if_eq (tgt := 22) hx hb dX1_with_11 rfl (fun hz => ?_) (fun hz => absurd rfl hz)
      refine lv_iconst (v := (-1)) hx hb dX1_with_22 (by decide) ?_
      exact W.iret (v := (-1)) hx hb hret (fun t ht hW => ⟨⟨_, (row, made), rfl, by rw [show fr_sWith V F (nI j) a v one = (-1, F) from if_neg (fr_and3 (Or.inr (Or.inl (fr_okB_no (hno)))))]; exact ⟨rfl, hM⟩, by show va_P D vwCl _ t.heap; rw [ht]; exact hP⟩, hS.F ht⟩) hS.2.2 dX1_with_23
  ·
    refine lv_if_eq (tgt := 22) hx hb dX1_with_4 rfl (fun hz => ?_) (fun hz => absurd rfl hz)
    refine lv_iconst (v := (-1)) hx hb dX1_with_22 (by decide) ?_
    exact W.iret (v := (-1)) hx hb hret (fun t ht hW => ⟨⟨_, (row, made), rfl, by rw [show fr_sWith V F r a v one = (-1, F) from if_neg (fr_and3 (Or.inl (fr_okB_no (hno))))]; exact ⟨rfl, hM⟩, by show va_P D vwCl _ t.heap; rw [ht]; exact hP⟩, hS.F ht⟩) hS.2.2 dX1_with_23
set_option maxHeartbeats 4000000 in
set_option maxRecDepth 100000 in
theorem cM_bind (l : Launch) (D : va_G) (V : Nat) (bd : Nat → Nat) (kb : Nat → ClassId) (row made : Nat → Int32) (F : fr_F) (hM : fr_MR V F row) (hV : V < 10) (hV1 : 1 ≤ V) (hinj : fr_injB bd) (r a v : Int32) (all : Bool)    : Met l yX1_bind wsM_bind rmM_bind (va_Pc [.ref (bd 0), .int r, .int a, .int v, .int (fr_bi all)] (fr_PM D V bd kb row made)) (va_Qi (fun (res : Int32) (u : (Nat → Int32) × (Nat → Int32)) => res = (fr_sBind V F r a v all).1 ∧ fr_MR V (fr_sBind V F r a v all).2 u.1) (fun u t => va_P D vwCl (fr_mw V bd kb u.1 u.2) t.heap) (fr_B bd)) 0 0 (fr_B bd) := by
  refine Met.ofW (cc := cX1_bind) (maxL := 8) (ret := some .int) (by decide) rfl ?_
  intro p e s m args below meth c s₁ B hml hv
  obtain ⟨rfl, hP, hK, -⟩ := hv
  have hx := B.exec
  have hb := B.bytes
  have hret := B.returns
  have hw := fun w (h : w ∈ WA) => atoms_spec (ws := wsM_bind) B.pre w (List.mem_cons_of_mem _ h)
  have hown : s.vm.findClass "FunctionRoomModel" = some m.cls := findClass_of_methodNamed B.named
  have hlocks := B.notSynchronized
  have hS0 : CallFix p m c cX1_bind 8 s _ WA "FunctionRoomModel" := ⟨hx, hb, hml, hown, hw⟩
  have hl := lv_entry ([.ref (bd 0), .int r, .int a, .int v, .int (fr_bi all)]) (n := 8) (Nat.le_of_ble_eq_true rfl)
  rw [lg_entry_eq]
  generalize (lg_sl ([.ref (bd 0), .int r, .int a, .int v, .int (fr_bi all)]) ++ List.replicate (8 - (lg_sl ([.ref (bd 0), .int r, .int a, .int v, .int (fr_bi all)])).length) Slot.unset).toArray = ls at hl ⊢
  replace hl : lv_has ls 8 [(0, .ref (bd 0)), (1, .int r), (2, .int a), (3, .int v), (4, .int (fr_bi all))] := hl
  have h512 := fr_pow512 hV
  refine fr_gen (A := fr_B bd) hP (fun H locs hP2 hS => ?_)
  clear hP
  have hP := hP2
  clear hP2
  refine lv_iload_n hx hb dX1_bind_0 rfl (lv_at hl 1 rfl) ?_
  refine fr_cSi (As := [.int r]) hS0 (cM_is l r) (cw_M_is hw ⟨Nat.le_of_ble_eq_true rfl, Nat.le_of_ble_eq_true rfl⟩) (fr_pre0) rfl hl.1 rfl (Nat.le_of_ble_eq_true rfl) dX1_bind_1 ⟨Nat.zero_le _, Nat.zero_le _⟩ (fun b0 hb0 => ?_)
  rcases hb0 with ⟨rfl, hOj⟩ | ⟨rfl, hno⟩
  ·
    refine lv_if_eq (tgt := 22) hx hb dX1_bind_4 rfl (fun hz => absurd hz (by decide)) (fun hz => ?_)
    obtain ⟨j, hLj, rfl⟩ := fr_ok_ex (by decide) hOj
    refine lv_iload_n hx hb dX1_bind_7 rfl (lv_at hl 2 rfl) ?_
    refine fr_cSi (As := [.int a]) hS0 (cM_is l a) (cw_M_is hw ⟨Nat.le_of_ble_eq_true rfl, Nat.le_of_ble_eq_true rfl⟩) (fr_pre0) rfl hl.1 rfl (Nat.le_of_ble_eq_true rfl) dX1_bind_8 ⟨Nat.zero_le _, Nat.zero_le _⟩ (fun b0 hb0 => ?_)
    rcases hb0 with ⟨rfl, hOra⟩ | ⟨rfl, hno⟩
    ·
      refine lv_if_eq (tgt := 22) hx hb dX1_bind_11 rfl (fun hz => absurd hz (by decide)) (fun hz => ?_)
      obtain ⟨ra, hLra, rfl⟩ := fr_ok_ex (by decide) hOra
      refine lv_aload_n hx hb dX1_bind_14 rfl (lv_at hl 0 rfl) ?_
      refine lv_iload_n hx hb dX1_bind_15 rfl (lv_at hl 3 rfl) ?_
      refine fr_Mi (As := [.int v]) hS0 (cM_var l D V bd kb row made v) (cw_M_var hw ⟨Nat.le_of_ble_eq_true rfl, Nat.le_of_ble_eq_true rfl⟩) hK hP rfl hl.1 rfl (Nat.le_of_ble_eq_true rfl) dX1_bind_16 ⟨Nat.zero_le _, Nat.zero_le _⟩ (fun b0 hb0 => ?_)
      rcases hb0 with ⟨rfl, hOk⟩ | ⟨rfl, hno⟩
      ·
        refine lv_if_ne (tgt := 24) hx hb dX1_bind_19 rfl (fun hz => ?_) (fun hz => absurd hz (by decide))
        obtain ⟨k, hLk, rfl⟩ := fr_ok_ex (by omega) hOk
        refine lv_iconst (v := 0) hx hb dX1_bind_24 (by decide) ?_
        refine lv_istore hx hb dX1_bind_25 hl (by decide) rfl (fun ls hl => ?_)
        replace hl : lv_has ls 8 [(5, .int 0), (0, .ref (bd 0)), (1, .int (nI j)), (2, .int (nI ra)), (3, .int (nI k)), (4, .int (fr_bi all))] := hl
        obtain ⟨n, i, hin, hi0⟩ : ∃ n i : Nat, i + n = 2 ^ V ∧ i = 0 := ⟨2 ^ V, 0, Nat.zero_add _, rfl⟩
        replace hl : lv_has ls 8 [(5, .int (nI i)), (0, .ref (bd 0)), (1, .int (nI j)), (2, .int (nI ra)), (3, .int (nI k)), (4, .int (fr_bi all))] := by rw [hi0]; exact hl
        have hg : ∀ x, x < i → made x = fr_bi (if all = true then F ra x && F ra (x ^^^ 2 ^ (V - 1 - k)) else F ra x || F ra (x ^^^ 2 ^ (V - 1 - k))) := fun x h => absurd h (by omega)
        clear hi0
        induction n generalizing i ls H locs made with
        | zero =>
          refine lv_iload hx hb dX1_bind_27 (lv_at hl 0 rfl) ?_
          refine lv_aload_n hx hb dX1_bind_29 rfl (lv_at hl 1 rfl) ?_
          refine fr_gM 1 hx hb hw hown hK hP (by decide) mG_all rfl dX1_bind_30 ?_
          refine lv_icmp_ge (tgt := 131) hx hb dX1_bind_33 rfl (fun hcm => ?_) (fun hcm => absurd (nI_le (show 2 ^ V ≤ i by omega) (by omega)) hcm)
          refine lv_aload_n hx hb dX1_bind_131 rfl (lv_at hl 1 rfl) ?_
          refine lv_iload_n hx hb dX1_bind_132 rfl (lv_at hl 2 rfl) ?_
          refine fr_Mm (As := [.int (nI j)]) hS0 (cM_keep l D V bd kb row made F hM hV hV1 hinj j (fun x => if all = true then F ra x && F ra (x ^^^ 2 ^ (V - 1 - k)) else F ra x || F ra (x ^^^ 2 ^ (V - 1 - k))) hLj (fun x h => hg x (by omega))) (cw_M_keep hw ⟨Nat.le_of_ble_eq_true rfl, Nat.le_of_ble_eq_true rfl⟩) hK hP hS rfl hl.1 rfl (Nat.le_of_ble_eq_true rfl) dX1_bind_133 ⟨Nat.zero_le _, Nat.zero_le _⟩ (fun b u H locs hu hP hS => ?_)
          obtain ⟨rfl, hu2⟩ := hu
          have hsp : fr_sBind V F (nI j) (nI ra) (nI k) all = fr_set V F (nI j) (fun x => if all = true then F ra x && F ra (x ^^^ 2 ^ (V - 1 - k)) else F ra x || F ra (x ^^^ 2 ^ (V - 1 - k))) := by unfold fr_sBind; rw [if_pos (by rw [fr_okB_nI hLj (by omega), fr_okB_nI hLra (by omega), fr_okB_nI hLk (by omega)]; rfl), fr_v_nI (show ra < 2 ^ 31 by omega), fr_v_nI (show k < 2 ^ 31 by omega)]
          exact W.iret (v := (nI (fr_cn (fun x => if all = true then F ra x && F ra (x ^^^ 2 ^ (V - 1 - k)) else F ra x || F ra (x ^^^ 2 ^ (V - 1 - k))) (2 ^ V)))) hx hb hret (fun t ht hW => ⟨⟨_, u, rfl, by rw [hsp]; refine ⟨rfl, ?_⟩; show fr_MR V (va_up F (fr_v (nI j)) _) _; rw [fr_v_nI (show j < 2 ^ 31 by omega)]; exact hu2, by show va_P D vwCl _ t.heap; rw [ht]; exact hP⟩, hS.F ht⟩) hS.2.2 dX1_bind_136
        | succ n ih =>
          refine lv_iload hx hb dX1_bind_27 (lv_at hl 0 rfl) ?_
          refine lv_aload_n hx hb dX1_bind_29 rfl (lv_at hl 1 rfl) ?_
          refine fr_gM 1 hx hb hw hown hK hP (by decide) mG_all rfl dX1_bind_30 ?_
          refine lv_icmp_ge (tgt := 131) hx hb dX1_bind_33 rfl (fun hcm => absurd hcm (nI_ge (show i < 2 ^ V by omega) (by omega))) (fun hcm => ?_)
          have hi : i < 2 ^ V := by omega
          refine lv_aload_n hx hb dX1_bind_36 rfl (lv_at hl 1 rfl) ?_
          refine fr_gM 2 hx hb hw hown hK hP (by decide) mG_row rfl dX1_bind_37 ?_
          refine lv_sipush (v := 512) hx hb dX1_bind_40 (by decide) ?_
          refine lv_iload_n hx hb dX1_bind_43 rfl (lv_at hl 3 rfl) ?_
          refine lv_imul hx hb dX1_bind_44 ?_
          refine lv_iload hx hb dX1_bind_45 (lv_at hl 0 rfl) ?_
          refine lv_aload_n hx hb dX1_bind_47 rfl (lv_at hl 1 rfl) ?_
          refine lv_iload_n hx hb dX1_bind_48 rfl (lv_at hl 4 rfl) ?_
          refine fr_Mi (As := [.int (nI k)]) hS0 (cM_bit l D V bd kb row made k hLk hV) (cw_M_bit hw ⟨Nat.le_of_ble_eq_true rfl, Nat.le_of_ble_eq_true rfl⟩) hK hP rfl hl.1 rfl (Nat.le_of_ble_eq_true rfl) dX1_bind_49 ⟨Nat.zero_le _, Nat.zero_le _⟩ (fun b9 hb9 => ?_)
          subst hb9
          refine lv_ior hx hb dX1_bind_52 ?_
          refine fr_top (show ((nI i ||| nI (2 ^ (V - 1 - k))) : Int32) = nI (fr_sb i (V - 1 - k) true) from fr_sbT _ (by omega) _ (by omega)) ?_
          refine lv_iadd hx hb dX1_bind_53 ?_
          have hsb := fr_sb_lt (one := true) (show V - 1 - k < V by omega) hi
          refine fr_top (show (((512 * nI ra) + nI (fr_sb i (V - 1 - k) true)) : Int32) = nI (512 * ra + fr_sb i (V - 1 - k) true) from by rw [show (512 : Int32) * nI ra = nI (512 * ra) from pk_mul 512 ra]; exact nI_add _ _) ?_
          refine fr_zald hx hb hK hP 1 0 rfl rfl (show 512 * ra + fr_sb i (V - 1 - k) true < 16384 by omega) (by decide) dX1_bind_54 ?_
          refine fr_top (show (row (512 * ra + fr_sb i (V - 1 - k) true) : Int32) = fr_bi (F ra (fr_sb i (V - 1 - k) true)) from hM ra _ hLra hsb) ?_
          refine lv_istore hx hb dX1_bind_55 hl (by decide) rfl (fun ls hl => ?_)
          replace hl : lv_has ls 8 [(6, .int (fr_bi (F ra (fr_sb i (V - 1 - k) true)))), (5, .int (nI i)), (0, .ref (bd 0)), (1, .int (nI j)), (2, .int (nI ra)), (3, .int (nI k)), (4, .int (fr_bi all))] := hl
          refine lv_aload_n hx hb dX1_bind_57 rfl (lv_at hl 2 rfl) ?_
          refine fr_gM 2 hx hb hw hown hK hP (by decide) mG_row rfl dX1_bind_58 ?_
          refine lv_sipush (v := 512) hx hb dX1_bind_61 (by decide) ?_
          refine lv_iload_n hx hb dX1_bind_64 rfl (lv_at hl 4 rfl) ?_
          refine lv_imul hx hb dX1_bind_65 ?_
          refine lv_iload hx hb dX1_bind_66 (lv_at hl 1 rfl) ?_
          refine lv_aload_n hx hb dX1_bind_68 rfl (lv_at hl 2 rfl) ?_
          refine lv_iload_n hx hb dX1_bind_69 rfl (lv_at hl 5 rfl) ?_
          refine fr_Mi (As := [.int (nI k)]) hS0 (cM_bit l D V bd kb row made k hLk hV) (cw_M_bit hw ⟨Nat.le_of_ble_eq_true rfl, Nat.le_of_ble_eq_true rfl⟩) hK hP rfl hl.1 rfl (Nat.le_of_ble_eq_true rfl) dX1_bind_70 ⟨Nat.zero_le _, Nat.zero_le _⟩ (fun b9 hb9 => ?_)
          subst hb9
          refine lv_iconst (v := (-1)) hx hb dX1_bind_73 (by decide) ?_
          refine lv_ixor hx hb dX1_bind_74 ?_
          refine lv_iand hx hb dX1_bind_75 ?_
          refine fr_top (show ((nI i &&& (nI (2 ^ (V - 1 - k)) ^^^ (-1))) : Int32) = nI (fr_sb i (V - 1 - k) false) from fr_sbF _ (by omega) _ (by omega)) ?_
          refine lv_iadd hx hb dX1_bind_76 ?_
          have hsb := fr_sb_lt (one := false) (show V - 1 - k < V by omega) hi
          refine fr_top (show (((512 * nI ra) + nI (fr_sb i (V - 1 - k) false)) : Int32) = nI (512 * ra + fr_sb i (V - 1 - k) false) from by rw [show (512 : Int32) * nI ra = nI (512 * ra) from pk_mul 512 ra]; exact nI_add _ _) ?_
          refine fr_zald hx hb hK hP 1 0 rfl rfl (show 512 * ra + fr_sb i (V - 1 - k) false < 16384 by omega) (by decide) dX1_bind_77 ?_
          refine fr_top (show (row (512 * ra + fr_sb i (V - 1 - k) false) : Int32) = fr_bi (F ra (fr_sb i (V - 1 - k) false)) from hM ra _ hLra hsb) ?_
          refine lv_istore hx hb dX1_bind_78 hl (by decide) rfl (fun ls hl => ?_)
          replace hl : lv_has ls 8 [(7, .int (fr_bi (F ra (fr_sb i (V - 1 - k) false)))), (6, .int (fr_bi (F ra (fr_sb i (V - 1 - k) true)))), (5, .int (nI i)), (0, .ref (bd 0)), (1, .int (nI j)), (2, .int (nI ra)), (3, .int (nI k)), (4, .int (fr_bi all))] := hl
          refine lv_aload_n hx hb dX1_bind_80 rfl (lv_at hl 3 rfl) ?_
          refine fr_gM 3 hx hb hw hown hK hP (by decide) mG_made rfl dX1_bind_81 ?_
          refine lv_iload hx hb dX1_bind_84 (lv_at hl 2 rfl) ?_
          refine lv_iload hx hb dX1_bind_86 (lv_at hl 7 rfl) ?_
          refine lv_if_eq (tgt := 109) hx hb dX1_bind_88 rfl (fun hz => ?_) (fun hz => ?_)
          ·
            have hp88 : all = false := fr_bi_ne0.mp hz
            refine lv_iload hx hb dX1_bind_109 (lv_at hl 1 rfl) ?_
            refine lv_if_ne (tgt := 119) hx hb dX1_bind_111 rfl (fun hz => ?_) (fun hz => ?_)
            ·
              have hp111 : (F ra (fr_sb i (V - 1 - k) true)) = true := fr_bit hz
              refine lv_iconst (v := 1) hx hb dX1_bind_119 (by decide) ?_
              refine lv_goto (tgt := 124) hx hb dX1_bind_120 rfl ?_
              refine fr_zast (ws2 := fr_mw V bd kb row (upd made i (1))) hx hb hK hP (fr_DB hinj) hS 2 1 rfl rfl (show i < 512 by omega) (by decide) rfl dX1_bind_124 rfl (fun H locs hP hS => ?_)
              refine lv_iinc (k := 2) (v := nI (i + 1)) hx hb dX1_bind_125 hl rfl (fr_inc i) (by decide) rfl (fun ls hl => ?_)
              replace hl : lv_has ls 8 [(5, .int (nI (i + 1))), (7, .int (fr_bi (F ra (fr_sb i (V - 1 - k) false)))), (6, .int (fr_bi (F ra (fr_sb i (V - 1 - k) true)))), (0, .ref (bd 0)), (1, .int (nI j)), (2, .int (nI ra)), (3, .int (nI k)), (4, .int (fr_bi all))] := hl
              refine lv_goto (tgt := 27) hx hb dX1_bind_128 rfl ?_
              exact ih _ H locs hS hP ls (i + 1) (by omega) (lv_sub hl [0, 3, 4, 5, 6, 7] rfl) (fr_updZ hg (by rw [fr_bindeq]; simp [fr_bi, hp88, hp111]))
            ·
              have hp111 : (F ra (fr_sb i (V - 1 - k) true)) = false := fr_bi_ne0.mp hz
              refine lv_iload hx hb dX1_bind_114 (lv_at hl 0 rfl) ?_
              refine lv_if_eq (tgt := 123) hx hb dX1_bind_116 rfl (fun hz => ?_) (fun hz => ?_)
              ·
                have hp116 : (F ra (fr_sb i (V - 1 - k) false)) = false := fr_bi_ne0.mp hz
                refine lv_iconst (v := 0) hx hb dX1_bind_123 (by decide) ?_
                refine fr_zast (ws2 := fr_mw V bd kb row (upd made i (0))) hx hb hK hP (fr_DB hinj) hS 2 1 rfl rfl (show i < 512 by omega) (by decide) rfl dX1_bind_124 rfl (fun H locs hP hS => ?_)
                refine lv_iinc (k := 2) (v := nI (i + 1)) hx hb dX1_bind_125 hl rfl (fr_inc i) (by decide) rfl (fun ls hl => ?_)
                replace hl : lv_has ls 8 [(5, .int (nI (i + 1))), (7, .int (fr_bi (F ra (fr_sb i (V - 1 - k) false)))), (6, .int (fr_bi (F ra (fr_sb i (V - 1 - k) true)))), (0, .ref (bd 0)), (1, .int (nI j)), (2, .int (nI ra)), (3, .int (nI k)), (4, .int (fr_bi all))] := hl
                refine lv_goto (tgt := 27) hx hb dX1_bind_128 rfl ?_
                exact ih _ H locs hS hP ls (i + 1) (by omega) (lv_sub hl [0, 3, 4, 5, 6, 7] rfl) (fr_updZ hg (by rw [fr_bindeq]; simp [fr_bi, hp88, hp111, hp116]))
              ·
                have hp116 : (F ra (fr_sb i (V - 1 - k) false)) = true := fr_bit hz
                refine lv_iconst (v := 1) hx hb dX1_bind_119 (by decide) ?_
                refine lv_goto (tgt := 124) hx hb dX1_bind_120 rfl ?_
                refine fr_zast (ws2 := fr_mw V bd kb row (upd made i (1))) hx hb hK hP (fr_DB hinj) hS 2 1 rfl rfl (show i < 512 by omega) (by decide) rfl dX1_bind_124 rfl (fun H locs hP hS => ?_)
                refine lv_iinc (k := 2) (v := nI (i + 1)) hx hb dX1_bind_125 hl rfl (fr_inc i) (by decide) rfl (fun ls hl => ?_)
                replace hl : lv_has ls 8 [(5, .int (nI (i + 1))), (7, .int (fr_bi (F ra (fr_sb i (V - 1 - k) false)))), (6, .int (fr_bi (F ra (fr_sb i (V - 1 - k) true)))), (0, .ref (bd 0)), (1, .int (nI j)), (2, .int (nI ra)), (3, .int (nI k)), (4, .int (fr_bi all))] := hl
                refine lv_goto (tgt := 27) hx hb dX1_bind_128 rfl ?_
                exact ih _ H locs hS hP ls (i + 1) (by omega) (lv_sub hl [0, 3, 4, 5, 6, 7] rfl) (fr_updZ hg (by rw [fr_bindeq]; simp [fr_bi, hp88, hp111, hp116]))
          ·
            have hp88 : all = true := fr_bit hz
            refine lv_iload hx hb dX1_bind_91 (lv_at hl 1 rfl) ?_
            refine lv_if_eq (tgt := 105) hx hb dX1_bind_93 rfl (fun hz => ?_) (fun hz => ?_)
            ·
              have hp93 : (F ra (fr_sb i (V - 1 - k) true)) = false := fr_bi_ne0.mp hz
              refine lv_iconst (v := 0) hx hb dX1_bind_105 (by decide) ?_
              refine lv_goto (tgt := 124) hx hb dX1_bind_106 rfl ?_
              refine fr_zast (ws2 := fr_mw V bd kb row (upd made i (0))) hx hb hK hP (fr_DB hinj) hS 2 1 rfl rfl (show i < 512 by omega) (by decide) rfl dX1_bind_124 rfl (fun H locs hP hS => ?_)
              refine lv_iinc (k := 2) (v := nI (i + 1)) hx hb dX1_bind_125 hl rfl (fr_inc i) (by decide) rfl (fun ls hl => ?_)
              replace hl : lv_has ls 8 [(5, .int (nI (i + 1))), (7, .int (fr_bi (F ra (fr_sb i (V - 1 - k) false)))), (6, .int (fr_bi (F ra (fr_sb i (V - 1 - k) true)))), (0, .ref (bd 0)), (1, .int (nI j)), (2, .int (nI ra)), (3, .int (nI k)), (4, .int (fr_bi all))] := hl
              refine lv_goto (tgt := 27) hx hb dX1_bind_128 rfl ?_
              exact ih _ H locs hS hP ls (i + 1) (by omega) (lv_sub hl [0, 3, 4, 5, 6, 7] rfl) (fr_updZ hg (by rw [fr_bindeq]; simp [fr_bi, hp88, hp93]))
            ·
              have hp93 : (F ra (fr_sb i (V - 1 - k) true)) = true := fr_bit hz
              refine lv_iload hx hb dX1_bind_96 (lv_at hl 0 rfl) ?_
              refine lv_if_eq (tgt := 105) hx hb dX1_bind_98 rfl (fun hz => ?_) (fun hz => ?_)
              ·
                have hp98 : (F ra (fr_sb i (V - 1 - k) false)) = false := fr_bi_ne0.mp hz
                refine lv_iconst (v := 0) hx hb dX1_bind_105 (by decide) ?_
                refine lv_goto (tgt := 124) hx hb dX1_bind_106 rfl ?_
                refine fr_zast (ws2 := fr_mw V bd kb row (upd made i (0))) hx hb hK hP (fr_DB hinj) hS 2 1 rfl rfl (show i < 512 by omega) (by decide) rfl dX1_bind_124 rfl (fun H locs hP hS => ?_)
                refine lv_iinc (k := 2) (v := nI (i + 1)) hx hb dX1_bind_125 hl rfl (fr_inc i) (by decide) rfl (fun ls hl => ?_)
                replace hl : lv_has ls 8 [(5, .int (nI (i + 1))), (7, .int (fr_bi (F ra (fr_sb i (V - 1 - k) false)))), (6, .int (fr_bi (F ra (fr_sb i (V - 1 - k) true)))), (0, .ref (bd 0)), (1, .int (nI j)), (2, .int (nI ra)), (3, .int (nI k)), (4, .int (fr_bi all))] := hl
                refine lv_goto (tgt := 27) hx hb dX1_bind_128 rfl ?_
                exact ih _ H locs hS hP ls (i + 1) (by omega) (lv_sub hl [0, 3, 4, 5, 6, 7] rfl) (fr_updZ hg (by rw [fr_bindeq]; simp [fr_bi, hp88, hp93, hp98]))
              ·
                have hp98 : (F ra (fr_sb i (V - 1 - k) false)) = true := fr_bit hz
                refine lv_iconst (v := 1) hx hb dX1_bind_101 (by decide) ?_
                refine lv_goto (tgt := 124) hx hb dX1_bind_102 rfl ?_
                refine fr_zast (ws2 := fr_mw V bd kb row (upd made i (1))) hx hb hK hP (fr_DB hinj) hS 2 1 rfl rfl (show i < 512 by omega) (by decide) rfl dX1_bind_124 rfl (fun H locs hP hS => ?_)
                refine lv_iinc (k := 2) (v := nI (i + 1)) hx hb dX1_bind_125 hl rfl (fr_inc i) (by decide) rfl (fun ls hl => ?_)
                replace hl : lv_has ls 8 [(5, .int (nI (i + 1))), (7, .int (fr_bi (F ra (fr_sb i (V - 1 - k) false)))), (6, .int (fr_bi (F ra (fr_sb i (V - 1 - k) true)))), (0, .ref (bd 0)), (1, .int (nI j)), (2, .int (nI ra)), (3, .int (nI k)), (4, .int (fr_bi all))] := hl
                refine lv_goto (tgt := 27) hx hb dX1_bind_128 rfl ?_
                exact ih _ H locs hS hP ls (i + 1) (by omega) (lv_sub hl [0, 3, 4, 5, 6, 7] rfl) (fr_updZ hg (by rw [fr_bindeq]; simp [fr_bi, hp88, hp93, hp98]))
      ·
        refine lv_if_ne (tgt := 24) hx hb dX1_bind_19 rfl (fun hz => absurd rfl hz) (fun hz => ?_)
        refine lv_iconst (v := (-1)) hx hb dX1_bind_22 (by decide) ?_
        exact W.iret (v := (-1)) hx hb hret (fun t ht hW => ⟨⟨_, (row, made), rfl, by rw [show fr_sBind V F (nI j) (nI ra) v all = (-1, F) from if_neg (fr_and3 (Or.inr (Or.inr (fr_okB_no (hno)))))]; exact ⟨rfl, hM⟩, by show va_P D vwCl _ t.heap; rw [ht]; exact hP⟩, hS.F ht⟩) hS.2.2 dX1_bind_23
    ·
      refine lv_if_eq (tgt := 22) hx hb dX1_bind_11 rfl (fun hz => ?_) (fun hz => absurd rfl hz)
      refine lv_iconst (v := (-1)) hx hb dX1_bind_22 (by decide) ?_
      exact W.iret (v := (-1)) hx hb hret (fun t ht hW => ⟨⟨_, (row, made), rfl, by rw [show fr_sBind V F (nI j) a v all = (-1, F) from if_neg (fr_and3 (Or.inr (Or.inl (fr_okB_no (hno)))))]; exact ⟨rfl, hM⟩, by show va_P D vwCl _ t.heap; rw [ht]; exact hP⟩, hS.F ht⟩) hS.2.2 dX1_bind_23
  ·
    refine lv_if_eq (tgt := 22) hx hb dX1_bind_4 rfl (fun hz => ?_) (fun hz => absurd rfl hz)
    refine lv_iconst (v := (-1)) hx hb dX1_bind_22 (by decide) ?_
    exact W.iret (v := (-1)) hx hb hret (fun t ht hW => ⟨⟨_, (row, made), rfl, by rw [show fr_sBind V F r a v all = (-1, F) from if_neg (fr_and3 (Or.inl (fr_okB_no (hno))))]; exact ⟨rfl, hM⟩, by show va_P D vwCl _ t.heap; rw [ht]; exact hP⟩, hS.F ht⟩) hS.2.2 dX1_bind_23
set_option maxHeartbeats 4000000 in
set_option maxRecDepth 100000 in
theorem cM_put (l : Launch) (D : va_G) (V : Nat) (bd : Nat → Nat) (kb : Nat → ClassId) (row made : Nat → Int32) (F : fr_F) (hM : fr_MR V F row) (hV : V < 10) (hV1 : 1 ≤ V) (hinj : fr_injB bd) (r a v b : Int32)    : Met l yX1_put wsM_put rmM_put (va_Pc [.ref (bd 0), .int r, .int a, .int v, .int b] (fr_PM D V bd kb row made)) (va_Qi (fun (res : Int32) (u : (Nat → Int32) × (Nat → Int32)) => res = (fr_sPut V F r a v b).1 ∧ fr_MR V (fr_sPut V F r a v b).2 u.1) (fun u t => va_P D vwCl (fr_mw V bd kb u.1 u.2) t.heap) (fr_B bd)) 0 0 (fr_B bd) := by
  refine Met.ofW (cc := cX1_put) (maxL := 6) (ret := some .int) (by decide) rfl ?_
  intro p e s m args below meth c s₁ B hml hv
  obtain ⟨rfl, hP, hK, -⟩ := hv
  have hx := B.exec
  have hb := B.bytes
  have hret := B.returns
  have hw := fun w (h : w ∈ WA) => atoms_spec (ws := wsM_put) B.pre w (List.mem_cons_of_mem _ h)
  have hown : s.vm.findClass "FunctionRoomModel" = some m.cls := findClass_of_methodNamed B.named
  have hlocks := B.notSynchronized
  have hS0 : CallFix p m c cX1_put 6 s _ WA "FunctionRoomModel" := ⟨hx, hb, hml, hown, hw⟩
  have hl := lv_entry ([.ref (bd 0), .int r, .int a, .int v, .int b]) (n := 6) (Nat.le_of_ble_eq_true rfl)
  rw [lg_entry_eq]
  generalize (lg_sl ([.ref (bd 0), .int r, .int a, .int v, .int b]) ++ List.replicate (6 - (lg_sl ([.ref (bd 0), .int r, .int a, .int v, .int b])).length) Slot.unset).toArray = ls at hl ⊢
  replace hl : lv_has ls 6 [(0, .ref (bd 0)), (1, .int r), (2, .int a), (3, .int v), (4, .int b)] := hl
  have h512 := fr_pow512 hV
  refine fr_gen (A := fr_B bd) hP (fun H locs hP2 hS => ?_)
  clear hP
  have hP := hP2
  clear hP2
  refine lv_iload_n hx hb dX1_put_0 rfl (lv_at hl 1 rfl) ?_
  refine fr_cSi (As := [.int r]) hS0 (cM_is l r) (cw_M_is hw ⟨Nat.le_of_ble_eq_true rfl, Nat.le_of_ble_eq_true rfl⟩) (fr_pre0) rfl hl.1 rfl (Nat.le_of_ble_eq_true rfl) dX1_put_1 ⟨Nat.zero_le _, Nat.zero_le _⟩ (fun b0 hb0 => ?_)
  rcases hb0 with ⟨rfl, hOj⟩ | ⟨rfl, hno⟩
  ·
    refine lv_if_eq (tgt := 30) hx hb dX1_put_4 rfl (fun hz => absurd hz (by decide)) (fun hz => ?_)
    obtain ⟨j, hLj, rfl⟩ := fr_ok_ex (by decide) hOj
    refine lv_iload_n hx hb dX1_put_7 rfl (lv_at hl 2 rfl) ?_
    refine fr_cSi (As := [.int a]) hS0 (cM_is l a) (cw_M_is hw ⟨Nat.le_of_ble_eq_true rfl, Nat.le_of_ble_eq_true rfl⟩) (fr_pre0) rfl hl.1 rfl (Nat.le_of_ble_eq_true rfl) dX1_put_8 ⟨Nat.zero_le _, Nat.zero_le _⟩ (fun b0 hb0 => ?_)
    rcases hb0 with ⟨rfl, hOra⟩ | ⟨rfl, hno⟩
    ·
      refine lv_if_eq (tgt := 30) hx hb dX1_put_11 rfl (fun hz => absurd hz (by decide)) (fun hz => ?_)
      obtain ⟨ra, hLra, rfl⟩ := fr_ok_ex (by decide) hOra
      refine lv_iload hx hb dX1_put_14 (lv_at hl 4 rfl) ?_
      refine fr_cSi (As := [.int b]) hS0 (cM_is l b) (cw_M_is hw ⟨Nat.le_of_ble_eq_true rfl, Nat.le_of_ble_eq_true rfl⟩) (fr_pre0) rfl hl.1 rfl (Nat.le_of_ble_eq_true rfl) dX1_put_16 ⟨Nat.zero_le _, Nat.zero_le _⟩ (fun b0 hb0 => ?_)
      rcases hb0 with ⟨rfl, hOrb⟩ | ⟨rfl, hno⟩
      ·
        refine lv_if_eq (tgt := 30) hx hb dX1_put_19 rfl (fun hz => absurd hz (by decide)) (fun hz => ?_)
        obtain ⟨rb, hLrb, rfl⟩ := fr_ok_ex (by decide) hOrb
        refine lv_aload_n hx hb dX1_put_22 rfl (lv_at hl 0 rfl) ?_
        refine lv_iload_n hx hb dX1_put_23 rfl (lv_at hl 3 rfl) ?_
        refine fr_Mi (As := [.int v]) hS0 (cM_var l D V bd kb row made v) (cw_M_var hw ⟨Nat.le_of_ble_eq_true rfl, Nat.le_of_ble_eq_true rfl⟩) hK hP rfl hl.1 rfl (Nat.le_of_ble_eq_true rfl) dX1_put_24 ⟨Nat.zero_le _, Nat.zero_le _⟩ (fun b0 hb0 => ?_)
        rcases hb0 with ⟨rfl, hOk⟩ | ⟨rfl, hno⟩
        ·
          refine lv_if_ne (tgt := 32) hx hb dX1_put_27 rfl (fun hz => ?_) (fun hz => absurd hz (by decide))
          obtain ⟨k, hLk, rfl⟩ := fr_ok_ex (by omega) hOk
          refine lv_iconst (v := 0) hx hb dX1_put_32 (by decide) ?_
          refine lv_istore hx hb dX1_put_33 hl (by decide) rfl (fun ls hl => ?_)
          replace hl : lv_has ls 6 [(5, .int 0), (0, .ref (bd 0)), (1, .int (nI j)), (2, .int (nI ra)), (3, .int (nI k)), (4, .int (nI rb))] := hl
          obtain ⟨n, i, hin, hi0⟩ : ∃ n i : Nat, i + n = 2 ^ V ∧ i = 0 := ⟨2 ^ V, 0, Nat.zero_add _, rfl⟩
          replace hl : lv_has ls 6 [(5, .int (nI i)), (0, .ref (bd 0)), (1, .int (nI j)), (2, .int (nI ra)), (3, .int (nI k)), (4, .int (nI rb))] := by rw [hi0]; exact hl
          have hg : ∀ x, x < i → made x = fr_bi (F ra (fr_sb x (V - 1 - k) (F rb x))) := fun x h => absurd h (by omega)
          clear hi0
          induction n generalizing i ls H locs made with
          | zero =>
            refine lv_iload hx hb dX1_put_35 (lv_at hl 0 rfl) ?_
            refine lv_aload_n hx hb dX1_put_37 rfl (lv_at hl 1 rfl) ?_
            refine fr_gM 1 hx hb hw hown hK hP (by decide) mG_all rfl dX1_put_38 ?_
            refine lv_icmp_ge (tgt := 106) hx hb dX1_put_41 rfl (fun hcm => ?_) (fun hcm => absurd (nI_le (show 2 ^ V ≤ i by omega) (by omega)) hcm)
            refine lv_aload_n hx hb dX1_put_106 rfl (lv_at hl 1 rfl) ?_
            refine lv_iload_n hx hb dX1_put_107 rfl (lv_at hl 2 rfl) ?_
            refine fr_Mm (As := [.int (nI j)]) hS0 (cM_keep l D V bd kb row made F hM hV hV1 hinj j (fun x => F ra (fr_sb x (V - 1 - k) (F rb x))) hLj (fun x h => hg x (by omega))) (cw_M_keep hw ⟨Nat.le_of_ble_eq_true rfl, Nat.le_of_ble_eq_true rfl⟩) hK hP hS rfl hl.1 rfl (Nat.le_of_ble_eq_true rfl) dX1_put_108 ⟨Nat.zero_le _, Nat.zero_le _⟩ (fun b u H locs hu hP hS => ?_)
            obtain ⟨rfl, hu2⟩ := hu
            have hsp : fr_sPut V F (nI j) (nI ra) (nI k) (nI rb) = fr_set V F (nI j) (fun x => F ra (fr_sb x (V - 1 - k) (F rb x))) := by unfold fr_sPut; rw [if_pos (by rw [fr_okB_nI hLj (by omega), fr_okB_nI hLra (by omega), fr_okB_nI hLk (by omega), fr_okB_nI hLrb (by omega)]; rfl), fr_v_nI (show ra < 2 ^ 31 by omega), fr_v_nI (show k < 2 ^ 31 by omega), fr_v_nI (show rb < 2 ^ 31 by omega)]
            exact W.iret (v := (nI (fr_cn (fun x => F ra (fr_sb x (V - 1 - k) (F rb x))) (2 ^ V)))) hx hb hret (fun t ht hW => ⟨⟨_, u, rfl, by rw [hsp]; refine ⟨rfl, ?_⟩; show fr_MR V (va_up F (fr_v (nI j)) _) _; rw [fr_v_nI (show j < 2 ^ 31 by omega)]; exact hu2, by show va_P D vwCl _ t.heap; rw [ht]; exact hP⟩, hS.F ht⟩) hS.2.2 dX1_put_111
          | succ n ih =>
            refine lv_iload hx hb dX1_put_35 (lv_at hl 0 rfl) ?_
            refine lv_aload_n hx hb dX1_put_37 rfl (lv_at hl 1 rfl) ?_
            refine fr_gM 1 hx hb hw hown hK hP (by decide) mG_all rfl dX1_put_38 ?_
            refine lv_icmp_ge (tgt := 106) hx hb dX1_put_41 rfl (fun hcm => absurd hcm (nI_ge (show i < 2 ^ V by omega) (by omega))) (fun hcm => ?_)
            have hi : i < 2 ^ V := by omega
            refine lv_aload_n hx hb dX1_put_44 rfl (lv_at hl 1 rfl) ?_
            refine fr_gM 3 hx hb hw hown hK hP (by decide) mG_made rfl dX1_put_45 ?_
            refine lv_iload hx hb dX1_put_48 (lv_at hl 0 rfl) ?_
            refine lv_aload_n hx hb dX1_put_50 rfl (lv_at hl 1 rfl) ?_
            refine fr_gM 2 hx hb hw hown hK hP (by decide) mG_row rfl dX1_put_51 ?_
            refine lv_sipush (v := 512) hx hb dX1_put_54 (by decide) ?_
            refine lv_iload_n hx hb dX1_put_57 rfl (lv_at hl 3 rfl) ?_
            refine lv_imul hx hb dX1_put_58 ?_
            refine lv_aload_n hx hb dX1_put_59 rfl (lv_at hl 1 rfl) ?_
            refine fr_gM 2 hx hb hw hown hK hP (by decide) mG_row rfl dX1_put_60 ?_
            refine lv_sipush (v := 512) hx hb dX1_put_63 (by decide) ?_
            refine lv_iload hx hb dX1_put_66 (lv_at hl 5 rfl) ?_
            refine lv_imul hx hb dX1_put_68 ?_
            refine lv_iload hx hb dX1_put_69 (lv_at hl 0 rfl) ?_
            refine lv_iadd hx hb dX1_put_71 ?_
            refine fr_top (show (((512 * nI rb) + nI i) : Int32) = nI (512 * rb + i) from by rw [show (512 : Int32) * nI rb = nI (512 * rb) from pk_mul 512 rb]; exact nI_add _ _) ?_
            refine fr_zald hx hb hK hP 1 0 rfl rfl (show 512 * rb + i < 16384 by omega) (by decide) dX1_put_72 ?_
            refine fr_top (show (row (512 * rb + i) : Int32) = fr_bi (F rb i) from hM rb i hLrb hi) ?_
            refine lv_if_eq (tgt := 87) hx hb dX1_put_73 rfl (fun hz => ?_) (fun hz => ?_)
            ·
              have hq : F rb i = false := fr_bi_ne0.mp hz
              refine lv_iload hx hb dX1_put_87 (lv_at hl 0 rfl) ?_
              refine lv_aload_n hx hb dX1_put_89 rfl (lv_at hl 1 rfl) ?_
              refine lv_iload_n hx hb dX1_put_90 rfl (lv_at hl 4 rfl) ?_
              refine fr_Mi (As := [.int (nI k)]) hS0 (cM_bit l D V bd kb row made k hLk hV) (cw_M_bit hw ⟨Nat.le_of_ble_eq_true rfl, Nat.le_of_ble_eq_true rfl⟩) hK hP rfl hl.1 rfl (Nat.le_of_ble_eq_true rfl) dX1_put_91 ⟨Nat.zero_le _, Nat.zero_le _⟩ (fun b9 hb9 => ?_)
              subst hb9
              refine lv_iconst (v := (-1)) hx hb dX1_put_94 (by decide) ?_
              refine lv_ixor hx hb dX1_put_95 ?_
              refine lv_iand hx hb dX1_put_96 ?_
              refine fr_top (show ((nI i &&& (nI (2 ^ (V - 1 - k)) ^^^ (-1))) : Int32) = nI (fr_sb i (V - 1 - k) false) from fr_sbF _ (by omega) _ (by omega)) ?_
              refine lv_iadd hx hb dX1_put_97 ?_
              have hsb := fr_sb_lt (one := false) (show V - 1 - k < V by omega) hi
              refine fr_top (show (((512 * nI ra) + nI (fr_sb i (V - 1 - k) false)) : Int32) = nI (512 * ra + fr_sb i (V - 1 - k) false) from by rw [show (512 : Int32) * nI ra = nI (512 * ra) from pk_mul 512 ra]; exact nI_add _ _) ?_
              refine fr_zald hx hb hK hP 1 0 rfl rfl (show 512 * ra + fr_sb i (V - 1 - k) false < 16384 by omega) (by decide) dX1_put_98 ?_
              refine fr_top (show (row (512 * ra + fr_sb i (V - 1 - k) false) : Int32) = fr_bi (F ra (fr_sb i (V - 1 - k) false)) from hM ra _ hLra hsb) ?_
              refine fr_zast (ws2 := fr_mw V bd kb row (upd made i (fr_bi (F ra (fr_sb i (V - 1 - k) false))))) hx hb hK hP (fr_DB hinj) hS 2 1 rfl rfl (show i < 512 by omega) (by decide) (fr_bi_nar _) dX1_put_99 rfl (fun H locs hP hS => ?_)
              refine lv_iinc (k := 0) (v := nI (i + 1)) hx hb dX1_put_100 hl rfl (fr_inc i) (by decide) rfl (fun ls hl => ?_)
              replace hl : lv_has ls 6 [(5, .int (nI (i + 1))), (0, .ref (bd 0)), (1, .int (nI j)), (2, .int (nI ra)), (3, .int (nI k)), (4, .int (nI rb))] := hl
              refine lv_goto (tgt := 35) hx hb dX1_put_103 rfl ?_
              exact ih _ H locs hS hP ls (i + 1) (by omega) (lv_sub hl [0, 1, 2, 3, 4, 5] rfl) (fr_updZ hg (by rw [hq]))
            ·
              have hq : F rb i = true := fr_bit hz
              refine lv_iload hx hb dX1_put_76 (lv_at hl 0 rfl) ?_
              refine lv_aload_n hx hb dX1_put_78 rfl (lv_at hl 1 rfl) ?_
              refine lv_iload_n hx hb dX1_put_79 rfl (lv_at hl 4 rfl) ?_
              refine fr_Mi (As := [.int (nI k)]) hS0 (cM_bit l D V bd kb row made k hLk hV) (cw_M_bit hw ⟨Nat.le_of_ble_eq_true rfl, Nat.le_of_ble_eq_true rfl⟩) hK hP rfl hl.1 rfl (Nat.le_of_ble_eq_true rfl) dX1_put_80 ⟨Nat.zero_le _, Nat.zero_le _⟩ (fun b9 hb9 => ?_)
              subst hb9
              refine lv_ior hx hb dX1_put_83 ?_
              refine lv_goto (tgt := 97) hx hb dX1_put_84 rfl ?_
              refine fr_top (show ((nI i ||| nI (2 ^ (V - 1 - k))) : Int32) = nI (fr_sb i (V - 1 - k) true) from fr_sbT _ (by omega) _ (by omega)) ?_
              refine lv_iadd hx hb dX1_put_97 ?_
              have hsb := fr_sb_lt (one := true) (show V - 1 - k < V by omega) hi
              refine fr_top (show (((512 * nI ra) + nI (fr_sb i (V - 1 - k) true)) : Int32) = nI (512 * ra + fr_sb i (V - 1 - k) true) from by rw [show (512 : Int32) * nI ra = nI (512 * ra) from pk_mul 512 ra]; exact nI_add _ _) ?_
              refine fr_zald hx hb hK hP 1 0 rfl rfl (show 512 * ra + fr_sb i (V - 1 - k) true < 16384 by omega) (by decide) dX1_put_98 ?_
              refine fr_top (show (row (512 * ra + fr_sb i (V - 1 - k) true) : Int32) = fr_bi (F ra (fr_sb i (V - 1 - k) true)) from hM ra _ hLra hsb) ?_
              refine fr_zast (ws2 := fr_mw V bd kb row (upd made i (fr_bi (F ra (fr_sb i (V - 1 - k) true))))) hx hb hK hP (fr_DB hinj) hS 2 1 rfl rfl (show i < 512 by omega) (by decide) (fr_bi_nar _) dX1_put_99 rfl (fun H locs hP hS => ?_)
              refine lv_iinc (k := 0) (v := nI (i + 1)) hx hb dX1_put_100 hl rfl (fr_inc i) (by decide) rfl (fun ls hl => ?_)
              replace hl : lv_has ls 6 [(5, .int (nI (i + 1))), (0, .ref (bd 0)), (1, .int (nI j)), (2, .int (nI ra)), (3, .int (nI k)), (4, .int (nI rb))] := hl
              refine lv_goto (tgt := 35) hx hb dX1_put_103 rfl ?_
              exact ih _ H locs hS hP ls (i + 1) (by omega) (lv_sub hl [0, 1, 2, 3, 4, 5] rfl) (fr_updZ hg (by rw [hq]))
        ·
          refine lv_if_ne (tgt := 32) hx hb dX1_put_27 rfl (fun hz => absurd rfl hz) (fun hz => ?_)
          refine lv_iconst (v := (-1)) hx hb dX1_put_30 (by decide) ?_
          exact W.iret (v := (-1)) hx hb hret (fun t ht hW => ⟨⟨_, (row, made), rfl, by rw [show fr_sPut V F (nI j) (nI ra) v (nI rb) = (-1, F) from if_neg (fr_and4 (Or.inr (Or.inr (Or.inl (fr_okB_no (hno))))))]; exact ⟨rfl, hM⟩, by show va_P D vwCl _ t.heap; rw [ht]; exact hP⟩, hS.F ht⟩) hS.2.2 dX1_put_31
      ·
        refine lv_if_eq (tgt := 30) hx hb dX1_put_19 rfl (fun hz => ?_) (fun hz => absurd rfl hz)
        refine lv_iconst (v := (-1)) hx hb dX1_put_30 (by decide) ?_
        exact W.iret (v := (-1)) hx hb hret (fun t ht hW => ⟨⟨_, (row, made), rfl, by rw [show fr_sPut V F (nI j) (nI ra) v b = (-1, F) from if_neg (fr_and4 (Or.inr (Or.inr (Or.inr (fr_okB_no (hno))))))]; exact ⟨rfl, hM⟩, by show va_P D vwCl _ t.heap; rw [ht]; exact hP⟩, hS.F ht⟩) hS.2.2 dX1_put_31
    ·
      refine lv_if_eq (tgt := 30) hx hb dX1_put_11 rfl (fun hz => ?_) (fun hz => absurd rfl hz)
      refine lv_iconst (v := (-1)) hx hb dX1_put_30 (by decide) ?_
      exact W.iret (v := (-1)) hx hb hret (fun t ht hW => ⟨⟨_, (row, made), rfl, by rw [show fr_sPut V F (nI j) a v b = (-1, F) from if_neg (fr_and4 (Or.inr (Or.inl (fr_okB_no (hno)))))]; exact ⟨rfl, hM⟩, by show va_P D vwCl _ t.heap; rw [ht]; exact hP⟩, hS.F ht⟩) hS.2.2 dX1_put_31
  ·
    refine lv_if_eq (tgt := 30) hx hb dX1_put_4 rfl (fun hz => ?_) (fun hz => absurd rfl hz)
    refine lv_iconst (v := (-1)) hx hb dX1_put_30 (by decide) ?_
    exact W.iret (v := (-1)) hx hb hret (fun t ht hW => ⟨⟨_, (row, made), rfl, by rw [show fr_sPut V F r a v b = (-1, F) from if_neg (fr_and4 (Or.inl (fr_okB_no (hno))))]; exact ⟨rfl, hM⟩, by show va_P D vwCl _ t.heap; rw [ht]; exact hP⟩, hS.F ht⟩) hS.2.2 dX1_put_31
end
section
set_option maxHeartbeats 4000000 in
set_option maxRecDepth 100000 in
theorem cM_value (l : Launch) (D : va_G) (V : Nat) (bd : Nat → Nat) (kb : Nat → ClassId) (row made : Nat → Int32) (F : fr_F) (hM : fr_MR V F row) (hV : V < 10) (hV1 : 1 ≤ V) (hinj : fr_injB bd) (r x0 : Int32)  : Met l yX1_value wsM_value rmM_value (va_Pc [.ref (bd 0), .int r, .int x0] (fr_PM D V bd kb row made)) (vp_Si (fun res => res = fr_sValue V F r x0)) 0 0 (fun _ => False) := by
  refine Met.ofW (cc := cX1_value) (maxL := 3) (ret := some .int) (by decide) rfl ?_
  intro p e s m args below meth c s₁ B hml hv
  obtain ⟨rfl, hP, hK, -⟩ := hv
  have hx := B.exec
  have hb := B.bytes
  have hret := B.returns
  have hw := fun w (h : w ∈ WA) => atoms_spec (ws := wsM_value) B.pre w (List.mem_cons_of_mem _ h)
  have hown : s.vm.findClass "FunctionRoomModel" = some m.cls := findClass_of_methodNamed B.named
  have hlocks := B.notSynchronized
  have hS0 : CallFix p m c cX1_value 3 s _ WA "FunctionRoomModel" := ⟨hx, hb, hml, hown, hw⟩
  have hl := lv_entry ([.ref (bd 0), .int r, .int x0]) (n := 3) (Nat.le_of_ble_eq_true rfl)
  rw [lg_entry_eq]
  generalize (lg_sl ([.ref (bd 0), .int r, .int x0]) ++ List.replicate (3 - (lg_sl ([.ref (bd 0), .int r, .int x0])).length) Slot.unset).toArray = ls at hl ⊢
  replace hl : lv_has ls 3 [(0, .ref (bd 0)), (1, .int r), (2, .int x0)] := hl
  have h512 := fr_pow512 hV
  refine lv_iload_n hx hb dX1_value_0 rfl (lv_at hl 1 rfl) ?_
  refine fr_cSi (As := [.int r]) hS0 (cM_is l r) (cw_M_is hw ⟨Nat.le_of_ble_eq_true rfl, Nat.le_of_ble_eq_true rfl⟩) (fr_pre0) rfl hl.1 rfl (Nat.le_of_ble_eq_true rfl) dX1_value_1 ⟨Nat.zero_le _, Nat.zero_le _⟩ (fun b0 hb0 => ?_)
  rcases hb0 with ⟨rfl, hOj⟩ | ⟨rfl, hno⟩
  ·
    refine lv_if_eq (tgt := 19) hx hb dX1_value_4 rfl (fun hz => absurd hz (by decide)) (fun hz => ?_)
    obtain ⟨j, hLj, rfl⟩ := fr_ok_ex (by decide) hOj
    refine lv_iload_n hx hb dX1_value_7 rfl (lv_at hl 2 rfl) ?_
    refine lv_if_lt (tgt := 19) hx hb dX1_value_8 rfl (fun h1 => ?_) (fun h1 => ?_)
    ·
      refine lv_iconst (v := (-1)) hx hb dX1_value_19 (by decide) ?_
      exact W.iret (v := (-1)) hx hb hret (fun t ht hW => ⟨_, rfl, (if_neg (fr_and2 (Or.inr (fr_okB_no (fun z => z.1 h1))))).symm, ht⟩) (fun q hq => by cases hq) dX1_value_20
    ·
      refine lv_iload_n hx hb dX1_value_11 rfl (lv_at hl 2 rfl) ?_
      refine lv_aload_n hx hb dX1_value_12 rfl (lv_at hl 0 rfl) ?_
      refine fr_gM 1 hx hb hw hown hK hP (by decide) mG_all rfl dX1_value_13 ?_
      refine lv_icmp_lt (tgt := 21) hx hb dX1_value_16 rfl (fun h2 => ?_) (fun h2 => ?_)
      ·
        obtain ⟨x, hLx, rfl⟩ := fr_ok_ex (by omega) ⟨h1, fun z => fr_ltle h2 z⟩
        have hsp : fr_sValue V F (nI j) (nI x) = fr_bi (F j x) := by unfold fr_sValue; rw [if_pos (by rw [fr_okB_nI hLj (by omega), fr_okB_nI hLx (by omega)]; rfl), fr_v_nI (show j < 2 ^ 31 by omega), fr_v_nI (show x < 2 ^ 31 by omega)]
        refine lv_aload_n hx hb dX1_value_21 rfl (lv_at hl 0 rfl) ?_
        refine fr_gM 2 hx hb hw hown hK hP (by decide) mG_row rfl dX1_value_22 ?_
        refine lv_sipush (v := 512) hx hb dX1_value_25 (by decide) ?_
        refine lv_iload_n hx hb dX1_value_28 rfl (lv_at hl 1 rfl) ?_
        refine lv_imul hx hb dX1_value_29 ?_
        refine lv_iload_n hx hb dX1_value_30 rfl (lv_at hl 2 rfl) ?_
        refine lv_iadd hx hb dX1_value_31 ?_
        refine fr_top (show (((512 * nI j) + nI x) : Int32) = nI (512 * j + x) from by rw [show (512 : Int32) * nI j = nI (512 * j) from pk_mul 512 j]; exact nI_add _ _) ?_
        refine fr_zald hx hb hK hP 1 0 rfl rfl (show 512 * j + x < 16384 by omega) (by decide) dX1_value_32 ?_
        refine fr_top (show (row (512 * j + x) : Int32) = fr_bi (F j x) from hM j x hLj hLx) ?_
        refine lv_if_eq (tgt := 40) hx hb dX1_value_33 rfl (fun hz => ?_) (fun hz => ?_)
        ·
          refine lv_iconst (v := 0) hx hb dX1_value_40 (by decide) ?_
          exact W.iret (v := 0) hx hb hret (fun t ht hW => ⟨_, rfl, by rw [hsp, fr_bi_ne0.mp hz]; rfl, ht⟩) (fun q hq => by cases hq) dX1_value_41
        ·
          refine lv_iconst (v := 1) hx hb dX1_value_36 (by decide) ?_
          refine lv_goto (tgt := 41) hx hb dX1_value_37 rfl ?_
          exact W.iret (v := 1) hx hb hret (fun t ht hW => ⟨_, rfl, by rw [hsp, fr_bit hz]; rfl, ht⟩) (fun q hq => by cases hq) dX1_value_41
      ·
        refine lv_iconst (v := (-1)) hx hb dX1_value_19 (by decide) ?_
        exact W.iret (v := (-1)) hx hb hret (fun t ht hW => ⟨_, rfl, (if_neg (fr_and2 (Or.inr (fr_okB_no (fun z => h2 (fr_nle z)))))).symm, ht⟩) (fun q hq => by cases hq) dX1_value_20
  ·
    refine lv_if_eq (tgt := 19) hx hb dX1_value_4 rfl (fun hz => ?_) (fun hz => absurd rfl hz)
    refine lv_iconst (v := (-1)) hx hb dX1_value_19 (by decide) ?_
    exact W.iret (v := (-1)) hx hb hret (fun t ht hW => ⟨_, rfl, (if_neg (fr_and2 (Or.inl (fr_okB_no (hno))))).symm, ht⟩) (fun q hq => by cases hq) dX1_value_20
set_option maxHeartbeats 4000000 in
set_option maxRecDepth 100000 in
theorem cM_nth (l : Launch) (D : va_G) (V : Nat) (bd : Nat → Nat) (kb : Nat → ClassId) (row made : Nat → Int32) (F : fr_F) (hM : fr_MR V F row) (hV : V < 10) (hV1 : 1 ≤ V) (hinj : fr_injB bd) (r k : Int32)  : Met l yX1_nth wsM_nth rmM_nth (va_Pc [.ref (bd 0), .int r, .int k] (fr_PM D V bd kb row made)) (vp_Si (fun res => res = fr_sNth V F r k)) 0 0 (fun _ => False) := by
  refine Met.ofW (cc := cX1_nth) (maxL := 5) (ret := some .int) (by decide) rfl ?_
  intro p e s m args below meth c s₁ B hml hv
  obtain ⟨rfl, hP, hK, -⟩ := hv
  have hx := B.exec
  have hb := B.bytes
  have hret := B.returns
  have hw := fun w (h : w ∈ WA) => atoms_spec (ws := wsM_nth) B.pre w (List.mem_cons_of_mem _ h)
  have hown : s.vm.findClass "FunctionRoomModel" = some m.cls := findClass_of_methodNamed B.named
  have hlocks := B.notSynchronized
  have hS0 : CallFix p m c cX1_nth 5 s _ WA "FunctionRoomModel" := ⟨hx, hb, hml, hown, hw⟩
  have hl := lv_entry ([.ref (bd 0), .int r, .int k]) (n := 5) (Nat.le_of_ble_eq_true rfl)
  rw [lg_entry_eq]
  generalize (lg_sl ([.ref (bd 0), .int r, .int k]) ++ List.replicate (5 - (lg_sl ([.ref (bd 0), .int r, .int k])).length) Slot.unset).toArray = ls at hl ⊢
  replace hl : lv_has ls 5 [(0, .ref (bd 0)), (1, .int r), (2, .int k)] := hl
  have h512 := fr_pow512 hV
  refine lv_iload_n hx hb dX1_nth_0 rfl (lv_at hl 1 rfl) ?_
  refine fr_cSi (As := [.int r]) hS0 (cM_is l r) (cw_M_is hw ⟨Nat.le_of_ble_eq_true rfl, Nat.le_of_ble_eq_true rfl⟩) (fr_pre0) rfl hl.1 rfl (Nat.le_of_ble_eq_true rfl) dX1_nth_1 ⟨Nat.zero_le _, Nat.zero_le _⟩ (fun b0 hb0 => ?_)
  rcases hb0 with ⟨rfl, hOj⟩ | ⟨rfl, hno⟩
  ·
    refine lv_if_ne (tgt := 9) hx hb dX1_nth_4 rfl (fun hz => ?_) (fun hz => absurd hz (by decide))
    obtain ⟨j, hLj, rfl⟩ := fr_ok_ex (by decide) hOj
    refine lv_iconst (v := 0) hx hb dX1_nth_9 (by decide) ?_
    refine lv_istore_n hx hb dX1_nth_10 rfl hl (by decide) rfl (fun ls hl => ?_)
    replace hl : lv_has ls 5 [(3, .int 0), (0, .ref (bd 0)), (1, .int (nI j)), (2, .int k)] := hl
    refine lv_iconst (v := 0) hx hb dX1_nth_11 (by decide) ?_
    refine lv_istore hx hb dX1_nth_12 hl (by decide) rfl (fun ls hl => ?_)
    replace hl : lv_has ls 5 [(4, .int 0), (3, .int 0), (0, .ref (bd 0)), (1, .int (nI j)), (2, .int k)] := hl
    have hsp : fr_sNth V F (nI j) k = fr_nthS (F j) k (2 ^ V) 0 0 := by unfold fr_sNth; rw [if_pos (fr_okB_nI hLj (by decide)), fr_v_nI (show j < 2 ^ 31 by omega)]
    obtain ⟨n, i, c0, hin, hi0, hc0⟩ : ∃ n i c0 : Nat, i + n = 2 ^ V ∧ i = 0 ∧ c0 = 0 := ⟨2 ^ V, 0, 0, by omega, rfl, rfl⟩
    replace hl : lv_has ls 5 [(4, .int (nI i)), (3, .int (nI c0)), (0, .ref (bd 0)), (1, .int (nI j)), (2, .int k)] := by rw [hi0, hc0]; exact hl
    have hg : fr_nthS (F j) k n i c0 = fr_sNth V F (nI j) k := by rw [hsp, hi0, hc0, show n = 2 ^ V by omega]
    have hci : c0 ≤ i := by omega
    clear hi0 hc0 hsp
    induction n generalizing i ls c0 with
    | zero =>
      refine lv_iload hx hb dX1_nth_14 (lv_at hl 0 rfl) ?_
      refine lv_aload_n hx hb dX1_nth_16 rfl (lv_at hl 2 rfl) ?_
      refine fr_gM 1 hx hb hw hown hK hP (by decide) mG_all rfl dX1_nth_17 ?_
      refine lv_icmp_ge (tgt := 59) hx hb dX1_nth_20 rfl (fun hcm => ?_) (fun hcm => absurd (nI_le (show 2 ^ V ≤ i by omega) (by omega)) hcm)
      refine lv_bipush (v := (-2)) hx hb dX1_nth_59 (by decide) ?_
      exact W.iret (v := (-2)) hx hb hret (fun t ht hW => ⟨_, rfl, by rw [← hg]; rfl, ht⟩) (fun q hq => by cases hq) dX1_nth_61
    | succ n ih =>
      refine lv_iload hx hb dX1_nth_14 (lv_at hl 0 rfl) ?_
      refine lv_aload_n hx hb dX1_nth_16 rfl (lv_at hl 2 rfl) ?_
      refine fr_gM 1 hx hb hw hown hK hP (by decide) mG_all rfl dX1_nth_17 ?_
      refine lv_icmp_ge (tgt := 59) hx hb dX1_nth_20 rfl (fun hcm => absurd hcm (nI_ge (show i < 2 ^ V by omega) (by omega))) (fun hcm => ?_)
      have hi : i < 2 ^ V := by omega
      refine lv_aload_n hx hb dX1_nth_23 rfl (lv_at hl 2 rfl) ?_
      refine fr_gM 2 hx hb hw hown hK hP (by decide) mG_row rfl dX1_nth_24 ?_
      refine lv_sipush (v := 512) hx hb dX1_nth_27 (by decide) ?_
      refine lv_iload_n hx hb dX1_nth_30 rfl (lv_at hl 3 rfl) ?_
      refine lv_imul hx hb dX1_nth_31 ?_
      refine lv_iload hx hb dX1_nth_32 (lv_at hl 0 rfl) ?_
      refine lv_iadd hx hb dX1_nth_34 ?_
      refine fr_top (show (((512 * nI j) + nI i) : Int32) = nI (512 * j + i) from by rw [show (512 : Int32) * nI j = nI (512 * j) from pk_mul 512 j]; exact nI_add _ _) ?_
      refine fr_zald hx hb hK hP 1 0 rfl rfl (show 512 * j + i < 16384 by omega) (by decide) dX1_nth_35 ?_
      refine fr_top (show (row (512 * j + i) : Int32) = fr_bi (F j i) from hM j i hLj hi) ?_
      refine lv_if_ne (tgt := 42) hx hb dX1_nth_36 rfl (fun hz => ?_) (fun hz => ?_)
      ·
        have h3 : F j i = true := fr_bit hz
        refine lv_iload_n hx hb dX1_nth_42 rfl (lv_at hl 1 rfl) ?_
        refine lv_iload_n hx hb dX1_nth_43 rfl (lv_at hl 4 rfl) ?_
        refine lv_icmp_ne (tgt := 50) hx hb dX1_nth_44 rfl (fun h4 => ?_) (fun h4 => ?_)
        ·
          refine lv_iinc (k := 1) (v := nI (c0 + 1)) hx hb dX1_nth_50 hl rfl (fr_inc c0) (by decide) rfl (fun ls hl => ?_)
          replace hl : lv_has ls 5 [(3, .int (nI (c0 + 1))), (4, .int (nI i)), (0, .ref (bd 0)), (1, .int (nI j)), (2, .int k)] := hl
          refine lv_iinc (k := 1) (v := nI (i + 1)) hx hb dX1_nth_53 hl rfl (fr_inc i) (by decide) rfl (fun ls hl => ?_)
          replace hl : lv_has ls 5 [(4, .int (nI (i + 1))), (3, .int (nI (c0 + 1))), (0, .ref (bd 0)), (1, .int (nI j)), (2, .int k)] := hl
          refine lv_goto (tgt := 14) hx hb dX1_nth_56 rfl ?_
          exact ih ls (i + 1) (c0 + 1) (by omega) (lv_sub hl [0, 1, 2, 3, 4] rfl) (by rw [← hg]; show _ = (if F j i = true then (if nI c0 = k then _ else _) else _); rw [h3, if_pos rfl, if_neg h4]) (by omega)
        ·
          refine lv_iload hx hb dX1_nth_47 (lv_at hl 0 rfl) ?_
          exact W.iret (v := nI i) hx hb hret (fun t ht hW => ⟨_, rfl, by rw [← hg]; show _ = (if F j i = true then (if nI c0 = k then _ else _) else _); rw [h3, if_pos rfl, if_pos h4], ht⟩) (fun q hq => by cases hq) dX1_nth_49
      ·
        have h3 : F j i = false := fr_bi_ne0.mp hz
        refine lv_goto (tgt := 53) hx hb dX1_nth_39 rfl ?_
        refine lv_iinc (k := 0) (v := nI (i + 1)) hx hb dX1_nth_53 hl rfl (fr_inc i) (by decide) rfl (fun ls hl => ?_)
        replace hl : lv_has ls 5 [(4, .int (nI (i + 1))), (3, .int (nI c0)), (0, .ref (bd 0)), (1, .int (nI j)), (2, .int k)] := hl
        refine lv_goto (tgt := 14) hx hb dX1_nth_56 rfl ?_
        exact ih ls (i + 1) c0 (by omega) (lv_sub hl [0, 1, 2, 3, 4] rfl) (by rw [← hg]; show _ = (if F j i = true then _ else _); rw [h3]; rfl) (by omega)
  ·
    refine lv_if_ne (tgt := 9) hx hb dX1_nth_4 rfl (fun hz => absurd rfl hz) (fun hz => ?_)
    refine lv_iconst (v := (-1)) hx hb dX1_nth_7 (by decide) ?_
    exact W.iret (v := (-1)) hx hb hret (fun t ht hW => ⟨_, rfl, (if_neg (by rw [fr_okB_no (hno)]; decide)).symm, ht⟩) (fun q hq => by cases hq) dX1_nth_8
set_option maxHeartbeats 4000000 in
set_option maxRecDepth 100000 in
theorem cM_same (l : Launch) (D : va_G) (V : Nat) (bd : Nat → Nat) (kb : Nat → ClassId) (row made : Nat → Int32) (F : fr_F) (hM : fr_MR V F row) (hV : V < 10) (hV1 : 1 ≤ V) (hinj : fr_injB bd) (a b : Int32)  : Met l yX1_same wsM_same rmM_same (va_Pc [.ref (bd 0), .int a, .int b] (fr_PM D V bd kb row made)) (vp_Si (fun res => res = fr_sSame V F a b)) 0 0 (fun _ => False) := by
  refine Met.ofW (cc := cX1_same) (maxL := 4) (ret := some .boolean) (by decide) rfl ?_
  intro p e s m args below meth c s₁ B hml hv
  obtain ⟨rfl, hP, hK, -⟩ := hv
  have hx := B.exec
  have hb := B.bytes
  have hret := B.returns
  have hw := fun w (h : w ∈ WA) => atoms_spec (ws := wsM_same) B.pre w (List.mem_cons_of_mem _ h)
  have hown : s.vm.findClass "FunctionRoomModel" = some m.cls := findClass_of_methodNamed B.named
  have hlocks := B.notSynchronized
  have hS0 : CallFix p m c cX1_same 4 s _ WA "FunctionRoomModel" := ⟨hx, hb, hml, hown, hw⟩
  have hl := lv_entry ([.ref (bd 0), .int a, .int b]) (n := 4) (Nat.le_of_ble_eq_true rfl)
  rw [lg_entry_eq]
  generalize (lg_sl ([.ref (bd 0), .int a, .int b]) ++ List.replicate (4 - (lg_sl ([.ref (bd 0), .int a, .int b])).length) Slot.unset).toArray = ls at hl ⊢
  replace hl : lv_has ls 4 [(0, .ref (bd 0)), (1, .int a), (2, .int b)] := hl
  have h512 := fr_pow512 hV
  refine lv_iload_n hx hb dX1_same_0 rfl (lv_at hl 1 rfl) ?_
  refine fr_cSi (As := [.int a]) hS0 (cM_is l a) (cw_M_is hw ⟨Nat.le_of_ble_eq_true rfl, Nat.le_of_ble_eq_true rfl⟩) (fr_pre0) rfl hl.1 rfl (Nat.le_of_ble_eq_true rfl) dX1_same_1 ⟨Nat.zero_le _, Nat.zero_le _⟩ (fun b0 hb0 => ?_)
  rcases hb0 with ⟨rfl, hOra⟩ | ⟨rfl, hno⟩
  ·
    refine lv_if_eq (tgt := 14) hx hb dX1_same_4 rfl (fun hz => absurd hz (by decide)) (fun hz => ?_)
    obtain ⟨ra, hLra, rfl⟩ := fr_ok_ex (by decide) hOra
    refine lv_iload_n hx hb dX1_same_7 rfl (lv_at hl 2 rfl) ?_
    refine fr_cSi (As := [.int b]) hS0 (cM_is l b) (cw_M_is hw ⟨Nat.le_of_ble_eq_true rfl, Nat.le_of_ble_eq_true rfl⟩) (fr_pre0) rfl hl.1 rfl (Nat.le_of_ble_eq_true rfl) dX1_same_8 ⟨Nat.zero_le _, Nat.zero_le _⟩ (fun b0 hb0 => ?_)
    rcases hb0 with ⟨rfl, hOrb⟩ | ⟨rfl, hno⟩
    ·
      refine lv_if_ne (tgt := 16) hx hb dX1_same_11 rfl (fun hz => ?_) (fun hz => absurd hz (by decide))
      obtain ⟨rb, hLrb, rfl⟩ := fr_ok_ex (by decide) hOrb
      refine lv_iconst (v := 0) hx hb dX1_same_16 (by decide) ?_
      refine lv_istore_n hx hb dX1_same_17 rfl hl (by decide) rfl (fun ls hl => ?_)
      replace hl : lv_has ls 4 [(3, .int 0), (0, .ref (bd 0)), (1, .int (nI ra)), (2, .int (nI rb))] := hl
      have hsp : fr_sSame V F (nI ra) (nI rb) = fr_bi (fr_eqB V (F ra) (F rb)) := by unfold fr_sSame; rw [if_pos (by rw [fr_okB_nI hLra (by omega), fr_okB_nI hLrb (by omega)]; rfl), fr_v_nI (show ra < 2 ^ 31 by omega), fr_v_nI (show rb < 2 ^ 31 by omega)]
      obtain ⟨n, i, hin, hi0⟩ : ∃ n i : Nat, i + n = 2 ^ V ∧ i = 0 := ⟨2 ^ V, 0, Nat.zero_add _, rfl⟩
      replace hl : lv_has ls 4 [(3, .int (nI i)), (0, .ref (bd 0)), (1, .int (nI ra)), (2, .int (nI rb))] := by rw [hi0]; exact hl
      have hg : ∀ x, x < i → F ra x = F rb x := fun x h => absurd h (by omega)
      clear hi0
      induction n generalizing i ls  with
      | zero =>
        refine lv_iload_n hx hb dX1_same_18 rfl (lv_at hl 0 rfl) ?_
        refine lv_aload_n hx hb dX1_same_19 rfl (lv_at hl 1 rfl) ?_
        refine fr_gM 1 hx hb hw hown hK hP (by decide) mG_all rfl dX1_same_20 ?_
        refine lv_icmp_ge (tgt := 61) hx hb dX1_same_23 rfl (fun hcm => ?_) (fun hcm => absurd (nI_le (show 2 ^ V ≤ i by omega) (by omega)) hcm)
        refine lv_iconst (v := 1) hx hb dX1_same_61 (by decide) ?_
        exact W.zret (v := 1) hx hb hret rfl (fun t ht hW => ⟨_, rfl, by rw [hsp, show fr_eqB V (F ra) (F rb) = true from decide_eq_true (fun x h => hg x (by omega))]; rfl, ht⟩) (fun q hq => by cases hq) dX1_same_62
      | succ n ih =>
        refine lv_iload_n hx hb dX1_same_18 rfl (lv_at hl 0 rfl) ?_
        refine lv_aload_n hx hb dX1_same_19 rfl (lv_at hl 1 rfl) ?_
        refine fr_gM 1 hx hb hw hown hK hP (by decide) mG_all rfl dX1_same_20 ?_
        refine lv_icmp_ge (tgt := 61) hx hb dX1_same_23 rfl (fun hcm => absurd hcm (nI_ge (show i < 2 ^ V by omega) (by omega))) (fun hcm => ?_)
        have hi : i < 2 ^ V := by omega
        refine lv_aload_n hx hb dX1_same_26 rfl (lv_at hl 1 rfl) ?_
        refine fr_gM 2 hx hb hw hown hK hP (by decide) mG_row rfl dX1_same_27 ?_
        refine lv_sipush (v := 512) hx hb dX1_same_30 (by decide) ?_
        refine lv_iload_n hx hb dX1_same_33 rfl (lv_at hl 2 rfl) ?_
        refine lv_imul hx hb dX1_same_34 ?_
        refine lv_iload_n hx hb dX1_same_35 rfl (lv_at hl 0 rfl) ?_
        refine lv_iadd hx hb dX1_same_36 ?_
        refine fr_top (show (((512 * nI ra) + nI i) : Int32) = nI (512 * ra + i) from by rw [show (512 : Int32) * nI ra = nI (512 * ra) from pk_mul 512 ra]; exact nI_add _ _) ?_
        refine fr_zald hx hb hK hP 1 0 rfl rfl (show 512 * ra + i < 16384 by omega) (by decide) dX1_same_37 ?_
        refine fr_top (show (row (512 * ra + i) : Int32) = fr_bi (F ra i) from hM ra i hLra hi) ?_
        refine lv_aload_n hx hb dX1_same_38 rfl (lv_at hl 1 rfl) ?_
        refine fr_gM 2 hx hb hw hown hK hP (by decide) mG_row rfl dX1_same_39 ?_
        refine lv_sipush (v := 512) hx hb dX1_same_42 (by decide) ?_
        refine lv_iload_n hx hb dX1_same_45 rfl (lv_at hl 3 rfl) ?_
        refine lv_imul hx hb dX1_same_46 ?_
        refine lv_iload_n hx hb dX1_same_47 rfl (lv_at hl 0 rfl) ?_
        refine lv_iadd hx hb dX1_same_48 ?_
        refine fr_top (show (((512 * nI rb) + nI i) : Int32) = nI (512 * rb + i) from by rw [show (512 : Int32) * nI rb = nI (512 * rb) from pk_mul 512 rb]; exact nI_add _ _) ?_
        refine fr_zald hx hb hK hP 1 0 rfl rfl (show 512 * rb + i < 16384 by omega) (by decide) dX1_same_49 ?_
        refine fr_top (show (row (512 * rb + i) : Int32) = fr_bi (F rb i) from hM rb i hLrb hi) ?_
        refine lv_icmp_eq (tgt := 55) hx hb dX1_same_50 rfl (fun hz => ?_) (fun hz => ?_)
        ·
          refine lv_iinc (k := 0) (v := nI (i + 1)) hx hb dX1_same_55 hl rfl (fr_inc i) (by decide) rfl (fun ls hl => ?_)
          replace hl : lv_has ls 4 [(3, .int (nI (i + 1))), (0, .ref (bd 0)), (1, .int (nI ra)), (2, .int (nI rb))] := hl
          refine lv_goto (tgt := 18) hx hb dX1_same_58 rfl ?_
          exact ih ls (i + 1) (by omega) (lv_sub hl [0, 1, 2, 3] rfl) (lt_s hg (fr_bi_inj.mp hz))
        ·
          refine lv_iconst (v := 0) hx hb dX1_same_53 (by decide) ?_
          exact W.zret (v := 0) hx hb hret rfl (fun t ht hW => ⟨_, rfl, by rw [hsp, show fr_eqB V (F ra) (F rb) = false from decide_eq_false (fun z => hz (fr_bi_inj.mpr (z i hi)))]; rfl, ht⟩) (fun q hq => by cases hq) dX1_same_54
    ·
      refine lv_if_ne (tgt := 16) hx hb dX1_same_11 rfl (fun hz => absurd rfl hz) (fun hz => ?_)
      refine lv_iconst (v := 0) hx hb dX1_same_14 (by decide) ?_
      exact W.zret (v := 0) hx hb hret rfl (fun t ht hW => ⟨_, rfl, (if_neg (fr_and2 (Or.inr (fr_okB_no (hno))))).symm, ht⟩) (fun q hq => by cases hq) dX1_same_15
  ·
    refine lv_if_eq (tgt := 14) hx hb dX1_same_4 rfl (fun hz => ?_) (fun hz => absurd rfl hz)
    refine lv_iconst (v := 0) hx hb dX1_same_14 (by decide) ?_
    exact W.zret (v := 0) hx hb hret rfl (fun t ht hW => ⟨_, rfl, (if_neg (fr_and2 (Or.inl (fr_okB_no (hno))))).symm, ht⟩) (fun q hq => by cases hq) dX1_same_15
set_option maxHeartbeats 4000000 in
set_option maxRecDepth 100000 in
theorem cM_alike (l : Launch) (D : va_G) (V : Nat) (bd : Nat → Nat) (kb : Nat → ClassId) (row made : Nat → Int32) (F : fr_F) (hM : fr_MR V F row) (hV : V < 10) (hV1 : 1 ≤ V) (hinj : fr_injB bd) (j x y n0 : Nat) (hLj : j < 32) (hxn : x + n0 ≤ 2 ^ V) (hyn : y + n0 ≤ 2 ^ V) : Met l yX1_alike wsM_alike rmM_alike (va_Pc [.ref (bd 0), .int (nI j), .int (nI x), .int (nI y), .int (nI n0)] (fr_PM D V bd kb row made)) (vp_Si (fun res => res = fr_bi (fr_al (F j) x y n0))) 0 0 (fun _ => False) := by
  refine Met.ofW (cc := cX1_alike) (maxL := 6) (ret := some .boolean) (by decide) rfl ?_
  intro p e s m args below meth c s₁ B hml hv
  obtain ⟨rfl, hP, hK, -⟩ := hv
  have hx := B.exec
  have hb := B.bytes
  have hret := B.returns
  have hw := fun w (h : w ∈ WA) => atoms_spec (ws := wsM_alike) B.pre w (List.mem_cons_of_mem _ h)
  have hown : s.vm.findClass "FunctionRoomModel" = some m.cls := findClass_of_methodNamed B.named
  have hlocks := B.notSynchronized
  have hS0 : CallFix p m c cX1_alike 6 s _ WA "FunctionRoomModel" := ⟨hx, hb, hml, hown, hw⟩
  have hl := lv_entry ([.ref (bd 0), .int (nI j), .int (nI x), .int (nI y), .int (nI n0)]) (n := 6) (Nat.le_of_ble_eq_true rfl)
  rw [lg_entry_eq]
  generalize (lg_sl ([.ref (bd 0), .int (nI j), .int (nI x), .int (nI y), .int (nI n0)]) ++ List.replicate (6 - (lg_sl ([.ref (bd 0), .int (nI j), .int (nI x), .int (nI y), .int (nI n0)])).length) Slot.unset).toArray = ls at hl ⊢
  replace hl : lv_has ls 6 [(0, .ref (bd 0)), (1, .int (nI j)), (2, .int (nI x)), (3, .int (nI y)), (4, .int (nI n0))] := hl
  have h512 := fr_pow512 hV
  refine lv_iconst (v := 0) hx hb dX1_alike_0 (by decide) ?_
  refine lv_istore hx hb dX1_alike_1 hl (by decide) rfl (fun ls hl => ?_)
  replace hl : lv_has ls 6 [(5, .int 0), (0, .ref (bd 0)), (1, .int (nI j)), (2, .int (nI x)), (3, .int (nI y)), (4, .int (nI n0))] := hl
  obtain ⟨n, i, hin, hi0⟩ : ∃ n i : Nat, i + n = n0 ∧ i = 0 := ⟨n0, 0, Nat.zero_add _, rfl⟩
  replace hl : lv_has ls 6 [(5, .int (nI i)), (0, .ref (bd 0)), (1, .int (nI j)), (2, .int (nI x)), (3, .int (nI y)), (4, .int (nI n0))] := by rw [hi0]; exact hl
  have hg : ∀ k, k < i → F j (x + k) = F j (y + k) := fun k h => absurd h (by omega)
  clear hi0
  induction n generalizing i ls  with
  | zero =>
    refine lv_iload hx hb dX1_alike_3 (lv_at hl 0 rfl) ?_
    refine lv_iload hx hb dX1_alike_5 (lv_at hl 5 rfl) ?_
    refine lv_icmp_ge (tgt := 51) hx hb dX1_alike_7 rfl (fun hcm => ?_) (fun hcm => absurd (nI_le (show n0 ≤ i by omega) (by omega)) hcm)
    refine lv_iconst (v := 1) hx hb dX1_alike_51 (by decide) ?_
    exact W.zret (v := 1) hx hb hret rfl (fun t ht hW => ⟨_, rfl, by rw [show fr_al (F j) x y n0 = true from fr_al_iff.mpr (fun k h => hg k (by omega))]; rfl, ht⟩) (fun q hq => by cases hq) dX1_alike_52
  | succ n ih =>
    refine lv_iload hx hb dX1_alike_3 (lv_at hl 0 rfl) ?_
    refine lv_iload hx hb dX1_alike_5 (lv_at hl 5 rfl) ?_
    refine lv_icmp_ge (tgt := 51) hx hb dX1_alike_7 rfl (fun hcm => absurd hcm (nI_ge (show i < n0 by omega) (by omega))) (fun hcm => ?_)
    have hi : i < n0 := by omega
    refine lv_aload_n hx hb dX1_alike_10 rfl (lv_at hl 1 rfl) ?_
    refine fr_gM 2 hx hb hw hown hK hP (by decide) mG_row rfl dX1_alike_11 ?_
    refine lv_sipush (v := 512) hx hb dX1_alike_14 (by decide) ?_
    refine lv_iload_n hx hb dX1_alike_17 rfl (lv_at hl 2 rfl) ?_
    refine lv_imul hx hb dX1_alike_18 ?_
    refine lv_iload_n hx hb dX1_alike_19 rfl (lv_at hl 3 rfl) ?_
    refine lv_iadd hx hb dX1_alike_20 ?_
    refine lv_iload hx hb dX1_alike_21 (lv_at hl 0 rfl) ?_
    refine lv_iadd hx hb dX1_alike_23 ?_
    refine fr_top (show ((((512 * nI j) + nI x) + nI i) : Int32) = nI (512 * j + (x + i)) from by rw [show (512 : Int32) * nI j = nI (512 * j) from pk_mul 512 j, nI_add, nI_add]; congr 1; omega) ?_
    refine fr_zald hx hb hK hP 1 0 rfl rfl (show 512 * j + (x + i) < 16384 by omega) (by decide) dX1_alike_24 ?_
    refine fr_top (show (row (512 * j + (x + i)) : Int32) = fr_bi (F j (x + i)) from hM j (x + i) hLj (by omega)) ?_
    refine lv_aload_n hx hb dX1_alike_25 rfl (lv_at hl 1 rfl) ?_
    refine fr_gM 2 hx hb hw hown hK hP (by decide) mG_row rfl dX1_alike_26 ?_
    refine lv_sipush (v := 512) hx hb dX1_alike_29 (by decide) ?_
    refine lv_iload_n hx hb dX1_alike_32 rfl (lv_at hl 2 rfl) ?_
    refine lv_imul hx hb dX1_alike_33 ?_
    refine lv_iload_n hx hb dX1_alike_34 rfl (lv_at hl 4 rfl) ?_
    refine lv_iadd hx hb dX1_alike_35 ?_
    refine lv_iload hx hb dX1_alike_36 (lv_at hl 0 rfl) ?_
    refine lv_iadd hx hb dX1_alike_38 ?_
    refine fr_top (show ((((512 * nI j) + nI y) + nI i) : Int32) = nI (512 * j + (y + i)) from by rw [show (512 : Int32) * nI j = nI (512 * j) from pk_mul 512 j, nI_add, nI_add]; congr 1; omega) ?_
    refine fr_zald hx hb hK hP 1 0 rfl rfl (show 512 * j + (y + i) < 16384 by omega) (by decide) dX1_alike_39 ?_
    refine fr_top (show (row (512 * j + (y + i)) : Int32) = fr_bi (F j (y + i)) from hM j (y + i) hLj (by omega)) ?_
    refine lv_icmp_eq (tgt := 45) hx hb dX1_alike_40 rfl (fun hz => ?_) (fun hz => ?_)
    ·
      refine lv_iinc (k := 0) (v := nI (i + 1)) hx hb dX1_alike_45 hl rfl (fr_inc i) (by decide) rfl (fun ls hl => ?_)
      replace hl : lv_has ls 6 [(5, .int (nI (i + 1))), (0, .ref (bd 0)), (1, .int (nI j)), (2, .int (nI x)), (3, .int (nI y)), (4, .int (nI n0))] := hl
      refine lv_goto (tgt := 3) hx hb dX1_alike_48 rfl ?_
      exact ih ls (i + 1) (by omega) (lv_sub hl [0, 1, 2, 3, 4, 5] rfl) (lt_s hg (fr_bi_inj.mp hz))
    ·
      refine lv_iconst (v := 0) hx hb dX1_alike_43 (by decide) ?_
      exact W.zret (v := 0) hx hb hret rfl (fun t ht hW => ⟨_, rfl, by rw [show fr_al (F j) x y n0 = false from decide_eq_false (fun z => hz (fr_bi_inj.mpr (z i hi)))]; rfl, ht⟩) (fun q hq => by cases hq) dX1_alike_44
end
section
set_option maxHeartbeats 4000000 in
set_option maxRecDepth 100000 in
theorem cM_matters (l : Launch) (D : va_G) (V : Nat) (bd : Nat → Nat) (kb : Nat → ClassId) (row made : Nat → Int32) (F : fr_F) (hM : fr_MR V F row) (hV : V < 10) (hV1 : 1 ≤ V) (hinj : fr_injB bd) (r : Int32) : Met l yX1_matters wsM_matters rmM_matters (va_Pc [.ref (bd 0), .int r] (fr_PM D V bd kb row made)) (vp_Si (fun res => res = fr_sMatters V F r)) 0 0 (fun _ => False) := by
  refine Met.ofW (cc := cX1_matters) (maxL := 5) (ret := some .int) (by decide) rfl ?_
  intro p e s m args below meth c s₁ B hml hv
  obtain ⟨rfl, hP, hK, -⟩ := hv
  have hx := B.exec
  have hb := B.bytes
  have hret := B.returns
  have hw := fun w (h : w ∈ WA) => atoms_spec (ws := wsM_matters) B.pre w (List.mem_cons_of_mem _ h)
  have hown : s.vm.findClass "FunctionRoomModel" = some m.cls := findClass_of_methodNamed B.named
  have hlocks := B.notSynchronized
  have hS0 : CallFix p m c cX1_matters 5 s _ WA "FunctionRoomModel" := ⟨hx, hb, hml, hown, hw⟩
  have hl := lv_entry ([.ref (bd 0), .int r]) (n := 5) (Nat.le_of_ble_eq_true rfl)
  rw [lg_entry_eq]
  generalize (lg_sl ([.ref (bd 0), .int r]) ++ List.replicate (5 - (lg_sl ([.ref (bd 0), .int r])).length) Slot.unset).toArray = ls at hl ⊢
  replace hl : lv_has ls 5 [(0, .ref (bd 0)), (1, .int r)] := hl
  have h512 := fr_pow512 hV
  refine lv_iload_n hx hb dX1_matters_0 rfl (lv_at hl 1 rfl) ?_
  refine fr_cSi (As := [.int r]) hS0 (cM_is l r) (cw_M_is hw ⟨Nat.le_of_ble_eq_true rfl, Nat.le_of_ble_eq_true rfl⟩) (fr_pre0) rfl hl.1 rfl (Nat.le_of_ble_eq_true rfl) dX1_matters_1 ⟨Nat.zero_le _, Nat.zero_le _⟩ (fun b0 hb0 => ?_)
  rcases hb0 with ⟨rfl, hOj⟩ | ⟨rfl, hno⟩
  ·
    refine lv_if_ne (tgt := 9) hx hb dX1_matters_4 rfl (fun hz => ?_) (fun hz => absurd hz (by decide))
    obtain ⟨j, hLj, rfl⟩ := fr_ok_ex (by decide) hOj
    refine lv_iconst (v := 0) hx hb dX1_matters_9 (by decide) ?_
    refine lv_istore_n hx hb dX1_matters_10 rfl hl (by decide) rfl (fun ls hl => ?_)
    replace hl : lv_has ls 5 [(2, .int 0), (0, .ref (bd 0)), (1, .int (nI j))] := hl
    refine lv_iconst (v := 0) hx hb dX1_matters_11 (by decide) ?_
    refine lv_istore_n hx hb dX1_matters_12 rfl hl (by decide) rfl (fun ls hl => ?_)
    replace hl : lv_has ls 5 [(3, .int 0), (2, .int 0), (0, .ref (bd 0)), (1, .int (nI j))] := hl
    obtain ⟨n, i, hin, hi0⟩ : ∃ n i : Nat, i + n = V ∧ i = 0 := ⟨V, 0, Nat.zero_add _, rfl⟩
    replace hl : lv_has ls 5 [(3, .int (nI i)), (2, .int (nI (fr_mt V (F j) i))), (0, .ref (bd 0)), (1, .int (nI j))] := by rw [hi0]; exact hl
    clear hi0
    induction n generalizing i ls  with
    | zero =>
      refine lv_iload_n hx hb dX1_matters_13 rfl (lv_at hl 0 rfl) ?_
      refine lv_aload_n hx hb dX1_matters_14 rfl (lv_at hl 2 rfl) ?_
      refine fr_gM 0 hx hb hw hown hK hP (by decide) mG_variables rfl dX1_matters_15 ?_
      refine lv_icmp_ge (tgt := 86) hx hb dX1_matters_18 rfl (fun hcm => ?_) (fun hcm => absurd (nI_le (show V ≤ i by omega) (by omega)) hcm)
      refine lv_iload_n hx hb dX1_matters_86 rfl (lv_at hl 1 rfl) ?_
      exact W.iret (v := nI (fr_mt V (F j) i)) hx hb hret (fun t ht hW => ⟨_, rfl, by unfold fr_sMatters; rw [if_pos (fr_okB_nI hLj (by decide)), fr_v_nI (show j < 2 ^ 31 by omega), show i = V by omega], ht⟩) (fun q hq => by cases hq) dX1_matters_87
    | succ n ih =>
      refine lv_iload_n hx hb dX1_matters_13 rfl (lv_at hl 0 rfl) ?_
      refine lv_aload_n hx hb dX1_matters_14 rfl (lv_at hl 2 rfl) ?_
      refine fr_gM 0 hx hb hw hown hK hP (by decide) mG_variables rfl dX1_matters_15 ?_
      refine lv_icmp_ge (tgt := 86) hx hb dX1_matters_18 rfl (fun hcm => absurd hcm (nI_ge (show i < V by omega) (by omega))) (fun hcm => ?_)
      have hi : i < V := by omega
      have hiV := hi
      refine lv_iconst (v := 0) hx hb dX1_matters_21 (by decide) ?_
      refine lv_istore hx hb dX1_matters_22 hl (by decide) rfl (fun ls hl => ?_)
      replace hl : lv_has ls 5 [(4, .int 0), (3, .int (nI i)), (2, .int (nI (fr_mt V (F j) i))), (0, .ref (bd 0)), (1, .int (nI j))] := hl
      obtain ⟨n2, x, hin2, hx0⟩ : ∃ n2 x : Nat, x + n2 = 2 ^ V ∧ x = 0 := ⟨2 ^ V, 0, by omega, rfl⟩
      obtain ⟨sn, hsn, hs0⟩ : ∃ sn : Bool, (sn = false ↔ ∀ y, y < x → F j y = F j (y ^^^ 2 ^ (V - 1 - i))) ∧ sn = false := ⟨false, ⟨fun _ y h => by omega, fun _ => rfl⟩, rfl⟩
      replace hl : lv_has ls 5 [(4, .int (nI x)), (2, .int (nI (fr_mt V (F j) i + (if sn = true then 2 ^ i else 0)))), (3, .int (nI i)), (0, .ref (bd 0)), (1, .int (nI j))] := by rw [hx0, hs0]; exact lv_sub hl [0, 2, 1, 3, 4] rfl
      clear hx0 hs0
      induction n2 generalizing x ls sn with
      | zero =>
        refine lv_iload hx hb dX1_matters_24 (lv_at hl 0 rfl) ?_
        refine lv_aload_n hx hb dX1_matters_26 rfl (lv_at hl 3 rfl) ?_
        refine fr_gM 1 hx hb hw hown hK hP (by decide) mG_all rfl dX1_matters_27 ?_
        refine lv_icmp_ge (tgt := 80) hx hb dX1_matters_30 rfl (fun hcm => ?_) (fun hcm => absurd (nI_le (show 2 ^ V ≤ x by omega) (by omega)) hcm)
        refine lv_iinc (k := 2) (v := nI (i + 1)) hx hb dX1_matters_80 hl rfl (fr_inc i) (by decide) rfl (fun ls hl => ?_)
        replace hl : lv_has ls 5 [(3, .int (nI (i + 1))), (4, .int (nI x)), (2, .int (nI (fr_mt V (F j) i + (if sn = true then 2 ^ i else 0)))), (0, .ref (bd 0)), (1, .int (nI j))] := hl
        refine lv_goto (tgt := 13) hx hb dX1_matters_83 rfl ?_
        have hmt : fr_mt V (F j) (i + 1) = fr_mt V (F j) i + (if sn = true then 2 ^ i else 0) := by rw [show x = 2 ^ V by omega] at hsn; exact fr_mts hsn
        exact ih ls (i + 1) (by omega) (by rw [hmt]; exact lv_sub hl [0, 2, 3, 4] rfl)
      | succ n2 ih2 =>
        refine lv_iload hx hb dX1_matters_24 (lv_at hl 0 rfl) ?_
        refine lv_aload_n hx hb dX1_matters_26 rfl (lv_at hl 3 rfl) ?_
        refine fr_gM 1 hx hb hw hown hK hP (by decide) mG_all rfl dX1_matters_27 ?_
        refine lv_icmp_ge (tgt := 80) hx hb dX1_matters_30 rfl (fun hcm => absurd hcm (nI_ge (show x < 2 ^ V by omega) (by omega))) (fun hcm => ?_)
        have hxV : x < 2 ^ V := by omega
        have hfx : x ^^^ 2 ^ (V - 1 - i) < 2 ^ V := (fr_flip_lt (by omega)).mpr hxV
        refine lv_aload_n hx hb dX1_matters_33 rfl (lv_at hl 3 rfl) ?_
        refine fr_gM 2 hx hb hw hown hK hP (by decide) mG_row rfl dX1_matters_34 ?_
        refine lv_sipush (v := 512) hx hb dX1_matters_37 (by decide) ?_
        refine lv_iload_n hx hb dX1_matters_40 rfl (lv_at hl 4 rfl) ?_
        refine lv_imul hx hb dX1_matters_41 ?_
        refine lv_iload hx hb dX1_matters_42 (lv_at hl 0 rfl) ?_
        refine lv_iadd hx hb dX1_matters_44 ?_
        refine fr_top (show (((512 * nI j) + nI x) : Int32) = nI (512 * j + x) from by rw [show (512 : Int32) * nI j = nI (512 * j) from pk_mul 512 j]; exact nI_add _ _) ?_
        refine fr_zald hx hb hK hP 1 0 rfl rfl (show 512 * j + x < 16384 by omega) (by decide) dX1_matters_45 ?_
        refine fr_top (show (row (512 * j + x) : Int32) = fr_bi (F j x) from hM j x hLj hxV) ?_
        refine lv_aload_n hx hb dX1_matters_46 rfl (lv_at hl 3 rfl) ?_
        refine fr_gM 2 hx hb hw hown hK hP (by decide) mG_row rfl dX1_matters_47 ?_
        refine lv_sipush (v := 512) hx hb dX1_matters_50 (by decide) ?_
        refine lv_iload_n hx hb dX1_matters_53 rfl (lv_at hl 4 rfl) ?_
        refine lv_imul hx hb dX1_matters_54 ?_
        refine lv_iload hx hb dX1_matters_55 (lv_at hl 0 rfl) ?_
        refine lv_aload_n hx hb dX1_matters_57 rfl (lv_at hl 3 rfl) ?_
        refine lv_iload_n hx hb dX1_matters_58 rfl (lv_at hl 2 rfl) ?_
        refine fr_Mi (As := [.int (nI i)]) hS0 (cM_bit l D V bd kb row made i hiV hV) (cw_M_bit hw ⟨Nat.le_of_ble_eq_true rfl, Nat.le_of_ble_eq_true rfl⟩) hK hP rfl hl.1 rfl (Nat.le_of_ble_eq_true rfl) dX1_matters_59 ⟨Nat.zero_le _, Nat.zero_le _⟩ (fun b9 hb9 => ?_)
        subst hb9
        refine lv_ixor hx hb dX1_matters_62 ?_
        refine fr_top (show ((nI x ^^^ nI (2 ^ (V - 1 - i))) : Int32) = nI (x ^^^ 2 ^ (V - 1 - i)) from fr_nxor _ _) ?_
        refine lv_iadd hx hb dX1_matters_63 ?_
        refine fr_top (show (((512 * nI j) + nI (x ^^^ 2 ^ (V - 1 - i))) : Int32) = nI (512 * j + (x ^^^ 2 ^ (V - 1 - i))) from by rw [show (512 : Int32) * nI j = nI (512 * j) from pk_mul 512 j]; exact nI_add _ _) ?_
        refine fr_zald hx hb hK hP 1 0 rfl rfl (show 512 * j + (x ^^^ 2 ^ (V - 1 - i)) < 16384 by omega) (by decide) dX1_matters_64 ?_
        refine fr_top (show (row (512 * j + (x ^^^ 2 ^ (V - 1 - i))) : Int32) = fr_bi (F j (x ^^^ 2 ^ (V - 1 - i))) from hM j _ hLj hfx) ?_
        refine lv_icmp_eq (tgt := 74) hx hb dX1_matters_65 rfl (fun hz => ?_) (fun hz => ?_)
        ·
          have hq := fr_bi_inj.mp hz
          refine lv_iinc (k := 0) (v := nI (x + 1)) hx hb dX1_matters_74 hl rfl (fr_inc x) (by decide) rfl (fun ls hl => ?_)
          replace hl : lv_has ls 5 [(4, .int (nI (x + 1))), (2, .int (nI (fr_mt V (F j) i + (if sn = true then 2 ^ i else 0)))), (3, .int (nI i)), (0, .ref (bd 0)), (1, .int (nI j))] := hl
          refine lv_goto (tgt := 24) hx hb dX1_matters_77 rfl ?_
          exact ih2 ls (x + 1) (by omega) sn ⟨fun h => lt_s (hsn.mp h) hq, fun h => hsn.mpr (fun y hy => h y (by omega))⟩ (lv_sub hl [0, 1, 2, 3, 4] rfl)
        ·
          have hq : ¬ F j x = F j (x ^^^ 2 ^ (V - 1 - i)) := fun z => hz (fr_bi_inj.mpr z)
          refine lv_iload_n hx hb dX1_matters_68 rfl (lv_at hl 1 rfl) ?_
          refine lv_iconst (v := 1) hx hb dX1_matters_69 (by decide) ?_
          refine lv_iload_n hx hb dX1_matters_70 rfl (lv_at hl 2 rfl) ?_
          refine lv_ishl hx hb dX1_matters_71 ?_
          refine lv_ior hx hb dX1_matters_72 ?_
          refine fr_top (show ((nI (fr_mt V (F j) i + (if sn = true then 2 ^ i else 0)) ||| (1 <<< (nI i &&& 31))) : Int32) = nI (fr_mt V (F j) i + (if true = true then 2 ^ i else 0)) from by rw [fr_shl1 i (by omega)]; exact fr_mto (fr_mt_lt V (F j) i) sn) ?_
          refine lv_istore_n hx hb dX1_matters_73 rfl hl (by decide) rfl (fun ls hl => ?_)
          replace hl : lv_has ls 5 [(2, .int (nI (fr_mt V (F j) i + (if true = true then 2 ^ i else 0)))), (4, .int (nI x)), (3, .int (nI i)), (0, .ref (bd 0)), (1, .int (nI j))] := hl
          refine lv_iinc (k := 1) (v := nI (x + 1)) hx hb dX1_matters_74 hl rfl (fr_inc x) (by decide) rfl (fun ls hl => ?_)
          replace hl : lv_has ls 5 [(4, .int (nI (x + 1))), (2, .int (nI (fr_mt V (F j) i + (if true = true then 2 ^ i else 0)))), (3, .int (nI i)), (0, .ref (bd 0)), (1, .int (nI j))] := hl
          refine lv_goto (tgt := 24) hx hb dX1_matters_77 rfl ?_
          exact ih2 ls (x + 1) (by omega) true ⟨fun h => absurd h (by decide), fun h => absurd (h x (by omega)) hq⟩ (lv_sub hl [0, 1, 2, 3, 4] rfl)
  ·
    refine lv_if_ne (tgt := 9) hx hb dX1_matters_4 rfl (fun hz => absurd rfl hz) (fun hz => ?_)
    refine lv_iconst (v := (-1)) hx hb dX1_matters_7 (by decide) ?_
    exact W.iret (v := (-1)) hx hb hret (fun t ht hW => ⟨_, rfl, (if_neg (by rw [fr_okB_no (hno)]; decide)).symm, ht⟩) (fun q hq => by cases hq) dX1_matters_8
end
section
set_option maxHeartbeats 4000000 in
set_option maxRecDepth 100000 in
theorem cM_size (l : Launch) (D : va_G) (V : Nat) (bd : Nat → Nat) (kb : Nat → ClassId) (row made : Nat → Int32) (F : fr_F) (hM : fr_MR V F row) (hV : V < 10) (hV1 : 1 ≤ V) (hinj : fr_injB bd) (r : Int32) : Met l yX1_size wsM_size rmM_size (va_Pc [.ref (bd 0), .int r] (fr_PM D V bd kb row made)) (vp_Si (fun res => res = fr_sSize V F r)) 0 0 (fun _ => False) := by
  refine Met.ofW (cc := cX1_size) (maxL := 8) (ret := some .int) (by decide) rfl ?_
  intro p e s m args below meth c s₁ B hml hv
  obtain ⟨rfl, hP, hK, -⟩ := hv
  have hx := B.exec
  have hb := B.bytes
  have hret := B.returns
  have hw := fun w (h : w ∈ WA) => atoms_spec (ws := wsM_size) B.pre w (List.mem_cons_of_mem _ h)
  have hown : s.vm.findClass "FunctionRoomModel" = some m.cls := findClass_of_methodNamed B.named
  have hlocks := B.notSynchronized
  have hS0 : CallFix p m c cX1_size 8 s _ WA "FunctionRoomModel" := ⟨hx, hb, hml, hown, hw⟩
  have hl := lv_entry ([.ref (bd 0), .int r]) (n := 8) (Nat.le_of_ble_eq_true rfl)
  rw [lg_entry_eq]
  generalize (lg_sl ([.ref (bd 0), .int r]) ++ List.replicate (8 - (lg_sl ([.ref (bd 0), .int r])).length) Slot.unset).toArray = ls at hl ⊢
  replace hl : lv_has ls 8 [(0, .ref (bd 0)), (1, .int r)] := hl
  have h512 := fr_pow512 hV
  refine lv_iload_n hx hb dX1_size_0 rfl (lv_at hl 1 rfl) ?_
  refine fr_cSi (As := [.int r]) hS0 (cM_is l r) (cw_M_is hw ⟨Nat.le_of_ble_eq_true rfl, Nat.le_of_ble_eq_true rfl⟩) (fr_pre0) rfl hl.1 rfl (Nat.le_of_ble_eq_true rfl) dX1_size_1 ⟨Nat.zero_le _, Nat.zero_le _⟩ (fun b0 hb0 => ?_)
  rcases hb0 with ⟨rfl, hOj⟩ | ⟨rfl, hno⟩
  ·
    refine lv_if_ne (tgt := 9) hx hb dX1_size_4 rfl (fun hz => ?_) (fun hz => absurd hz (by decide))
    obtain ⟨j, hLj, rfl⟩ := fr_ok_ex (by decide) hOj
    refine lv_iconst (v := 0) hx hb dX1_size_9 (by decide) ?_
    refine lv_istore_n hx hb dX1_size_10 rfl hl (by decide) rfl (fun ls hl => ?_)
    replace hl : lv_has ls 8 [(2, .int 0), (0, .ref (bd 0)), (1, .int (nI j))] := hl
    refine lv_iconst (v := 0) hx hb dX1_size_11 (by decide) ?_
    refine lv_istore_n hx hb dX1_size_12 rfl hl (by decide) rfl (fun ls hl => ?_)
    replace hl : lv_has ls 8 [(3, .int 0), (2, .int 0), (0, .ref (bd 0)), (1, .int (nI j))] := hl
    obtain ⟨n, i, hin, hi0⟩ : ∃ n i : Nat, i + n = V ∧ i = 0 := ⟨V, 0, Nat.zero_add _, rfl⟩
    replace hl : lv_has ls 8 [(3, .int (nI i)), (2, .int (nI (fr_sz (F j) V i))), (0, .ref (bd 0)), (1, .int (nI j))] := by rw [hi0]; exact hl
    clear hi0
    induction n generalizing i ls  with
    | zero =>
      refine lv_iload_n hx hb dX1_size_13 rfl (lv_at hl 0 rfl) ?_
      refine lv_aload_n hx hb dX1_size_14 rfl (lv_at hl 2 rfl) ?_
      refine fr_gM 0 hx hb hw hown hK hP (by decide) mG_variables rfl dX1_size_15 ?_
      refine lv_icmp_ge (tgt := 139) hx hb dX1_size_18 rfl (fun hcm => ?_) (fun hcm => absurd (nI_le (show V ≤ i by omega) (by omega)) hcm)
      refine lv_iload_n hx hb dX1_size_139 rfl (lv_at hl 1 rfl) ?_
      exact W.iret (v := nI (fr_sz (F j) V i)) hx hb hret (fun t ht hW => ⟨_, rfl, by unfold fr_sSize; rw [if_pos (fr_okB_nI hLj (by decide)), fr_v_nI (show j < 2 ^ 31 by omega), show i = V by omega], ht⟩) (fun q hq => by cases hq) dX1_size_140
    | succ n ih =>
      refine lv_iload_n hx hb dX1_size_13 rfl (lv_at hl 0 rfl) ?_
      refine lv_aload_n hx hb dX1_size_14 rfl (lv_at hl 2 rfl) ?_
      refine fr_gM 0 hx hb hw hown hK hP (by decide) mG_variables rfl dX1_size_15 ?_
      refine lv_icmp_ge (tgt := 139) hx hb dX1_size_18 rfl (fun hcm => absurd hcm (nI_ge (show i < V by omega) (by omega))) (fun hcm => ?_)
      have hi : i < V := by omega
      obtain ⟨wd, hwd⟩ : ∃ wd, wd = 2 ^ (V - i) := ⟨_, rfl⟩
      have hwp : 2 ^ i * wd = 2 ^ V := by rw [hwd, ← Nat.pow_add]; congr 1; omega
      have hw2 : wd = 2 * (wd / 2) ∧ 0 < wd / 2 := fr_half hwd hi
      have hwle : wd ≤ 512 := by have := Nat.le_mul_of_pos_left wd (Nat.two_pow_pos i); omega
      refine lv_aload_n hx hb dX1_size_21 rfl (lv_at hl 2 rfl) ?_
      refine fr_gM 1 hx hb hw hown hK hP (by decide) mG_all rfl dX1_size_22 ?_
      refine lv_iload_n hx hb dX1_size_25 rfl (lv_at hl 0 rfl) ?_
      refine lv_ishr hx hb dX1_size_26 ?_
      refine fr_top (show ((nI (2 ^ V) >>> (nI i &&& 31)) : Int32) = nI wd from by rw [hwd]; exact fr_shrp _ _ hV hi) ?_
      refine lv_istore hx hb dX1_size_27 hl (by decide) rfl (fun ls hl => ?_)
      replace hl : lv_has ls 8 [(4, .int (nI wd)), (3, .int (nI i)), (2, .int (nI (fr_sz (F j) V i))), (0, .ref (bd 0)), (1, .int (nI j))] := hl
      refine lv_iconst (v := 0) hx hb dX1_size_29 (by decide) ?_
      refine lv_istore hx hb dX1_size_30 hl (by decide) rfl (fun ls hl => ?_)
      replace hl : lv_has ls 8 [(5, .int 0), (4, .int (nI wd)), (3, .int (nI i)), (2, .int (nI (fr_sz (F j) V i))), (0, .ref (bd 0)), (1, .int (nI j))] := hl
      obtain ⟨n2, b, hin2, hb0⟩ : ∃ n2 b : Nat, b + n2 = 2 ^ i ∧ b = 0 := ⟨2 ^ i, 0, by omega, rfl⟩
      replace hl := lv_sub hl [0, 3, 1, 2, 4, 5] rfl
      replace hl : lv_has ls 8 [(5, .int (nI (b * wd))), (2, .int (nI (fr_sz (F j) V i + fr_cn (fr_nw (F j) wd) b))), (4, .int (nI wd)), (3, .int (nI i)), (0, .ref (bd 0)), (1, .int (nI j))] := by rw [hb0, Nat.zero_mul]; exact hl
      clear hb0
      induction n2 generalizing b ls with
      | zero =>
        have hbw : b * wd = 2 ^ V := by rw [show b = 2 ^ i by omega]; exact hwp
        refine lv_iload hx hb dX1_size_32 (lv_at hl 0 rfl) ?_
        refine lv_aload_n hx hb dX1_size_34 rfl (lv_at hl 4 rfl) ?_
        refine fr_gM 1 hx hb hw hown hK hP (by decide) mG_all rfl dX1_size_35 ?_
        refine lv_icmp_ge (tgt := 133) hx hb dX1_size_38 rfl (fun hcm => ?_) (fun hcm => absurd (nI_le (show 2 ^ V ≤ b * wd by omega) (by omega)) hcm)
        refine lv_iinc (k := 3) (v := nI (i + 1)) hx hb dX1_size_133 hl rfl (fr_inc i) (by decide) rfl (fun ls hl => ?_)
        replace hl : lv_has ls 8 [(3, .int (nI (i + 1))), (5, .int (nI (b * wd))), (2, .int (nI (fr_sz (F j) V i + fr_cn (fr_nw (F j) wd) b))), (4, .int (nI wd)), (0, .ref (bd 0)), (1, .int (nI j))] := hl
        refine lv_goto (tgt := 13) hx hb dX1_size_136 rfl ?_
        have hsz : fr_sz (F j) V (i + 1) = fr_sz (F j) V i + fr_cn (fr_nw (F j) wd) b := by rw [show b = 2 ^ i by omega, hwd]; rfl
        exact ih ls (i + 1) (by omega) (by rw [hsz]; exact lv_sub hl [0, 2, 4, 5] rfl)
      | succ n2 ih2 =>
        have hbw : b * wd + wd ≤ 2 ^ V := by have := Nat.mul_le_mul_right wd (show b + 1 ≤ 2 ^ i by omega); rw [Nat.add_mul, Nat.one_mul] at this; omega
        refine lv_iload hx hb dX1_size_32 (lv_at hl 0 rfl) ?_
        refine lv_aload_n hx hb dX1_size_34 rfl (lv_at hl 4 rfl) ?_
        refine fr_gM 1 hx hb hw hown hK hP (by decide) mG_all rfl dX1_size_35 ?_
        refine lv_icmp_ge (tgt := 133) hx hb dX1_size_38 rfl (fun hcm => absurd hcm (nI_ge (show b * wd < 2 ^ V by omega) (by omega))) (fun hcm => ?_)
        refine lv_aload_n hx hb dX1_size_41 rfl (lv_at hl 4 rfl) ?_
        refine lv_iload_n hx hb dX1_size_42 rfl (lv_at hl 5 rfl) ?_
        refine lv_iload hx hb dX1_size_43 (lv_at hl 0 rfl) ?_
        refine lv_iload hx hb dX1_size_45 (lv_at hl 0 rfl) ?_
        refine lv_iload hx hb dX1_size_47 (lv_at hl 2 rfl) ?_
        refine lv_iconst (v := 2) hx hb dX1_size_49 (by decide) ?_
        refine lv_idiv hx hb dX1_size_50 (by decide) ?_
        refine fr_top (show ((nI wd / 2) : Int32) = nI (wd / 2) from pk_div (d := 2) (by omega) (by decide) (by decide)) ?_
        refine lv_iadd hx hb dX1_size_51 ?_
        refine fr_top (show nI (b * wd) + nI (wd / 2) = nI (b * wd + wd / 2) from nI_add _ _) ?_
        refine lv_iload hx hb dX1_size_52 (lv_at hl 2 rfl) ?_
        refine lv_iconst (v := 2) hx hb dX1_size_54 (by decide) ?_
        refine lv_idiv hx hb dX1_size_55 (by decide) ?_
        refine fr_top (show ((nI wd / 2) : Int32) = nI (wd / 2) from pk_div (d := 2) (by omega) (by decide) (by decide)) ?_
        refine fr_Mi (As := [.int (nI j), .int (nI (b * wd)), .int (nI (b * wd + wd / 2)), .int (nI (wd / 2))]) hS0 (cM_alike l D V bd kb row made F hM hV hV1 hinj j (b * wd) (b * wd + wd / 2) (wd / 2) hLj (by omega) (by omega)) (cw_M_alike hw ⟨Nat.le_of_ble_eq_true rfl, Nat.le_of_ble_eq_true rfl⟩) hK hP rfl hl.1 rfl (Nat.le_of_ble_eq_true rfl) dX1_size_56 ⟨Nat.zero_le _, Nat.zero_le _⟩ (fun b9 hb9 => ?_)
        subst hb9
        refine lv_if_ne (tgt := 66) hx hb dX1_size_59 rfl (fun hz => ?_) (fun hz => ?_)
        ·
          have hal : fr_al (F j) (b * wd) (b * wd + wd / 2) (wd / 2) = true := fr_bit hz
          refine lv_iconst (v := 0) hx hb dX1_size_66 (by decide) ?_
          refine lv_istore hx hb dX1_size_67 hl (by decide) rfl (fun ls hl => ?_)
          replace hl : lv_has ls 8 [(6, .int 0), (5, .int (nI (b * wd))), (2, .int (nI (fr_sz (F j) V i + fr_cn (fr_nw (F j) wd) b))), (4, .int (nI wd)), (3, .int (nI i)), (0, .ref (bd 0)), (1, .int (nI j))] := hl
          refine lv_iconst (v := 0) hx hb dX1_size_69 (by decide) ?_
          refine lv_istore hx hb dX1_size_70 hl (by decide) rfl (fun ls hl => ?_)
          replace hl : lv_has ls 8 [(7, .int 0), (6, .int 0), (5, .int (nI (b * wd))), (2, .int (nI (fr_sz (F j) V i + fr_cn (fr_nw (F j) wd) b))), (4, .int (nI wd)), (3, .int (nI i)), (0, .ref (bd 0)), (1, .int (nI j))] := hl
          obtain ⟨n3, a0, hin3, ha0⟩ : ∃ n3 a0 : Nat, a0 + n3 = b ∧ a0 = 0 := ⟨b, 0, by omega, rfl⟩
          obtain ⟨sn, hsn, hs0⟩ : ∃ sn : Bool, (sn = true ↔ fr_al (F j) (b * wd) (b * wd + wd / 2) (wd / 2) = false ∧ ∀ e, e < a0 → fr_al (F j) (b * wd) (e * wd) wd = false) ∧ sn = false := ⟨false, ⟨fun h => absurd h (by decide), fun h => absurd (hal.symm.trans h.1) (by decide)⟩, rfl⟩
          clear hal
          replace hl := lv_sub hl [0, 1, 2, 3, 4, 5, 6, 7] rfl
          replace hl : lv_has ls 8 [(7, .int (nI (a0 * wd))), (6, .int (fr_bi sn)), (5, .int (nI (b * wd))), (2, .int (nI (fr_sz (F j) V i + fr_cn (fr_nw (F j) wd) b))), (4, .int (nI wd)), (3, .int (nI i)), (0, .ref (bd 0)), (1, .int (nI j))] := by rw [ha0, hs0, Nat.zero_mul]; exact hl
          clear ha0 hs0
          induction n3 generalizing a0 ls sn with
          | zero =>
            have hab : a0 = b := by omega
            have hend : sn = true ↔ fr_al (F j) (b * wd) (b * wd + wd / 2) (wd / 2) = false ∧ ∀ e, e < b → fr_al (F j) (b * wd) (e * wd) wd = false := by rw [← hab]; rw [← hab] at hsn; exact hsn
            refine lv_iload hx hb dX1_size_72 (lv_at hl 0 rfl) ?_
            refine lv_iload hx hb dX1_size_74 (lv_at hl 2 rfl) ?_
            refine lv_icmp_ge (tgt := 115) hx hb dX1_size_76 rfl (fun hcm3 => ?_) (fun hcm3 => absurd (nI_le (show b * wd ≤ a0 * wd by rw [hab]; exact Nat.le_refl _) (by rw [hab]; omega)) hcm3)
            have hdone : sn = fr_nw (F j) wd b := by unfold fr_nw; rw [Bool.eq_iff_iff, hend, Bool.and_eq_true, Bool.not_eq_true', decide_eq_true_iff]
            refine lv_iload hx hb dX1_size_115 (lv_at hl 1 rfl) ?_
            refine lv_if_eq (tgt := 123) hx hb dX1_size_117 rfl (fun hq => ?_) (fun hq => ?_)
            ·
              have hsv : fr_nw (F j) wd b = false := by rw [← hdone]; exact fr_bi_ne0.mp hq
              have hcn : fr_cn (fr_nw (F j) wd) (b + 1) = fr_cn (fr_nw (F j) wd) b + 0 := by show fr_cn (fr_nw (F j) wd) b + (if fr_nw (F j) wd b = true then 1 else 0) = _; rw [hsv]; rfl
              refine lv_iload hx hb dX1_size_123 (lv_at hl 2 rfl) ?_
              refine lv_iload hx hb dX1_size_125 (lv_at hl 4 rfl) ?_
              refine lv_iadd hx hb dX1_size_127 ?_
              refine fr_top (show ((nI (b * wd) + nI wd) : Int32) = nI ((b + 1) * wd) from by rw [nI_add, Nat.add_mul, Nat.one_mul]) ?_
              refine lv_istore hx hb dX1_size_128 hl (by decide) rfl (fun ls hl => ?_)
              replace hl : lv_has ls 8 [(5, .int (nI ((b + 1) * wd))), (7, .int (nI (a0 * wd))), (6, .int (fr_bi sn)), (2, .int (nI (fr_sz (F j) V i + fr_cn (fr_nw (F j) wd) b))), (4, .int (nI wd)), (3, .int (nI i)), (0, .ref (bd 0)), (1, .int (nI j))] := hl
              refine lv_goto (tgt := 32) hx hb dX1_size_130 rfl ?_
              exact ih2 ls (b + 1) (by omega) (by rw [hcn]; exact lv_sub hl [0, 3, 4, 5, 6, 7] rfl)
            ·
              have hsv : fr_nw (F j) wd b = true := by rw [← hdone]; exact fr_bit hq
              have hcn : fr_cn (fr_nw (F j) wd) (b + 1) = fr_cn (fr_nw (F j) wd) b + 1 := by show fr_cn (fr_nw (F j) wd) b + (if fr_nw (F j) wd b = true then 1 else 0) = _; rw [hsv]; rfl
              refine lv_iinc (k := 3) (v := nI (fr_sz (F j) V i + fr_cn (fr_nw (F j) wd) b + 1)) hx hb dX1_size_120 hl rfl (fr_inc _) (by decide) rfl (fun ls hl => ?_)
              replace hl : lv_has ls 8 [(2, .int (nI (fr_sz (F j) V i + fr_cn (fr_nw (F j) wd) b + 1))), (7, .int (nI (a0 * wd))), (6, .int (fr_bi sn)), (5, .int (nI (b * wd))), (4, .int (nI wd)), (3, .int (nI i)), (0, .ref (bd 0)), (1, .int (nI j))] := hl
              refine lv_iload hx hb dX1_size_123 (lv_at hl 3 rfl) ?_
              refine lv_iload hx hb dX1_size_125 (lv_at hl 4 rfl) ?_
              refine lv_iadd hx hb dX1_size_127 ?_
              refine fr_top (show ((nI (b * wd) + nI wd) : Int32) = nI ((b + 1) * wd) from by rw [nI_add, Nat.add_mul, Nat.one_mul]) ?_
              refine lv_istore hx hb dX1_size_128 hl (by decide) rfl (fun ls hl => ?_)
              replace hl : lv_has ls 8 [(5, .int (nI ((b + 1) * wd))), (2, .int (nI (fr_sz (F j) V i + fr_cn (fr_nw (F j) wd) b + 1))), (7, .int (nI (a0 * wd))), (6, .int (fr_bi sn)), (4, .int (nI wd)), (3, .int (nI i)), (0, .ref (bd 0)), (1, .int (nI j))] := hl
              refine lv_goto (tgt := 32) hx hb dX1_size_130 rfl ?_
              exact ih2 ls (b + 1) (by omega) (by rw [hcn]; exact lv_sub hl [0, 1, 4, 5, 6, 7] rfl)
          | succ n3 ih3 =>
            have hay : a0 * wd + wd ≤ b * wd := by have := Nat.mul_le_mul_right wd (show a0 + 1 ≤ b by omega); rw [Nat.add_mul, Nat.one_mul] at this; omega
            refine lv_iload hx hb dX1_size_72 (lv_at hl 0 rfl) ?_
            refine lv_iload hx hb dX1_size_74 (lv_at hl 2 rfl) ?_
            refine lv_icmp_ge (tgt := 115) hx hb dX1_size_76 rfl (fun hcm3 => absurd hcm3 (nI_ge (show a0 * wd < b * wd by omega) (by omega))) (fun hcm3 => ?_)
            refine lv_iload hx hb dX1_size_79 (lv_at hl 1 rfl) ?_
            refine lv_if_eq (tgt := 115) hx hb dX1_size_81 rfl (fun hq0 => ?_) (fun hq0 => ?_)
            ·
              have hs1 : sn = false := fr_bi_ne0.mp hq0
              have hend : sn = true ↔ fr_al (F j) (b * wd) (b * wd + wd / 2) (wd / 2) = false ∧ ∀ e, e < b → fr_al (F j) (b * wd) (e * wd) wd = false := ⟨fun h => absurd (hs1.symm.trans h) (by decide), fun h => hsn.mpr ⟨h.1, fun e he => h.2 e (by omega)⟩⟩
              have hdone : sn = fr_nw (F j) wd b := by unfold fr_nw; rw [Bool.eq_iff_iff, hend, Bool.and_eq_true, Bool.not_eq_true', decide_eq_true_iff]
              refine lv_iload hx hb dX1_size_115 (lv_at hl 1 rfl) ?_
              refine lv_if_eq (tgt := 123) hx hb dX1_size_117 rfl (fun hq => ?_) (fun hq => ?_)
              ·
                have hsv : fr_nw (F j) wd b = false := by rw [← hdone]; exact fr_bi_ne0.mp hq
                have hcn : fr_cn (fr_nw (F j) wd) (b + 1) = fr_cn (fr_nw (F j) wd) b + 0 := by show fr_cn (fr_nw (F j) wd) b + (if fr_nw (F j) wd b = true then 1 else 0) = _; rw [hsv]; rfl
                refine lv_iload hx hb dX1_size_123 (lv_at hl 2 rfl) ?_
                refine lv_iload hx hb dX1_size_125 (lv_at hl 4 rfl) ?_
                refine lv_iadd hx hb dX1_size_127 ?_
                refine fr_top (show ((nI (b * wd) + nI wd) : Int32) = nI ((b + 1) * wd) from by rw [nI_add, Nat.add_mul, Nat.one_mul]) ?_
                refine lv_istore hx hb dX1_size_128 hl (by decide) rfl (fun ls hl => ?_)
                replace hl : lv_has ls 8 [(5, .int (nI ((b + 1) * wd))), (7, .int (nI (a0 * wd))), (6, .int (fr_bi sn)), (2, .int (nI (fr_sz (F j) V i + fr_cn (fr_nw (F j) wd) b))), (4, .int (nI wd)), (3, .int (nI i)), (0, .ref (bd 0)), (1, .int (nI j))] := hl
                refine lv_goto (tgt := 32) hx hb dX1_size_130 rfl ?_
                exact ih2 ls (b + 1) (by omega) (by rw [hcn]; exact lv_sub hl [0, 3, 4, 5, 6, 7] rfl)
              ·
                have hsv : fr_nw (F j) wd b = true := by rw [← hdone]; exact fr_bit hq
                have hcn : fr_cn (fr_nw (F j) wd) (b + 1) = fr_cn (fr_nw (F j) wd) b + 1 := by show fr_cn (fr_nw (F j) wd) b + (if fr_nw (F j) wd b = true then 1 else 0) = _; rw [hsv]; rfl
                refine lv_iinc (k := 3) (v := nI (fr_sz (F j) V i + fr_cn (fr_nw (F j) wd) b + 1)) hx hb dX1_size_120 hl rfl (fr_inc _) (by decide) rfl (fun ls hl => ?_)
                replace hl : lv_has ls 8 [(2, .int (nI (fr_sz (F j) V i + fr_cn (fr_nw (F j) wd) b + 1))), (7, .int (nI (a0 * wd))), (6, .int (fr_bi sn)), (5, .int (nI (b * wd))), (4, .int (nI wd)), (3, .int (nI i)), (0, .ref (bd 0)), (1, .int (nI j))] := hl
                refine lv_iload hx hb dX1_size_123 (lv_at hl 3 rfl) ?_
                refine lv_iload hx hb dX1_size_125 (lv_at hl 4 rfl) ?_
                refine lv_iadd hx hb dX1_size_127 ?_
                refine fr_top (show ((nI (b * wd) + nI wd) : Int32) = nI ((b + 1) * wd) from by rw [nI_add, Nat.add_mul, Nat.one_mul]) ?_
                refine lv_istore hx hb dX1_size_128 hl (by decide) rfl (fun ls hl => ?_)
                replace hl : lv_has ls 8 [(5, .int (nI ((b + 1) * wd))), (2, .int (nI (fr_sz (F j) V i + fr_cn (fr_nw (F j) wd) b + 1))), (7, .int (nI (a0 * wd))), (6, .int (fr_bi sn)), (4, .int (nI wd)), (3, .int (nI i)), (0, .ref (bd 0)), (1, .int (nI j))] := hl
                refine lv_goto (tgt := 32) hx hb dX1_size_130 rfl ?_
                exact ih2 ls (b + 1) (by omega) (by rw [hcn]; exact lv_sub hl [0, 1, 4, 5, 6, 7] rfl)
            ·
              have hs1 : sn = true := fr_bit hq0
              have hs2 := hsn.mp hs1
              refine lv_aload_n hx hb dX1_size_84 rfl (lv_at hl 6 rfl) ?_
              refine lv_iload_n hx hb dX1_size_85 rfl (lv_at hl 7 rfl) ?_
              refine lv_iload hx hb dX1_size_86 (lv_at hl 2 rfl) ?_
              refine lv_iload hx hb dX1_size_88 (lv_at hl 0 rfl) ?_
              refine lv_iload hx hb dX1_size_90 (lv_at hl 4 rfl) ?_
              refine fr_Mi (As := [.int (nI j), .int (nI (b * wd)), .int (nI (a0 * wd)), .int (nI wd)]) hS0 (cM_alike l D V bd kb row made F hM hV hV1 hinj j (b * wd) (a0 * wd) wd hLj (by omega) (by omega)) (cw_M_alike hw ⟨Nat.le_of_ble_eq_true rfl, Nat.le_of_ble_eq_true rfl⟩) hK hP rfl hl.1 rfl (Nat.le_of_ble_eq_true rfl) dX1_size_92 ⟨Nat.zero_le _, Nat.zero_le _⟩ (fun b9 hb9 => ?_)
              subst hb9
              refine lv_if_ne (tgt := 102) hx hb dX1_size_95 rfl (fun hz3 => ?_) (fun hz3 => ?_)
              ·
                have hl3 : fr_al (F j) (b * wd) (a0 * wd) wd = true := fr_bit hz3
                refine lv_iconst (v := 0) hx hb dX1_size_102 (by decide) ?_
                refine lv_istore hx hb dX1_size_103 hl (by decide) rfl (fun ls hl => ?_)
                replace hl : lv_has ls 8 [(6, .int 0), (7, .int (nI (a0 * wd))), (5, .int (nI (b * wd))), (2, .int (nI (fr_sz (F j) V i + fr_cn (fr_nw (F j) wd) b))), (4, .int (nI wd)), (3, .int (nI i)), (0, .ref (bd 0)), (1, .int (nI j))] := hl
                refine lv_iload hx hb dX1_size_105 (lv_at hl 1 rfl) ?_
                refine lv_iload hx hb dX1_size_107 (lv_at hl 4 rfl) ?_
                refine lv_iadd hx hb dX1_size_109 ?_
                refine fr_top (show ((nI (a0 * wd) + nI wd) : Int32) = nI ((a0 + 1) * wd) from by rw [nI_add, Nat.add_mul, Nat.one_mul]) ?_
                refine lv_istore hx hb dX1_size_110 hl (by decide) rfl (fun ls hl => ?_)
                replace hl : lv_has ls 8 [(7, .int (nI ((a0 + 1) * wd))), (6, .int 0), (5, .int (nI (b * wd))), (2, .int (nI (fr_sz (F j) V i + fr_cn (fr_nw (F j) wd) b))), (4, .int (nI wd)), (3, .int (nI i)), (0, .ref (bd 0)), (1, .int (nI j))] := hl
                refine lv_goto (tgt := 72) hx hb dX1_size_112 rfl ?_
                exact ih3 ls (a0 + 1) (by omega) false (⟨fun h => absurd h (by decide), fun h => absurd (hl3.symm.trans (h.2 a0 (by omega))) (by decide)⟩) (lv_sub hl [0, 1, 2, 3, 4, 5, 6, 7] rfl)
              ·
                have hl3 : fr_al (F j) (b * wd) (a0 * wd) wd = false := fr_bi_ne0.mp hz3
                refine lv_iconst (v := 1) hx hb dX1_size_98 (by decide) ?_
                refine lv_goto (tgt := 103) hx hb dX1_size_99 rfl ?_
                refine lv_istore hx hb dX1_size_103 hl (by decide) rfl (fun ls hl => ?_)
                replace hl : lv_has ls 8 [(6, .int 1), (7, .int (nI (a0 * wd))), (5, .int (nI (b * wd))), (2, .int (nI (fr_sz (F j) V i + fr_cn (fr_nw (F j) wd) b))), (4, .int (nI wd)), (3, .int (nI i)), (0, .ref (bd 0)), (1, .int (nI j))] := hl
                refine lv_iload hx hb dX1_size_105 (lv_at hl 1 rfl) ?_
                refine lv_iload hx hb dX1_size_107 (lv_at hl 4 rfl) ?_
                refine lv_iadd hx hb dX1_size_109 ?_
                refine fr_top (show ((nI (a0 * wd) + nI wd) : Int32) = nI ((a0 + 1) * wd) from by rw [nI_add, Nat.add_mul, Nat.one_mul]) ?_
                refine lv_istore hx hb dX1_size_110 hl (by decide) rfl (fun ls hl => ?_)
                replace hl : lv_has ls 8 [(7, .int (nI ((a0 + 1) * wd))), (6, .int 1), (5, .int (nI (b * wd))), (2, .int (nI (fr_sz (F j) V i + fr_cn (fr_nw (F j) wd) b))), (4, .int (nI wd)), (3, .int (nI i)), (0, .ref (bd 0)), (1, .int (nI j))] := hl
                refine lv_goto (tgt := 72) hx hb dX1_size_112 rfl ?_
                exact ih3 ls (a0 + 1) (by omega) true (⟨fun _ => ⟨hs2.1, lt_s hs2.2 hl3⟩, fun _ => rfl⟩) (lv_sub hl [0, 1, 2, 3, 4, 5, 6, 7] rfl)
        ·
          have hal : fr_al (F j) (b * wd) (b * wd + wd / 2) (wd / 2) = false := fr_bi_ne0.mp hz
          refine lv_iconst (v := 1) hx hb dX1_size_62 (by decide) ?_
          refine lv_goto (tgt := 67) hx hb dX1_size_63 rfl ?_
          refine lv_istore hx hb dX1_size_67 hl (by decide) rfl (fun ls hl => ?_)
          replace hl : lv_has ls 8 [(6, .int 1), (5, .int (nI (b * wd))), (2, .int (nI (fr_sz (F j) V i + fr_cn (fr_nw (F j) wd) b))), (4, .int (nI wd)), (3, .int (nI i)), (0, .ref (bd 0)), (1, .int (nI j))] := hl
          refine lv_iconst (v := 0) hx hb dX1_size_69 (by decide) ?_
          refine lv_istore hx hb dX1_size_70 hl (by decide) rfl (fun ls hl => ?_)
          replace hl : lv_has ls 8 [(7, .int 0), (6, .int 1), (5, .int (nI (b * wd))), (2, .int (nI (fr_sz (F j) V i + fr_cn (fr_nw (F j) wd) b))), (4, .int (nI wd)), (3, .int (nI i)), (0, .ref (bd 0)), (1, .int (nI j))] := hl
          obtain ⟨n3, a0, hin3, ha0⟩ : ∃ n3 a0 : Nat, a0 + n3 = b ∧ a0 = 0 := ⟨b, 0, by omega, rfl⟩
          obtain ⟨sn, hsn, hs0⟩ : ∃ sn : Bool, (sn = true ↔ fr_al (F j) (b * wd) (b * wd + wd / 2) (wd / 2) = false ∧ ∀ e, e < a0 → fr_al (F j) (b * wd) (e * wd) wd = false) ∧ sn = true := ⟨true, ⟨fun h => ⟨hal, fun e he => by omega⟩, fun h => rfl⟩, rfl⟩
          clear hal
          replace hl := lv_sub hl [0, 1, 2, 3, 4, 5, 6, 7] rfl
          replace hl : lv_has ls 8 [(7, .int (nI (a0 * wd))), (6, .int (fr_bi sn)), (5, .int (nI (b * wd))), (2, .int (nI (fr_sz (F j) V i + fr_cn (fr_nw (F j) wd) b))), (4, .int (nI wd)), (3, .int (nI i)), (0, .ref (bd 0)), (1, .int (nI j))] := by rw [ha0, hs0, Nat.zero_mul]; exact hl
          clear ha0 hs0
          induction n3 generalizing a0 ls sn with
          | zero =>
            have hab : a0 = b := by omega
            have hend : sn = true ↔ fr_al (F j) (b * wd) (b * wd + wd / 2) (wd / 2) = false ∧ ∀ e, e < b → fr_al (F j) (b * wd) (e * wd) wd = false := by rw [← hab]; rw [← hab] at hsn; exact hsn
            refine lv_iload hx hb dX1_size_72 (lv_at hl 0 rfl) ?_
            refine lv_iload hx hb dX1_size_74 (lv_at hl 2 rfl) ?_
            refine lv_icmp_ge (tgt := 115) hx hb dX1_size_76 rfl (fun hcm3 => ?_) (fun hcm3 => absurd (nI_le (show b * wd ≤ a0 * wd by rw [hab]; exact Nat.le_refl _) (by rw [hab]; omega)) hcm3)
            have hdone : sn = fr_nw (F j) wd b := by unfold fr_nw; rw [Bool.eq_iff_iff, hend, Bool.and_eq_true, Bool.not_eq_true', decide_eq_true_iff]
            refine lv_iload hx hb dX1_size_115 (lv_at hl 1 rfl) ?_
            refine lv_if_eq (tgt := 123) hx hb dX1_size_117 rfl (fun hq => ?_) (fun hq => ?_)
            ·
              have hsv : fr_nw (F j) wd b = false := by rw [← hdone]; exact fr_bi_ne0.mp hq
              have hcn : fr_cn (fr_nw (F j) wd) (b + 1) = fr_cn (fr_nw (F j) wd) b + 0 := by show fr_cn (fr_nw (F j) wd) b + (if fr_nw (F j) wd b = true then 1 else 0) = _; rw [hsv]; rfl
              refine lv_iload hx hb dX1_size_123 (lv_at hl 2 rfl) ?_
              refine lv_iload hx hb dX1_size_125 (lv_at hl 4 rfl) ?_
              refine lv_iadd hx hb dX1_size_127 ?_
              refine fr_top (show ((nI (b * wd) + nI wd) : Int32) = nI ((b + 1) * wd) from by rw [nI_add, Nat.add_mul, Nat.one_mul]) ?_
              refine lv_istore hx hb dX1_size_128 hl (by decide) rfl (fun ls hl => ?_)
              replace hl : lv_has ls 8 [(5, .int (nI ((b + 1) * wd))), (7, .int (nI (a0 * wd))), (6, .int (fr_bi sn)), (2, .int (nI (fr_sz (F j) V i + fr_cn (fr_nw (F j) wd) b))), (4, .int (nI wd)), (3, .int (nI i)), (0, .ref (bd 0)), (1, .int (nI j))] := hl
              refine lv_goto (tgt := 32) hx hb dX1_size_130 rfl ?_
              exact ih2 ls (b + 1) (by omega) (by rw [hcn]; exact lv_sub hl [0, 3, 4, 5, 6, 7] rfl)
            ·
              have hsv : fr_nw (F j) wd b = true := by rw [← hdone]; exact fr_bit hq
              have hcn : fr_cn (fr_nw (F j) wd) (b + 1) = fr_cn (fr_nw (F j) wd) b + 1 := by show fr_cn (fr_nw (F j) wd) b + (if fr_nw (F j) wd b = true then 1 else 0) = _; rw [hsv]; rfl
              refine lv_iinc (k := 3) (v := nI (fr_sz (F j) V i + fr_cn (fr_nw (F j) wd) b + 1)) hx hb dX1_size_120 hl rfl (fr_inc _) (by decide) rfl (fun ls hl => ?_)
              replace hl : lv_has ls 8 [(2, .int (nI (fr_sz (F j) V i + fr_cn (fr_nw (F j) wd) b + 1))), (7, .int (nI (a0 * wd))), (6, .int (fr_bi sn)), (5, .int (nI (b * wd))), (4, .int (nI wd)), (3, .int (nI i)), (0, .ref (bd 0)), (1, .int (nI j))] := hl
              refine lv_iload hx hb dX1_size_123 (lv_at hl 3 rfl) ?_
              refine lv_iload hx hb dX1_size_125 (lv_at hl 4 rfl) ?_
              refine lv_iadd hx hb dX1_size_127 ?_
              refine fr_top (show ((nI (b * wd) + nI wd) : Int32) = nI ((b + 1) * wd) from by rw [nI_add, Nat.add_mul, Nat.one_mul]) ?_
              refine lv_istore hx hb dX1_size_128 hl (by decide) rfl (fun ls hl => ?_)
              replace hl : lv_has ls 8 [(5, .int (nI ((b + 1) * wd))), (2, .int (nI (fr_sz (F j) V i + fr_cn (fr_nw (F j) wd) b + 1))), (7, .int (nI (a0 * wd))), (6, .int (fr_bi sn)), (4, .int (nI wd)), (3, .int (nI i)), (0, .ref (bd 0)), (1, .int (nI j))] := hl
              refine lv_goto (tgt := 32) hx hb dX1_size_130 rfl ?_
              exact ih2 ls (b + 1) (by omega) (by rw [hcn]; exact lv_sub hl [0, 1, 4, 5, 6, 7] rfl)
          | succ n3 ih3 =>
            have hay : a0 * wd + wd ≤ b * wd := by have := Nat.mul_le_mul_right wd (show a0 + 1 ≤ b by omega); rw [Nat.add_mul, Nat.one_mul] at this; omega
            refine lv_iload hx hb dX1_size_72 (lv_at hl 0 rfl) ?_
            refine lv_iload hx hb dX1_size_74 (lv_at hl 2 rfl) ?_
            refine lv_icmp_ge (tgt := 115) hx hb dX1_size_76 rfl (fun hcm3 => absurd hcm3 (nI_ge (show a0 * wd < b * wd by omega) (by omega))) (fun hcm3 => ?_)
            refine lv_iload hx hb dX1_size_79 (lv_at hl 1 rfl) ?_
            refine lv_if_eq (tgt := 115) hx hb dX1_size_81 rfl (fun hq0 => ?_) (fun hq0 => ?_)
            ·
              have hs1 : sn = false := fr_bi_ne0.mp hq0
              have hend : sn = true ↔ fr_al (F j) (b * wd) (b * wd + wd / 2) (wd / 2) = false ∧ ∀ e, e < b → fr_al (F j) (b * wd) (e * wd) wd = false := ⟨fun h => absurd (hs1.symm.trans h) (by decide), fun h => hsn.mpr ⟨h.1, fun e he => h.2 e (by omega)⟩⟩
              have hdone : sn = fr_nw (F j) wd b := by unfold fr_nw; rw [Bool.eq_iff_iff, hend, Bool.and_eq_true, Bool.not_eq_true', decide_eq_true_iff]
              refine lv_iload hx hb dX1_size_115 (lv_at hl 1 rfl) ?_
              refine lv_if_eq (tgt := 123) hx hb dX1_size_117 rfl (fun hq => ?_) (fun hq => ?_)
              ·
                have hsv : fr_nw (F j) wd b = false := by rw [← hdone]; exact fr_bi_ne0.mp hq
                have hcn : fr_cn (fr_nw (F j) wd) (b + 1) = fr_cn (fr_nw (F j) wd) b + 0 := by show fr_cn (fr_nw (F j) wd) b + (if fr_nw (F j) wd b = true then 1 else 0) = _; rw [hsv]; rfl
                refine lv_iload hx hb dX1_size_123 (lv_at hl 2 rfl) ?_
                refine lv_iload hx hb dX1_size_125 (lv_at hl 4 rfl) ?_
                refine lv_iadd hx hb dX1_size_127 ?_
                refine fr_top (show ((nI (b * wd) + nI wd) : Int32) = nI ((b + 1) * wd) from by rw [nI_add, Nat.add_mul, Nat.one_mul]) ?_
                refine lv_istore hx hb dX1_size_128 hl (by decide) rfl (fun ls hl => ?_)
                replace hl : lv_has ls 8 [(5, .int (nI ((b + 1) * wd))), (7, .int (nI (a0 * wd))), (6, .int (fr_bi sn)), (2, .int (nI (fr_sz (F j) V i + fr_cn (fr_nw (F j) wd) b))), (4, .int (nI wd)), (3, .int (nI i)), (0, .ref (bd 0)), (1, .int (nI j))] := hl
                refine lv_goto (tgt := 32) hx hb dX1_size_130 rfl ?_
                exact ih2 ls (b + 1) (by omega) (by rw [hcn]; exact lv_sub hl [0, 3, 4, 5, 6, 7] rfl)
              ·
                have hsv : fr_nw (F j) wd b = true := by rw [← hdone]; exact fr_bit hq
                have hcn : fr_cn (fr_nw (F j) wd) (b + 1) = fr_cn (fr_nw (F j) wd) b + 1 := by show fr_cn (fr_nw (F j) wd) b + (if fr_nw (F j) wd b = true then 1 else 0) = _; rw [hsv]; rfl
                refine lv_iinc (k := 3) (v := nI (fr_sz (F j) V i + fr_cn (fr_nw (F j) wd) b + 1)) hx hb dX1_size_120 hl rfl (fr_inc _) (by decide) rfl (fun ls hl => ?_)
                replace hl : lv_has ls 8 [(2, .int (nI (fr_sz (F j) V i + fr_cn (fr_nw (F j) wd) b + 1))), (7, .int (nI (a0 * wd))), (6, .int (fr_bi sn)), (5, .int (nI (b * wd))), (4, .int (nI wd)), (3, .int (nI i)), (0, .ref (bd 0)), (1, .int (nI j))] := hl
                refine lv_iload hx hb dX1_size_123 (lv_at hl 3 rfl) ?_
                refine lv_iload hx hb dX1_size_125 (lv_at hl 4 rfl) ?_
                refine lv_iadd hx hb dX1_size_127 ?_
                refine fr_top (show ((nI (b * wd) + nI wd) : Int32) = nI ((b + 1) * wd) from by rw [nI_add, Nat.add_mul, Nat.one_mul]) ?_
                refine lv_istore hx hb dX1_size_128 hl (by decide) rfl (fun ls hl => ?_)
                replace hl : lv_has ls 8 [(5, .int (nI ((b + 1) * wd))), (2, .int (nI (fr_sz (F j) V i + fr_cn (fr_nw (F j) wd) b + 1))), (7, .int (nI (a0 * wd))), (6, .int (fr_bi sn)), (4, .int (nI wd)), (3, .int (nI i)), (0, .ref (bd 0)), (1, .int (nI j))] := hl
                refine lv_goto (tgt := 32) hx hb dX1_size_130 rfl ?_
                exact ih2 ls (b + 1) (by omega) (by rw [hcn]; exact lv_sub hl [0, 1, 4, 5, 6, 7] rfl)
            ·
              have hs1 : sn = true := fr_bit hq0
              have hs2 := hsn.mp hs1
              refine lv_aload_n hx hb dX1_size_84 rfl (lv_at hl 6 rfl) ?_
              refine lv_iload_n hx hb dX1_size_85 rfl (lv_at hl 7 rfl) ?_
              refine lv_iload hx hb dX1_size_86 (lv_at hl 2 rfl) ?_
              refine lv_iload hx hb dX1_size_88 (lv_at hl 0 rfl) ?_
              refine lv_iload hx hb dX1_size_90 (lv_at hl 4 rfl) ?_
              refine fr_Mi (As := [.int (nI j), .int (nI (b * wd)), .int (nI (a0 * wd)), .int (nI wd)]) hS0 (cM_alike l D V bd kb row made F hM hV hV1 hinj j (b * wd) (a0 * wd) wd hLj (by omega) (by omega)) (cw_M_alike hw ⟨Nat.le_of_ble_eq_true rfl, Nat.le_of_ble_eq_true rfl⟩) hK hP rfl hl.1 rfl (Nat.le_of_ble_eq_true rfl) dX1_size_92 ⟨Nat.zero_le _, Nat.zero_le _⟩ (fun b9 hb9 => ?_)
              subst hb9
              refine lv_if_ne (tgt := 102) hx hb dX1_size_95 rfl (fun hz3 => ?_) (fun hz3 => ?_)
              ·
                have hl3 : fr_al (F j) (b * wd) (a0 * wd) wd = true := fr_bit hz3
                refine lv_iconst (v := 0) hx hb dX1_size_102 (by decide) ?_
                refine lv_istore hx hb dX1_size_103 hl (by decide) rfl (fun ls hl => ?_)
                replace hl : lv_has ls 8 [(6, .int 0), (7, .int (nI (a0 * wd))), (5, .int (nI (b * wd))), (2, .int (nI (fr_sz (F j) V i + fr_cn (fr_nw (F j) wd) b))), (4, .int (nI wd)), (3, .int (nI i)), (0, .ref (bd 0)), (1, .int (nI j))] := hl
                refine lv_iload hx hb dX1_size_105 (lv_at hl 1 rfl) ?_
                refine lv_iload hx hb dX1_size_107 (lv_at hl 4 rfl) ?_
                refine lv_iadd hx hb dX1_size_109 ?_
                refine fr_top (show ((nI (a0 * wd) + nI wd) : Int32) = nI ((a0 + 1) * wd) from by rw [nI_add, Nat.add_mul, Nat.one_mul]) ?_
                refine lv_istore hx hb dX1_size_110 hl (by decide) rfl (fun ls hl => ?_)
                replace hl : lv_has ls 8 [(7, .int (nI ((a0 + 1) * wd))), (6, .int 0), (5, .int (nI (b * wd))), (2, .int (nI (fr_sz (F j) V i + fr_cn (fr_nw (F j) wd) b))), (4, .int (nI wd)), (3, .int (nI i)), (0, .ref (bd 0)), (1, .int (nI j))] := hl
                refine lv_goto (tgt := 72) hx hb dX1_size_112 rfl ?_
                exact ih3 ls (a0 + 1) (by omega) false (⟨fun h => absurd h (by decide), fun h => absurd (hl3.symm.trans (h.2 a0 (by omega))) (by decide)⟩) (lv_sub hl [0, 1, 2, 3, 4, 5, 6, 7] rfl)
              ·
                have hl3 : fr_al (F j) (b * wd) (a0 * wd) wd = false := fr_bi_ne0.mp hz3
                refine lv_iconst (v := 1) hx hb dX1_size_98 (by decide) ?_
                refine lv_goto (tgt := 103) hx hb dX1_size_99 rfl ?_
                refine lv_istore hx hb dX1_size_103 hl (by decide) rfl (fun ls hl => ?_)
                replace hl : lv_has ls 8 [(6, .int 1), (7, .int (nI (a0 * wd))), (5, .int (nI (b * wd))), (2, .int (nI (fr_sz (F j) V i + fr_cn (fr_nw (F j) wd) b))), (4, .int (nI wd)), (3, .int (nI i)), (0, .ref (bd 0)), (1, .int (nI j))] := hl
                refine lv_iload hx hb dX1_size_105 (lv_at hl 1 rfl) ?_
                refine lv_iload hx hb dX1_size_107 (lv_at hl 4 rfl) ?_
                refine lv_iadd hx hb dX1_size_109 ?_
                refine fr_top (show ((nI (a0 * wd) + nI wd) : Int32) = nI ((a0 + 1) * wd) from by rw [nI_add, Nat.add_mul, Nat.one_mul]) ?_
                refine lv_istore hx hb dX1_size_110 hl (by decide) rfl (fun ls hl => ?_)
                replace hl : lv_has ls 8 [(7, .int (nI ((a0 + 1) * wd))), (6, .int 1), (5, .int (nI (b * wd))), (2, .int (nI (fr_sz (F j) V i + fr_cn (fr_nw (F j) wd) b))), (4, .int (nI wd)), (3, .int (nI i)), (0, .ref (bd 0)), (1, .int (nI j))] := hl
                refine lv_goto (tgt := 72) hx hb dX1_size_112 rfl ?_
                exact ih3 ls (a0 + 1) (by omega) true (⟨fun _ => ⟨hs2.1, lt_s hs2.2 hl3⟩, fun _ => rfl⟩) (lv_sub hl [0, 1, 2, 3, 4, 5, 6, 7] rfl)
  ·
    refine lv_if_ne (tgt := 9) hx hb dX1_size_4 rfl (fun hz => absurd rfl hz) (fun hz => ?_)
    refine lv_iconst (v := (-1)) hx hb dX1_size_7 (by decide) ?_
    exact W.iret (v := (-1)) hx hb hret (fun t ht hW => ⟨_, rfl, (if_neg (by rw [fr_okB_no (hno)]; decide)).symm, ht⟩) (fun q hq => by cases hq) dX1_size_8
end
section
/-! a new array of arrays: multianewarray of two dimensions, over the machine -/
/-- the outer array, its first i places laid -/
def fm_o (cA : ClassId) (N h i : Nat) : Cell := arrV cA N (fun j => if j < i then .ref (h + 1 + j) else .null)
theorem fm_o_set (cA : ClassId) (N h i : Nat) : (fm_o cA N h i).setSlot i (.ref (h + 1 + i)) = fm_o cA N h (i + 1) := by
  refine (arrV_store cA N i _ _).trans (congrArg (arrV cA N) (funext fun j => ?_))
  show (if j = i then Value.ref (h + 1 + i) else if j < i then Value.ref (h + 1 + j) else Value.null) = if j < i + 1 then Value.ref (h + 1 + j) else Value.null
  rcases Nat.lt_trichotomy j i with hj | hj | hj
  · rw [if_neg (by omega), if_pos hj, if_pos (by omega)]
  · rw [if_pos hj, if_pos (by omega), hj]
  · rw [if_neg (by omega), if_neg (by omega), if_neg (by omega)]
/-- the state when i rows are made: each a cell behind the last, then its place in the outer array -/
def fm_s (T : State) (cA comp : ClassId) (N K : Nat) (dv : Value) : Nat → State
  | 0 => T.pushCell (fm_o cA N T.heap.size 0)
  | i + 1 => ((fm_s T cA comp N K dv i).pushCell (arrV comp K (fun _ => dv))).setCell T.heap.size (fm_o cA N T.heap.size (i + 1))
theorem fm_top (T : State) (f : JFrame) (cA comp : ClassId) (N K : Nat) (dv : Value) : ∀ i, fm_s (T.setTop f) cA comp N K dv i = (fm_s T cA comp N K dv i).setTop f
  | 0 => rfl
  | i + 1 => by
    show ((fm_s (T.setTop f) cA comp N K dv i).pushCell _).setCell _ _ = _
    rw [fm_top T f cA comp N K dv i, State.pushCell_setTop, State.setCell_setTop]
    rfl
section FM
variable {p : Program} {l : Launch} {e : Env} {R : Room} {s : State} {m : MethodId} {args : Array Value} {below : List Frame} {meth : Method} {c : Code} {T : State} {H : Heap} {locs : List Loc} {cells slots : Nat} {Q : State → Prop}
variable {cc : ByteArray} {pc : Nat} {ls : Array Slot} {rest : List Value}
/-- what stands in the midst of it -/
def fm_at (p : Program) (l : Launch) (e : Env) (R : Room) (s : State) (m : MethodId) (args : Array Value) (below : List Frame) (meth : Method) (c : Code) (locs : List Loc) (cells slots N K : Nat) (T0 : State) (cA comp : ClassId) (dv : Value) (i : Nat) (T : State) : Prop :=
  Stand p l e R s m args below meth c T locs (cells + (1 + i)) (slots + (N + i * K)) ∧ T.vm = T0.vm ∧ T.heap.size = T0.heap.size + (1 + i) ∧ T.heap[T0.heap.size]? = some (fm_o cA N T0.heap.size i) ∧ (∀ j : Nat, j < i → T.heap[T0.heap.size + 1 + j]? = some (arrV comp K (fun _ => dv))) ∧ ∀ a : Nat, a < T0.heap.size → T.heap[a]? = T0.heap[a]?
theorem fm_run (X : Stand p l e R s m args below meth c T locs cells slots) (cA comp : ClassId) (N K : Nat) (dv : Value) : ∀ i, fm_at p l e R s m args below meth c locs cells slots N K T cA comp dv i (fm_s T cA comp N K dv i)
  | 0 => by
    have h := X.pushed (fm_o cA N T.heap.size 0)
    rw [show (fm_o cA N T.heap.size 0).slots.size = N from arrV_size _ _ _] at h
    refine ⟨?_, rfl, size_pushCell _ _, State.heap_pushCell_size _ _, fun j hj => absurd hj (Nat.not_lt_zero j), fun a ha => State.heap_pushCell_of_lt _ _ ha⟩
    rw [Nat.zero_mul]
    exact h
  | i + 1 => by
    obtain ⟨Xi, v1, z1, o1, r1, k1⟩ := fm_run X cA comp N K dv i
    generalize hU : fm_s T cA comp N K dv i = U at Xi v1 z1 o1 r1 k1
    have hUs : fm_s T cA comp N K dv (i + 1) = (U.pushCell (arrV comp K (fun _ => dv))).setCell T.heap.size (fm_o cA N T.heap.size (i + 1)) := by rw [← hU]; rfl
    rw [hUs]
    have hold : ∀ a : Nat, a < U.heap.size → (U.pushCell (arrV comp K (fun _ => dv))).heap[a]? = U.heap[a]? := fun a ha => State.heap_pushCell_of_lt _ _ ha
    have hcell : (U.pushCell (arrV comp K (fun _ => dv))).heap[T.heap.size]? = some (fm_o cA N T.heap.size i) := (hold _ (by omega)).trans o1
    have hne : ∀ a : Nat, a ≠ T.heap.size → ((U.pushCell (arrV comp K (fun _ => dv))).setCell T.heap.size (fm_o cA N T.heap.size (i + 1))).heap[a]? = (U.pushCell (arrV comp K (fun _ => dv))).heap[a]? := fun a ha => State.heap_setCell_other (Ne.symm ha)
    have h := (Xi.pushed (arrV comp K (fun _ => dv))).stored hcell i (.ref (T.heap.size + 1 + i))
    rw [arrV_size, fm_o_set] at h
    refine ⟨?_, v1, by rw [size_setCell, size_pushCell, z1]; omega, State.heap_setCell_self hcell, fun j hj => ?_, fun a ha => ?_⟩
    · have h2 := h.dropFresh (fun x hx => by
        rw [List.mem_singleton] at hx
        rw [hx]
        exact X.heapGrown)
      rw [show cells + (1 + (i + 1)) = cells + (1 + i) + 1 by omega, show slots + (N + (i + 1) * K) = slots + (N + i * K) + K by rw [Nat.succ_mul]; omega]
      exact h2
    · rw [hne _ (by omega)]
      rcases Nat.lt_or_ge j i with hj2 | hj2
      · rw [hold _ (by omega)]
        exact r1 j hj2
      · rw [show T.heap.size + 1 + j = U.heap.size by omega]
        exact State.heap_pushCell_size _ _
    · rw [hne _ (by omega), hold _ (by omega)]
      exact k1 a ha
/-- the rows made one behind another: what 'make' does -/
theorem fm_make {E : CtlPost} {d : Bool} {acts : List Action} {cA comp cq : ClassId} {kA kC : Class} {ty : FieldType} {n k : Int32} {N K : Nat} {f : JFrame} (X : Stand p l e R s m args below meth c T locs cells slots) (hN : n.toNatClampNeg = N) (hK : k.toNatClampNeg = K) (hkA : T.vm.classes[cA]? = some kA) (hkindA : kA.kind = .array comp (.array ty)) (hkC : T.vm.classes[comp]? = some kC) (hkindC : kC.kind = .array cq ty) (hn : ¬ n < 0) (hk : ¬ k < 0)
    (hl1 : ¬ N > e.platform.arrayLengthLimit) (hh1 : ¬ N * componentBytes (.array ty) > e.platform.maxHeapBytes) (hl2 : ¬ K > e.platform.arrayLengthLimit) (hh2 : ¬ K * componentBytes ty > e.platform.maxHeapBytes) (hdf : fits ty (defaultValue ty) = true) (hcells : cells + (1 + N) ≤ R.cells) (hslots : slots + (N + N * K) ≤ R.slots)
    {Qa : Addr → Pre} (hq : ∀ d' acts', Qa T.heap.size d' acts' ((fm_s T cA comp N K (defaultValue ty) N).setTop f)) : wp (multianewarray.make cA [n, k]) Qa E e d acts (T.setTop f) := by
  subst hN hK
  have hkA' : (T.setTop f).vm.classes[cA]? = some kA := hkA
  obtain ⟨r1, r2⟩ := X.roomAbove (a := 1) (b := n.toNatClampNeg) (by omega) (by have := Nat.zero_le (n.toNatClampNeg * k.toNatClampNeg); omega)
  rw [multianewarray.make]
  simp only [wp_bind', W.ite, hn, if_false, wp_pure', W.theClass, hkA', hkindA, Option.some.injEq, exists_eq_left']
  refine W.newArray_of hkA' hkindA hl1 hh1 r1 r2 rfl (fun acts1 => ?_)
  rw [arrV_new, show ([k].find? (· < 0)) = none by simp [hk]]
  have h0 : (T.setTop f).pushCell (arrV cA n.toNatClampNeg (fun _ => .null)) = (fm_s T cA comp n.toNatClampNeg k.toNatClampNeg (defaultValue ty) 0).setTop f := by
    rw [State.pushCell_setTop]
    rfl
  rw [h0]
  simp only [ite_self]
  rw [wp_bind', Std.Legacy.Range.forIn_eq_forIn_range']
  refine wp_forIn_inv (fun todo U => ∃ i, todo = List.range' i (n.toNatClampNeg - i) ∧ i ≤ n.toNatClampNeg ∧ U = (fm_s T cA comp n.toNatClampNeg k.toNatClampNeg (defaultValue ty) i).setTop f) _ _ ⟨0, by simp [Std.Legacy.Range.size], Nat.zero_le _, rfl⟩ ?_ ?_
  · rintro x todo U d1 acts1 Q1 ⟨i, hr, hi, rfl⟩ hnext
    rcases Nat.lt_or_ge i n.toNatClampNeg with hlt | hge
    · obtain ⟨j, hj⟩ : ∃ j, n.toNatClampNeg - i = j + 1 := ⟨n.toNatClampNeg - i - 1, by omega⟩
      rw [hj, List.range'_succ] at hr
      obtain ⟨rfl, rfl⟩ := List.cons.inj hr
      obtain ⟨Xi, v1, z1, o1, -, -⟩ := fm_run X cA comp n.toNatClampNeg k.toNatClampNeg (defaultValue ty) x
      have hmul : x * k.toNatClampNeg + k.toNatClampNeg ≤ n.toNatClampNeg * k.toNatClampNeg := by
        rw [← Nat.succ_mul]
        exact Nat.mul_le_mul_right _ hlt
      obtain ⟨s1, s2⟩ := Xi.roomAbove (a := 1) (b := k.toNatClampNeg) (by omega) (by omega)
      have hkC' : ((fm_s T cA comp n.toNatClampNeg k.toNatClampNeg (defaultValue ty) x).setTop f).vm.classes[comp]? = some kC := by
        show (fm_s T cA comp n.toNatClampNeg k.toNatClampNeg (defaultValue ty) x).vm.classes[comp]? = some kC
        rw [v1]
        exact hkC
      simp only [wp_bind']
      rw [multianewarray.make]
      simp only [wp_bind', W.ite, hk, if_false, wp_pure', W.theClass, hkC', hkindC, Option.some.injEq, exists_eq_left']
      refine W.newArray_of hkC' hkindC hl2 hh2 s1 s2 hdf (fun acts2 => ?_)
      rw [arrV_new, State.pushCell_setTop]
      simp only [wp_bind', W.writeLoc, wp_pure']
      refine ⟨fm_o cA n.toNatClampNeg T.heap.size x, ?_, fun z => (by cases z), ?_, ?_, hnext _ _ _ ⟨x + 1, ?_, hlt, ?_⟩⟩
      · have hz : T.heap.size < (fm_s T cA comp n.toNatClampNeg k.toNatClampNeg (defaultValue ty) x).heap.size := by
          rw [z1]
          omega
        exact (State.heap_pushCell_of_lt _ _ hz).trans o1
      · rw [show (fm_o cA n.toNatClampNeg T.heap.size x).slots.size = n.toNatClampNeg from arrV_size _ _ _]
        exact hlt
      · have hv : ((fm_s T cA comp n.toNatClampNeg k.toNatClampNeg (defaultValue ty) x).pushCell (arrV comp k.toNatClampNeg (fun _ => defaultValue ty))).vm.classes[cA]? = some kA := by
          show (fm_s T cA comp n.toNatClampNeg k.toNatClampNeg (defaultValue ty) x).vm.classes[cA]? = some kA
          rw [v1]
          exact hkA
        show State.fitsSlot _ cA .none x _ = true
        simp [State.fitsSlot, State.slotType?, v1, hkA, hkindA, fits]
      · rw [show n.toNatClampNeg - (x + 1) = j by omega]
      · show ((_ : State).setTop f).setCell _ _ = _
        rw [State.setCell_setTop]
        refine congrArg (fun z : State => z.setTop f) ?_
        have e1 : (fm_s T cA comp n.toNatClampNeg k.toNatClampNeg (defaultValue ty) x).heap.size = T.heap.size + 1 + x := by omega
        show State.setCell _ _ ((fm_o cA n.toNatClampNeg T.heap.size x).setSlot x (.ref (fm_s T cA comp n.toNatClampNeg k.toNatClampNeg (defaultValue ty) x).heap.size)) = _
        rw [e1, fm_o_set]
        rfl
    · rw [show n.toNatClampNeg - i = 0 by omega] at hr
      cases hr
  · rintro U d1 acts1 ⟨i, hr, hi, rfl⟩
    have hiN : i = n.toNatClampNeg := by
      have hl := congrArg List.length hr
      rw [List.length_range', List.length_nil] at hl
      omega
    subst hiN
    simp only [wp_pure']
    exact hq _ _
/-- what the tables say of arrays of arrays, in a form that stays -/
def fm_ov (t : FieldType) (U : State) : Prop := ∃ (comp c : ClassId) (k : Class), U.vm.findClass (FieldType.array t).toString = some comp ∧ U.vm.classes[c]? = some k ∧ k.kind = .array comp (.array t) ∧ U.vm.findClass ("[" ++ (FieldType.array t).toString) = some c
theorem fm_ov.moved {t : FieldType} {u U : State} (hvm : u.vm.Alike U.vm) (h : fm_ov t u) : fm_ov t U := by
  obtain ⟨comp, c, k, h1, h2, h3, h4⟩ := h
  obtain ⟨k', hk', he⟩ := hvm.2.2 _ _ h2
  exact ⟨comp, c, k', by rw [hvm.findClass]; exact h1, hk', by rw [he]; exact h3, by rw [hvm.findClass]; exact h4⟩
theorem fm_over {t : FieldType} (h : (Cond.arrayOver (.array t)).before args s = true) : fm_ov t s := by
  simp only [Cond.before, Cond.holds, Cond.value, beq_iff_eq, Option.bind_eq_some_iff, Option.map_eq_some_iff] at h
  obtain ⟨comp, hc, i, hi, k, hk, hb⟩ := h
  obtain ⟨hlt, hp, -⟩ := Array.findIdx?_eq_some_iff_getElem.mp hi
  rw [(Array.getElem?_eq_some_iff.mp hk).2] at hp
  split at hb
  · rename_i c2 t2 hkd
    rw [hkd] at hp
    simp only [beq_iff_eq, Bool.and_eq_true, decide_eq_true_eq] at hp hb
    exact ⟨comp, i, k, hc, hk, by rw [hkd, hp, hb.1], hb.2⟩
  · cases hb
theorem fm_row (hexec : p.tables.exec = Jvm.exec) (hb : c.code = cc) {own : String} {index : Nat} {ty : FieldType} (hown : s.vm.findClass own = some m.cls) (hclink : (Cond.classLink own index ("[" ++ (FieldType.array ty).toString)).before args s = true) (hover : fm_ov ty s) (harr : (Cond.arrayClass ty).before args s = true)
    {n k : Int32} {N K : Nat} (hn : ¬ n < 0) (hk : ¬ k < 0) (hN : n.toNatClampNeg = N) (hK : k.toNatClampNeg = K) (hb1 : N * 4 ≤ 536870912) (hb2 : K * componentBytes ty ≤ 536870912) (hb3 : K ≤ 536870912) (hdf : fits ty (defaultValue ty) = true) (hcells : cells + (1 + N) ≤ R.cells) (hslots : slots + (N + N * K) ≤ R.slots) (hdg : decode cc pc = .ok (.multianewarray index 2, 4))
    (kk : ∀ (H' : Heap) (cA comp : ClassId), H'.size = H.size + (1 + N) → H'[H.size]? = some (fm_o cA N H.size N) → (∀ j : Nat, j < N → H'[H.size + 1 + j]? = some (arrV comp K (fun _ => defaultValue ty))) → (∀ q : Nat, q < H.size → H'[q]? = H[q]?) → ArrOfT s cA (.array ty) → ArrOfT s comp ty → s.vm.findClass ("[" ++ (FieldType.array ty).toString) = some cA → s.vm.findClass (FieldType.array ty).toString = some comp →
      W p l e R s m args below meth c H' locs (cells + (1 + N)) (slots + (N + N * K)) Q (F0 m (pc + 4) ls (.ref H.size :: rest))) : W p l e R s m args below meth c H locs cells slots Q (F0 m pc ls (.int k :: .int n :: rest)) := by
  intro T hT X
  subst hT
  obtain ⟨comp, cA, kA, hcomp, hkA, hkindA, hnameA⟩ := hover
  obtain ⟨comp2, kC, cq, hcomp2, hkC, hkindC⟩ := Cond.arrayClass_spec harr
  cases hcomp.symm.trans hcomp2
  obtain ⟨c0, hfc0, hcl⟩ := Cond.classLink_spec hown hclink e.platform (by rw [X.admits.platform])
  cases hnameA.symm.trans hfc0
  obtain ⟨hg₁, hwarm₁, -⟩ := State.classEntry (e := e) X.warmed hcl
  generalize T.vm.noted m.cls index (.cls cA) = vm₁ at hg₁ hwarm₁
  obtain ⟨kA₁, hkA₁, heA⟩ := hwarm₁.alike.2.2 _ _ hkA
  obtain ⟨kC₁, hkC₁, heC⟩ := hwarm₁.alike.2.2 _ _ hkC
  have X₁ := X.noted hwarm₁
  obtain ⟨XF, -, f1, f2, f3, f4⟩ := fm_run X₁ cA comp N K (defaultValue ty) N
  obtain ⟨t, a1, b1⟩ := kk (fm_s (T.setVm vm₁) cA comp N K (defaultValue ty) N).heap cA comp f1 f2 f3 f4 (fun _ _ => ⟨(fun x h => by cases h), kA, hkA, comp, hkindA⟩) (fun _ _ => ⟨(fun x h => by cases h), kC, hkC, cq, hkindC⟩) hnameA hcomp _ rfl XF
  refine ⟨t, ?_, b1⟩
  have lim := Launch.admits_arrayLengthLimit X.admits
  have hp := Launch.admits_maxHeapBytes X.admits
  jvm_step X.here [hexec, hb, hdg]
  simp only [multianewarray.sem, wp_bind', W.resolveClassAt_links (State.method?_setTop (F0 m pc ls (.int k :: .int n :: rest)) X.here.top) hg₁]
  rw [W.popN, if_neg (by decide)]
  refine ⟨_, State.topJava?_setTop' (s := T.setVm vm₁) _ X.here.top, [.int n, .int k], rest, rfl, rfl, ?_⟩
  simp only [List.mapM_cons, List.mapM_nil, wp_bind', wp_pure']
  rw [show ((T.setTop (F0 m pc ls (.int k :: .int n :: rest))).setVm vm₁).setTop { (F0 m pc ls (.int k :: .int n :: rest)) with stack := rest } = (T.setVm vm₁).setTop { (F0 m pc ls (.int k :: .int n :: rest)) with stack := rest } from State.setTop_setTop (s := T.setVm vm₁) _ _]
  refine fm_make (kA := kA₁) (kC := kC₁) (comp := comp) (cq := cq) (ty := ty) X₁ hN hK hkA₁ (by rw [heA]; exact hkindA) hkC₁ (by rw [heC]; exact hkindC) hn hk (by rw [lim]; omega) (by rw [hp]; show ¬ N * 4 > _; omega) (by rw [lim]; omega) (by rw [hp]; omega) hdf hcells hslots (fun d' acts' => ?_)
  have top := State.topJava?_setTop' { (F0 m pc ls (.int k :: .int n :: rest)) with stack := rest } XF.here.top
  rw [wp_bind', W.mark, W.pushRef]
  refine ⟨_, top, fun more => ?_⟩
  rw [State.setTop_setTop]
  simp [jvm, XF.here.top]
  exact a1
end FM
end
section
/-! for the constructors -/
def fr_cl (x : Int32) : Nat := if x < 1 then 1 else if 9 < x then 9 else x.toNatClampNeg
theorem fr_nlelt {x y : Int32} (h : ¬ x ≤ y) : y < x := by
  rw [Int32.le_iff_toInt_le] at h
  rw [Int32.lt_iff_toInt_lt]
  omega
theorem fr_clv {x : Int32} (h : 1 ≤ x) : nI x.toNatClampNeg = x := by
  have e1 : (1 : Int32).toInt = 1 := by decide
  rw [Int32.le_iff_toInt_le, e1] at h
  have e0 : (0 : Int32).toInt = 0 := by decide
  obtain ⟨j, hj, rfl⟩ := nI_of (x := x) (fun z => by rw [Int32.lt_iff_toInt_lt, e0] at z; omega)
  rw [nI_clamp hj]
theorem fr_cl_le (x : Int32) : 1 ≤ fr_cl x ∧ fr_cl x < 10 := by
  unfold fr_cl
  have e1 : (1 : Int32).toInt = 1 := by decide
  have e9 : (9 : Int32).toInt = 9 := by decide
  have e0 : (0 : Int32).toInt = 0 := by decide
  by_cases h1 : x < 1
  · rw [if_pos h1]
    omega
  · rw [if_neg h1]
    by_cases h9 : 9 < x
    · rw [if_pos h9]
      omega
    · rw [if_neg h9]
      rw [Int32.lt_iff_toInt_lt, e1] at h1
      rw [Int32.lt_iff_toInt_lt, e9] at h9
      obtain ⟨j, hj, rfl⟩ := nI_of (x := x) (fun z => by rw [Int32.lt_iff_toInt_lt, e0] at z; omega)
      rw [nI_clamp hj]
      rw [nI_toInt hj] at h1 h9
      omega
theorem fr_D1 (q : Nat × va_E) : va_D (fun _ => True) [q] := by
  refine ⟨fun i j p r hp hr _ => ?_, fun _ _ _ => trivial⟩
  have h1 : i < 1 := (List.getElem?_eq_some_iff.mp hp).1
  have h2 : j < 1 := (List.getElem?_eq_some_iff.mp hr).1
  omega
def fr_a3 (a b c : Nat) : Nat → Nat := fun i => if i = 0 then a else if i = 1 then b else c
theorem fr_a3_inj {A : Nat → Prop} {a b c : Nat} {x y z : va_E} (hD : va_D A [(a, x), (b, y), (c, z)]) : fr_injB (fr_a3 a b c) := by
  have key : ∀ i, i < 3 → ∃ q, [(a, x), (b, y), (c, z)][i]? = some q ∧ q.1 = fr_a3 a b c i := by
    intro i hi
    rcases (show i = 0 ∨ i = 1 ∨ i = 2 by omega) with rfl | rfl | rfl
    · exact ⟨_, rfl, rfl⟩
    · exact ⟨_, rfl, rfl⟩
    · exact ⟨_, rfl, rfl⟩
  intro i j hi hj e
  obtain ⟨p, p1, p2⟩ := key i hi
  obtain ⟨q, q1, q2⟩ := key j hj
  exact hD.1 i j p q p1 q1 (by rw [p2, q2]; exact e)
theorem fr_a3_in {A : Nat → Prop} {a b c : Nat} {x y z : va_E} (hD : va_D A [(a, x), (b, y), (c, z)]) : ∀ i, i < 3 → A (fr_a3 a b c i) := by
  intro i hi
  rcases (show i = 0 ∨ i = 1 ∨ i = 2 by omega) with rfl | rfl | rfl
  · exact hD.2 0 _ rfl
  · exact hD.2 1 _ rfl
  · exact hD.2 2 _ rfl
theorem fr_zeroZ {N : Nat} (cA : ClassId) : vp_cell cA (N, .inl (fun _ => 0)) = arrV cA N (fun _ => defaultValue .boolean) := by
  rw [vp_cell_i]
  rfl
theorem fr_zeroI {N : Nat} (cA : ClassId) : vp_cell cA (N, .inl (fun _ => 0)) = arrV cA N (fun _ => defaultValue .int) := by
  rw [vp_cell_i]
  rfl
theorem fr_zeroL {N : Nat} (cA : ClassId) : vp_cell cA (N, .inr (.inl (fun _ => 0))) = arrV cA N (fun _ => defaultValue .long) := by
  rw [vp_cell_l]
  rfl
end
section
set_option maxHeartbeats 4000000 in
set_option maxRecDepth 100000 in
theorem cM_init (l : Launch) (D : va_G) (h0 sz : Nat) (v : Int32) : Met l yX1_init wsM_init rmM_init (va_Pc [.ref h0, .int v] (fun U => U.heap.size = sz ∧ va_P D vwCl [(h0, .inr (CIM, [.int 0, .int 0, .null, .null]))] U.heap ∧ va_K D vwCl [] U)) (va_Qv (fun u : (Nat → Nat) × (Nat → ClassId) => u.1 0 = h0 ∧ fr_injB u.1 ∧ ∀ i, i < 3 → va_A [(h0, .inr (CIM, [.int 0, .int 0, .null, .null]))] sz (u.1 i)) (fun u t => va_P D vwCl (fr_mw (fr_cl v) u.1 u.2 (fun _ => 0) (fun _ => 0)) t.heap ∧ va_K D vwCl (fr_mty u.2) t) (va_A [(h0, .inr (CIM, [.int 0, .int 0, .null, .null]))] sz)) 2 16896 (va_A [(h0, .inr (CIM, [.int 0, .int 0, .null, .null]))] sz) := by
  refine Met.ofW (cc := cX1_init) (maxL := 2) (ret := none) (by decide) rfl ?_
  intro p e s m args below meth c s₁ B hml hv
  obtain ⟨rfl, hsz, hP, hK⟩ := hv
  have hx := B.exec
  have hb := B.bytes
  have hret := B.returns
  have hw := fun w (h : w ∈ WA) => atoms_spec (ws := wsM_init) B.pre w (List.mem_cons_of_mem _ h)
  have hown : s.vm.findClass "FunctionRoomModel" = some m.cls := findClass_of_methodNamed B.named
  have hlocks := B.notSynchronized
  have hin : meth.name = "<init>" := (name_of_methodNamed B.named B.method).1
  have hS0 : CallFix p m c cX1_init 2 s _ WA "FunctionRoomModel" := ⟨hx, hb, hml, hown, hw⟩
  subst hsz
  have hD := (fr_D1 (h0, (.inr (CIM, [.int 0, .int 0, .null, .null]) : va_E))).self (sz := s.heap.size)
  generalize hAe : va_A [(h0, .inr (CIM, [.int 0, .int 0, .null, .null]))] s.heap.size = A at hD ⊢
  have hA : ∀ q : Nat, s.heap.size ≤ q → A q := fun q h => by rw [← hAe]; exact Or.inr h
  have hS : va_S A s.heap s.heap [] := va_S.rf
  have hl := lv_entry ([.ref h0, .int v]) (n := 2) (Nat.le_of_ble_eq_true rfl)
  rw [lg_entry_eq]
  generalize (lg_sl ([.ref h0, .int v]) ++ List.replicate (2 - (lg_sl ([.ref h0, .int v])).length) Slot.unset).toArray = ls at hl ⊢
  replace hl : lv_has ls 2 [(0, .ref h0), (1, .int v)] := hl
  refine lv_aload_n hx hb dX1_init_0 rfl (lv_at hl 0 rfl) ?_
  refine W.objInit hx hb hown (hw _ mM_M_objinit) (hw _ mV_objinit) (hw _ mO_objinit) rfl (by rw [hml]; exact hl.1) rfl dX1_init_1 (Nat.le_of_ble_eq_true rfl) (Nat.le_of_ble_eq_true rfl) ?_
  refine W.eq (g2 := F0 m 4 ls []) rfl ?_
  refine lv_aload_n hx hb dX1_init_4 rfl (lv_at hl 0 rfl) ?_
  refine lv_sipush (v := 16384) hx hb dX1_init_5 (by decide) ?_
  refine va_newa (atype := .boolean) (ty := .boolean) (a0 := (16384, .inl (fun _ => 0))) (N' := 16384) hx hb (hw _ mA_boolean) rfl hK hP hD hS hA fr_zeroZ (by decide) (by decide +kernel) (by decide +kernel) (Nat.le_of_ble_eq_true rfl) (Nat.le_of_ble_eq_true rfl) dX1_init_8 (fun q1 c1 H hK hP hD hS => ?_)
  replace hP : va_P D vwCl [(h0, .inr (CIM, [.int 0, .int 0, .null, .null])), (q1, .inl (c1, (16384, .inl (fun _ => 0))))] H := hP
  replace hD : va_D A [(h0, .inr (CIM, [.int 0, .int 0, .null, .null])), (q1, .inl (c1, (16384, .inl (fun _ => 0))))] := hD
  replace hK : va_K D vwCl [(c1, .boolean)] s := hK
  refine va_putF (D := D) (ci := CIM) (v := .ref q1) (ty := .array .boolean) (C := "FunctionRoomModel") (T := TM) (N := 4) hx hb hw hinM tyX1 tyX1_ok nmX1 hown hK hP hD hS 0 rfl rfl 2 (by decide) (hw _ mG_row) (fun _ h9 => h9) rfl hin rfl (by decide +kernel) rfl rfl (Nat.le_of_ble_eq_true rfl) dX1_init_10 (fun H locs hP hD hS => ?_)
  replace hP : va_P D vwCl [(h0, .inr (CIM, [.int 0, .int 0, .ref q1, .null])), (q1, .inl (c1, (16384, .inl (fun _ => 0))))] H := hP
  replace hD : va_D A [(h0, .inr (CIM, [.int 0, .int 0, .ref q1, .null])), (q1, .inl (c1, (16384, .inl (fun _ => 0))))] := hD
  refine lv_aload_n hx hb dX1_init_13 rfl (lv_at hl 0 rfl) ?_
  refine lv_sipush (v := 512) hx hb dX1_init_14 (by decide) ?_
  refine va_newa (atype := .boolean) (ty := .boolean) (a0 := (512, .inl (fun _ => 0))) (N' := 512) hx hb (hw _ mA_boolean) rfl hK hP hD hS hA fr_zeroZ (by decide) (by decide +kernel) (by decide +kernel) (Nat.le_of_ble_eq_true rfl) (Nat.le_of_ble_eq_true rfl) dX1_init_17 (fun q2 c2 H hK hP hD hS => ?_)
  replace hP : va_P D vwCl [(h0, .inr (CIM, [.int 0, .int 0, .ref q1, .null])), (q1, .inl (c1, (16384, .inl (fun _ => 0)))), (q2, .inl (c2, (512, .inl (fun _ => 0))))] H := hP
  replace hD : va_D A [(h0, .inr (CIM, [.int 0, .int 0, .ref q1, .null])), (q1, .inl (c1, (16384, .inl (fun _ => 0)))), (q2, .inl (c2, (512, .inl (fun _ => 0))))] := hD
  replace hK : va_K D vwCl [(c1, .boolean), (c2, .boolean)] s := hK
  refine va_putF (D := D) (ci := CIM) (v := .ref q2) (ty := .array .boolean) (C := "FunctionRoomModel") (T := TM) (N := 4) hx hb hw hinM tyX1 tyX1_ok nmX1 hown hK hP hD hS 0 rfl rfl 3 (by decide) (hw _ mG_made) (fun _ h9 => h9) rfl hin rfl (by decide +kernel) rfl rfl (Nat.le_of_ble_eq_true rfl) dX1_init_19 (fun H locs hP hD hS => ?_)
  replace hP : va_P D vwCl [(h0, .inr (CIM, [.int 0, .int 0, .ref q1, .ref q2])), (q1, .inl (c1, (16384, .inl (fun _ => 0)))), (q2, .inl (c2, (512, .inl (fun _ => 0))))] H := hP
  replace hD : va_D A [(h0, .inr (CIM, [.int 0, .int 0, .ref q1, .ref q2])), (q1, .inl (c1, (16384, .inl (fun _ => 0)))), (q2, .inl (c2, (512, .inl (fun _ => 0))))] := hD
  refine lv_aload_n hx hb dX1_init_22 rfl (lv_at hl 0 rfl) ?_
  refine lv_iload_n hx hb dX1_init_23 rfl (lv_at hl 1 rfl) ?_
  refine lv_iconst (v := 1) hx hb dX1_init_24 (by decide) ?_
  refine lv_icmp_ge (tgt := 32) hx hb dX1_init_25 rfl (fun h1 => ?_) (fun h1 => ?_)
  ·
    refine lv_iload_n hx hb dX1_init_32 rfl (lv_at hl 1 rfl) ?_
    refine lv_bipush (v := 9) hx hb dX1_init_33 (by decide) ?_
    refine lv_icmp_le (tgt := 43) hx hb dX1_init_35 rfl (fun h2 => ?_) (fun h2 => ?_)
    ·
      refine lv_iload_n hx hb dX1_init_43 rfl (lv_at hl 1 rfl) ?_
      have hcl : fr_cl v = v.toNatClampNeg := by unfold fr_cl; rw [if_neg (fun z => fr_ltle z h1), if_neg (fun z => fr_ltle z h2)]
      refine fr_top (show (v : Int32) = nI (fr_cl v) from by rw [hcl]; exact (fr_clv h1).symm) ?_
      refine va_putF (D := D) (ci := CIM) (v := .int (nI (fr_cl v))) (ty := .int) (C := "FunctionRoomModel") (T := TM) (N := 4) hx hb hw hinM tyX1 tyX1_ok nmX1 hown hK hP hD hS 0 rfl rfl 0 (by decide) (hw _ mG_variables) (fun _ h9 => h9) rfl hin rfl (by decide +kernel) rfl rfl (Nat.le_of_ble_eq_true rfl) dX1_init_44 (fun H locs hP hD hS => ?_)
      replace hP : va_P D vwCl [(h0, .inr (CIM, [.int (nI (fr_cl v)), .int 0, .ref q1, .ref q2])), (q1, .inl (c1, (16384, .inl (fun _ => 0)))), (q2, .inl (c2, (512, .inl (fun _ => 0))))] H := hP
      replace hD : va_D A [(h0, .inr (CIM, [.int (nI (fr_cl v)), .int 0, .ref q1, .ref q2])), (q1, .inl (c1, (16384, .inl (fun _ => 0)))), (q2, .inl (c2, (512, .inl (fun _ => 0))))] := hD
      refine lv_aload_n hx hb dX1_init_47 rfl (lv_at hl 0 rfl) ?_
      refine lv_iconst (v := 1) hx hb dX1_init_48 (by decide) ?_
      refine lv_aload_n hx hb dX1_init_49 rfl (lv_at hl 0 rfl) ?_
      refine va_get (D := D) (ci := CIM) (v := .int (nI (fr_cl v))) (C := "FunctionRoomModel") (T := TM) (N := 4) hx hb hw hinM hown hK hP 0 rfl rfl 0 (by decide) (hw _ mG_variables) (fun _ h9 => h9) rfl dX1_init_50 ?_
      refine lv_ishl hx hb dX1_init_53 ?_
      refine fr_top (show ((1 <<< (nI (fr_cl v) &&& 31)) : Int32) = nI (2 ^ fr_cl v) from fr_shl1 _ (fr_cl_le v).2) ?_
      refine va_putF (D := D) (ci := CIM) (v := .int (nI (2 ^ fr_cl v))) (ty := .int) (C := "FunctionRoomModel") (T := TM) (N := 4) hx hb hw hinM tyX1 tyX1_ok nmX1 hown hK hP hD hS 0 rfl rfl 1 (by decide) (hw _ mG_all) (fun _ h9 => h9) rfl hin rfl (by decide +kernel) rfl rfl (Nat.le_of_ble_eq_true rfl) dX1_init_54 (fun H locs hP hD hS => ?_)
      replace hP : va_P D vwCl [(h0, .inr (CIM, [.int (nI (fr_cl v)), .int (nI (2 ^ fr_cl v)), .ref q1, .ref q2])), (q1, .inl (c1, (16384, .inl (fun _ => 0)))), (q2, .inl (c2, (512, .inl (fun _ => 0))))] H := hP
      replace hD : va_D A [(h0, .inr (CIM, [.int (nI (fr_cl v)), .int (nI (2 ^ fr_cl v)), .ref q1, .ref q2])), (q1, .inl (c1, (16384, .inl (fun _ => 0)))), (q2, .inl (c2, (512, .inl (fun _ => 0))))] := hD
      have hin3 : fr_injB (fr_a3 h0 q1 q2) := fr_a3_inj hD
      refine W.widen (k := 2) (n := 16896) (by omega) (by omega) ?_
      exact W.vret hx hb hret (fun t ht hW => ⟨⟨(fr_a3 h0 q1 q2, fun i => if i = 0 then c1 else c2), rfl, ⟨rfl, hin3, fr_a3_in hD⟩, by rw [ht]; exact hP, va_K.moved hW.alike hK⟩, hS.F ht⟩) hS.2.2 dX1_init_57
    ·
      refine lv_bipush (v := 9) hx hb dX1_init_38 (by decide) ?_
      refine lv_goto (tgt := 44) hx hb dX1_init_40 rfl ?_
      have hcl : fr_cl v = 9 := by unfold fr_cl; rw [if_neg (fun z => fr_ltle z h1), if_pos (fr_nlelt h2)]
      refine fr_top (show (9 : Int32) = nI (fr_cl v) from by rw [hcl]; rfl) ?_
      refine va_putF (D := D) (ci := CIM) (v := .int (nI (fr_cl v))) (ty := .int) (C := "FunctionRoomModel") (T := TM) (N := 4) hx hb hw hinM tyX1 tyX1_ok nmX1 hown hK hP hD hS 0 rfl rfl 0 (by decide) (hw _ mG_variables) (fun _ h9 => h9) rfl hin rfl (by decide +kernel) rfl rfl (Nat.le_of_ble_eq_true rfl) dX1_init_44 (fun H locs hP hD hS => ?_)
      replace hP : va_P D vwCl [(h0, .inr (CIM, [.int (nI (fr_cl v)), .int 0, .ref q1, .ref q2])), (q1, .inl (c1, (16384, .inl (fun _ => 0)))), (q2, .inl (c2, (512, .inl (fun _ => 0))))] H := hP
      replace hD : va_D A [(h0, .inr (CIM, [.int (nI (fr_cl v)), .int 0, .ref q1, .ref q2])), (q1, .inl (c1, (16384, .inl (fun _ => 0)))), (q2, .inl (c2, (512, .inl (fun _ => 0))))] := hD
      refine lv_aload_n hx hb dX1_init_47 rfl (lv_at hl 0 rfl) ?_
      refine lv_iconst (v := 1) hx hb dX1_init_48 (by decide) ?_
      refine lv_aload_n hx hb dX1_init_49 rfl (lv_at hl 0 rfl) ?_
      refine va_get (D := D) (ci := CIM) (v := .int (nI (fr_cl v))) (C := "FunctionRoomModel") (T := TM) (N := 4) hx hb hw hinM hown hK hP 0 rfl rfl 0 (by decide) (hw _ mG_variables) (fun _ h9 => h9) rfl dX1_init_50 ?_
      refine lv_ishl hx hb dX1_init_53 ?_
      refine fr_top (show ((1 <<< (nI (fr_cl v) &&& 31)) : Int32) = nI (2 ^ fr_cl v) from fr_shl1 _ (fr_cl_le v).2) ?_
      refine va_putF (D := D) (ci := CIM) (v := .int (nI (2 ^ fr_cl v))) (ty := .int) (C := "FunctionRoomModel") (T := TM) (N := 4) hx hb hw hinM tyX1 tyX1_ok nmX1 hown hK hP hD hS 0 rfl rfl 1 (by decide) (hw _ mG_all) (fun _ h9 => h9) rfl hin rfl (by decide +kernel) rfl rfl (Nat.le_of_ble_eq_true rfl) dX1_init_54 (fun H locs hP hD hS => ?_)
      replace hP : va_P D vwCl [(h0, .inr (CIM, [.int (nI (fr_cl v)), .int (nI (2 ^ fr_cl v)), .ref q1, .ref q2])), (q1, .inl (c1, (16384, .inl (fun _ => 0)))), (q2, .inl (c2, (512, .inl (fun _ => 0))))] H := hP
      replace hD : va_D A [(h0, .inr (CIM, [.int (nI (fr_cl v)), .int (nI (2 ^ fr_cl v)), .ref q1, .ref q2])), (q1, .inl (c1, (16384, .inl (fun _ => 0)))), (q2, .inl (c2, (512, .inl (fun _ => 0))))] := hD
      have hin3 : fr_injB (fr_a3 h0 q1 q2) := fr_a3_inj hD
      refine W.widen (k := 2) (n := 16896) (by omega) (by omega) ?_
      exact W.vret hx hb hret (fun t ht hW => ⟨⟨(fr_a3 h0 q1 q2, fun i => if i = 0 then c1 else c2), rfl, ⟨rfl, hin3, fr_a3_in hD⟩, by rw [ht]; exact hP, va_K.moved hW.alike hK⟩, hS.F ht⟩) hS.2.2 dX1_init_57
  ·
    refine lv_iconst (v := 1) hx hb dX1_init_28 (by decide) ?_
    refine lv_goto (tgt := 44) hx hb dX1_init_29 rfl ?_
    have hcl : fr_cl v = 1 := by unfold fr_cl; rw [if_pos (fr_nlelt h1)]
    refine fr_top (show (1 : Int32) = nI (fr_cl v) from by rw [hcl]; rfl) ?_
    refine va_putF (D := D) (ci := CIM) (v := .int (nI (fr_cl v))) (ty := .int) (C := "FunctionRoomModel") (T := TM) (N := 4) hx hb hw hinM tyX1 tyX1_ok nmX1 hown hK hP hD hS 0 rfl rfl 0 (by decide) (hw _ mG_variables) (fun _ h9 => h9) rfl hin rfl (by decide +kernel) rfl rfl (Nat.le_of_ble_eq_true rfl) dX1_init_44 (fun H locs hP hD hS => ?_)
    replace hP : va_P D vwCl [(h0, .inr (CIM, [.int (nI (fr_cl v)), .int 0, .ref q1, .ref q2])), (q1, .inl (c1, (16384, .inl (fun _ => 0)))), (q2, .inl (c2, (512, .inl (fun _ => 0))))] H := hP
    replace hD : va_D A [(h0, .inr (CIM, [.int (nI (fr_cl v)), .int 0, .ref q1, .ref q2])), (q1, .inl (c1, (16384, .inl (fun _ => 0)))), (q2, .inl (c2, (512, .inl (fun _ => 0))))] := hD
    refine lv_aload_n hx hb dX1_init_47 rfl (lv_at hl 0 rfl) ?_
    refine lv_iconst (v := 1) hx hb dX1_init_48 (by decide) ?_
    refine lv_aload_n hx hb dX1_init_49 rfl (lv_at hl 0 rfl) ?_
    refine va_get (D := D) (ci := CIM) (v := .int (nI (fr_cl v))) (C := "FunctionRoomModel") (T := TM) (N := 4) hx hb hw hinM hown hK hP 0 rfl rfl 0 (by decide) (hw _ mG_variables) (fun _ h9 => h9) rfl dX1_init_50 ?_
    refine lv_ishl hx hb dX1_init_53 ?_
    refine fr_top (show ((1 <<< (nI (fr_cl v) &&& 31)) : Int32) = nI (2 ^ fr_cl v) from fr_shl1 _ (fr_cl_le v).2) ?_
    refine va_putF (D := D) (ci := CIM) (v := .int (nI (2 ^ fr_cl v))) (ty := .int) (C := "FunctionRoomModel") (T := TM) (N := 4) hx hb hw hinM tyX1 tyX1_ok nmX1 hown hK hP hD hS 0 rfl rfl 1 (by decide) (hw _ mG_all) (fun _ h9 => h9) rfl hin rfl (by decide +kernel) rfl rfl (Nat.le_of_ble_eq_true rfl) dX1_init_54 (fun H locs hP hD hS => ?_)
    replace hP : va_P D vwCl [(h0, .inr (CIM, [.int (nI (fr_cl v)), .int (nI (2 ^ fr_cl v)), .ref q1, .ref q2])), (q1, .inl (c1, (16384, .inl (fun _ => 0)))), (q2, .inl (c2, (512, .inl (fun _ => 0))))] H := hP
    replace hD : va_D A [(h0, .inr (CIM, [.int (nI (fr_cl v)), .int (nI (2 ^ fr_cl v)), .ref q1, .ref q2])), (q1, .inl (c1, (16384, .inl (fun _ => 0)))), (q2, .inl (c2, (512, .inl (fun _ => 0))))] := hD
    have hin3 : fr_injB (fr_a3 h0 q1 q2) := fr_a3_inj hD
    refine W.widen (k := 2) (n := 16896) (by omega) (by omega) ?_
    exact W.vret hx hb hret (fun t ht hW => ⟨⟨(fr_a3 h0 q1 q2, fun i => if i = 0 then c1 else c2), rfl, ⟨rfl, hin3, fr_a3_in hD⟩, by rw [ht]; exact hP, va_K.moved hW.alike hK⟩, hS.F ht⟩) hS.2.2 dX1_init_57
end
section
/-! for the class's constructor -/
theorem fr_clX (v : Int32) : (if (1 : Int32) < (if v < 9 then v else 9) then (if v < 9 then v else 9) else 1) = nI (fr_cl v) := by
  have e1 : (1 : Int32).toInt = 1 := by decide
  have e9 : (9 : Int32).toInt = 9 := by decide
  unfold fr_cl
  by_cases h9 : v < 9
  · rw [if_pos h9]
    rw [Int32.lt_iff_toInt_lt, e9] at h9
    by_cases h1 : v < 1
    · rw [if_pos h1, if_neg (fun z => by rw [Int32.lt_iff_toInt_lt, e1] at z h1; omega)]
      rfl
    · rw [if_neg h1, if_neg (show ¬ (9 : Int32) < v from fun z => by rw [Int32.lt_iff_toInt_lt, e9] at z; omega)]
      have h1' : (1 : Int32) ≤ v := by
        rw [Int32.lt_iff_toInt_lt, e1] at h1
        rw [Int32.le_iff_toInt_le, e1]
        omega
      rw [fr_clv h1']
      by_cases h2 : (1 : Int32) < v
      · rw [if_pos h2]
      · rw [if_neg h2]
        apply Int32.toInt_inj.mp
        rw [Int32.lt_iff_toInt_lt, e1] at h1 h2
        rw [e1]
        omega
  · rw [if_neg h9, if_pos (by decide)]
    rw [Int32.lt_iff_toInt_lt, e9] at h9
    rw [if_neg (fun z => by rw [Int32.lt_iff_toInt_lt, e1] at z; omega)]
    by_cases h2 : (9 : Int32) < v
    · rw [if_pos h2]
      rfl
    · rw [if_neg h2]
      have h3 : v = 9 := by
        apply Int32.toInt_inj.mp
        rw [Int32.lt_iff_toInt_lt, e9] at h2
        rw [e9]
        omega
      rw [h3]
      rfl
theorem fr_wnX : ∀ V, V < 10 → (if (1 : Int32) < (nI (2 ^ V) >>> ((6 : Int32) &&& 31)) then (nI (2 ^ V) >>> ((6 : Int32) &&& 31)) else 1) = nI (fr_wn V) := by decide +kernel
theorem fr_plX : ∀ V, V < 6 → ((1 : Int64) <<< ((nI (2 ^ V)).toInt64 &&& 63)) - 1 = fr_pl V := by decide +kernel
def fr_objX (V h1 h2 h3 h4 : Nat) : List Value := [.int (nI V), .int (nI (2 ^ V)), .int (nI (fr_wn V)), .long (fr_pl V), .ref h1, .ref h2, .ref h3, .ref h4]
def fr_w2 (o : List Value) (h0 q K : Nat) (cA comp : ClassId) : va_W :=
  (h0, .inr (CIF, o)) :: (q, .inl (cA, 32, .inr (.inr (.inr (.inr (fun i => some (q + 1 + i))))))) :: (List.range 32).map (fun i => ((q + 1 + i, .inl (comp, K, .inr (.inl (fun _ => 0)))) : Nat × va_E))
def fr_Wf (V h0 q q3 q4 q5 : Nat) (cA comp c3 c4 c5 : ClassId) : va_W :=
  ((fr_w2 (fr_objX V q q3 q4 q5) h0 q (fr_wn V) cA comp ++ [(q3, .inl (c3, fr_wn V, .inr (.inl (fun _ => 0))))]) ++ [(q4, .inl (c4, 2 ^ V, .inl (fun _ => 0)))]) ++ [(q5, .inl (c5, 2 ^ V, .inl (fun _ => 0)))]
def fr_adX (h0 q q3 q4 q5 : Nat) : Nat → Nat := fun i => match i with
  | 0 => h0
  | 1 => q
  | 2 => q3
  | 3 => q4
  | 4 => q5
  | k + 5 => q + 1 + k
def fr_kaX (cA comp c3 c4 c5 : ClassId) : Nat → ClassId := fun i => match i with
  | 0 => cA
  | 1 => comp
  | 2 => c3
  | 3 => c4
  | _ => c5
def fr_pi : Nat → Nat := fun i => match i with
  | 0 => 0
  | 1 => 1
  | 2 => 34
  | 3 => 35
  | 4 => 36
  | k + 5 => k + 2
theorem fr_w2_len (o : List Value) (h0 q K : Nat) (cA comp : ClassId) : (fr_w2 o h0 q K cA comp).length = 34 := by
  simp [fr_w2]
theorem fr_key {V h0 q q3 q4 q5 : Nat} {cA comp c3 c4 c5 : ClassId} : ∀ i, i < 37 → ∃ e, (fr_Wf V h0 q q3 q4 q5 cA comp c3 c4 c5)[fr_pi i]? = some (fr_adX h0 q q3 q4 q5 i, e) ∧ (fr_xw V (fr_adX h0 q q3 q4 q5) (fr_kaX cA comp c3 c4 c5) (fun _ => 0) (fun _ => 0) (fun _ => 0) (fun _ _ => 0))[i]? = some (fr_adX h0 q q3 q4 q5 i, e)
  | 0, _ => ⟨_, rfl, rfl⟩
  | 1, _ => ⟨_, rfl, rfl⟩
  | 2, _ => by
    refine ⟨_, ?_, rfl⟩
    show (fr_Wf V h0 q q3 q4 q5 cA comp c3 c4 c5)[34]? = _
    unfold fr_Wf
    rw [List.getElem?_append_left (by simp [fr_w2_len]), List.getElem?_append_left (by simp [fr_w2_len]), List.getElem?_append_right (by simp [fr_w2_len]), fr_w2_len]
    rfl
  | 3, _ => by
    refine ⟨_, ?_, rfl⟩
    show (fr_Wf V h0 q q3 q4 q5 cA comp c3 c4 c5)[35]? = _
    unfold fr_Wf
    rw [List.getElem?_append_left (by simp [fr_w2_len]), List.getElem?_append_right (by simp [fr_w2_len])]
    simp [fr_w2_len]
    exact ⟨rfl, rfl⟩
  | 4, _ => by
    refine ⟨_, ?_, rfl⟩
    show (fr_Wf V h0 q q3 q4 q5 cA comp c3 c4 c5)[36]? = _
    unfold fr_Wf
    rw [List.getElem?_append_right (by simp [fr_w2_len])]
    simp [fr_w2_len]
    exact ⟨rfl, rfl⟩
  | k + 5, h => by
    have hk : k < 32 := by omega
    refine ⟨_, ?_, fr_row hk⟩
    show (fr_Wf V h0 q q3 q4 q5 cA comp c3 c4 c5)[k + 2]? = _
    unfold fr_Wf
    rw [List.getElem?_append_left (by simp [fr_w2_len]; omega), List.getElem?_append_left (by simp [fr_w2_len]; omega), List.getElem?_append_left (by simp [fr_w2_len]; omega)]
    show ((List.range 32).map _)[k]? = _
    rw [List.getElem?_map, List.getElem?_range hk]
    rfl
theorem fr_pi_inj : ∀ i, i < 37 → ∀ j, j < 37 → fr_pi i = fr_pi j → i = j := by decide +kernel
theorem fr_fin_P {D : va_G} {H : Heap} {V h0 q q3 q4 q5 : Nat} {cA comp c3 c4 c5 : ClassId} (hP : va_P D vwCl (fr_Wf V h0 q q3 q4 q5 cA comp c3 c4 c5) H) : va_P D vwCl (fr_xw V (fr_adX h0 q q3 q4 q5) (fr_kaX cA comp c3 c4 c5) (fun _ => 0) (fun _ => 0) (fun _ => 0) (fun _ _ => 0)) H := by
  intro k x hx
  obtain ⟨hk, -⟩ := fr_addr k x hx
  obtain ⟨e, h1, h2⟩ := fr_key (V := V) (h0 := h0) (q := q) (q3 := q3) (q4 := q4) (q5 := q5) (cA := cA) (comp := comp) (c3 := c3) (c4 := c4) (c5 := c5) k hk
  obtain rfl : x = _ := Option.some.inj (hx.symm.trans h2)
  exact hP _ _ h1
theorem fr_fin_inj {A : Nat → Prop} {V h0 q q3 q4 q5 : Nat} {cA comp c3 c4 c5 : ClassId} (hD : va_D A (fr_Wf V h0 q q3 q4 q5 cA comp c3 c4 c5)) : fr_inj (fr_adX h0 q q3 q4 q5) := by
  intro i j hi hj e
  obtain ⟨x, h1, -⟩ := fr_key (V := V) (h0 := h0) (q := q) (q3 := q3) (q4 := q4) (q5 := q5) (cA := cA) (comp := comp) (c3 := c3) (c4 := c4) (c5 := c5) i hi
  obtain ⟨y, h2, -⟩ := fr_key (V := V) (h0 := h0) (q := q) (q3 := q3) (q4 := q4) (q5 := q5) (cA := cA) (comp := comp) (c3 := c3) (c4 := c4) (c5 := c5) j hj
  exact fr_pi_inj i hi j hj (hD.1 _ _ _ _ h1 h2 e)
theorem fr_fin_in {A : Nat → Prop} {V h0 q q3 q4 q5 : Nat} {cA comp c3 c4 c5 : ClassId} (hD : va_D A (fr_Wf V h0 q q3 q4 q5 cA comp c3 c4 c5)) : ∀ i, i < 37 → A (fr_adX h0 q q3 q4 q5 i) := by
  intro i hi
  obtain ⟨x, h1, -⟩ := fr_key (V := V) (h0 := h0) (q := q) (q3 := q3) (q4 := q4) (q5 := q5) (cA := cA) (comp := comp) (c3 := c3) (c4 := c4) (c5 := c5) i hi
  exact hD.2 _ _ h1
theorem fr_full (cA : ClassId) (N h : Nat) : fm_o cA N h N = arrV cA N (fun j => .ref (h + 1 + j)) := by
  unfold fm_o arrV
  congr 2
  funext j
  exact if_pos j.isLt
section FRC
variable {p : Program} {l : Launch} {e : Env} {R : Room} {s : State} {m : MethodId} {args : Array Value} {below : List Frame} {meth : Method} {c : Code} {H : Heap} {locs : List Loc} {cells slots : Nat} {Q : State → Prop}
variable {cc : ByteArray} {pc : Nat} {ls : Array Slot} {rest : List Value} {D : va_G} {A : Nat → Prop}
/-- new long[32][K]: the object, the outer array, the rows -/
theorem fr_mna {o : List Value} {h0 K : Nat} (hexec : p.tables.exec = Jvm.exec) (hb : c.code = cc) {own : String} {index : Nat} (hown : s.vm.findClass own = some m.cls) (hclink : (Cond.classLink own index "[[J").before args s = true) (hover : fm_ov .long s) (harr : (Cond.arrayClass .long).before args s = true) (hK : va_K D vwCl [] s) (hP : va_P D vwCl [(h0, .inr (CIF, o))] H) (hD : va_D A [(h0, .inr (CIF, o))]) (hS : va_S A s.heap H locs) (hA : ∀ q, s.heap.size ≤ q → A q)
    (hK8 : K ≤ 8) (hcells : cells + (1 + 32) ≤ R.cells) (hslots : slots + (32 + 32 * K) ≤ R.slots) (hdg : decode cc pc = .ok (.multianewarray index 2, 4))
    (kk : ∀ (q : Nat) (cA comp : ClassId) (H1 : Heap), va_K D vwCl [(cA, .array .long), (comp, .long)] s → va_P D vwCl (fr_w2 o h0 q K cA comp) H1 → va_D A (fr_w2 o h0 q K cA comp) → va_S A s.heap H1 locs → W p l e R s m args below meth c H1 locs (cells + (1 + 32)) (slots + (32 + 32 * K)) Q (F0 m (pc + 4) ls (.ref q :: rest))) : W p l e R s m args below meth c H locs cells slots Q (F0 m pc ls (.int (nI K) :: .int 32 :: rest)) := by
  refine fm_row (ty := .long) (N := 32) (K := K) hexec hb hown hclink hover harr (by decide) (nI_pos (by omega)) (by decide) (nI_clamp (by omega)) (by decide) (by show K * 8 ≤ _; omega) (by omega) rfl hcells hslots hdg (fun H1 cA comp z1 f1 f2 f3 a1 a2 n1 n2 => ?_)
  have hlt : h0 < H.size := (hP 0 _ rfl).lt
  refine kk H.size cA comp H1 ⟨hK.1, fun k x hx => ?_⟩ (fun k x hx => ?_) ⟨fun i j x y hx hy hxy => ?_, fun k x hx => ?_⟩ ⟨by have := hS.1; omega, fun q h1 h2 => (f3 q (Nat.lt_of_lt_of_le h1 hS.1)).trans (hS.2.1 q h1 h2), hS.2.2⟩
  · match k, hx with
    | 0, hx => cases hx; exact ⟨a1, n1⟩
    | 1, hx => cases hx; exact ⟨a2, n2⟩
    | k + 2, hx => exact absurd hx (by simp)
  · match k, hx with
    | 0, hx => cases hx; exact (hP 0 _ rfl).kept (f3 h0 hlt)
    | 1, hx => cases hx; show H1[H.size]? = some (vp_cell _ _); rw [f1, fr_full, vp_cell_q]; rfl
    | k + 2, hx =>
      have hx : ((List.range 32).map (fun i => ((H.size + 1 + i, .inl (comp, K, .inr (.inl (fun _ => 0)))) : Nat × va_E)))[k]? = some x := hx
      rw [List.getElem?_map] at hx
      by_cases h32 : k < 32
      · rw [List.getElem?_range h32] at hx
        cases hx
        show H1[H.size + 1 + k]? = some (vp_cell _ _)
        rw [f2 k h32, fr_zeroL]
      · rw [List.getElem?_eq_none (by simpa using h32)] at hx
        cases hx
  · have key : ∀ (k : Nat) (x : Nat × va_E), (fr_w2 o h0 H.size K cA comp)[k]? = some x → (k = 0 ∧ x.1 = h0) ∨ (1 ≤ k ∧ x.1 = H.size + (k - 1)) := by
      intro k x hx
      match k, hx with
      | 0, hx => cases hx; exact Or.inl ⟨rfl, rfl⟩
      | 1, hx => cases hx; exact Or.inr ⟨by decide, rfl⟩
      | k + 2, hx =>
        have hx : ((List.range 32).map (fun i => ((H.size + 1 + i, .inl (comp, K, .inr (.inl (fun _ => 0)))) : Nat × va_E)))[k]? = some x := hx
        rw [List.getElem?_map] at hx
        by_cases h32 : k < 32
        · rw [List.getElem?_range h32] at hx
          cases hx
          exact Or.inr ⟨by omega, by show H.size + 1 + k = _; omega⟩
        · rw [List.getElem?_eq_none (by simpa using h32)] at hx
          cases hx
    rcases key i x hx with ⟨a, b⟩ | ⟨a, b⟩ <;> rcases key j y hy with ⟨c, d⟩ | ⟨c, d⟩ <;> omega
  · match k, hx with
    | 0, hx => cases hx; exact hD.2 0 _ rfl
    | 1, hx => cases hx; exact hA _ hS.1
    | k + 2, hx =>
      have hx : ((List.range 32).map (fun i => ((H.size + 1 + i, .inl (comp, K, .inr (.inl (fun _ => 0)))) : Nat × va_E)))[k]? = some x := hx
      rw [List.getElem?_map] at hx
      by_cases h32 : k < 32
      · rw [List.getElem?_range h32] at hx
        cases hx
        exact hA _ (by have := hS.1; show s.heap.size ≤ H.size + 1 + k; omega)
      · rw [List.getElem?_eq_none (by simpa using h32)] at hx
        cases hx
end FRC
end
section
set_option maxHeartbeats 4000000 in
set_option maxRecDepth 100000 in
theorem cF_init (l : Launch) (D : va_G) (h0 sz : Nat) (v : Int32) : Met l yX0_init wsF_init rmF_init (va_Pc [.ref h0, .int v] (fun U => U.heap.size = sz ∧ va_P D vwCl [(h0, .inr (CIF, [.int 0, .int 0, .int 0, .long 0, .null, .null, .null, .null]))] U.heap ∧ va_K D vwCl [] U ∧ fm_ov .long U)) (va_Qv (fun u : (Nat → Nat) × (Nat → ClassId) => u.1 0 = h0 ∧ fr_inj u.1 ∧ ∀ i, i < 37 → va_A [(h0, .inr (CIF, [.int 0, .int 0, .int 0, .long 0, .null, .null, .null, .null]))] sz (u.1 i)) (fun u t => va_P D vwCl (fr_xw (fr_cl v) u.1 u.2 (fun _ => 0) (fun _ => 0) (fun _ => 0) (fun _ _ => 0)) t.heap ∧ va_K D vwCl (fr_ty u.2) t) (va_A [(h0, .inr (CIF, [.int 0, .int 0, .int 0, .long 0, .null, .null, .null, .null]))] sz)) 36 1400 (va_A [(h0, .inr (CIF, [.int 0, .int 0, .int 0, .long 0, .null, .null, .null, .null]))] sz) := by
  refine Met.ofW (cc := cX0_init) (maxL := 2) (ret := none) (by decide) rfl ?_
  intro p e s m args below meth c s₁ B hml hv
  obtain ⟨rfl, hsz, hP, hK, hov⟩ := hv
  have hx := B.exec
  have hb := B.bytes
  have hret := B.returns
  have hw := fun w (h : w ∈ WA) => atoms_spec (ws := wsF_init) B.pre w (List.mem_cons_of_mem _ h)
  have hown : s.vm.findClass "FunctionRoom" = some m.cls := findClass_of_methodNamed B.named
  have hlocks := B.notSynchronized
  have hin : meth.name = "<init>" := (name_of_methodNamed B.named B.method).1
  have hS0 : CallFix p m c cX0_init 2 s _ WA "FunctionRoom" := ⟨hx, hb, hml, hown, hw⟩
  subst hsz
  have hD := (fr_D1 (h0, (.inr (CIF, [.int 0, .int 0, .int 0, .long 0, .null, .null, .null, .null]) : va_E))).self (sz := s.heap.size)
  generalize hAe : va_A [(h0, .inr (CIF, [.int 0, .int 0, .int 0, .long 0, .null, .null, .null, .null]))] s.heap.size = A at hD ⊢
  have hA : ∀ q : Nat, s.heap.size ≤ q → A q := fun q h => by rw [← hAe]; exact Or.inr h
  have hS : va_S A s.heap s.heap [] := va_S.rf
  have hl := lv_entry ([.ref h0, .int v]) (n := 2) (Nat.le_of_ble_eq_true rfl)
  rw [lg_entry_eq]
  generalize (lg_sl ([.ref h0, .int v]) ++ List.replicate (2 - (lg_sl ([.ref h0, .int v])).length) Slot.unset).toArray = ls at hl ⊢
  replace hl : lv_has ls 2 [(0, .ref h0), (1, .int v)] := hl
  obtain ⟨hV1, hV⟩ := fr_cl_le v
  have hw8 := (fr_wn_le (fr_cl v) hV).2.1
  have h512 := fr_pow512 hV
  refine lv_aload_n hx hb dX0_init_0 rfl (lv_at hl 0 rfl) ?_
  refine W.objInit hx hb hown (hw _ mM_F_objinit) (hw _ mV_objinit) (hw _ mO_objinit) rfl (by rw [hml]; exact hl.1) rfl dX0_init_1 (Nat.le_of_ble_eq_true rfl) (Nat.le_of_ble_eq_true rfl) ?_
  refine W.eq (g2 := F0 m 4 ls []) rfl ?_
  refine lv_aload_n hx hb dX0_init_4 rfl (lv_at hl 0 rfl) ?_
  refine lv_iconst (v := 1) hx hb dX0_init_5 (by decide) ?_
  refine lv_bipush (v := 9) hx hb dX0_init_6 (by decide) ?_
  refine lv_iload_n hx hb dX0_init_8 rfl (lv_at hl 1 rfl) ?_
  refine va_mmin hx hb (by rw [hml, hl.1]) hown (hw _ mM_F_min) (hw _ mS_min) (hw _ mI_Math) (hw _ mO_min) (Nat.le_of_ble_eq_true rfl) (Nat.le_of_ble_eq_true rfl) (Nat.zero_le _) (Nat.zero_le _) dX0_init_9 ?_
  refine va_mmax hx hb (by rw [hml, hl.1]) hown (hw _ mM_F_max) (hw _ mS_max) (hw _ mI_Math) (hw _ mO_max) (Nat.le_of_ble_eq_true rfl) (Nat.le_of_ble_eq_true rfl) (Nat.zero_le _) (Nat.zero_le _) dX0_init_12 ?_
  refine fr_top (fr_clX v) ?_
  refine va_putF (D := D) (ci := CIF) (v := .int (nI (fr_cl v))) (ty := .int) (C := "FunctionRoom") (T := TF) (N := 8) hx hb hw hinF tyX0 tyX0_ok nmX0 hown hK hP hD hS 0 rfl rfl 0 (by decide) (hw _ mF_variables) (fun _ h9 => h9) rfl hin rfl (by decide +kernel) rfl rfl (Nat.le_of_ble_eq_true rfl) dX0_init_15 (fun H locs hP hD hS => ?_)
  replace hP : va_P D vwCl [(h0, .inr (CIF, [.int (nI (fr_cl v)), .int 0, .int 0, .long 0, .null, .null, .null, .null]))] H := hP
  replace hD : va_D A [(h0, .inr (CIF, [.int (nI (fr_cl v)), .int 0, .int 0, .long 0, .null, .null, .null, .null]))] := hD
  refine lv_aload_n hx hb dX0_init_18 rfl (lv_at hl 0 rfl) ?_
  refine lv_iconst (v := 1) hx hb dX0_init_19 (by decide) ?_
  refine lv_aload_n hx hb dX0_init_20 rfl (lv_at hl 0 rfl) ?_
  refine va_get (D := D) (ci := CIF) (v := .int (nI (fr_cl v))) (C := "FunctionRoom") (T := TF) (N := 8) hx hb hw hinF hown hK hP 0 rfl rfl 0 (by decide) (hw _ mF_variables) (fun _ h9 => h9) rfl dX0_init_21 ?_
  refine lv_ishl hx hb dX0_init_24 ?_
  refine fr_top (show ((1 <<< (nI (fr_cl v) &&& 31)) : Int32) = nI (2 ^ fr_cl v) from fr_shl1 _ hV) ?_
  refine va_putF (D := D) (ci := CIF) (v := .int (nI (2 ^ fr_cl v))) (ty := .int) (C := "FunctionRoom") (T := TF) (N := 8) hx hb hw hinF tyX0 tyX0_ok nmX0 hown hK hP hD hS 0 rfl rfl 1 (by decide) (hw _ mF_assignments) (fun _ h9 => h9) rfl hin rfl (by decide +kernel) rfl rfl (Nat.le_of_ble_eq_true rfl) dX0_init_25 (fun H locs hP hD hS => ?_)
  replace hP : va_P D vwCl [(h0, .inr (CIF, [.int (nI (fr_cl v)), .int (nI (2 ^ fr_cl v)), .int 0, .long 0, .null, .null, .null, .null]))] H := hP
  replace hD : va_D A [(h0, .inr (CIF, [.int (nI (fr_cl v)), .int (nI (2 ^ fr_cl v)), .int 0, .long 0, .null, .null, .null, .null]))] := hD
  refine lv_aload_n hx hb dX0_init_28 rfl (lv_at hl 0 rfl) ?_
  refine lv_iconst (v := 1) hx hb dX0_init_29 (by decide) ?_
  refine lv_aload_n hx hb dX0_init_30 rfl (lv_at hl 0 rfl) ?_
  refine va_get (D := D) (ci := CIF) (v := .int (nI (2 ^ fr_cl v))) (C := "FunctionRoom") (T := TF) (N := 8) hx hb hw hinF hown hK hP 0 rfl rfl 1 (by decide) (hw _ mF_assignments) (fun _ h9 => h9) rfl dX0_init_31 ?_
  refine lv_bipush (v := 6) hx hb dX0_init_34 (by decide) ?_
  refine lv_ishr hx hb dX0_init_36 ?_
  refine va_mmax hx hb (by rw [hml, hl.1]) hown (hw _ mM_F_max) (hw _ mS_max) (hw _ mI_Math) (hw _ mO_max) (Nat.le_of_ble_eq_true rfl) (Nat.le_of_ble_eq_true rfl) (Nat.zero_le _) (Nat.zero_le _) dX0_init_37 ?_
  refine fr_top (fr_wnX _ hV) ?_
  refine va_putF (D := D) (ci := CIF) (v := .int (nI (fr_wn (fr_cl v)))) (ty := .int) (C := "FunctionRoom") (T := TF) (N := 8) hx hb hw hinF tyX0 tyX0_ok nmX0 hown hK hP hD hS 0 rfl rfl 2 (by decide) (hw _ mF_words) (fun _ h9 => h9) rfl hin rfl (by decide +kernel) rfl rfl (Nat.le_of_ble_eq_true rfl) dX0_init_40 (fun H locs hP hD hS => ?_)
  replace hP : va_P D vwCl [(h0, .inr (CIF, [.int (nI (fr_cl v)), .int (nI (2 ^ fr_cl v)), .int (nI (fr_wn (fr_cl v))), .long 0, .null, .null, .null, .null]))] H := hP
  replace hD : va_D A [(h0, .inr (CIF, [.int (nI (fr_cl v)), .int (nI (2 ^ fr_cl v)), .int (nI (fr_wn (fr_cl v))), .long 0, .null, .null, .null, .null]))] := hD
  refine lv_aload_n hx hb dX0_init_43 rfl (lv_at hl 0 rfl) ?_
  refine lv_aload_n hx hb dX0_init_44 rfl (lv_at hl 0 rfl) ?_
  refine va_get (D := D) (ci := CIF) (v := .int (nI (fr_cl v))) (C := "FunctionRoom") (T := TF) (N := 8) hx hb hw hinF hown hK hP 0 rfl rfl 0 (by decide) (hw _ mF_variables) (fun _ h9 => h9) rfl dX0_init_45 ?_
  refine lv_bipush (v := 6) hx hb dX0_init_48 (by decide) ?_
  refine lv_icmp_ge (tgt := 64) hx hb dX0_init_50 rfl (fun h6 => ?_) (fun h6 => ?_)
  ·
    refine lv_ldc2 (v := (-1)) hx hb hown (hw _ mC_F_28) dX0_init_64 ?_
    refine fr_topl (show ((-1) : Int64) = fr_pl (fr_cl v) from by unfold fr_pl; rw [if_neg (fun z => absurd h6 (nI_ge z (by decide)))]) ?_
    refine va_putF (D := D) (ci := CIF) (v := .long (fr_pl (fr_cl v))) (ty := .long) (C := "FunctionRoom") (T := TF) (N := 8) hx hb hw hinF tyX0 tyX0_ok nmX0 hown hK hP hD hS 0 rfl rfl 3 (by decide) (hw _ mF_places) (fun _ h9 => h9) rfl hin rfl (by decide +kernel) rfl rfl (Nat.le_of_ble_eq_true rfl) dX0_init_67 (fun H locs hP hD hS => ?_)
    replace hP : va_P D vwCl [(h0, .inr (CIF, [.int (nI (fr_cl v)), .int (nI (2 ^ fr_cl v)), .int (nI (fr_wn (fr_cl v))), .long (fr_pl (fr_cl v)), .null, .null, .null, .null]))] H := hP
    replace hD : va_D A [(h0, .inr (CIF, [.int (nI (fr_cl v)), .int (nI (2 ^ fr_cl v)), .int (nI (fr_wn (fr_cl v))), .long (fr_pl (fr_cl v)), .null, .null, .null, .null]))] := hD
    refine lv_aload_n hx hb dX0_init_70 rfl (lv_at hl 0 rfl) ?_
    refine lv_bipush (v := 32) hx hb dX0_init_71 (by decide) ?_
    refine lv_aload_n hx hb dX0_init_73 rfl (lv_at hl 0 rfl) ?_
    refine va_get (D := D) (ci := CIF) (v := .int (nI (fr_wn (fr_cl v)))) (C := "FunctionRoom") (T := TF) (N := 8) hx hb hw hinF hown hK hP 0 rfl rfl 2 (by decide) (hw _ mF_words) (fun _ h9 => h9) rfl dX0_init_74 ?_
    refine fr_mna (K := fr_wn (fr_cl v)) hx hb hown (hw _ mK_F) hov (hw _ mA_long) hK hP hD hS hA hw8 (Nat.le_of_ble_eq_true rfl) (show 0 + (32 + 32 * fr_wn (fr_cl v)) ≤ 1400 by omega) dX0_init_77 (fun q cA comp H hK hP hD hS => ?_)
    refine va_putF (D := D) (ci := CIF) (v := .ref q) (ty := .array (.array .long)) (C := "FunctionRoom") (T := TF) (N := 8) hx hb hw hinF tyX0 tyX0_ok nmX0 hown hK hP hD hS 0 rfl rfl 4 (by decide) (hw _ mF_rows) (fun _ h9 => h9) rfl hin rfl (by decide +kernel) rfl rfl (Nat.le_of_ble_eq_true rfl) dX0_init_81 (fun H locs hP hD hS => ?_)
    replace hP : va_P D vwCl (fr_w2 [.int (nI (fr_cl v)), .int (nI (2 ^ fr_cl v)), .int (nI (fr_wn (fr_cl v))), .long (fr_pl (fr_cl v)), .ref q, .null, .null, .null] h0 q (fr_wn (fr_cl v)) cA comp) H := hP
    replace hD : va_D A (fr_w2 [.int (nI (fr_cl v)), .int (nI (2 ^ fr_cl v)), .int (nI (fr_wn (fr_cl v))), .long (fr_pl (fr_cl v)), .ref q, .null, .null, .null] h0 q (fr_wn (fr_cl v)) cA comp) := hD
    refine lv_aload_n hx hb dX0_init_84 rfl (lv_at hl 0 rfl) ?_
    refine lv_aload_n hx hb dX0_init_85 rfl (lv_at hl 0 rfl) ?_
    refine va_get (D := D) (ci := CIF) (v := .int (nI (fr_wn (fr_cl v)))) (C := "FunctionRoom") (T := TF) (N := 8) hx hb hw hinF hown hK hP 0 rfl rfl 2 (by decide) (hw _ mF_words) (fun _ h9 => h9) rfl dX0_init_86 ?_
    refine va_newa (atype := .long) (ty := .long) (a0 := (fr_wn (fr_cl v), .inr (.inl (fun _ => 0)))) (N' := fr_wn (fr_cl v)) hx hb (hw _ mA_long) rfl hK hP hD hS hA fr_zeroL (nI_pos (by omega)) (nI_clamp (by omega)) (by show _ * 8 ≤ _; omega) (Nat.le_of_ble_eq_true rfl) (show 0 + (32 + 32 * fr_wn (fr_cl v)) + fr_wn (fr_cl v) ≤ 1400 by omega) dX0_init_89 (fun q3 c3 H hK hP hD hS => ?_)
    replace hP : va_P D vwCl ((fr_w2 [.int (nI (fr_cl v)), .int (nI (2 ^ fr_cl v)), .int (nI (fr_wn (fr_cl v))), .long (fr_pl (fr_cl v)), .ref q, .null, .null, .null] h0 q (fr_wn (fr_cl v)) cA comp) ++ [(q3, .inl (c3, (fr_wn (fr_cl v), .inr (.inl (fun _ => 0)))))]) H := hP
    replace hD : va_D A ((fr_w2 [.int (nI (fr_cl v)), .int (nI (2 ^ fr_cl v)), .int (nI (fr_wn (fr_cl v))), .long (fr_pl (fr_cl v)), .ref q, .null, .null, .null] h0 q (fr_wn (fr_cl v)) cA comp) ++ [(q3, .inl (c3, (fr_wn (fr_cl v), .inr (.inl (fun _ => 0)))))]) := hD
    replace hK : va_K D vwCl [(cA, .array .long), (comp, .long), (c3, .long)] s := hK
    refine va_putF (D := D) (ci := CIF) (v := .ref q3) (ty := .array .long) (C := "FunctionRoom") (T := TF) (N := 8) hx hb hw hinF tyX0 tyX0_ok nmX0 hown hK hP hD hS 0 rfl rfl 5 (by decide) (hw _ mF_made) (fun _ h9 => h9) rfl hin rfl (by decide +kernel) rfl rfl (Nat.le_of_ble_eq_true rfl) dX0_init_91 (fun H locs hP hD hS => ?_)
    replace hP : va_P D vwCl ((fr_w2 [.int (nI (fr_cl v)), .int (nI (2 ^ fr_cl v)), .int (nI (fr_wn (fr_cl v))), .long (fr_pl (fr_cl v)), .ref q, .ref q3, .null, .null] h0 q (fr_wn (fr_cl v)) cA comp) ++ [(q3, .inl (c3, (fr_wn (fr_cl v), .inr (.inl (fun _ => 0)))))]) H := hP
    replace hD : va_D A ((fr_w2 [.int (nI (fr_cl v)), .int (nI (2 ^ fr_cl v)), .int (nI (fr_wn (fr_cl v))), .long (fr_pl (fr_cl v)), .ref q, .ref q3, .null, .null] h0 q (fr_wn (fr_cl v)) cA comp) ++ [(q3, .inl (c3, (fr_wn (fr_cl v), .inr (.inl (fun _ => 0)))))]) := hD
    refine lv_aload_n hx hb dX0_init_94 rfl (lv_at hl 0 rfl) ?_
    refine lv_aload_n hx hb dX0_init_95 rfl (lv_at hl 0 rfl) ?_
    refine va_get (D := D) (ci := CIF) (v := .int (nI (2 ^ fr_cl v))) (C := "FunctionRoom") (T := TF) (N := 8) hx hb hw hinF hown hK hP 0 rfl rfl 1 (by decide) (hw _ mF_assignments) (fun _ h9 => h9) rfl dX0_init_96 ?_
    refine va_newa (atype := .int) (ty := .int) (a0 := (2 ^ fr_cl v, .inl (fun _ => 0))) (N' := 2 ^ fr_cl v) hx hb (hw _ mA_int) rfl hK hP hD hS hA fr_zeroI (nI_pos (by omega)) (nI_clamp (by omega)) (by show _ * 4 ≤ _; omega) (Nat.le_of_ble_eq_true rfl) (show 0 + (32 + 32 * fr_wn (fr_cl v)) + fr_wn (fr_cl v) + 2 ^ fr_cl v ≤ 1400 by omega) dX0_init_99 (fun q4 c4 H hK hP hD hS => ?_)
    replace hP : va_P D vwCl (((fr_w2 [.int (nI (fr_cl v)), .int (nI (2 ^ fr_cl v)), .int (nI (fr_wn (fr_cl v))), .long (fr_pl (fr_cl v)), .ref q, .ref q3, .null, .null] h0 q (fr_wn (fr_cl v)) cA comp) ++ [(q3, .inl (c3, (fr_wn (fr_cl v), .inr (.inl (fun _ => 0)))))]) ++ [(q4, .inl (c4, (2 ^ fr_cl v, .inl (fun _ => 0))))]) H := hP
    replace hD : va_D A (((fr_w2 [.int (nI (fr_cl v)), .int (nI (2 ^ fr_cl v)), .int (nI (fr_wn (fr_cl v))), .long (fr_pl (fr_cl v)), .ref q, .ref q3, .null, .null] h0 q (fr_wn (fr_cl v)) cA comp) ++ [(q3, .inl (c3, (fr_wn (fr_cl v), .inr (.inl (fun _ => 0)))))]) ++ [(q4, .inl (c4, (2 ^ fr_cl v, .inl (fun _ => 0))))]) := hD
    replace hK : va_K D vwCl [(cA, .array .long), (comp, .long), (c3, .long), (c4, .int)] s := hK
    refine va_putF (D := D) (ci := CIF) (v := .ref q4) (ty := .array .int) (C := "FunctionRoom") (T := TF) (N := 8) hx hb hw hinF tyX0 tyX0_ok nmX0 hown hK hP hD hS 0 rfl rfl 6 (by decide) (hw _ mF_names) (fun _ h9 => h9) rfl hin rfl (by decide +kernel) rfl rfl (Nat.le_of_ble_eq_true rfl) dX0_init_101 (fun H locs hP hD hS => ?_)
    replace hP : va_P D vwCl (((fr_w2 [.int (nI (fr_cl v)), .int (nI (2 ^ fr_cl v)), .int (nI (fr_wn (fr_cl v))), .long (fr_pl (fr_cl v)), .ref q, .ref q3, .ref q4, .null] h0 q (fr_wn (fr_cl v)) cA comp) ++ [(q3, .inl (c3, (fr_wn (fr_cl v), .inr (.inl (fun _ => 0)))))]) ++ [(q4, .inl (c4, (2 ^ fr_cl v, .inl (fun _ => 0))))]) H := hP
    replace hD : va_D A (((fr_w2 [.int (nI (fr_cl v)), .int (nI (2 ^ fr_cl v)), .int (nI (fr_wn (fr_cl v))), .long (fr_pl (fr_cl v)), .ref q, .ref q3, .ref q4, .null] h0 q (fr_wn (fr_cl v)) cA comp) ++ [(q3, .inl (c3, (fr_wn (fr_cl v), .inr (.inl (fun _ => 0)))))]) ++ [(q4, .inl (c4, (2 ^ fr_cl v, .inl (fun _ => 0))))]) := hD
    refine lv_aload_n hx hb dX0_init_104 rfl (lv_at hl 0 rfl) ?_
    refine lv_aload_n hx hb dX0_init_105 rfl (lv_at hl 0 rfl) ?_
    refine va_get (D := D) (ci := CIF) (v := .int (nI (2 ^ fr_cl v))) (C := "FunctionRoom") (T := TF) (N := 8) hx hb hw hinF hown hK hP 0 rfl rfl 1 (by decide) (hw _ mF_assignments) (fun _ h9 => h9) rfl dX0_init_106 ?_
    refine va_newa (atype := .int) (ty := .int) (a0 := (2 ^ fr_cl v, .inl (fun _ => 0))) (N' := 2 ^ fr_cl v) hx hb (hw _ mA_int) rfl hK hP hD hS hA fr_zeroI (nI_pos (by omega)) (nI_clamp (by omega)) (by show _ * 4 ≤ _; omega) (Nat.le_of_ble_eq_true rfl) (show 0 + (32 + 32 * fr_wn (fr_cl v)) + fr_wn (fr_cl v) + 2 ^ fr_cl v + 2 ^ fr_cl v ≤ 1400 by omega) dX0_init_109 (fun q5 c5 H hK hP hD hS => ?_)
    replace hP : va_P D vwCl ((((fr_w2 [.int (nI (fr_cl v)), .int (nI (2 ^ fr_cl v)), .int (nI (fr_wn (fr_cl v))), .long (fr_pl (fr_cl v)), .ref q, .ref q3, .ref q4, .null] h0 q (fr_wn (fr_cl v)) cA comp) ++ [(q3, .inl (c3, (fr_wn (fr_cl v), .inr (.inl (fun _ => 0)))))]) ++ [(q4, .inl (c4, (2 ^ fr_cl v, .inl (fun _ => 0))))]) ++ [(q5, .inl (c5, (2 ^ fr_cl v, .inl (fun _ => 0))))]) H := hP
    replace hD : va_D A ((((fr_w2 [.int (nI (fr_cl v)), .int (nI (2 ^ fr_cl v)), .int (nI (fr_wn (fr_cl v))), .long (fr_pl (fr_cl v)), .ref q, .ref q3, .ref q4, .null] h0 q (fr_wn (fr_cl v)) cA comp) ++ [(q3, .inl (c3, (fr_wn (fr_cl v), .inr (.inl (fun _ => 0)))))]) ++ [(q4, .inl (c4, (2 ^ fr_cl v, .inl (fun _ => 0))))]) ++ [(q5, .inl (c5, (2 ^ fr_cl v, .inl (fun _ => 0))))]) := hD
    replace hK : va_K D vwCl [(cA, .array .long), (comp, .long), (c3, .long), (c4, .int), (c5, .int)] s := hK
    refine va_putF (D := D) (ci := CIF) (v := .ref q5) (ty := .array .int) (C := "FunctionRoom") (T := TF) (N := 8) hx hb hw hinF tyX0 tyX0_ok nmX0 hown hK hP hD hS 0 rfl rfl 7 (by decide) (hw _ mF_parts) (fun _ h9 => h9) rfl hin rfl (by decide +kernel) rfl rfl (Nat.le_of_ble_eq_true rfl) dX0_init_111 (fun H locs hP hD hS => ?_)
    replace hP : va_P D vwCl ((((fr_w2 [.int (nI (fr_cl v)), .int (nI (2 ^ fr_cl v)), .int (nI (fr_wn (fr_cl v))), .long (fr_pl (fr_cl v)), .ref q, .ref q3, .ref q4, .ref q5] h0 q (fr_wn (fr_cl v)) cA comp) ++ [(q3, .inl (c3, (fr_wn (fr_cl v), .inr (.inl (fun _ => 0)))))]) ++ [(q4, .inl (c4, (2 ^ fr_cl v, .inl (fun _ => 0))))]) ++ [(q5, .inl (c5, (2 ^ fr_cl v, .inl (fun _ => 0))))]) H := hP
    replace hD : va_D A ((((fr_w2 [.int (nI (fr_cl v)), .int (nI (2 ^ fr_cl v)), .int (nI (fr_wn (fr_cl v))), .long (fr_pl (fr_cl v)), .ref q, .ref q3, .ref q4, .ref q5] h0 q (fr_wn (fr_cl v)) cA comp) ++ [(q3, .inl (c3, (fr_wn (fr_cl v), .inr (.inl (fun _ => 0)))))]) ++ [(q4, .inl (c4, (2 ^ fr_cl v, .inl (fun _ => 0))))]) ++ [(q5, .inl (c5, (2 ^ fr_cl v, .inl (fun _ => 0))))]) := hD
    replace hP : va_P D vwCl (fr_Wf (fr_cl v) h0 q q3 q4 q5 cA comp c3 c4 c5) H := hP
    replace hD : va_D A (fr_Wf (fr_cl v) h0 q q3 q4 q5 cA comp c3 c4 c5) := hD
    refine W.widen (k := 36) (n := 1400) (by omega) (by omega) ?_
    exact W.vret hx hb hret (fun t ht hW => ⟨⟨(fr_adX h0 q q3 q4 q5, fr_kaX cA comp c3 c4 c5), rfl, ⟨rfl, fr_fin_inj hD, fr_fin_in hD⟩, by rw [ht]; exact fr_fin_P hP, va_K.moved hW.alike hK⟩, hS.F ht⟩) hS.2.2 dX0_init_114
  ·
    refine lv_lconst (v := 1) hx hb dX0_init_53 (by decide) ?_
    refine lv_aload_n hx hb dX0_init_54 rfl (lv_at hl 0 rfl) ?_
    refine va_get (D := D) (ci := CIF) (v := .int (nI (2 ^ fr_cl v))) (C := "FunctionRoom") (T := TF) (N := 8) hx hb hw hinF hown hK hP 0 rfl rfl 1 (by decide) (hw _ mF_assignments) (fun _ h9 => h9) rfl dX0_init_55 ?_
    refine lv_lshl hx hb dX0_init_58 rfl ?_
    refine lv_lconst (v := 1) hx hb dX0_init_59 (by decide) ?_
    refine lv_lsub hx hb dX0_init_60 ?_
    refine lv_goto (tgt := 67) hx hb dX0_init_61 rfl ?_
    refine fr_topl (show (((1 <<< ((nI (2 ^ fr_cl v)).toInt64 &&& 63)) - 1) : Int64) = fr_pl (fr_cl v) from fr_plX _ (Nat.lt_of_not_le fun z => h6 (nI_le z (by omega)))) ?_
    refine va_putF (D := D) (ci := CIF) (v := .long (fr_pl (fr_cl v))) (ty := .long) (C := "FunctionRoom") (T := TF) (N := 8) hx hb hw hinF tyX0 tyX0_ok nmX0 hown hK hP hD hS 0 rfl rfl 3 (by decide) (hw _ mF_places) (fun _ h9 => h9) rfl hin rfl (by decide +kernel) rfl rfl (Nat.le_of_ble_eq_true rfl) dX0_init_67 (fun H locs hP hD hS => ?_)
    replace hP : va_P D vwCl [(h0, .inr (CIF, [.int (nI (fr_cl v)), .int (nI (2 ^ fr_cl v)), .int (nI (fr_wn (fr_cl v))), .long (fr_pl (fr_cl v)), .null, .null, .null, .null]))] H := hP
    replace hD : va_D A [(h0, .inr (CIF, [.int (nI (fr_cl v)), .int (nI (2 ^ fr_cl v)), .int (nI (fr_wn (fr_cl v))), .long (fr_pl (fr_cl v)), .null, .null, .null, .null]))] := hD
    refine lv_aload_n hx hb dX0_init_70 rfl (lv_at hl 0 rfl) ?_
    refine lv_bipush (v := 32) hx hb dX0_init_71 (by decide) ?_
    refine lv_aload_n hx hb dX0_init_73 rfl (lv_at hl 0 rfl) ?_
    refine va_get (D := D) (ci := CIF) (v := .int (nI (fr_wn (fr_cl v)))) (C := "FunctionRoom") (T := TF) (N := 8) hx hb hw hinF hown hK hP 0 rfl rfl 2 (by decide) (hw _ mF_words) (fun _ h9 => h9) rfl dX0_init_74 ?_
    refine fr_mna (K := fr_wn (fr_cl v)) hx hb hown (hw _ mK_F) hov (hw _ mA_long) hK hP hD hS hA hw8 (Nat.le_of_ble_eq_true rfl) (show 0 + (32 + 32 * fr_wn (fr_cl v)) ≤ 1400 by omega) dX0_init_77 (fun q cA comp H hK hP hD hS => ?_)
    refine va_putF (D := D) (ci := CIF) (v := .ref q) (ty := .array (.array .long)) (C := "FunctionRoom") (T := TF) (N := 8) hx hb hw hinF tyX0 tyX0_ok nmX0 hown hK hP hD hS 0 rfl rfl 4 (by decide) (hw _ mF_rows) (fun _ h9 => h9) rfl hin rfl (by decide +kernel) rfl rfl (Nat.le_of_ble_eq_true rfl) dX0_init_81 (fun H locs hP hD hS => ?_)
    replace hP : va_P D vwCl (fr_w2 [.int (nI (fr_cl v)), .int (nI (2 ^ fr_cl v)), .int (nI (fr_wn (fr_cl v))), .long (fr_pl (fr_cl v)), .ref q, .null, .null, .null] h0 q (fr_wn (fr_cl v)) cA comp) H := hP
    replace hD : va_D A (fr_w2 [.int (nI (fr_cl v)), .int (nI (2 ^ fr_cl v)), .int (nI (fr_wn (fr_cl v))), .long (fr_pl (fr_cl v)), .ref q, .null, .null, .null] h0 q (fr_wn (fr_cl v)) cA comp) := hD
    refine lv_aload_n hx hb dX0_init_84 rfl (lv_at hl 0 rfl) ?_
    refine lv_aload_n hx hb dX0_init_85 rfl (lv_at hl 0 rfl) ?_
    refine va_get (D := D) (ci := CIF) (v := .int (nI (fr_wn (fr_cl v)))) (C := "FunctionRoom") (T := TF) (N := 8) hx hb hw hinF hown hK hP 0 rfl rfl 2 (by decide) (hw _ mF_words) (fun _ h9 => h9) rfl dX0_init_86 ?_
    refine va_newa (atype := .long) (ty := .long) (a0 := (fr_wn (fr_cl v), .inr (.inl (fun _ => 0)))) (N' := fr_wn (fr_cl v)) hx hb (hw _ mA_long) rfl hK hP hD hS hA fr_zeroL (nI_pos (by omega)) (nI_clamp (by omega)) (by show _ * 8 ≤ _; omega) (Nat.le_of_ble_eq_true rfl) (show 0 + (32 + 32 * fr_wn (fr_cl v)) + fr_wn (fr_cl v) ≤ 1400 by omega) dX0_init_89 (fun q3 c3 H hK hP hD hS => ?_)
    replace hP : va_P D vwCl ((fr_w2 [.int (nI (fr_cl v)), .int (nI (2 ^ fr_cl v)), .int (nI (fr_wn (fr_cl v))), .long (fr_pl (fr_cl v)), .ref q, .null, .null, .null] h0 q (fr_wn (fr_cl v)) cA comp) ++ [(q3, .inl (c3, (fr_wn (fr_cl v), .inr (.inl (fun _ => 0)))))]) H := hP
    replace hD : va_D A ((fr_w2 [.int (nI (fr_cl v)), .int (nI (2 ^ fr_cl v)), .int (nI (fr_wn (fr_cl v))), .long (fr_pl (fr_cl v)), .ref q, .null, .null, .null] h0 q (fr_wn (fr_cl v)) cA comp) ++ [(q3, .inl (c3, (fr_wn (fr_cl v), .inr (.inl (fun _ => 0)))))]) := hD
    replace hK : va_K D vwCl [(cA, .array .long), (comp, .long), (c3, .long)] s := hK
    refine va_putF (D := D) (ci := CIF) (v := .ref q3) (ty := .array .long) (C := "FunctionRoom") (T := TF) (N := 8) hx hb hw hinF tyX0 tyX0_ok nmX0 hown hK hP hD hS 0 rfl rfl 5 (by decide) (hw _ mF_made) (fun _ h9 => h9) rfl hin rfl (by decide +kernel) rfl rfl (Nat.le_of_ble_eq_true rfl) dX0_init_91 (fun H locs hP hD hS => ?_)
    replace hP : va_P D vwCl ((fr_w2 [.int (nI (fr_cl v)), .int (nI (2 ^ fr_cl v)), .int (nI (fr_wn (fr_cl v))), .long (fr_pl (fr_cl v)), .ref q, .ref q3, .null, .null] h0 q (fr_wn (fr_cl v)) cA comp) ++ [(q3, .inl (c3, (fr_wn (fr_cl v), .inr (.inl (fun _ => 0)))))]) H := hP
    replace hD : va_D A ((fr_w2 [.int (nI (fr_cl v)), .int (nI (2 ^ fr_cl v)), .int (nI (fr_wn (fr_cl v))), .long (fr_pl (fr_cl v)), .ref q, .ref q3, .null, .null] h0 q (fr_wn (fr_cl v)) cA comp) ++ [(q3, .inl (c3, (fr_wn (fr_cl v), .inr (.inl (fun _ => 0)))))]) := hD
    refine lv_aload_n hx hb dX0_init_94 rfl (lv_at hl 0 rfl) ?_
    refine lv_aload_n hx hb dX0_init_95 rfl (lv_at hl 0 rfl) ?_
    refine va_get (D := D) (ci := CIF) (v := .int (nI (2 ^ fr_cl v))) (C := "FunctionRoom") (T := TF) (N := 8) hx hb hw hinF hown hK hP 0 rfl rfl 1 (by decide) (hw _ mF_assignments) (fun _ h9 => h9) rfl dX0_init_96 ?_
    refine va_newa (atype := .int) (ty := .int) (a0 := (2 ^ fr_cl v, .inl (fun _ => 0))) (N' := 2 ^ fr_cl v) hx hb (hw _ mA_int) rfl hK hP hD hS hA fr_zeroI (nI_pos (by omega)) (nI_clamp (by omega)) (by show _ * 4 ≤ _; omega) (Nat.le_of_ble_eq_true rfl) (show 0 + (32 + 32 * fr_wn (fr_cl v)) + fr_wn (fr_cl v) + 2 ^ fr_cl v ≤ 1400 by omega) dX0_init_99 (fun q4 c4 H hK hP hD hS => ?_)
    replace hP : va_P D vwCl (((fr_w2 [.int (nI (fr_cl v)), .int (nI (2 ^ fr_cl v)), .int (nI (fr_wn (fr_cl v))), .long (fr_pl (fr_cl v)), .ref q, .ref q3, .null, .null] h0 q (fr_wn (fr_cl v)) cA comp) ++ [(q3, .inl (c3, (fr_wn (fr_cl v), .inr (.inl (fun _ => 0)))))]) ++ [(q4, .inl (c4, (2 ^ fr_cl v, .inl (fun _ => 0))))]) H := hP
    replace hD : va_D A (((fr_w2 [.int (nI (fr_cl v)), .int (nI (2 ^ fr_cl v)), .int (nI (fr_wn (fr_cl v))), .long (fr_pl (fr_cl v)), .ref q, .ref q3, .null, .null] h0 q (fr_wn (fr_cl v)) cA comp) ++ [(q3, .inl (c3, (fr_wn (fr_cl v), .inr (.inl (fun _ => 0)))))]) ++ [(q4, .inl (c4, (2 ^ fr_cl v, .inl (fun _ => 0))))]) := hD
    replace hK : va_K D vwCl [(cA, .array .long), (comp, .long), (c3, .long), (c4, .int)] s := hK
    refine va_putF (D := D) (ci := CIF) (v := .ref q4) (ty := .array .int) (C := "FunctionRoom") (T := TF) (N := 8) hx hb hw hinF tyX0 tyX0_ok nmX0 hown hK hP hD hS 0 rfl rfl 6 (by decide) (hw _ mF_names) (fun _ h9 => h9) rfl hin rfl (by decide +kernel) rfl rfl (Nat.le_of_ble_eq_true rfl) dX0_init_101 (fun H locs hP hD hS => ?_)
    replace hP : va_P D vwCl (((fr_w2 [.int (nI (fr_cl v)), .int (nI (2 ^ fr_cl v)), .int (nI (fr_wn (fr_cl v))), .long (fr_pl (fr_cl v)), .ref q, .ref q3, .ref q4, .null] h0 q (fr_wn (fr_cl v)) cA comp) ++ [(q3, .inl (c3, (fr_wn (fr_cl v), .inr (.inl (fun _ => 0)))))]) ++ [(q4, .inl (c4, (2 ^ fr_cl v, .inl (fun _ => 0))))]) H := hP
    replace hD : va_D A (((fr_w2 [.int (nI (fr_cl v)), .int (nI (2 ^ fr_cl v)), .int (nI (fr_wn (fr_cl v))), .long (fr_pl (fr_cl v)), .ref q, .ref q3, .ref q4, .null] h0 q (fr_wn (fr_cl v)) cA comp) ++ [(q3, .inl (c3, (fr_wn (fr_cl v), .inr (.inl (fun _ => 0)))))]) ++ [(q4, .inl (c4, (2 ^ fr_cl v, .inl (fun _ => 0))))]) := hD
    refine lv_aload_n hx hb dX0_init_104 rfl (lv_at hl 0 rfl) ?_
    refine lv_aload_n hx hb dX0_init_105 rfl (lv_at hl 0 rfl) ?_
    refine va_get (D := D) (ci := CIF) (v := .int (nI (2 ^ fr_cl v))) (C := "FunctionRoom") (T := TF) (N := 8) hx hb hw hinF hown hK hP 0 rfl rfl 1 (by decide) (hw _ mF_assignments) (fun _ h9 => h9) rfl dX0_init_106 ?_
    refine va_newa (atype := .int) (ty := .int) (a0 := (2 ^ fr_cl v, .inl (fun _ => 0))) (N' := 2 ^ fr_cl v) hx hb (hw _ mA_int) rfl hK hP hD hS hA fr_zeroI (nI_pos (by omega)) (nI_clamp (by omega)) (by show _ * 4 ≤ _; omega) (Nat.le_of_ble_eq_true rfl) (show 0 + (32 + 32 * fr_wn (fr_cl v)) + fr_wn (fr_cl v) + 2 ^ fr_cl v + 2 ^ fr_cl v ≤ 1400 by omega) dX0_init_109 (fun q5 c5 H hK hP hD hS => ?_)
    replace hP : va_P D vwCl ((((fr_w2 [.int (nI (fr_cl v)), .int (nI (2 ^ fr_cl v)), .int (nI (fr_wn (fr_cl v))), .long (fr_pl (fr_cl v)), .ref q, .ref q3, .ref q4, .null] h0 q (fr_wn (fr_cl v)) cA comp) ++ [(q3, .inl (c3, (fr_wn (fr_cl v), .inr (.inl (fun _ => 0)))))]) ++ [(q4, .inl (c4, (2 ^ fr_cl v, .inl (fun _ => 0))))]) ++ [(q5, .inl (c5, (2 ^ fr_cl v, .inl (fun _ => 0))))]) H := hP
    replace hD : va_D A ((((fr_w2 [.int (nI (fr_cl v)), .int (nI (2 ^ fr_cl v)), .int (nI (fr_wn (fr_cl v))), .long (fr_pl (fr_cl v)), .ref q, .ref q3, .ref q4, .null] h0 q (fr_wn (fr_cl v)) cA comp) ++ [(q3, .inl (c3, (fr_wn (fr_cl v), .inr (.inl (fun _ => 0)))))]) ++ [(q4, .inl (c4, (2 ^ fr_cl v, .inl (fun _ => 0))))]) ++ [(q5, .inl (c5, (2 ^ fr_cl v, .inl (fun _ => 0))))]) := hD
    replace hK : va_K D vwCl [(cA, .array .long), (comp, .long), (c3, .long), (c4, .int), (c5, .int)] s := hK
    refine va_putF (D := D) (ci := CIF) (v := .ref q5) (ty := .array .int) (C := "FunctionRoom") (T := TF) (N := 8) hx hb hw hinF tyX0 tyX0_ok nmX0 hown hK hP hD hS 0 rfl rfl 7 (by decide) (hw _ mF_parts) (fun _ h9 => h9) rfl hin rfl (by decide +kernel) rfl rfl (Nat.le_of_ble_eq_true rfl) dX0_init_111 (fun H locs hP hD hS => ?_)
    replace hP : va_P D vwCl ((((fr_w2 [.int (nI (fr_cl v)), .int (nI (2 ^ fr_cl v)), .int (nI (fr_wn (fr_cl v))), .long (fr_pl (fr_cl v)), .ref q, .ref q3, .ref q4, .ref q5] h0 q (fr_wn (fr_cl v)) cA comp) ++ [(q3, .inl (c3, (fr_wn (fr_cl v), .inr (.inl (fun _ => 0)))))]) ++ [(q4, .inl (c4, (2 ^ fr_cl v, .inl (fun _ => 0))))]) ++ [(q5, .inl (c5, (2 ^ fr_cl v, .inl (fun _ => 0))))]) H := hP
    replace hD : va_D A ((((fr_w2 [.int (nI (fr_cl v)), .int (nI (2 ^ fr_cl v)), .int (nI (fr_wn (fr_cl v))), .long (fr_pl (fr_cl v)), .ref q, .ref q3, .ref q4, .ref q5] h0 q (fr_wn (fr_cl v)) cA comp) ++ [(q3, .inl (c3, (fr_wn (fr_cl v), .inr (.inl (fun _ => 0)))))]) ++ [(q4, .inl (c4, (2 ^ fr_cl v, .inl (fun _ => 0))))]) ++ [(q5, .inl (c5, (2 ^ fr_cl v, .inl (fun _ => 0))))]) := hD
    replace hP : va_P D vwCl (fr_Wf (fr_cl v) h0 q q3 q4 q5 cA comp c3 c4 c5) H := hP
    replace hD : va_D A (fr_Wf (fr_cl v) h0 q q3 q4 q5 cA comp c3 c4 c5) := hD
    refine W.widen (k := 36) (n := 1400) (by omega) (by omega) ?_
    exact W.vret hx hb hret (fun t ht hW => ⟨⟨(fr_adX h0 q q3 q4 q5, fr_kaX cA comp c3 c4 c5), rfl, ⟨rfl, fr_fin_inj hD, fr_fin_in hD⟩, by rw [ht]; exact fr_fin_P hP, va_K.moved hW.alike hK⟩, hS.F ht⟩) hS.2.2 dX0_init_114
end
section
/-! THE CLAIM OUT OF ONE WALK OF THE LAW'S BODY. Your part is whole_start (and what it stands on); all else here is the same for every law, but numbers. -/
def R_law : String := "FunctionRoomLaw"
def lw_P (b : Addr) (xs : List Int32) (args : Array Value) (s : State) : Prop := args = #[.ref b] ∧ s.IntsAt b xs ∧ xs.length ≤ 2561 ∧ (Jvm.Cond.and given_1 narrow_1).before args s = true
def lw_Q (_ : Array Value) (s : State) (o : Outcome) (t : State) : Prop := o = .returned (some (.int 1)) ∧ Framed s o t [] 600000 7302250
def lw_Z (below : List Frame) (a : Array Value) (s : State) : State → Prop := fun t => ∃ o, t.status = .running ∧ Ended t below o ∧ lw_Q a s o t
/-- the law's own end, with 1 on the stack, nothing written that was there before, its room as the claim has it -/
theorem lw_ret {p : Program} {l : Launch} {e : Env} {s : State} {m : MethodId} {below : List Frame} {meth : Method} {c : Code} {b : Nat} (hx : p.tables.exec = Jvm.exec) (hb : c.code = code) (hr : meth.sig.returnType = ret) (hlocks : meth.locks = false) {pc : Nat} {H : Heap} {ls : Array Slot} (hdg : decode code pc = .ok (.ireturn, 1)) : W p l e room_1 s m #[Value.ref b] below meth c H [] 600000 7302250 (lw_Z below #[Value.ref b] s) (F0 m pc ls [.int 1]) := by
  intro T hT X
  obtain ⟨fs, hret, hrun, hended, hW, hframe⟩ := X.leave (v := some (.int 1)) (hlocks := hlocks) (fun h => by rw [hr] at h; cases h)
  have hmeth' : T.vm.method? m = some meth := X.method'
  refine ⟨T.setFrames fs, ?_, .returned (some (.int 1)), hrun, hended, rfl, ⟨_, rfl⟩, hW, hframe⟩
  jvm_step X.here [X.here.top, hx, hb, hdg, hmeth', hr, ret, narrow_b1]
  (try refine ⟨rfl, ?_⟩); (try refine ⟨rfl, ?_⟩)
  first | (intro acts; rw [hret _ acts rfl rfl rfl]) | rw [hret _ _ rfl rfl rfl]
  exact Steps.refl _
/-- what holds at the law's entry: the machine, the code, the tables' words (any of lw_tbl by 'hts w (by decide +kernel)'), the script of L ints xs at the cell b, what the Statement gives of the start (any of its parts by flat_of_before) -/
def lw_At (p : Program) (s : State) (m : MethodId) (meth : Method) (c : Code) (b L : Nat) (xs : Nat → Int32) : Prop :=
  p.tables.exec = Jvm.exec ∧ c.code = code ∧ meth.sig.returnType = ret ∧ c.maxLocals = 4 ∧ s.vm.findClass R_law = some m.cls ∧ (∀ w ∈ lw_tbl, w.before #[Value.ref b] s = true) ∧ va_X b L xs s s.heap ∧ b < s.heap.size ∧ meth.locks = false ∧ (Jvm.Cond.and given_1 narrow_1).before #[Value.ref b] s = true
end
section
/-! the law's loop: rows for its calls -/
theorem fr_keepM {D : va_G} {V : Nat} {ad bd : Nat → Nat} {kb : Nat → ClassId} {row made : Nat → Int32} {H H1 : Heap} (hP : va_P D vwCl (fr_mw V bd kb row made) H) (hdis : ∀ i k, i < 37 → k < 3 → ad i ≠ bd k) (hfr : ∀ q : Nat, q < H.size → ¬ fr_A ad q → H1[q]? = H[q]?) : va_P D vwCl (fr_mw V bd kb row made) H1 := by
  refine hP.kept (fun k q hk => ?_)
  obtain ⟨k3, e⟩ := fr_addrB k q hk
  refine hfr q.1 (hP k q hk).lt ?_
  rw [e]
  rintro ⟨i, hi, z⟩
  exact hdis i k hi k3 z.symm
theorem fr_keepX {D : va_G} {V : Nat} {ad bd : Nat → Nat} {ka : Nat → ClassId} {mk : Nat → Int64} {nm pt : Nat → Int32} {ro : Nat → Nat → Int64} {H H1 : Heap} (hP : va_P D vwCl (fr_xw V ad ka mk nm pt ro) H) (hdis : ∀ i k, i < 37 → k < 3 → ad i ≠ bd k) (hfr : ∀ q : Nat, q < H.size → ¬ fr_B bd q → H1[q]? = H[q]?) : va_P D vwCl (fr_xw V ad ka mk nm pt ro) H1 := by
  refine hP.kept (fun k q hk => ?_)
  obtain ⟨k3, e⟩ := fr_addr k q hk
  refine hfr q.1 (hP k q hk).lt ?_
  rw [e]
  rintro ⟨i, hi, z⟩
  exact hdis k i k3 hi z
/-- the table, at the law's start; nothing old is written -/
def fr_TS (s : State) : Prop := ∃ t : Nat, va_Z "FunctionRoom" "PLACES_WITH_BIT" "[J" (.ref t) (fun q => s.heap.size ≤ q) s s.heap ∧ va_T .long t 6 (fun j => .long (fr_pb j)) (fun q => s.heap.size ≤ q) s s.heap
theorem fr_TS_at {s : State} {H : Heap} {locs : List Loc} {ad : Nat → Nat} (hT : fr_TS s) (hS : va_S (fun q => s.heap.size ≤ q) s.heap H locs) (had : ∀ i, i < 37 → s.heap.size ≤ ad i) (U : State) (hU : U.heap = H) (hvm : s.vm.Alike U.vm) : fr_T ad U U.heap := by
  obtain ⟨t, z1, z2⟩ := hT
  rw [hU]
  have hn : ∀ q, fr_A ad q → s.heap.size ≤ q := by
    rintro q ⟨i, hi, rfl⟩
    exact had i hi
  exact ⟨t, va_Z.narrow (va_Z.moved hvm (z1.kept hS.2.1)) hn, va_T.narrow (va_T.moved hvm (z2.kept hS.2.1)) hn⟩
section FRL
variable {p : Program} {l : Launch} {e : Env} {R : Room} {s : State} {m : MethodId} {args : Array Value} {below : List Frame} {meth : Method} {c : Code} {H : Heap} {locs : List Loc} {cells slots : Nat} {Q : State → Prop}
variable {cc : ByteArray} {pc : Nat} {ls : Array Slot} {rest : List Value} {D : va_G}
variable {V : Nat} {ad : Nat → Nat} {ka : Nat → ClassId} {mk : Nat → Int64} {nm pt : Nat → Int32} {ro : Nat → Nat → Int64} {bd : Nat → Nat} {kb : Nat → ClassId} {row made : Nat → Int32}
variable {y : MethodName} {bytes : ByteArray} {maxL nL n index : Nat} {ret : Option FieldType} {wsy : List Cond} {rm : Room} {Ts : List Cond} {own : String} {As st0 : List Value}
theorem fr_sld {A : Nat → Prop} {H0 : Heap} (hexec : p.tables.exec = Jvm.exec) (hb : c.code = cc) {b L : Nat} {xs : Nat → Int32} (hX : va_X b L xs s H0) (hbl : b < H0.size) (hbA : ¬ A b) (hS : va_S A H0 H locs) {i : Nat} (hi : i < L) (hL : L < 2 ^ 31) (hdg : decode cc pc = .ok (.iaload, 1))
    (kk : W p l e R s m args below meth c H locs cells slots Q (F0 m (pc + 1) ls (.int (xs i) :: rest))) : W p l e R s m args below meth c H locs cells slots Q (F0 m pc ls (.int (nI i) :: .ref b :: rest)) := by
  have hc : (nI i).toNatClampNeg = i := nI_clamp (by omega)
  refine va_sld hexec hb hX hbl hbA hS (vp_in_nI hi hL) hdg ?_
  rw [hc]
  exact kk
/-- a call of the class that may write: the reference's world stays -/
theorem fr_lawX {sp : Int32 × fr_F} (S : CallFix p m c cc nL s args Ts own) (hM : Met l y wsy rm (va_Pc (.ref (ad 0) :: As) (fr_PX D V ad ka mk nm pt ro)) (va_Qi (fun res u => res = sp.1 ∧ fr_XR V sp.2 u.2.2.2) (fun u t => va_P D vwCl (fr_xu V ad ka u) t.heap) (fr_A ad)) 0 0 (fr_A ad)) (cw : CallW R s args own "FunctionRoom" index y bytes maxL ret wsy rm 0 0 n)
    (hK : va_K D vwCl (fr_ty ka) s) (hP : va_P D vwCl (fr_xw V ad ka mk nm pt ro) H) (hP2 : va_P D vwCl (fr_mw V bd kb row made) H) (hT : fr_TS s) (hS : va_S (fun q => s.heap.size ≤ q) s.heap H locs) (had : ∀ i, i < 37 → s.heap.size ≤ ad i) (hdis : ∀ i k, i < 37 → k < 3 → ad i ≠ bd k)
    (hn : As.length = n) (hsize : ls.size = nL) (hst : st0 = As.reverse ++ .ref (ad 0) :: rest) (hW : (rest.map fun v => v.category).sum ≤ 8) (hdg : decode cc pc = .ok (.invokevirtual index, 3)) (hf : cells ≤ R.cells ∧ slots ≤ R.slots)
    (kk : ∀ (H1 : Heap) (locs1 : List Loc) (mk : Nat → Int64) (nm pt : Nat → Int32) (ro : Nat → Nat → Int64), va_P D vwCl (fr_xw V ad ka mk nm pt ro) H1 → va_P D vwCl (fr_mw V bd kb row made) H1 → fr_XR V sp.2 ro → va_S (fun q => s.heap.size ≤ q) s.heap H1 locs1 → W p l e R s m args below meth c H1 locs1 cells slots Q (F0 m (pc + 3) ls (.int sp.1 :: rest))) : W p l e R s m args below meth c H locs cells slots Q (F0 m pc ls st0) := by
  refine fr_cVm (ci := CIF) (q0 := 0) S hM cw hK hP rfl rfl rfl (fr_TS_at hT hS had) fr_T_blind hn hsize hst hW hdg hf (fun q h => by obtain ⟨i, hi, rfl⟩ := h; exact had i hi) hS (fun r u H1 locs1 h1 h2 h3 h4 => ?_)
  obtain ⟨rfl, h5⟩ := h1
  exact kk H1 locs1 u.1 u.2.1 u.2.2.1 u.2.2.2 h2 (fr_keepM hP2 hdis h3) h5 h4
theorem fr_lawM {sp : Int32 × fr_F} (S : CallFix p m c cc nL s args Ts own) (hM : Met l y wsy rm (va_Pc (.ref (bd 0) :: As) (fr_PM D V bd kb row made)) (va_Qi (fun (res : Int32) (u : (Nat → Int32) × (Nat → Int32)) => res = sp.1 ∧ fr_MR V sp.2 u.1) (fun u t => va_P D vwCl (fr_mw V bd kb u.1 u.2) t.heap) (fr_B bd)) 0 0 (fr_B bd)) (cw : CallW R s args own "FunctionRoomModel" index y bytes maxL ret wsy rm 0 0 n)
    (hK : va_K D vwCl (fr_mty kb) s) (hP : va_P D vwCl (fr_xw V ad ka mk nm pt ro) H) (hP2 : va_P D vwCl (fr_mw V bd kb row made) H) (hS : va_S (fun q => s.heap.size ≤ q) s.heap H locs) (hbd : ∀ i, i < 3 → s.heap.size ≤ bd i) (hdis : ∀ i k, i < 37 → k < 3 → ad i ≠ bd k)
    (hn : As.length = n) (hsize : ls.size = nL) (hst : st0 = As.reverse ++ .ref (bd 0) :: rest) (hW : (rest.map fun v => v.category).sum ≤ 8) (hdg : decode cc pc = .ok (.invokevirtual index, 3)) (hf : cells ≤ R.cells ∧ slots ≤ R.slots)
    (kk : ∀ (H1 : Heap) (locs1 : List Loc) (row made : Nat → Int32), va_P D vwCl (fr_xw V ad ka mk nm pt ro) H1 → va_P D vwCl (fr_mw V bd kb row made) H1 → fr_MR V sp.2 row → va_S (fun q => s.heap.size ≤ q) s.heap H1 locs1 → W p l e R s m args below meth c H1 locs1 cells slots Q (F0 m (pc + 3) ls (.int sp.1 :: rest))) : W p l e R s m args below meth c H locs cells slots Q (F0 m pc ls st0) := by
  refine fr_cVm (ci := CIM) (q0 := 0) S hM cw hK hP2 rfl rfl rfl (fun _ _ _ => trivial) (fun _ _ _ _ _ => trivial) hn hsize hst hW hdg hf (fun q h => by obtain ⟨i, hi, rfl⟩ := h; exact hbd i hi) hS (fun r u H1 locs1 h1 h2 h3 h4 => ?_)
  obtain ⟨rfl, h5⟩ := h1
  exact kk H1 locs1 u.1 u.2 (fr_keepX hP hdis h3) h2 h5 h4
/-- size: it writes, but no row -/
theorem fr_lawZ {v : Int32} {F : fr_F} (S : CallFix p m c cc nL s args Ts own) (hM : Met l y wsy rm (va_Pc (.ref (ad 0) :: As) (fr_PX D V ad ka mk nm pt ro)) (va_Qi (fun res u => res = v ∧ fr_XR V F u.2.2.2) (fun u t => va_P D vwCl (fr_xu V ad ka u) t.heap) (fr_A ad)) 0 0 (fr_A ad)) (cw : CallW R s args own "FunctionRoom" index y bytes maxL ret wsy rm 0 0 n)
    (hK : va_K D vwCl (fr_ty ka) s) (hP : va_P D vwCl (fr_xw V ad ka mk nm pt ro) H) (hP2 : va_P D vwCl (fr_mw V bd kb row made) H) (hT : fr_TS s) (hS : va_S (fun q => s.heap.size ≤ q) s.heap H locs) (had : ∀ i, i < 37 → s.heap.size ≤ ad i) (hdis : ∀ i k, i < 37 → k < 3 → ad i ≠ bd k)
    (hn : As.length = n) (hsize : ls.size = nL) (hst : st0 = As.reverse ++ .ref (ad 0) :: rest) (hW : (rest.map fun v => v.category).sum ≤ 8) (hdg : decode cc pc = .ok (.invokevirtual index, 3)) (hf : cells ≤ R.cells ∧ slots ≤ R.slots)
    (kk : ∀ (H1 : Heap) (locs1 : List Loc) (mk : Nat → Int64) (nm pt : Nat → Int32) (ro : Nat → Nat → Int64), va_P D vwCl (fr_xw V ad ka mk nm pt ro) H1 → va_P D vwCl (fr_mw V bd kb row made) H1 → fr_XR V F ro → va_S (fun q => s.heap.size ≤ q) s.heap H1 locs1 → W p l e R s m args below meth c H1 locs1 cells slots Q (F0 m (pc + 3) ls (.int v :: rest))) : W p l e R s m args below meth c H locs cells slots Q (F0 m pc ls st0) :=
  fr_lawX (sp := (v, F)) S hM cw hK hP hP2 hT hS had hdis hn hsize hst hW hdg hf kk
/-- calls that only read -/
theorem fr_lawXr {v : Int32} (S : CallFix p m c cc nL s args Ts own) (hM : Met l y wsy rm (va_Pc (.ref (ad 0) :: As) (fr_PX D V ad ka mk nm pt ro)) (vp_Si (fun res => res = v)) 0 0 (fun _ => False)) (cw : CallW R s args own "FunctionRoom" index y bytes maxL ret wsy rm 0 0 n)
    (hK : va_K D vwCl (fr_ty ka) s) (hP : va_P D vwCl (fr_xw V ad ka mk nm pt ro) H) (hT : fr_TS s) (hS : va_S (fun q => s.heap.size ≤ q) s.heap H locs) (had : ∀ i, i < 37 → s.heap.size ≤ ad i)
    (hn : As.length = n) (hsize : ls.size = nL) (hst : st0 = As.reverse ++ .ref (ad 0) :: rest) (hW : (rest.map fun v => v.category).sum ≤ 8) (hdg : decode cc pc = .ok (.invokevirtual index, 3)) (hf : cells ≤ R.cells ∧ slots ≤ R.slots)
    (kk : W p l e R s m args below meth c H locs cells slots Q (F0 m (pc + 3) ls (.int v :: rest))) : W p l e R s m args below meth c H locs cells slots Q (F0 m pc ls st0) :=
  fr_cVi (ci := CIF) (q0 := 0) S hM cw hK hP rfl rfl rfl (fr_TS_at hT hS had) fr_T_blind hn hsize hst hW hdg hf (fun r hr => by rw [hr]; exact kk)
theorem fr_lawMr {v : Int32} (S : CallFix p m c cc nL s args Ts own) (hM : Met l y wsy rm (va_Pc (.ref (bd 0) :: As) (fr_PM D V bd kb row made)) (vp_Si (fun res => res = v)) 0 0 (fun _ => False)) (cw : CallW R s args own "FunctionRoomModel" index y bytes maxL ret wsy rm 0 0 n)
    (hK : va_K D vwCl (fr_mty kb) s) (hP2 : va_P D vwCl (fr_mw V bd kb row made) H)
    (hn : As.length = n) (hsize : ls.size = nL) (hst : st0 = As.reverse ++ .ref (bd 0) :: rest) (hW : (rest.map fun v => v.category).sum ≤ 8) (hdg : decode cc pc = .ok (.invokevirtual index, 3)) (hf : cells ≤ R.cells ∧ slots ≤ R.slots)
    (kk : W p l e R s m args below meth c H locs cells slots Q (F0 m (pc + 3) ls (.int v :: rest))) : W p l e R s m args below meth c H locs cells slots Q (F0 m pc ls st0) :=
  fr_cVi (ci := CIM) (q0 := 0) S hM cw hK hP2 rfl rfl rfl (fun _ _ _ => trivial) (fun _ _ _ _ _ => trivial) hn hsize hst hW hdg hf (fun r hr => by rw [hr]; exact kk)
end FRL
theorem fr_l5 {L : Nat} (h : L < 2 ^ 30) : (nI L - 5).toInt = (L : Int) - 5 := pk_sub_toInt (b := 5) h (by decide)
theorem fr_exit {L i : Nat} (hL : L < 2 ^ 30) (hi : i < 2 ^ 30) (h : L < i + 5) : nI L - 5 < nI i := by
  rw [Int32.lt_iff_toInt_lt, fr_l5 hL, nI_toInt (by omega)]
  omega
theorem fr_noexit {L i : Nat} (hL : L < 2 ^ 30) (hi : i < 2 ^ 30) (h : i + 5 ≤ L) : ¬ nI L - 5 < nI i := by
  rw [Int32.lt_iff_toInt_lt, fr_l5 hL, nI_toInt (by omega)]
  omega
end
section
set_option maxHeartbeats 4000000 in
set_option maxRecDepth 100000 in
theorem fr_lawloop {p : Program} {e : Env} {s : State} {m : MethodId} {below : List Frame} {meth : Method} {c : Code} (l : Launch) {b L : Nat} {xs : Nat → Int32} (hL : L ≤ 2561) (hx : p.tables.exec = Jvm.exec) (hb : c.code = code) (hret : meth.sig.returnType = ret) (hS0 : CallFix p m c code 4 s #[Value.ref b] WA "FunctionRoomLaw") (hw : ∀ w ∈ WA, w.before #[Value.ref b] s = true) (hX : va_X b L xs s s.heap) (hbl : b < s.heap.size) (hbA : ¬ s.heap.size ≤ b) (hlocks : meth.locks = false) (hT : fr_TS s) (D : va_G) (V : Nat) (hV : V < 10) (hV1 : 1 ≤ V) (ad bd : Nat → Nat) (ka kb : Nat → ClassId) (hK : va_K D vwCl (fr_ty ka) s) (hK2 : va_K D vwCl (fr_mty kb) s) (hinj : fr_inj ad) (hinjB : fr_injB bd) (had : ∀ i, i < 37 → s.heap.size ≤ ad i) (hbd : ∀ i, i < 3 → s.heap.size ≤ bd i) (hdis : ∀ i k, i < 37 → k < 3 → ad i ≠ bd k) : ∀ (n i : Nat) (H : Heap) (locs : List Loc) (ls : Array Slot) (mk : Nat → Int64) (nm pt : Nat → Int32) (ro : Nat → Nat → Int64) (row made : Nat → Int32) (F : fr_F), L < i + 5 + 5 * n → i ≤ L + 5 → lv_has ls 4 [(3, .int (nI i)), (0, .ref b), (1, .ref (ad 0)), (2, .ref (bd 0))] → va_P D vwCl (fr_xw V ad ka mk nm pt ro) H → va_P D vwCl (fr_mw V bd kb row made) H → fr_XR V F ro → fr_MR V F row → va_S (fun q => s.heap.size ≤ q) s.heap H locs → W p l e room_1 s m #[Value.ref b] below meth c H locs 40 18400 (lw_Z below #[Value.ref b] s) (F0 m 28 ls []) := by
  intro n
  induction n with
  | zero =>
    intro i H locs ls mk nm pt ro row made F hfu hi1 hl hP hP2 hF hM hS
    refine lv_iload_n hx hb dL_law_28 rfl (lv_at hl 0 rfl) ?_
    refine lv_aload_n hx hb dL_law_29 rfl (lv_at hl 1 rfl) ?_
    refine va_slen hx hb hX hbl hbA hS dL_law_30 ?_
    refine lv_iconst (v := 5) hx hb dL_law_31 (by decide) ?_
    refine lv_isub hx hb dL_law_32 ?_
    refine lv_icmp_gt (tgt := 588) hx hb dL_law_33 rfl (fun hcm => ?_) (fun hcm => absurd (fr_exit (by omega) (by omega) (by omega)) hcm)
    refine lv_iconst (v := 1) hx hb dL_law_588 (by decide) ?_
    refine va_forget (fun q hq => hS.2.2 q hq) ?_
    refine W.widen (k := 600000) (n := 7302250) (Nat.le_of_ble_eq_true rfl) (Nat.le_of_ble_eq_true rfl) ?_
    exact lw_ret hx hb hret hlocks dL_law_589
  | succ n ih =>
    intro i H locs ls mk nm pt ro row made F hfu hi1 hl hP hP2 hF hM hS
    rcases Nat.lt_or_ge L (i + 5) with hout | hgo
    ·
      refine lv_iload_n hx hb dL_law_28 rfl (lv_at hl 0 rfl) ?_
      refine lv_aload_n hx hb dL_law_29 rfl (lv_at hl 1 rfl) ?_
      refine va_slen hx hb hX hbl hbA hS dL_law_30 ?_
      refine lv_iconst (v := 5) hx hb dL_law_31 (by decide) ?_
      refine lv_isub hx hb dL_law_32 ?_
      refine lv_icmp_gt (tgt := 588) hx hb dL_law_33 rfl (fun hcm => ?_) (fun hcm => absurd (fr_exit (by omega) (by omega) (by omega)) hcm)
      refine lv_iconst (v := 1) hx hb dL_law_588 (by decide) ?_
      refine va_forget (fun q hq => hS.2.2 q hq) ?_
      refine W.widen (k := 600000) (n := 7302250) (Nat.le_of_ble_eq_true rfl) (Nat.le_of_ble_eq_true rfl) ?_
      exact lw_ret hx hb hret hlocks dL_law_589
    ·
      refine lv_iload_n hx hb dL_law_28 rfl (lv_at hl 0 rfl) ?_
      refine lv_aload_n hx hb dL_law_29 rfl (lv_at hl 1 rfl) ?_
      refine va_slen hx hb hX hbl hbA hS dL_law_30 ?_
      refine lv_iconst (v := 5) hx hb dL_law_31 (by decide) ?_
      refine lv_isub hx hb dL_law_32 ?_
      refine lv_icmp_gt (tgt := 588) hx hb dL_law_33 rfl (fun hcm => absurd hcm (fr_noexit (by omega) (by omega) (by omega))) (fun hcm => ?_)
      refine lv_aload_n hx hb dL_law_36 rfl (lv_at hl 1 rfl) ?_
      refine lv_iload_n hx hb dL_law_37 rfl (lv_at hl 0 rfl) ?_
      refine fr_sld hx hb hX hbl hbA hS (show i + 0 < L by omega) (by omega) dL_law_38 ?_
      refine lv_bipush (v := 15) hx hb dL_law_39 (by decide) ?_
      refine lv_iand hx hb dL_law_41 ?_
      obtain ⟨j, hj16, hje⟩ := pk_andE (xs (i + 0)) (m := 15) 4 (by decide)
      refine fr_top hje ?_
      have hji : (nI j).toInt = (j : Int) := nI_toInt (by omega)
      rcases (show j = 0 ∨ j = 1 ∨ j = 2 ∨ j = 3 ∨ j = 4 ∨ j = 5 ∨ j = 6 ∨ j = 7 ∨ j = 8 ∨ j = 9 ∨ j = 10 ∨ j = 11 ∨ 12 ≤ j by omega) with rfl | rfl | rfl | rfl | rfl | rfl | rfl | rfl | rfl | rfl | rfl | rfl | hbig
      ·
        refine lv_tableIn (tgt := 104) hx hb dL_law_42 (by rw [hji]; decide) (by rw [hji]; decide) (by rw [hji]; rfl) rfl ?_
        refine lv_aload_n hx hb dL_law_104 rfl (lv_at hl 2 rfl) ?_
        refine lv_aload_n hx hb dL_law_105 rfl (lv_at hl 1 rfl) ?_
        refine lv_iload_n hx hb dL_law_106 rfl (lv_at hl 0 rfl) ?_
        refine lv_iconst (v := 1) hx hb dL_law_107 (by decide) ?_
        refine lv_iadd hx hb dL_law_108 ?_
        refine fr_top (show ((nI i + 1) : Int32) = nI (i + 1) from nI_add i 1) ?_
        refine fr_sld hx hb hX hbl hbA hS (show i + 1 < L by omega) (by omega) dL_law_109 ?_
        refine lv_aload_n hx hb dL_law_110 rfl (lv_at hl 1 rfl) ?_
        refine lv_iload_n hx hb dL_law_111 rfl (lv_at hl 0 rfl) ?_
        refine lv_iconst (v := 2) hx hb dL_law_112 (by decide) ?_
        refine lv_iadd hx hb dL_law_113 ?_
        refine fr_top (show ((nI i + 2) : Int32) = nI (i + 2) from nI_add i 2) ?_
        refine fr_sld hx hb hX hbl hbA hS (show i + 2 < L by omega) (by omega) dL_law_114 ?_
        refine fr_lawX (sp := fr_sLoad V F (xs (i + 1)) (xs (i + 2))) (As := [.int (xs (i + 1)), .int (xs (i + 2))]) hS0 (cF_load l D V ad ka mk nm pt ro F hF hV hV1 hinj (xs (i + 1)) (xs (i + 2))) (cw_W_F_load hw ⟨Nat.le_of_ble_eq_true rfl, Nat.le_of_ble_eq_true rfl⟩) hK hP hP2 hT hS had hdis rfl hl.1 rfl (Nat.le_of_ble_eq_true rfl) dL_law_115 ⟨Nat.le_of_ble_eq_true rfl, Nat.le_of_ble_eq_true rfl⟩ (fun H locs mk nm pt ro hP hP2 hF2 hS => ?_)
        refine lv_aload_n hx hb dL_law_118 rfl (lv_at hl 3 rfl) ?_
        refine lv_aload_n hx hb dL_law_119 rfl (lv_at hl 1 rfl) ?_
        refine lv_iload_n hx hb dL_law_120 rfl (lv_at hl 0 rfl) ?_
        refine lv_iconst (v := 1) hx hb dL_law_121 (by decide) ?_
        refine lv_iadd hx hb dL_law_122 ?_
        refine fr_top (show ((nI i + 1) : Int32) = nI (i + 1) from nI_add i 1) ?_
        refine fr_sld hx hb hX hbl hbA hS (show i + 1 < L by omega) (by omega) dL_law_123 ?_
        refine lv_aload_n hx hb dL_law_124 rfl (lv_at hl 1 rfl) ?_
        refine lv_iload_n hx hb dL_law_125 rfl (lv_at hl 0 rfl) ?_
        refine lv_iconst (v := 2) hx hb dL_law_126 (by decide) ?_
        refine lv_iadd hx hb dL_law_127 ?_
        refine fr_top (show ((nI i + 2) : Int32) = nI (i + 2) from nI_add i 2) ?_
        refine fr_sld hx hb hX hbl hbA hS (show i + 2 < L by omega) (by omega) dL_law_128 ?_
        refine fr_lawM (sp := fr_sLoad V F (xs (i + 1)) (xs (i + 2))) (As := [.int (xs (i + 1)), .int (xs (i + 2))]) hS0 (cM_load l D V bd kb row made F hM hV hV1 hinjB (xs (i + 1)) (xs (i + 2))) (cw_W_M_load hw ⟨Nat.le_of_ble_eq_true rfl, Nat.le_of_ble_eq_true rfl⟩) hK2 hP hP2 hS hbd hdis rfl hl.1 rfl (Nat.le_of_ble_eq_true rfl) dL_law_129 ⟨Nat.le_of_ble_eq_true rfl, Nat.le_of_ble_eq_true rfl⟩ (fun H locs row made hP hP2 hM2 hS => ?_)
        refine lv_icmp_eq (tgt := 582) hx hb dL_law_132 rfl (fun hne => ?_) (fun hne => absurd rfl hne)
        refine lv_iinc (k := 0) (v := nI (i + 5)) hx hb dL_law_582 hl rfl (nI_add i 5) (by decide) rfl (fun ls hl => ?_)
        replace hl : lv_has ls 4 [(3, .int (nI (i + 5))), (0, .ref b), (1, .ref (ad 0)), (2, .ref (bd 0))] := hl
        refine lv_goto (tgt := 28) hx hb dL_law_585 rfl ?_
        exact ih (i + 5) H locs ls mk nm pt ro row made _ (by omega) (by omega) (lv_sub hl [0, 1, 2, 3] rfl) hP hP2 hF2 hM2 hS
      ·
        refine lv_tableIn (tgt := 137) hx hb dL_law_42 (by rw [hji]; decide) (by rw [hji]; decide) (by rw [hji]; rfl) rfl ?_
        refine lv_aload_n hx hb dL_law_137 rfl (lv_at hl 2 rfl) ?_
        refine lv_aload_n hx hb dL_law_138 rfl (lv_at hl 1 rfl) ?_
        refine lv_iload_n hx hb dL_law_139 rfl (lv_at hl 0 rfl) ?_
        refine lv_iconst (v := 1) hx hb dL_law_140 (by decide) ?_
        refine lv_iadd hx hb dL_law_141 ?_
        refine fr_top (show ((nI i + 1) : Int32) = nI (i + 1) from nI_add i 1) ?_
        refine fr_sld hx hb hX hbl hbA hS (show i + 1 < L by omega) (by omega) dL_law_142 ?_
        refine lv_aload_n hx hb dL_law_143 rfl (lv_at hl 1 rfl) ?_
        refine lv_iload_n hx hb dL_law_144 rfl (lv_at hl 0 rfl) ?_
        refine lv_iconst (v := 2) hx hb dL_law_145 (by decide) ?_
        refine lv_iadd hx hb dL_law_146 ?_
        refine fr_top (show ((nI i + 2) : Int32) = nI (i + 2) from nI_add i 2) ?_
        refine fr_sld hx hb hX hbl hbA hS (show i + 2 < L by omega) (by omega) dL_law_147 ?_
        refine lv_aload_n hx hb dL_law_148 rfl (lv_at hl 1 rfl) ?_
        refine lv_iload_n hx hb dL_law_149 rfl (lv_at hl 0 rfl) ?_
        refine lv_iconst (v := 3) hx hb dL_law_150 (by decide) ?_
        refine lv_iadd hx hb dL_law_151 ?_
        refine fr_top (show ((nI i + 3) : Int32) = nI (i + 3) from nI_add i 3) ?_
        refine fr_sld hx hb hX hbl hbA hS (show i + 3 < L by omega) (by omega) dL_law_152 ?_
        refine lv_aload_n hx hb dL_law_153 rfl (lv_at hl 1 rfl) ?_
        refine lv_iload_n hx hb dL_law_154 rfl (lv_at hl 0 rfl) ?_
        refine lv_iconst (v := 4) hx hb dL_law_155 (by decide) ?_
        refine lv_iadd hx hb dL_law_156 ?_
        refine fr_top (show ((nI i + 4) : Int32) = nI (i + 4) from nI_add i 4) ?_
        refine fr_sld hx hb hX hbl hbA hS (show i + 4 < L by omega) (by omega) dL_law_157 ?_
        refine fr_lawX (sp := fr_sReckon V F (xs (i + 1)) (xs (i + 2)) (xs (i + 3)) (xs (i + 4))) (As := [.int (xs (i + 1)), .int (xs (i + 2)), .int (xs (i + 3)), .int (xs (i + 4))]) hS0 (cF_reckon l D V ad ka mk nm pt ro F hF hV hV1 hinj (xs (i + 1)) (xs (i + 2)) (xs (i + 3)) (xs (i + 4))) (cw_W_F_reckon hw ⟨Nat.le_of_ble_eq_true rfl, Nat.le_of_ble_eq_true rfl⟩) hK hP hP2 hT hS had hdis rfl hl.1 rfl (Nat.le_of_ble_eq_true rfl) dL_law_158 ⟨Nat.le_of_ble_eq_true rfl, Nat.le_of_ble_eq_true rfl⟩ (fun H locs mk nm pt ro hP hP2 hF2 hS => ?_)
        refine lv_aload_n hx hb dL_law_161 rfl (lv_at hl 3 rfl) ?_
        refine lv_aload_n hx hb dL_law_162 rfl (lv_at hl 1 rfl) ?_
        refine lv_iload_n hx hb dL_law_163 rfl (lv_at hl 0 rfl) ?_
        refine lv_iconst (v := 1) hx hb dL_law_164 (by decide) ?_
        refine lv_iadd hx hb dL_law_165 ?_
        refine fr_top (show ((nI i + 1) : Int32) = nI (i + 1) from nI_add i 1) ?_
        refine fr_sld hx hb hX hbl hbA hS (show i + 1 < L by omega) (by omega) dL_law_166 ?_
        refine lv_aload_n hx hb dL_law_167 rfl (lv_at hl 1 rfl) ?_
        refine lv_iload_n hx hb dL_law_168 rfl (lv_at hl 0 rfl) ?_
        refine lv_iconst (v := 2) hx hb dL_law_169 (by decide) ?_
        refine lv_iadd hx hb dL_law_170 ?_
        refine fr_top (show ((nI i + 2) : Int32) = nI (i + 2) from nI_add i 2) ?_
        refine fr_sld hx hb hX hbl hbA hS (show i + 2 < L by omega) (by omega) dL_law_171 ?_
        refine lv_aload_n hx hb dL_law_172 rfl (lv_at hl 1 rfl) ?_
        refine lv_iload_n hx hb dL_law_173 rfl (lv_at hl 0 rfl) ?_
        refine lv_iconst (v := 3) hx hb dL_law_174 (by decide) ?_
        refine lv_iadd hx hb dL_law_175 ?_
        refine fr_top (show ((nI i + 3) : Int32) = nI (i + 3) from nI_add i 3) ?_
        refine fr_sld hx hb hX hbl hbA hS (show i + 3 < L by omega) (by omega) dL_law_176 ?_
        refine lv_aload_n hx hb dL_law_177 rfl (lv_at hl 1 rfl) ?_
        refine lv_iload_n hx hb dL_law_178 rfl (lv_at hl 0 rfl) ?_
        refine lv_iconst (v := 4) hx hb dL_law_179 (by decide) ?_
        refine lv_iadd hx hb dL_law_180 ?_
        refine fr_top (show ((nI i + 4) : Int32) = nI (i + 4) from nI_add i 4) ?_
        refine fr_sld hx hb hX hbl hbA hS (show i + 4 < L by omega) (by omega) dL_law_181 ?_
        refine fr_lawM (sp := fr_sReckon V F (xs (i + 1)) (xs (i + 2)) (xs (i + 3)) (xs (i + 4))) (As := [.int (xs (i + 1)), .int (xs (i + 2)), .int (xs (i + 3)), .int (xs (i + 4))]) hS0 (cM_reckon l D V bd kb row made F hM hV hV1 hinjB (xs (i + 1)) (xs (i + 2)) (xs (i + 3)) (xs (i + 4))) (cw_W_M_reckon hw ⟨Nat.le_of_ble_eq_true rfl, Nat.le_of_ble_eq_true rfl⟩) hK2 hP hP2 hS hbd hdis rfl hl.1 rfl (Nat.le_of_ble_eq_true rfl) dL_law_182 ⟨Nat.le_of_ble_eq_true rfl, Nat.le_of_ble_eq_true rfl⟩ (fun H locs row made hP hP2 hM2 hS => ?_)
        refine lv_icmp_eq (tgt := 582) hx hb dL_law_185 rfl (fun hne => ?_) (fun hne => absurd rfl hne)
        refine lv_iinc (k := 0) (v := nI (i + 5)) hx hb dL_law_582 hl rfl (nI_add i 5) (by decide) rfl (fun ls hl => ?_)
        replace hl : lv_has ls 4 [(3, .int (nI (i + 5))), (0, .ref b), (1, .ref (ad 0)), (2, .ref (bd 0))] := hl
        refine lv_goto (tgt := 28) hx hb dL_law_585 rfl ?_
        exact ih (i + 5) H locs ls mk nm pt ro row made _ (by omega) (by omega) (lv_sub hl [0, 1, 2, 3] rfl) hP hP2 hF2 hM2 hS
      ·
        refine lv_tableIn (tgt := 190) hx hb dL_law_42 (by rw [hji]; decide) (by rw [hji]; decide) (by rw [hji]; rfl) rfl ?_
        refine lv_aload_n hx hb dL_law_190 rfl (lv_at hl 2 rfl) ?_
        refine lv_aload_n hx hb dL_law_191 rfl (lv_at hl 1 rfl) ?_
        refine lv_iload_n hx hb dL_law_192 rfl (lv_at hl 0 rfl) ?_
        refine lv_iconst (v := 1) hx hb dL_law_193 (by decide) ?_
        refine lv_iadd hx hb dL_law_194 ?_
        refine fr_top (show ((nI i + 1) : Int32) = nI (i + 1) from nI_add i 1) ?_
        refine fr_sld hx hb hX hbl hbA hS (show i + 1 < L by omega) (by omega) dL_law_195 ?_
        refine lv_aload_n hx hb dL_law_196 rfl (lv_at hl 1 rfl) ?_
        refine lv_iload_n hx hb dL_law_197 rfl (lv_at hl 0 rfl) ?_
        refine lv_iconst (v := 2) hx hb dL_law_198 (by decide) ?_
        refine lv_iadd hx hb dL_law_199 ?_
        refine fr_top (show ((nI i + 2) : Int32) = nI (i + 2) from nI_add i 2) ?_
        refine fr_sld hx hb hX hbl hbA hS (show i + 2 < L by omega) (by omega) dL_law_200 ?_
        refine fr_lawX (sp := fr_sNot V F (xs (i + 1)) (xs (i + 2))) (As := [.int (xs (i + 1)), .int (xs (i + 2))]) hS0 (cF_not l D V ad ka mk nm pt ro F hF hV hV1 hinj (xs (i + 1)) (xs (i + 2))) (cw_W_F_not hw ⟨Nat.le_of_ble_eq_true rfl, Nat.le_of_ble_eq_true rfl⟩) hK hP hP2 hT hS had hdis rfl hl.1 rfl (Nat.le_of_ble_eq_true rfl) dL_law_201 ⟨Nat.le_of_ble_eq_true rfl, Nat.le_of_ble_eq_true rfl⟩ (fun H locs mk nm pt ro hP hP2 hF2 hS => ?_)
        refine lv_aload_n hx hb dL_law_204 rfl (lv_at hl 3 rfl) ?_
        refine lv_aload_n hx hb dL_law_205 rfl (lv_at hl 1 rfl) ?_
        refine lv_iload_n hx hb dL_law_206 rfl (lv_at hl 0 rfl) ?_
        refine lv_iconst (v := 1) hx hb dL_law_207 (by decide) ?_
        refine lv_iadd hx hb dL_law_208 ?_
        refine fr_top (show ((nI i + 1) : Int32) = nI (i + 1) from nI_add i 1) ?_
        refine fr_sld hx hb hX hbl hbA hS (show i + 1 < L by omega) (by omega) dL_law_209 ?_
        refine lv_aload_n hx hb dL_law_210 rfl (lv_at hl 1 rfl) ?_
        refine lv_iload_n hx hb dL_law_211 rfl (lv_at hl 0 rfl) ?_
        refine lv_iconst (v := 2) hx hb dL_law_212 (by decide) ?_
        refine lv_iadd hx hb dL_law_213 ?_
        refine fr_top (show ((nI i + 2) : Int32) = nI (i + 2) from nI_add i 2) ?_
        refine fr_sld hx hb hX hbl hbA hS (show i + 2 < L by omega) (by omega) dL_law_214 ?_
        refine fr_lawM (sp := fr_sNot V F (xs (i + 1)) (xs (i + 2))) (As := [.int (xs (i + 1)), .int (xs (i + 2))]) hS0 (cM_not l D V bd kb row made F hM hV hV1 hinjB (xs (i + 1)) (xs (i + 2))) (cw_W_M_not hw ⟨Nat.le_of_ble_eq_true rfl, Nat.le_of_ble_eq_true rfl⟩) hK2 hP hP2 hS hbd hdis rfl hl.1 rfl (Nat.le_of_ble_eq_true rfl) dL_law_215 ⟨Nat.le_of_ble_eq_true rfl, Nat.le_of_ble_eq_true rfl⟩ (fun H locs row made hP hP2 hM2 hS => ?_)
        refine lv_icmp_eq (tgt := 582) hx hb dL_law_218 rfl (fun hne => ?_) (fun hne => absurd rfl hne)
        refine lv_iinc (k := 0) (v := nI (i + 5)) hx hb dL_law_582 hl rfl (nI_add i 5) (by decide) rfl (fun ls hl => ?_)
        replace hl : lv_has ls 4 [(3, .int (nI (i + 5))), (0, .ref b), (1, .ref (ad 0)), (2, .ref (bd 0))] := hl
        refine lv_goto (tgt := 28) hx hb dL_law_585 rfl ?_
        exact ih (i + 5) H locs ls mk nm pt ro row made _ (by omega) (by omega) (lv_sub hl [0, 1, 2, 3] rfl) hP hP2 hF2 hM2 hS
      ·
        refine lv_tableIn (tgt := 223) hx hb dL_law_42 (by rw [hji]; decide) (by rw [hji]; decide) (by rw [hji]; rfl) rfl ?_
        rcases Decidable.em (xs (i + 4) = 0) with hz | hz
        ·
          refine lv_aload_n hx hb dL_law_223 rfl (lv_at hl 2 rfl) ?_
          refine lv_aload_n hx hb dL_law_224 rfl (lv_at hl 1 rfl) ?_
          refine lv_iload_n hx hb dL_law_225 rfl (lv_at hl 0 rfl) ?_
          refine lv_iconst (v := 1) hx hb dL_law_226 (by decide) ?_
          refine lv_iadd hx hb dL_law_227 ?_
          refine fr_top (show ((nI i + 1) : Int32) = nI (i + 1) from nI_add i 1) ?_
          refine fr_sld hx hb hX hbl hbA hS (show i + 1 < L by omega) (by omega) dL_law_228 ?_
          refine lv_aload_n hx hb dL_law_229 rfl (lv_at hl 1 rfl) ?_
          refine lv_iload_n hx hb dL_law_230 rfl (lv_at hl 0 rfl) ?_
          refine lv_iconst (v := 2) hx hb dL_law_231 (by decide) ?_
          refine lv_iadd hx hb dL_law_232 ?_
          refine fr_top (show ((nI i + 2) : Int32) = nI (i + 2) from nI_add i 2) ?_
          refine fr_sld hx hb hX hbl hbA hS (show i + 2 < L by omega) (by omega) dL_law_233 ?_
          refine lv_aload_n hx hb dL_law_234 rfl (lv_at hl 1 rfl) ?_
          refine lv_iload_n hx hb dL_law_235 rfl (lv_at hl 0 rfl) ?_
          refine lv_iconst (v := 3) hx hb dL_law_236 (by decide) ?_
          refine lv_iadd hx hb dL_law_237 ?_
          refine fr_top (show ((nI i + 3) : Int32) = nI (i + 3) from nI_add i 3) ?_
          refine fr_sld hx hb hX hbl hbA hS (show i + 3 < L by omega) (by omega) dL_law_238 ?_
          refine lv_aload_n hx hb dL_law_239 rfl (lv_at hl 1 rfl) ?_
          refine lv_iload_n hx hb dL_law_240 rfl (lv_at hl 0 rfl) ?_
          refine lv_iconst (v := 4) hx hb dL_law_241 (by decide) ?_
          refine lv_iadd hx hb dL_law_242 ?_
          refine fr_top (show ((nI i + 4) : Int32) = nI (i + 4) from nI_add i 4) ?_
          refine fr_sld hx hb hX hbl hbA hS (show i + 4 < L by omega) (by omega) dL_law_243 ?_
          refine lv_if_eq (tgt := 251) hx hb dL_law_244 rfl (fun hzz => ?_) (fun hzz => absurd hz hzz)
          refine lv_iconst (v := 0) hx hb dL_law_251 (by decide) ?_
          refine fr_lawX (sp := fr_sWith V F (xs (i + 1)) (xs (i + 2)) (xs (i + 3)) false) (As := [.int (xs (i + 1)), .int (xs (i + 2)), .int (xs (i + 3)), .int (fr_bi false)]) hS0 (cF_with l D V ad ka mk nm pt ro F hF hV hV1 hinj (xs (i + 1)) (xs (i + 2)) (xs (i + 3)) false) (cw_W_F_with hw ⟨Nat.le_of_ble_eq_true rfl, Nat.le_of_ble_eq_true rfl⟩) hK hP hP2 hT hS had hdis rfl hl.1 rfl (Nat.le_of_ble_eq_true rfl) dL_law_252 ⟨Nat.le_of_ble_eq_true rfl, Nat.le_of_ble_eq_true rfl⟩ (fun H locs mk nm pt ro hP hP2 hF2 hS => ?_)
          refine lv_aload_n hx hb dL_law_255 rfl (lv_at hl 3 rfl) ?_
          refine lv_aload_n hx hb dL_law_256 rfl (lv_at hl 1 rfl) ?_
          refine lv_iload_n hx hb dL_law_257 rfl (lv_at hl 0 rfl) ?_
          refine lv_iconst (v := 1) hx hb dL_law_258 (by decide) ?_
          refine lv_iadd hx hb dL_law_259 ?_
          refine fr_top (show ((nI i + 1) : Int32) = nI (i + 1) from nI_add i 1) ?_
          refine fr_sld hx hb hX hbl hbA hS (show i + 1 < L by omega) (by omega) dL_law_260 ?_
          refine lv_aload_n hx hb dL_law_261 rfl (lv_at hl 1 rfl) ?_
          refine lv_iload_n hx hb dL_law_262 rfl (lv_at hl 0 rfl) ?_
          refine lv_iconst (v := 2) hx hb dL_law_263 (by decide) ?_
          refine lv_iadd hx hb dL_law_264 ?_
          refine fr_top (show ((nI i + 2) : Int32) = nI (i + 2) from nI_add i 2) ?_
          refine fr_sld hx hb hX hbl hbA hS (show i + 2 < L by omega) (by omega) dL_law_265 ?_
          refine lv_aload_n hx hb dL_law_266 rfl (lv_at hl 1 rfl) ?_
          refine lv_iload_n hx hb dL_law_267 rfl (lv_at hl 0 rfl) ?_
          refine lv_iconst (v := 3) hx hb dL_law_268 (by decide) ?_
          refine lv_iadd hx hb dL_law_269 ?_
          refine fr_top (show ((nI i + 3) : Int32) = nI (i + 3) from nI_add i 3) ?_
          refine fr_sld hx hb hX hbl hbA hS (show i + 3 < L by omega) (by omega) dL_law_270 ?_
          refine lv_aload_n hx hb dL_law_271 rfl (lv_at hl 1 rfl) ?_
          refine lv_iload_n hx hb dL_law_272 rfl (lv_at hl 0 rfl) ?_
          refine lv_iconst (v := 4) hx hb dL_law_273 (by decide) ?_
          refine lv_iadd hx hb dL_law_274 ?_
          refine fr_top (show ((nI i + 4) : Int32) = nI (i + 4) from nI_add i 4) ?_
          refine fr_sld hx hb hX hbl hbA hS (show i + 4 < L by omega) (by omega) dL_law_275 ?_
          refine lv_if_eq (tgt := 283) hx hb dL_law_276 rfl (fun hzz => ?_) (fun hzz => absurd hz hzz)
          refine lv_iconst (v := 0) hx hb dL_law_283 (by decide) ?_
          refine fr_lawM (sp := fr_sWith V F (xs (i + 1)) (xs (i + 2)) (xs (i + 3)) false) (As := [.int (xs (i + 1)), .int (xs (i + 2)), .int (xs (i + 3)), .int (fr_bi false)]) hS0 (cM_with l D V bd kb row made F hM hV hV1 hinjB (xs (i + 1)) (xs (i + 2)) (xs (i + 3)) false) (cw_W_M_with hw ⟨Nat.le_of_ble_eq_true rfl, Nat.le_of_ble_eq_true rfl⟩) hK2 hP hP2 hS hbd hdis rfl hl.1 rfl (Nat.le_of_ble_eq_true rfl) dL_law_284 ⟨Nat.le_of_ble_eq_true rfl, Nat.le_of_ble_eq_true rfl⟩ (fun H locs row made hP hP2 hM2 hS => ?_)
          refine lv_icmp_eq (tgt := 582) hx hb dL_law_287 rfl (fun hne => ?_) (fun hne => absurd rfl hne)
          refine lv_iinc (k := 0) (v := nI (i + 5)) hx hb dL_law_582 hl rfl (nI_add i 5) (by decide) rfl (fun ls hl => ?_)
          replace hl : lv_has ls 4 [(3, .int (nI (i + 5))), (0, .ref b), (1, .ref (ad 0)), (2, .ref (bd 0))] := hl
          refine lv_goto (tgt := 28) hx hb dL_law_585 rfl ?_
          exact ih (i + 5) H locs ls mk nm pt ro row made _ (by omega) (by omega) (lv_sub hl [0, 1, 2, 3] rfl) hP hP2 hF2 hM2 hS
        ·
          refine lv_aload_n hx hb dL_law_223 rfl (lv_at hl 2 rfl) ?_
          refine lv_aload_n hx hb dL_law_224 rfl (lv_at hl 1 rfl) ?_
          refine lv_iload_n hx hb dL_law_225 rfl (lv_at hl 0 rfl) ?_
          refine lv_iconst (v := 1) hx hb dL_law_226 (by decide) ?_
          refine lv_iadd hx hb dL_law_227 ?_
          refine fr_top (show ((nI i + 1) : Int32) = nI (i + 1) from nI_add i 1) ?_
          refine fr_sld hx hb hX hbl hbA hS (show i + 1 < L by omega) (by omega) dL_law_228 ?_
          refine lv_aload_n hx hb dL_law_229 rfl (lv_at hl 1 rfl) ?_
          refine lv_iload_n hx hb dL_law_230 rfl (lv_at hl 0 rfl) ?_
          refine lv_iconst (v := 2) hx hb dL_law_231 (by decide) ?_
          refine lv_iadd hx hb dL_law_232 ?_
          refine fr_top (show ((nI i + 2) : Int32) = nI (i + 2) from nI_add i 2) ?_
          refine fr_sld hx hb hX hbl hbA hS (show i + 2 < L by omega) (by omega) dL_law_233 ?_
          refine lv_aload_n hx hb dL_law_234 rfl (lv_at hl 1 rfl) ?_
          refine lv_iload_n hx hb dL_law_235 rfl (lv_at hl 0 rfl) ?_
          refine lv_iconst (v := 3) hx hb dL_law_236 (by decide) ?_
          refine lv_iadd hx hb dL_law_237 ?_
          refine fr_top (show ((nI i + 3) : Int32) = nI (i + 3) from nI_add i 3) ?_
          refine fr_sld hx hb hX hbl hbA hS (show i + 3 < L by omega) (by omega) dL_law_238 ?_
          refine lv_aload_n hx hb dL_law_239 rfl (lv_at hl 1 rfl) ?_
          refine lv_iload_n hx hb dL_law_240 rfl (lv_at hl 0 rfl) ?_
          refine lv_iconst (v := 4) hx hb dL_law_241 (by decide) ?_
          refine lv_iadd hx hb dL_law_242 ?_
          refine fr_top (show ((nI i + 4) : Int32) = nI (i + 4) from nI_add i 4) ?_
          refine fr_sld hx hb hX hbl hbA hS (show i + 4 < L by omega) (by omega) dL_law_243 ?_
          refine lv_if_eq (tgt := 251) hx hb dL_law_244 rfl (fun hzz => absurd hzz hz) (fun hzz => ?_)
          refine lv_iconst (v := 1) hx hb dL_law_247 (by decide) ?_
          refine lv_goto (tgt := 252) hx hb dL_law_248 rfl ?_
          refine fr_lawX (sp := fr_sWith V F (xs (i + 1)) (xs (i + 2)) (xs (i + 3)) true) (As := [.int (xs (i + 1)), .int (xs (i + 2)), .int (xs (i + 3)), .int (fr_bi true)]) hS0 (cF_with l D V ad ka mk nm pt ro F hF hV hV1 hinj (xs (i + 1)) (xs (i + 2)) (xs (i + 3)) true) (cw_W_F_with hw ⟨Nat.le_of_ble_eq_true rfl, Nat.le_of_ble_eq_true rfl⟩) hK hP hP2 hT hS had hdis rfl hl.1 rfl (Nat.le_of_ble_eq_true rfl) dL_law_252 ⟨Nat.le_of_ble_eq_true rfl, Nat.le_of_ble_eq_true rfl⟩ (fun H locs mk nm pt ro hP hP2 hF2 hS => ?_)
          refine lv_aload_n hx hb dL_law_255 rfl (lv_at hl 3 rfl) ?_
          refine lv_aload_n hx hb dL_law_256 rfl (lv_at hl 1 rfl) ?_
          refine lv_iload_n hx hb dL_law_257 rfl (lv_at hl 0 rfl) ?_
          refine lv_iconst (v := 1) hx hb dL_law_258 (by decide) ?_
          refine lv_iadd hx hb dL_law_259 ?_
          refine fr_top (show ((nI i + 1) : Int32) = nI (i + 1) from nI_add i 1) ?_
          refine fr_sld hx hb hX hbl hbA hS (show i + 1 < L by omega) (by omega) dL_law_260 ?_
          refine lv_aload_n hx hb dL_law_261 rfl (lv_at hl 1 rfl) ?_
          refine lv_iload_n hx hb dL_law_262 rfl (lv_at hl 0 rfl) ?_
          refine lv_iconst (v := 2) hx hb dL_law_263 (by decide) ?_
          refine lv_iadd hx hb dL_law_264 ?_
          refine fr_top (show ((nI i + 2) : Int32) = nI (i + 2) from nI_add i 2) ?_
          refine fr_sld hx hb hX hbl hbA hS (show i + 2 < L by omega) (by omega) dL_law_265 ?_
          refine lv_aload_n hx hb dL_law_266 rfl (lv_at hl 1 rfl) ?_
          refine lv_iload_n hx hb dL_law_267 rfl (lv_at hl 0 rfl) ?_
          refine lv_iconst (v := 3) hx hb dL_law_268 (by decide) ?_
          refine lv_iadd hx hb dL_law_269 ?_
          refine fr_top (show ((nI i + 3) : Int32) = nI (i + 3) from nI_add i 3) ?_
          refine fr_sld hx hb hX hbl hbA hS (show i + 3 < L by omega) (by omega) dL_law_270 ?_
          refine lv_aload_n hx hb dL_law_271 rfl (lv_at hl 1 rfl) ?_
          refine lv_iload_n hx hb dL_law_272 rfl (lv_at hl 0 rfl) ?_
          refine lv_iconst (v := 4) hx hb dL_law_273 (by decide) ?_
          refine lv_iadd hx hb dL_law_274 ?_
          refine fr_top (show ((nI i + 4) : Int32) = nI (i + 4) from nI_add i 4) ?_
          refine fr_sld hx hb hX hbl hbA hS (show i + 4 < L by omega) (by omega) dL_law_275 ?_
          refine lv_if_eq (tgt := 283) hx hb dL_law_276 rfl (fun hzz => absurd hzz hz) (fun hzz => ?_)
          refine lv_iconst (v := 1) hx hb dL_law_279 (by decide) ?_
          refine lv_goto (tgt := 284) hx hb dL_law_280 rfl ?_
          refine fr_lawM (sp := fr_sWith V F (xs (i + 1)) (xs (i + 2)) (xs (i + 3)) true) (As := [.int (xs (i + 1)), .int (xs (i + 2)), .int (xs (i + 3)), .int (fr_bi true)]) hS0 (cM_with l D V bd kb row made F hM hV hV1 hinjB (xs (i + 1)) (xs (i + 2)) (xs (i + 3)) true) (cw_W_M_with hw ⟨Nat.le_of_ble_eq_true rfl, Nat.le_of_ble_eq_true rfl⟩) hK2 hP hP2 hS hbd hdis rfl hl.1 rfl (Nat.le_of_ble_eq_true rfl) dL_law_284 ⟨Nat.le_of_ble_eq_true rfl, Nat.le_of_ble_eq_true rfl⟩ (fun H locs row made hP hP2 hM2 hS => ?_)
          refine lv_icmp_eq (tgt := 582) hx hb dL_law_287 rfl (fun hne => ?_) (fun hne => absurd rfl hne)
          refine lv_iinc (k := 0) (v := nI (i + 5)) hx hb dL_law_582 hl rfl (nI_add i 5) (by decide) rfl (fun ls hl => ?_)
          replace hl : lv_has ls 4 [(3, .int (nI (i + 5))), (0, .ref b), (1, .ref (ad 0)), (2, .ref (bd 0))] := hl
          refine lv_goto (tgt := 28) hx hb dL_law_585 rfl ?_
          exact ih (i + 5) H locs ls mk nm pt ro row made _ (by omega) (by omega) (lv_sub hl [0, 1, 2, 3] rfl) hP hP2 hF2 hM2 hS
      ·
        refine lv_tableIn (tgt := 292) hx hb dL_law_42 (by rw [hji]; decide) (by rw [hji]; decide) (by rw [hji]; rfl) rfl ?_
        rcases Decidable.em (xs (i + 4) = 0) with hz | hz
        ·
          refine lv_aload_n hx hb dL_law_292 rfl (lv_at hl 2 rfl) ?_
          refine lv_aload_n hx hb dL_law_293 rfl (lv_at hl 1 rfl) ?_
          refine lv_iload_n hx hb dL_law_294 rfl (lv_at hl 0 rfl) ?_
          refine lv_iconst (v := 1) hx hb dL_law_295 (by decide) ?_
          refine lv_iadd hx hb dL_law_296 ?_
          refine fr_top (show ((nI i + 1) : Int32) = nI (i + 1) from nI_add i 1) ?_
          refine fr_sld hx hb hX hbl hbA hS (show i + 1 < L by omega) (by omega) dL_law_297 ?_
          refine lv_aload_n hx hb dL_law_298 rfl (lv_at hl 1 rfl) ?_
          refine lv_iload_n hx hb dL_law_299 rfl (lv_at hl 0 rfl) ?_
          refine lv_iconst (v := 2) hx hb dL_law_300 (by decide) ?_
          refine lv_iadd hx hb dL_law_301 ?_
          refine fr_top (show ((nI i + 2) : Int32) = nI (i + 2) from nI_add i 2) ?_
          refine fr_sld hx hb hX hbl hbA hS (show i + 2 < L by omega) (by omega) dL_law_302 ?_
          refine lv_aload_n hx hb dL_law_303 rfl (lv_at hl 1 rfl) ?_
          refine lv_iload_n hx hb dL_law_304 rfl (lv_at hl 0 rfl) ?_
          refine lv_iconst (v := 3) hx hb dL_law_305 (by decide) ?_
          refine lv_iadd hx hb dL_law_306 ?_
          refine fr_top (show ((nI i + 3) : Int32) = nI (i + 3) from nI_add i 3) ?_
          refine fr_sld hx hb hX hbl hbA hS (show i + 3 < L by omega) (by omega) dL_law_307 ?_
          refine lv_aload_n hx hb dL_law_308 rfl (lv_at hl 1 rfl) ?_
          refine lv_iload_n hx hb dL_law_309 rfl (lv_at hl 0 rfl) ?_
          refine lv_iconst (v := 4) hx hb dL_law_310 (by decide) ?_
          refine lv_iadd hx hb dL_law_311 ?_
          refine fr_top (show ((nI i + 4) : Int32) = nI (i + 4) from nI_add i 4) ?_
          refine fr_sld hx hb hX hbl hbA hS (show i + 4 < L by omega) (by omega) dL_law_312 ?_
          refine lv_if_eq (tgt := 320) hx hb dL_law_313 rfl (fun hzz => ?_) (fun hzz => absurd hz hzz)
          refine lv_iconst (v := 0) hx hb dL_law_320 (by decide) ?_
          refine fr_lawX (sp := fr_sBind V F (xs (i + 1)) (xs (i + 2)) (xs (i + 3)) false) (As := [.int (xs (i + 1)), .int (xs (i + 2)), .int (xs (i + 3)), .int (fr_bi false)]) hS0 (cF_bind l D V ad ka mk nm pt ro F hF hV hV1 hinj (xs (i + 1)) (xs (i + 2)) (xs (i + 3)) false) (cw_W_F_bind hw ⟨Nat.le_of_ble_eq_true rfl, Nat.le_of_ble_eq_true rfl⟩) hK hP hP2 hT hS had hdis rfl hl.1 rfl (Nat.le_of_ble_eq_true rfl) dL_law_321 ⟨Nat.le_of_ble_eq_true rfl, Nat.le_of_ble_eq_true rfl⟩ (fun H locs mk nm pt ro hP hP2 hF2 hS => ?_)
          refine lv_aload_n hx hb dL_law_324 rfl (lv_at hl 3 rfl) ?_
          refine lv_aload_n hx hb dL_law_325 rfl (lv_at hl 1 rfl) ?_
          refine lv_iload_n hx hb dL_law_326 rfl (lv_at hl 0 rfl) ?_
          refine lv_iconst (v := 1) hx hb dL_law_327 (by decide) ?_
          refine lv_iadd hx hb dL_law_328 ?_
          refine fr_top (show ((nI i + 1) : Int32) = nI (i + 1) from nI_add i 1) ?_
          refine fr_sld hx hb hX hbl hbA hS (show i + 1 < L by omega) (by omega) dL_law_329 ?_
          refine lv_aload_n hx hb dL_law_330 rfl (lv_at hl 1 rfl) ?_
          refine lv_iload_n hx hb dL_law_331 rfl (lv_at hl 0 rfl) ?_
          refine lv_iconst (v := 2) hx hb dL_law_332 (by decide) ?_
          refine lv_iadd hx hb dL_law_333 ?_
          refine fr_top (show ((nI i + 2) : Int32) = nI (i + 2) from nI_add i 2) ?_
          refine fr_sld hx hb hX hbl hbA hS (show i + 2 < L by omega) (by omega) dL_law_334 ?_
          refine lv_aload_n hx hb dL_law_335 rfl (lv_at hl 1 rfl) ?_
          refine lv_iload_n hx hb dL_law_336 rfl (lv_at hl 0 rfl) ?_
          refine lv_iconst (v := 3) hx hb dL_law_337 (by decide) ?_
          refine lv_iadd hx hb dL_law_338 ?_
          refine fr_top (show ((nI i + 3) : Int32) = nI (i + 3) from nI_add i 3) ?_
          refine fr_sld hx hb hX hbl hbA hS (show i + 3 < L by omega) (by omega) dL_law_339 ?_
          refine lv_aload_n hx hb dL_law_340 rfl (lv_at hl 1 rfl) ?_
          refine lv_iload_n hx hb dL_law_341 rfl (lv_at hl 0 rfl) ?_
          refine lv_iconst (v := 4) hx hb dL_law_342 (by decide) ?_
          refine lv_iadd hx hb dL_law_343 ?_
          refine fr_top (show ((nI i + 4) : Int32) = nI (i + 4) from nI_add i 4) ?_
          refine fr_sld hx hb hX hbl hbA hS (show i + 4 < L by omega) (by omega) dL_law_344 ?_
          refine lv_if_eq (tgt := 352) hx hb dL_law_345 rfl (fun hzz => ?_) (fun hzz => absurd hz hzz)
          refine lv_iconst (v := 0) hx hb dL_law_352 (by decide) ?_
          refine fr_lawM (sp := fr_sBind V F (xs (i + 1)) (xs (i + 2)) (xs (i + 3)) false) (As := [.int (xs (i + 1)), .int (xs (i + 2)), .int (xs (i + 3)), .int (fr_bi false)]) hS0 (cM_bind l D V bd kb row made F hM hV hV1 hinjB (xs (i + 1)) (xs (i + 2)) (xs (i + 3)) false) (cw_W_M_bind hw ⟨Nat.le_of_ble_eq_true rfl, Nat.le_of_ble_eq_true rfl⟩) hK2 hP hP2 hS hbd hdis rfl hl.1 rfl (Nat.le_of_ble_eq_true rfl) dL_law_353 ⟨Nat.le_of_ble_eq_true rfl, Nat.le_of_ble_eq_true rfl⟩ (fun H locs row made hP hP2 hM2 hS => ?_)
          refine lv_icmp_eq (tgt := 582) hx hb dL_law_356 rfl (fun hne => ?_) (fun hne => absurd rfl hne)
          refine lv_iinc (k := 0) (v := nI (i + 5)) hx hb dL_law_582 hl rfl (nI_add i 5) (by decide) rfl (fun ls hl => ?_)
          replace hl : lv_has ls 4 [(3, .int (nI (i + 5))), (0, .ref b), (1, .ref (ad 0)), (2, .ref (bd 0))] := hl
          refine lv_goto (tgt := 28) hx hb dL_law_585 rfl ?_
          exact ih (i + 5) H locs ls mk nm pt ro row made _ (by omega) (by omega) (lv_sub hl [0, 1, 2, 3] rfl) hP hP2 hF2 hM2 hS
        ·
          refine lv_aload_n hx hb dL_law_292 rfl (lv_at hl 2 rfl) ?_
          refine lv_aload_n hx hb dL_law_293 rfl (lv_at hl 1 rfl) ?_
          refine lv_iload_n hx hb dL_law_294 rfl (lv_at hl 0 rfl) ?_
          refine lv_iconst (v := 1) hx hb dL_law_295 (by decide) ?_
          refine lv_iadd hx hb dL_law_296 ?_
          refine fr_top (show ((nI i + 1) : Int32) = nI (i + 1) from nI_add i 1) ?_
          refine fr_sld hx hb hX hbl hbA hS (show i + 1 < L by omega) (by omega) dL_law_297 ?_
          refine lv_aload_n hx hb dL_law_298 rfl (lv_at hl 1 rfl) ?_
          refine lv_iload_n hx hb dL_law_299 rfl (lv_at hl 0 rfl) ?_
          refine lv_iconst (v := 2) hx hb dL_law_300 (by decide) ?_
          refine lv_iadd hx hb dL_law_301 ?_
          refine fr_top (show ((nI i + 2) : Int32) = nI (i + 2) from nI_add i 2) ?_
          refine fr_sld hx hb hX hbl hbA hS (show i + 2 < L by omega) (by omega) dL_law_302 ?_
          refine lv_aload_n hx hb dL_law_303 rfl (lv_at hl 1 rfl) ?_
          refine lv_iload_n hx hb dL_law_304 rfl (lv_at hl 0 rfl) ?_
          refine lv_iconst (v := 3) hx hb dL_law_305 (by decide) ?_
          refine lv_iadd hx hb dL_law_306 ?_
          refine fr_top (show ((nI i + 3) : Int32) = nI (i + 3) from nI_add i 3) ?_
          refine fr_sld hx hb hX hbl hbA hS (show i + 3 < L by omega) (by omega) dL_law_307 ?_
          refine lv_aload_n hx hb dL_law_308 rfl (lv_at hl 1 rfl) ?_
          refine lv_iload_n hx hb dL_law_309 rfl (lv_at hl 0 rfl) ?_
          refine lv_iconst (v := 4) hx hb dL_law_310 (by decide) ?_
          refine lv_iadd hx hb dL_law_311 ?_
          refine fr_top (show ((nI i + 4) : Int32) = nI (i + 4) from nI_add i 4) ?_
          refine fr_sld hx hb hX hbl hbA hS (show i + 4 < L by omega) (by omega) dL_law_312 ?_
          refine lv_if_eq (tgt := 320) hx hb dL_law_313 rfl (fun hzz => absurd hzz hz) (fun hzz => ?_)
          refine lv_iconst (v := 1) hx hb dL_law_316 (by decide) ?_
          refine lv_goto (tgt := 321) hx hb dL_law_317 rfl ?_
          refine fr_lawX (sp := fr_sBind V F (xs (i + 1)) (xs (i + 2)) (xs (i + 3)) true) (As := [.int (xs (i + 1)), .int (xs (i + 2)), .int (xs (i + 3)), .int (fr_bi true)]) hS0 (cF_bind l D V ad ka mk nm pt ro F hF hV hV1 hinj (xs (i + 1)) (xs (i + 2)) (xs (i + 3)) true) (cw_W_F_bind hw ⟨Nat.le_of_ble_eq_true rfl, Nat.le_of_ble_eq_true rfl⟩) hK hP hP2 hT hS had hdis rfl hl.1 rfl (Nat.le_of_ble_eq_true rfl) dL_law_321 ⟨Nat.le_of_ble_eq_true rfl, Nat.le_of_ble_eq_true rfl⟩ (fun H locs mk nm pt ro hP hP2 hF2 hS => ?_)
          refine lv_aload_n hx hb dL_law_324 rfl (lv_at hl 3 rfl) ?_
          refine lv_aload_n hx hb dL_law_325 rfl (lv_at hl 1 rfl) ?_
          refine lv_iload_n hx hb dL_law_326 rfl (lv_at hl 0 rfl) ?_
          refine lv_iconst (v := 1) hx hb dL_law_327 (by decide) ?_
          refine lv_iadd hx hb dL_law_328 ?_
          refine fr_top (show ((nI i + 1) : Int32) = nI (i + 1) from nI_add i 1) ?_
          refine fr_sld hx hb hX hbl hbA hS (show i + 1 < L by omega) (by omega) dL_law_329 ?_
          refine lv_aload_n hx hb dL_law_330 rfl (lv_at hl 1 rfl) ?_
          refine lv_iload_n hx hb dL_law_331 rfl (lv_at hl 0 rfl) ?_
          refine lv_iconst (v := 2) hx hb dL_law_332 (by decide) ?_
          refine lv_iadd hx hb dL_law_333 ?_
          refine fr_top (show ((nI i + 2) : Int32) = nI (i + 2) from nI_add i 2) ?_
          refine fr_sld hx hb hX hbl hbA hS (show i + 2 < L by omega) (by omega) dL_law_334 ?_
          refine lv_aload_n hx hb dL_law_335 rfl (lv_at hl 1 rfl) ?_
          refine lv_iload_n hx hb dL_law_336 rfl (lv_at hl 0 rfl) ?_
          refine lv_iconst (v := 3) hx hb dL_law_337 (by decide) ?_
          refine lv_iadd hx hb dL_law_338 ?_
          refine fr_top (show ((nI i + 3) : Int32) = nI (i + 3) from nI_add i 3) ?_
          refine fr_sld hx hb hX hbl hbA hS (show i + 3 < L by omega) (by omega) dL_law_339 ?_
          refine lv_aload_n hx hb dL_law_340 rfl (lv_at hl 1 rfl) ?_
          refine lv_iload_n hx hb dL_law_341 rfl (lv_at hl 0 rfl) ?_
          refine lv_iconst (v := 4) hx hb dL_law_342 (by decide) ?_
          refine lv_iadd hx hb dL_law_343 ?_
          refine fr_top (show ((nI i + 4) : Int32) = nI (i + 4) from nI_add i 4) ?_
          refine fr_sld hx hb hX hbl hbA hS (show i + 4 < L by omega) (by omega) dL_law_344 ?_
          refine lv_if_eq (tgt := 352) hx hb dL_law_345 rfl (fun hzz => absurd hzz hz) (fun hzz => ?_)
          refine lv_iconst (v := 1) hx hb dL_law_348 (by decide) ?_
          refine lv_goto (tgt := 353) hx hb dL_law_349 rfl ?_
          refine fr_lawM (sp := fr_sBind V F (xs (i + 1)) (xs (i + 2)) (xs (i + 3)) true) (As := [.int (xs (i + 1)), .int (xs (i + 2)), .int (xs (i + 3)), .int (fr_bi true)]) hS0 (cM_bind l D V bd kb row made F hM hV hV1 hinjB (xs (i + 1)) (xs (i + 2)) (xs (i + 3)) true) (cw_W_M_bind hw ⟨Nat.le_of_ble_eq_true rfl, Nat.le_of_ble_eq_true rfl⟩) hK2 hP hP2 hS hbd hdis rfl hl.1 rfl (Nat.le_of_ble_eq_true rfl) dL_law_353 ⟨Nat.le_of_ble_eq_true rfl, Nat.le_of_ble_eq_true rfl⟩ (fun H locs row made hP hP2 hM2 hS => ?_)
          refine lv_icmp_eq (tgt := 582) hx hb dL_law_356 rfl (fun hne => ?_) (fun hne => absurd rfl hne)
          refine lv_iinc (k := 0) (v := nI (i + 5)) hx hb dL_law_582 hl rfl (nI_add i 5) (by decide) rfl (fun ls hl => ?_)
          replace hl : lv_has ls 4 [(3, .int (nI (i + 5))), (0, .ref b), (1, .ref (ad 0)), (2, .ref (bd 0))] := hl
          refine lv_goto (tgt := 28) hx hb dL_law_585 rfl ?_
          exact ih (i + 5) H locs ls mk nm pt ro row made _ (by omega) (by omega) (lv_sub hl [0, 1, 2, 3] rfl) hP hP2 hF2 hM2 hS
      ·
        refine lv_tableIn (tgt := 361) hx hb dL_law_42 (by rw [hji]; decide) (by rw [hji]; decide) (by rw [hji]; rfl) rfl ?_
        refine lv_aload_n hx hb dL_law_361 rfl (lv_at hl 2 rfl) ?_
        refine lv_aload_n hx hb dL_law_362 rfl (lv_at hl 1 rfl) ?_
        refine lv_iload_n hx hb dL_law_363 rfl (lv_at hl 0 rfl) ?_
        refine lv_iconst (v := 1) hx hb dL_law_364 (by decide) ?_
        refine lv_iadd hx hb dL_law_365 ?_
        refine fr_top (show ((nI i + 1) : Int32) = nI (i + 1) from nI_add i 1) ?_
        refine fr_sld hx hb hX hbl hbA hS (show i + 1 < L by omega) (by omega) dL_law_366 ?_
        refine lv_aload_n hx hb dL_law_367 rfl (lv_at hl 1 rfl) ?_
        refine lv_iload_n hx hb dL_law_368 rfl (lv_at hl 0 rfl) ?_
        refine lv_iconst (v := 2) hx hb dL_law_369 (by decide) ?_
        refine lv_iadd hx hb dL_law_370 ?_
        refine fr_top (show ((nI i + 2) : Int32) = nI (i + 2) from nI_add i 2) ?_
        refine fr_sld hx hb hX hbl hbA hS (show i + 2 < L by omega) (by omega) dL_law_371 ?_
        refine lv_aload_n hx hb dL_law_372 rfl (lv_at hl 1 rfl) ?_
        refine lv_iload_n hx hb dL_law_373 rfl (lv_at hl 0 rfl) ?_
        refine lv_iconst (v := 3) hx hb dL_law_374 (by decide) ?_
        refine lv_iadd hx hb dL_law_375 ?_
        refine fr_top (show ((nI i + 3) : Int32) = nI (i + 3) from nI_add i 3) ?_
        refine fr_sld hx hb hX hbl hbA hS (show i + 3 < L by omega) (by omega) dL_law_376 ?_
        refine lv_aload_n hx hb dL_law_377 rfl (lv_at hl 1 rfl) ?_
        refine lv_iload_n hx hb dL_law_378 rfl (lv_at hl 0 rfl) ?_
        refine lv_iconst (v := 4) hx hb dL_law_379 (by decide) ?_
        refine lv_iadd hx hb dL_law_380 ?_
        refine fr_top (show ((nI i + 4) : Int32) = nI (i + 4) from nI_add i 4) ?_
        refine fr_sld hx hb hX hbl hbA hS (show i + 4 < L by omega) (by omega) dL_law_381 ?_
        refine fr_lawX (sp := fr_sPut V F (xs (i + 1)) (xs (i + 2)) (xs (i + 3)) (xs (i + 4))) (As := [.int (xs (i + 1)), .int (xs (i + 2)), .int (xs (i + 3)), .int (xs (i + 4))]) hS0 (cF_put l D V ad ka mk nm pt ro F hF hV hV1 hinj (xs (i + 1)) (xs (i + 2)) (xs (i + 3)) (xs (i + 4))) (cw_W_F_put hw ⟨Nat.le_of_ble_eq_true rfl, Nat.le_of_ble_eq_true rfl⟩) hK hP hP2 hT hS had hdis rfl hl.1 rfl (Nat.le_of_ble_eq_true rfl) dL_law_382 ⟨Nat.le_of_ble_eq_true rfl, Nat.le_of_ble_eq_true rfl⟩ (fun H locs mk nm pt ro hP hP2 hF2 hS => ?_)
        refine lv_aload_n hx hb dL_law_385 rfl (lv_at hl 3 rfl) ?_
        refine lv_aload_n hx hb dL_law_386 rfl (lv_at hl 1 rfl) ?_
        refine lv_iload_n hx hb dL_law_387 rfl (lv_at hl 0 rfl) ?_
        refine lv_iconst (v := 1) hx hb dL_law_388 (by decide) ?_
        refine lv_iadd hx hb dL_law_389 ?_
        refine fr_top (show ((nI i + 1) : Int32) = nI (i + 1) from nI_add i 1) ?_
        refine fr_sld hx hb hX hbl hbA hS (show i + 1 < L by omega) (by omega) dL_law_390 ?_
        refine lv_aload_n hx hb dL_law_391 rfl (lv_at hl 1 rfl) ?_
        refine lv_iload_n hx hb dL_law_392 rfl (lv_at hl 0 rfl) ?_
        refine lv_iconst (v := 2) hx hb dL_law_393 (by decide) ?_
        refine lv_iadd hx hb dL_law_394 ?_
        refine fr_top (show ((nI i + 2) : Int32) = nI (i + 2) from nI_add i 2) ?_
        refine fr_sld hx hb hX hbl hbA hS (show i + 2 < L by omega) (by omega) dL_law_395 ?_
        refine lv_aload_n hx hb dL_law_396 rfl (lv_at hl 1 rfl) ?_
        refine lv_iload_n hx hb dL_law_397 rfl (lv_at hl 0 rfl) ?_
        refine lv_iconst (v := 3) hx hb dL_law_398 (by decide) ?_
        refine lv_iadd hx hb dL_law_399 ?_
        refine fr_top (show ((nI i + 3) : Int32) = nI (i + 3) from nI_add i 3) ?_
        refine fr_sld hx hb hX hbl hbA hS (show i + 3 < L by omega) (by omega) dL_law_400 ?_
        refine lv_aload_n hx hb dL_law_401 rfl (lv_at hl 1 rfl) ?_
        refine lv_iload_n hx hb dL_law_402 rfl (lv_at hl 0 rfl) ?_
        refine lv_iconst (v := 4) hx hb dL_law_403 (by decide) ?_
        refine lv_iadd hx hb dL_law_404 ?_
        refine fr_top (show ((nI i + 4) : Int32) = nI (i + 4) from nI_add i 4) ?_
        refine fr_sld hx hb hX hbl hbA hS (show i + 4 < L by omega) (by omega) dL_law_405 ?_
        refine fr_lawM (sp := fr_sPut V F (xs (i + 1)) (xs (i + 2)) (xs (i + 3)) (xs (i + 4))) (As := [.int (xs (i + 1)), .int (xs (i + 2)), .int (xs (i + 3)), .int (xs (i + 4))]) hS0 (cM_put l D V bd kb row made F hM hV hV1 hinjB (xs (i + 1)) (xs (i + 2)) (xs (i + 3)) (xs (i + 4))) (cw_W_M_put hw ⟨Nat.le_of_ble_eq_true rfl, Nat.le_of_ble_eq_true rfl⟩) hK2 hP hP2 hS hbd hdis rfl hl.1 rfl (Nat.le_of_ble_eq_true rfl) dL_law_406 ⟨Nat.le_of_ble_eq_true rfl, Nat.le_of_ble_eq_true rfl⟩ (fun H locs row made hP hP2 hM2 hS => ?_)
        refine lv_icmp_eq (tgt := 582) hx hb dL_law_409 rfl (fun hne => ?_) (fun hne => absurd rfl hne)
        refine lv_iinc (k := 0) (v := nI (i + 5)) hx hb dL_law_582 hl rfl (nI_add i 5) (by decide) rfl (fun ls hl => ?_)
        replace hl : lv_has ls 4 [(3, .int (nI (i + 5))), (0, .ref b), (1, .ref (ad 0)), (2, .ref (bd 0))] := hl
        refine lv_goto (tgt := 28) hx hb dL_law_585 rfl ?_
        exact ih (i + 5) H locs ls mk nm pt ro row made _ (by omega) (by omega) (lv_sub hl [0, 1, 2, 3] rfl) hP hP2 hF2 hM2 hS
      ·
        refine lv_tableIn (tgt := 414) hx hb dL_law_42 (by rw [hji]; decide) (by rw [hji]; decide) (by rw [hji]; rfl) rfl ?_
        refine lv_aload_n hx hb dL_law_414 rfl (lv_at hl 2 rfl) ?_
        refine lv_aload_n hx hb dL_law_415 rfl (lv_at hl 1 rfl) ?_
        refine lv_iload_n hx hb dL_law_416 rfl (lv_at hl 0 rfl) ?_
        refine lv_iconst (v := 1) hx hb dL_law_417 (by decide) ?_
        refine lv_iadd hx hb dL_law_418 ?_
        refine fr_top (show ((nI i + 1) : Int32) = nI (i + 1) from nI_add i 1) ?_
        refine fr_sld hx hb hX hbl hbA hS (show i + 1 < L by omega) (by omega) dL_law_419 ?_
        refine fr_lawXr (v := fr_sMany V F (xs (i + 1))) (As := [.int (xs (i + 1))]) hS0 (cF_many l D V ad ka mk nm pt ro F hF hV hV1 hinj (xs (i + 1))) (cw_W_F_many hw ⟨Nat.le_of_ble_eq_true rfl, Nat.le_of_ble_eq_true rfl⟩) hK hP hT hS had rfl hl.1 rfl (Nat.le_of_ble_eq_true rfl) dL_law_420 ⟨Nat.le_of_ble_eq_true rfl, Nat.le_of_ble_eq_true rfl⟩ ?_
        refine lv_aload_n hx hb dL_law_423 rfl (lv_at hl 3 rfl) ?_
        refine lv_aload_n hx hb dL_law_424 rfl (lv_at hl 1 rfl) ?_
        refine lv_iload_n hx hb dL_law_425 rfl (lv_at hl 0 rfl) ?_
        refine lv_iconst (v := 1) hx hb dL_law_426 (by decide) ?_
        refine lv_iadd hx hb dL_law_427 ?_
        refine fr_top (show ((nI i + 1) : Int32) = nI (i + 1) from nI_add i 1) ?_
        refine fr_sld hx hb hX hbl hbA hS (show i + 1 < L by omega) (by omega) dL_law_428 ?_
        refine fr_lawMr (v := fr_sMany V F (xs (i + 1))) (As := [.int (xs (i + 1))]) hS0 (cM_many l D V bd kb row made F hM hV hV1 hinjB (xs (i + 1))) (cw_W_M_many hw ⟨Nat.le_of_ble_eq_true rfl, Nat.le_of_ble_eq_true rfl⟩) hK2 hP2 rfl hl.1 rfl (Nat.le_of_ble_eq_true rfl) dL_law_429 ⟨Nat.le_of_ble_eq_true rfl, Nat.le_of_ble_eq_true rfl⟩ ?_
        refine lv_icmp_eq (tgt := 582) hx hb dL_law_432 rfl (fun hne => ?_) (fun hne => absurd rfl hne)
        refine lv_iinc (k := 0) (v := nI (i + 5)) hx hb dL_law_582 hl rfl (nI_add i 5) (by decide) rfl (fun ls hl => ?_)
        replace hl : lv_has ls 4 [(3, .int (nI (i + 5))), (0, .ref b), (1, .ref (ad 0)), (2, .ref (bd 0))] := hl
        refine lv_goto (tgt := 28) hx hb dL_law_585 rfl ?_
        exact ih (i + 5) H locs ls mk nm pt ro row made F (by omega) (by omega) (lv_sub hl [0, 1, 2, 3] rfl) hP hP2 hF hM hS
      ·
        refine lv_tableIn (tgt := 437) hx hb dL_law_42 (by rw [hji]; decide) (by rw [hji]; decide) (by rw [hji]; rfl) rfl ?_
        refine lv_aload_n hx hb dL_law_437 rfl (lv_at hl 2 rfl) ?_
        refine lv_aload_n hx hb dL_law_438 rfl (lv_at hl 1 rfl) ?_
        refine lv_iload_n hx hb dL_law_439 rfl (lv_at hl 0 rfl) ?_
        refine lv_iconst (v := 1) hx hb dL_law_440 (by decide) ?_
        refine lv_iadd hx hb dL_law_441 ?_
        refine fr_top (show ((nI i + 1) : Int32) = nI (i + 1) from nI_add i 1) ?_
        refine fr_sld hx hb hX hbl hbA hS (show i + 1 < L by omega) (by omega) dL_law_442 ?_
        refine lv_aload_n hx hb dL_law_443 rfl (lv_at hl 1 rfl) ?_
        refine lv_iload_n hx hb dL_law_444 rfl (lv_at hl 0 rfl) ?_
        refine lv_iconst (v := 2) hx hb dL_law_445 (by decide) ?_
        refine lv_iadd hx hb dL_law_446 ?_
        refine fr_top (show ((nI i + 2) : Int32) = nI (i + 2) from nI_add i 2) ?_
        refine fr_sld hx hb hX hbl hbA hS (show i + 2 < L by omega) (by omega) dL_law_447 ?_
        refine fr_lawXr (v := fr_sNth V F (xs (i + 1)) (xs (i + 2))) (As := [.int (xs (i + 1)), .int (xs (i + 2))]) hS0 (cF_nth l D V ad ka mk nm pt ro F hF hV hV1 hinj (xs (i + 1)) (xs (i + 2))) (cw_W_F_nth hw ⟨Nat.le_of_ble_eq_true rfl, Nat.le_of_ble_eq_true rfl⟩) hK hP hT hS had rfl hl.1 rfl (Nat.le_of_ble_eq_true rfl) dL_law_448 ⟨Nat.le_of_ble_eq_true rfl, Nat.le_of_ble_eq_true rfl⟩ ?_
        refine lv_aload_n hx hb dL_law_451 rfl (lv_at hl 3 rfl) ?_
        refine lv_aload_n hx hb dL_law_452 rfl (lv_at hl 1 rfl) ?_
        refine lv_iload_n hx hb dL_law_453 rfl (lv_at hl 0 rfl) ?_
        refine lv_iconst (v := 1) hx hb dL_law_454 (by decide) ?_
        refine lv_iadd hx hb dL_law_455 ?_
        refine fr_top (show ((nI i + 1) : Int32) = nI (i + 1) from nI_add i 1) ?_
        refine fr_sld hx hb hX hbl hbA hS (show i + 1 < L by omega) (by omega) dL_law_456 ?_
        refine lv_aload_n hx hb dL_law_457 rfl (lv_at hl 1 rfl) ?_
        refine lv_iload_n hx hb dL_law_458 rfl (lv_at hl 0 rfl) ?_
        refine lv_iconst (v := 2) hx hb dL_law_459 (by decide) ?_
        refine lv_iadd hx hb dL_law_460 ?_
        refine fr_top (show ((nI i + 2) : Int32) = nI (i + 2) from nI_add i 2) ?_
        refine fr_sld hx hb hX hbl hbA hS (show i + 2 < L by omega) (by omega) dL_law_461 ?_
        refine fr_lawMr (v := fr_sNth V F (xs (i + 1)) (xs (i + 2))) (As := [.int (xs (i + 1)), .int (xs (i + 2))]) hS0 (cM_nth l D V bd kb row made F hM hV hV1 hinjB (xs (i + 1)) (xs (i + 2))) (cw_W_M_nth hw ⟨Nat.le_of_ble_eq_true rfl, Nat.le_of_ble_eq_true rfl⟩) hK2 hP2 rfl hl.1 rfl (Nat.le_of_ble_eq_true rfl) dL_law_462 ⟨Nat.le_of_ble_eq_true rfl, Nat.le_of_ble_eq_true rfl⟩ ?_
        refine lv_icmp_eq (tgt := 582) hx hb dL_law_465 rfl (fun hne => ?_) (fun hne => absurd rfl hne)
        refine lv_iinc (k := 0) (v := nI (i + 5)) hx hb dL_law_582 hl rfl (nI_add i 5) (by decide) rfl (fun ls hl => ?_)
        replace hl : lv_has ls 4 [(3, .int (nI (i + 5))), (0, .ref b), (1, .ref (ad 0)), (2, .ref (bd 0))] := hl
        refine lv_goto (tgt := 28) hx hb dL_law_585 rfl ?_
        exact ih (i + 5) H locs ls mk nm pt ro row made F (by omega) (by omega) (lv_sub hl [0, 1, 2, 3] rfl) hP hP2 hF hM hS
      ·
        refine lv_tableIn (tgt := 470) hx hb dL_law_42 (by rw [hji]; decide) (by rw [hji]; decide) (by rw [hji]; rfl) rfl ?_
        refine lv_aload_n hx hb dL_law_470 rfl (lv_at hl 2 rfl) ?_
        refine lv_aload_n hx hb dL_law_471 rfl (lv_at hl 1 rfl) ?_
        refine lv_iload_n hx hb dL_law_472 rfl (lv_at hl 0 rfl) ?_
        refine lv_iconst (v := 1) hx hb dL_law_473 (by decide) ?_
        refine lv_iadd hx hb dL_law_474 ?_
        refine fr_top (show ((nI i + 1) : Int32) = nI (i + 1) from nI_add i 1) ?_
        refine fr_sld hx hb hX hbl hbA hS (show i + 1 < L by omega) (by omega) dL_law_475 ?_
        refine lv_aload_n hx hb dL_law_476 rfl (lv_at hl 1 rfl) ?_
        refine lv_iload_n hx hb dL_law_477 rfl (lv_at hl 0 rfl) ?_
        refine lv_iconst (v := 2) hx hb dL_law_478 (by decide) ?_
        refine lv_iadd hx hb dL_law_479 ?_
        refine fr_top (show ((nI i + 2) : Int32) = nI (i + 2) from nI_add i 2) ?_
        refine fr_sld hx hb hX hbl hbA hS (show i + 2 < L by omega) (by omega) dL_law_480 ?_
        refine fr_lawXr (v := fr_sValue V F (xs (i + 1)) (xs (i + 2))) (As := [.int (xs (i + 1)), .int (xs (i + 2))]) hS0 (cF_value l D V ad ka mk nm pt ro F hF hV hV1 hinj (xs (i + 1)) (xs (i + 2))) (cw_W_F_value hw ⟨Nat.le_of_ble_eq_true rfl, Nat.le_of_ble_eq_true rfl⟩) hK hP hT hS had rfl hl.1 rfl (Nat.le_of_ble_eq_true rfl) dL_law_481 ⟨Nat.le_of_ble_eq_true rfl, Nat.le_of_ble_eq_true rfl⟩ ?_
        refine lv_aload_n hx hb dL_law_484 rfl (lv_at hl 3 rfl) ?_
        refine lv_aload_n hx hb dL_law_485 rfl (lv_at hl 1 rfl) ?_
        refine lv_iload_n hx hb dL_law_486 rfl (lv_at hl 0 rfl) ?_
        refine lv_iconst (v := 1) hx hb dL_law_487 (by decide) ?_
        refine lv_iadd hx hb dL_law_488 ?_
        refine fr_top (show ((nI i + 1) : Int32) = nI (i + 1) from nI_add i 1) ?_
        refine fr_sld hx hb hX hbl hbA hS (show i + 1 < L by omega) (by omega) dL_law_489 ?_
        refine lv_aload_n hx hb dL_law_490 rfl (lv_at hl 1 rfl) ?_
        refine lv_iload_n hx hb dL_law_491 rfl (lv_at hl 0 rfl) ?_
        refine lv_iconst (v := 2) hx hb dL_law_492 (by decide) ?_
        refine lv_iadd hx hb dL_law_493 ?_
        refine fr_top (show ((nI i + 2) : Int32) = nI (i + 2) from nI_add i 2) ?_
        refine fr_sld hx hb hX hbl hbA hS (show i + 2 < L by omega) (by omega) dL_law_494 ?_
        refine fr_lawMr (v := fr_sValue V F (xs (i + 1)) (xs (i + 2))) (As := [.int (xs (i + 1)), .int (xs (i + 2))]) hS0 (cM_value l D V bd kb row made F hM hV hV1 hinjB (xs (i + 1)) (xs (i + 2))) (cw_W_M_value hw ⟨Nat.le_of_ble_eq_true rfl, Nat.le_of_ble_eq_true rfl⟩) hK2 hP2 rfl hl.1 rfl (Nat.le_of_ble_eq_true rfl) dL_law_495 ⟨Nat.le_of_ble_eq_true rfl, Nat.le_of_ble_eq_true rfl⟩ ?_
        refine lv_icmp_eq (tgt := 582) hx hb dL_law_498 rfl (fun hne => ?_) (fun hne => absurd rfl hne)
        refine lv_iinc (k := 0) (v := nI (i + 5)) hx hb dL_law_582 hl rfl (nI_add i 5) (by decide) rfl (fun ls hl => ?_)
        replace hl : lv_has ls 4 [(3, .int (nI (i + 5))), (0, .ref b), (1, .ref (ad 0)), (2, .ref (bd 0))] := hl
        refine lv_goto (tgt := 28) hx hb dL_law_585 rfl ?_
        exact ih (i + 5) H locs ls mk nm pt ro row made F (by omega) (by omega) (lv_sub hl [0, 1, 2, 3] rfl) hP hP2 hF hM hS
      ·
        refine lv_tableIn (tgt := 503) hx hb dL_law_42 (by rw [hji]; decide) (by rw [hji]; decide) (by rw [hji]; rfl) rfl ?_
        refine lv_aload_n hx hb dL_law_503 rfl (lv_at hl 2 rfl) ?_
        refine lv_aload_n hx hb dL_law_504 rfl (lv_at hl 1 rfl) ?_
        refine lv_iload_n hx hb dL_law_505 rfl (lv_at hl 0 rfl) ?_
        refine lv_iconst (v := 1) hx hb dL_law_506 (by decide) ?_
        refine lv_iadd hx hb dL_law_507 ?_
        refine fr_top (show ((nI i + 1) : Int32) = nI (i + 1) from nI_add i 1) ?_
        refine fr_sld hx hb hX hbl hbA hS (show i + 1 < L by omega) (by omega) dL_law_508 ?_
        refine lv_aload_n hx hb dL_law_509 rfl (lv_at hl 1 rfl) ?_
        refine lv_iload_n hx hb dL_law_510 rfl (lv_at hl 0 rfl) ?_
        refine lv_iconst (v := 2) hx hb dL_law_511 (by decide) ?_
        refine lv_iadd hx hb dL_law_512 ?_
        refine fr_top (show ((nI i + 2) : Int32) = nI (i + 2) from nI_add i 2) ?_
        refine fr_sld hx hb hX hbl hbA hS (show i + 2 < L by omega) (by omega) dL_law_513 ?_
        refine fr_lawXr (v := fr_sSame V F (xs (i + 1)) (xs (i + 2))) (As := [.int (xs (i + 1)), .int (xs (i + 2))]) hS0 (cF_same l D V ad ka mk nm pt ro F hF hV hV1 hinj (xs (i + 1)) (xs (i + 2))) (cw_W_F_same hw ⟨Nat.le_of_ble_eq_true rfl, Nat.le_of_ble_eq_true rfl⟩) hK hP hT hS had rfl hl.1 rfl (Nat.le_of_ble_eq_true rfl) dL_law_514 ⟨Nat.le_of_ble_eq_true rfl, Nat.le_of_ble_eq_true rfl⟩ ?_
        refine lv_aload_n hx hb dL_law_517 rfl (lv_at hl 3 rfl) ?_
        refine lv_aload_n hx hb dL_law_518 rfl (lv_at hl 1 rfl) ?_
        refine lv_iload_n hx hb dL_law_519 rfl (lv_at hl 0 rfl) ?_
        refine lv_iconst (v := 1) hx hb dL_law_520 (by decide) ?_
        refine lv_iadd hx hb dL_law_521 ?_
        refine fr_top (show ((nI i + 1) : Int32) = nI (i + 1) from nI_add i 1) ?_
        refine fr_sld hx hb hX hbl hbA hS (show i + 1 < L by omega) (by omega) dL_law_522 ?_
        refine lv_aload_n hx hb dL_law_523 rfl (lv_at hl 1 rfl) ?_
        refine lv_iload_n hx hb dL_law_524 rfl (lv_at hl 0 rfl) ?_
        refine lv_iconst (v := 2) hx hb dL_law_525 (by decide) ?_
        refine lv_iadd hx hb dL_law_526 ?_
        refine fr_top (show ((nI i + 2) : Int32) = nI (i + 2) from nI_add i 2) ?_
        refine fr_sld hx hb hX hbl hbA hS (show i + 2 < L by omega) (by omega) dL_law_527 ?_
        refine fr_lawMr (v := fr_sSame V F (xs (i + 1)) (xs (i + 2))) (As := [.int (xs (i + 1)), .int (xs (i + 2))]) hS0 (cM_same l D V bd kb row made F hM hV hV1 hinjB (xs (i + 1)) (xs (i + 2))) (cw_W_M_same hw ⟨Nat.le_of_ble_eq_true rfl, Nat.le_of_ble_eq_true rfl⟩) hK2 hP2 rfl hl.1 rfl (Nat.le_of_ble_eq_true rfl) dL_law_528 ⟨Nat.le_of_ble_eq_true rfl, Nat.le_of_ble_eq_true rfl⟩ ?_
        refine lv_icmp_eq (tgt := 582) hx hb dL_law_531 rfl (fun hne => ?_) (fun hne => absurd rfl hne)
        refine lv_iinc (k := 0) (v := nI (i + 5)) hx hb dL_law_582 hl rfl (nI_add i 5) (by decide) rfl (fun ls hl => ?_)
        replace hl : lv_has ls 4 [(3, .int (nI (i + 5))), (0, .ref b), (1, .ref (ad 0)), (2, .ref (bd 0))] := hl
        refine lv_goto (tgt := 28) hx hb dL_law_585 rfl ?_
        exact ih (i + 5) H locs ls mk nm pt ro row made F (by omega) (by omega) (lv_sub hl [0, 1, 2, 3] rfl) hP hP2 hF hM hS
      ·
        refine lv_tableIn (tgt := 536) hx hb dL_law_42 (by rw [hji]; decide) (by rw [hji]; decide) (by rw [hji]; rfl) rfl ?_
        refine lv_aload_n hx hb dL_law_536 rfl (lv_at hl 2 rfl) ?_
        refine lv_aload_n hx hb dL_law_537 rfl (lv_at hl 1 rfl) ?_
        refine lv_iload_n hx hb dL_law_538 rfl (lv_at hl 0 rfl) ?_
        refine lv_iconst (v := 1) hx hb dL_law_539 (by decide) ?_
        refine lv_iadd hx hb dL_law_540 ?_
        refine fr_top (show ((nI i + 1) : Int32) = nI (i + 1) from nI_add i 1) ?_
        refine fr_sld hx hb hX hbl hbA hS (show i + 1 < L by omega) (by omega) dL_law_541 ?_
        refine fr_lawZ (v := fr_sSize V F (xs (i + 1))) (F := F) (As := [.int (xs (i + 1))]) hS0 (cF_size l D V ad ka mk nm pt ro F hF hV hV1 hinj (xs (i + 1))) (cw_W_F_size hw ⟨Nat.le_of_ble_eq_true rfl, Nat.le_of_ble_eq_true rfl⟩) hK hP hP2 hT hS had hdis rfl hl.1 rfl (Nat.le_of_ble_eq_true rfl) dL_law_542 ⟨Nat.le_of_ble_eq_true rfl, Nat.le_of_ble_eq_true rfl⟩ (fun H locs mk nm pt ro hP hP2 hF2 hS => ?_)
        refine lv_aload_n hx hb dL_law_545 rfl (lv_at hl 3 rfl) ?_
        refine lv_aload_n hx hb dL_law_546 rfl (lv_at hl 1 rfl) ?_
        refine lv_iload_n hx hb dL_law_547 rfl (lv_at hl 0 rfl) ?_
        refine lv_iconst (v := 1) hx hb dL_law_548 (by decide) ?_
        refine lv_iadd hx hb dL_law_549 ?_
        refine fr_top (show ((nI i + 1) : Int32) = nI (i + 1) from nI_add i 1) ?_
        refine fr_sld hx hb hX hbl hbA hS (show i + 1 < L by omega) (by omega) dL_law_550 ?_
        refine fr_lawMr (v := fr_sSize V F (xs (i + 1))) (As := [.int (xs (i + 1))]) hS0 (cM_size l D V bd kb row made F hM hV hV1 hinjB (xs (i + 1))) (cw_W_M_size hw ⟨Nat.le_of_ble_eq_true rfl, Nat.le_of_ble_eq_true rfl⟩) hK2 hP2 rfl hl.1 rfl (Nat.le_of_ble_eq_true rfl) dL_law_551 ⟨Nat.le_of_ble_eq_true rfl, Nat.le_of_ble_eq_true rfl⟩ ?_
        refine lv_icmp_eq (tgt := 582) hx hb dL_law_554 rfl (fun hne => ?_) (fun hne => absurd rfl hne)
        refine lv_iinc (k := 0) (v := nI (i + 5)) hx hb dL_law_582 hl rfl (nI_add i 5) (by decide) rfl (fun ls hl => ?_)
        replace hl : lv_has ls 4 [(3, .int (nI (i + 5))), (0, .ref b), (1, .ref (ad 0)), (2, .ref (bd 0))] := hl
        refine lv_goto (tgt := 28) hx hb dL_law_585 rfl ?_
        exact ih (i + 5) H locs ls mk nm pt ro row made F (by omega) (by omega) (lv_sub hl [0, 1, 2, 3] rfl) hP hP2 hF2 hM hS
      ·
        refine lv_tableIn (tgt := 559) hx hb dL_law_42 (by rw [hji]; decide) (by rw [hji]; decide) (by rw [hji]; rfl) rfl ?_
        refine lv_aload_n hx hb dL_law_559 rfl (lv_at hl 2 rfl) ?_
        refine lv_aload_n hx hb dL_law_560 rfl (lv_at hl 1 rfl) ?_
        refine lv_iload_n hx hb dL_law_561 rfl (lv_at hl 0 rfl) ?_
        refine lv_iconst (v := 1) hx hb dL_law_562 (by decide) ?_
        refine lv_iadd hx hb dL_law_563 ?_
        refine fr_top (show ((nI i + 1) : Int32) = nI (i + 1) from nI_add i 1) ?_
        refine fr_sld hx hb hX hbl hbA hS (show i + 1 < L by omega) (by omega) dL_law_564 ?_
        refine fr_lawXr (v := fr_sMatters V F (xs (i + 1))) (As := [.int (xs (i + 1))]) hS0 (cF_matters l D V ad ka mk nm pt ro F hF hV hV1 hinj (xs (i + 1))) (cw_W_F_matters hw ⟨Nat.le_of_ble_eq_true rfl, Nat.le_of_ble_eq_true rfl⟩) hK hP hT hS had rfl hl.1 rfl (Nat.le_of_ble_eq_true rfl) dL_law_565 ⟨Nat.le_of_ble_eq_true rfl, Nat.le_of_ble_eq_true rfl⟩ ?_
        refine lv_aload_n hx hb dL_law_568 rfl (lv_at hl 3 rfl) ?_
        refine lv_aload_n hx hb dL_law_569 rfl (lv_at hl 1 rfl) ?_
        refine lv_iload_n hx hb dL_law_570 rfl (lv_at hl 0 rfl) ?_
        refine lv_iconst (v := 1) hx hb dL_law_571 (by decide) ?_
        refine lv_iadd hx hb dL_law_572 ?_
        refine fr_top (show ((nI i + 1) : Int32) = nI (i + 1) from nI_add i 1) ?_
        refine fr_sld hx hb hX hbl hbA hS (show i + 1 < L by omega) (by omega) dL_law_573 ?_
        refine fr_lawMr (v := fr_sMatters V F (xs (i + 1))) (As := [.int (xs (i + 1))]) hS0 (cM_matters l D V bd kb row made F hM hV hV1 hinjB (xs (i + 1))) (cw_W_M_matters hw ⟨Nat.le_of_ble_eq_true rfl, Nat.le_of_ble_eq_true rfl⟩) hK2 hP2 rfl hl.1 rfl (Nat.le_of_ble_eq_true rfl) dL_law_574 ⟨Nat.le_of_ble_eq_true rfl, Nat.le_of_ble_eq_true rfl⟩ ?_
        refine lv_icmp_eq (tgt := 582) hx hb dL_law_577 rfl (fun hne => ?_) (fun hne => absurd rfl hne)
        refine lv_iinc (k := 0) (v := nI (i + 5)) hx hb dL_law_582 hl rfl (nI_add i 5) (by decide) rfl (fun ls hl => ?_)
        replace hl : lv_has ls 4 [(3, .int (nI (i + 5))), (0, .ref b), (1, .ref (ad 0)), (2, .ref (bd 0))] := hl
        refine lv_goto (tgt := 28) hx hb dL_law_585 rfl ?_
        exact ih (i + 5) H locs ls mk nm pt ro row made F (by omega) (by omega) (lv_sub hl [0, 1, 2, 3] rfl) hP hP2 hF hM hS
      ·
        refine lv_tableOut (tgt := 582) hx hb dL_law_42 (by rw [hji]; omega) rfl ?_
        refine lv_iinc (k := 0) (v := nI (i + 5)) hx hb dL_law_582 hl rfl (nI_add i 5) (by decide) rfl (fun ls hl => ?_)
        replace hl : lv_has ls 4 [(3, .int (nI (i + 5))), (0, .ref b), (1, .ref (ad 0)), (2, .ref (bd 0))] := hl
        refine lv_goto (tgt := 28) hx hb dL_law_585 rfl ?_
        exact ih (i + 5) H locs ls mk nm pt ro row made F (by omega) (by omega) (lv_sub hl [0, 1, 2, 3] rfl) hP hP2 hF hM hS
end
section
/-! the law's entry: both objects are made, then the loop -/
theorem fr_TS_of {s : State} {args : Array Value} (hw : ∀ w ∈ lw_tbl, w.before args s = true) (hg : (Jvm.Cond.and given_1 narrow_1).before args s = true) : fr_TS s := by
  have hs := flat_of_before _ hg
  have hA : ∀ a : Nat, a < s.heap.size → ¬ s.heap.size ≤ a := fun a h => by omega
  have hlen := va_eqt (hs (Cond.eq (.length (.static "FunctionRoom" "PLACES_WITH_BIT" "[J")) (.int 6)) (by decide +kernel))
  have h0 := va_eqtl (hs (Cond.eq (.elem (.static "FunctionRoom" "PLACES_WITH_BIT" "[J") (.int 0)) (.long (-6148914691236517206))) (by decide +kernel))
  have h1 := va_eqtl (hs (Cond.eq (.elem (.static "FunctionRoom" "PLACES_WITH_BIT" "[J") (.int 1)) (.long (-3689348814741910324))) (by decide +kernel))
  have h2 := va_eqtl (hs (Cond.eq (.elem (.static "FunctionRoom" "PLACES_WITH_BIT" "[J") (.int 2)) (.long (-1085102592571150096))) (by decide +kernel))
  have h3 := va_eqtl (hs (Cond.eq (.elem (.static "FunctionRoom" "PLACES_WITH_BIT" "[J") (.int 3)) (.long (-71777214294589696))) (by decide +kernel))
  have h4 := va_eqtl (hs (Cond.eq (.elem (.static "FunctionRoom" "PLACES_WITH_BIT" "[J") (.int 4)) (.long (-281470681808896))) (by decide +kernel))
  have h5 := va_eqtl (hs (Cond.eq (.elem (.static "FunctionRoom" "PLACES_WITH_BIT" "[J") (.int 5)) (.long (-4294967296))) (by decide +kernel))
  obtain ⟨t, ht, hT⟩ := va_Tof (tm := .static "FunctionRoom" "PLACES_WITH_BIT" "[J") (ty := .long) (N := 6) (f := fun j => .long (fr_pb j)) (A := fun q => s.heap.size ≤ q) (by decide) (hs (Cond.arrayOf (.static "FunctionRoom" "PLACES_WITH_BIT" "[J") .long) (by decide +kernel)) hlen (fun j hj => by
    rcases (show j = 0 ∨ j = 1 ∨ j = 2 ∨ j = 3 ∨ j = 4 ∨ j = 5 by omega) with rfl | rfl | rfl | rfl | rfl | rfl
    · exact h0
    · exact h1
    · exact h2
    · exact h3
    · exact h4
    · exact h5) hA
  exact ⟨t, va_Zref (hw (Cond.laysStatic "FunctionRoom" "PLACES_WITH_BIT" "[J") (List.mem_append_right _ (List.mem_of_getElem? (i := 70) rfl))) (hw (Cond.initialized "FunctionRoom") (WA_tbl _ mI_F)) ht hA, hT⟩
theorem fr_preX {s : State} {H : Heap} {b L : Nat} {xs : Nat → Int32} {As : List Value} (hX : va_X b L xs s s.heap) (hq : H[b]? = s.heap[b]?) : PreS s H (va_Pc As (fun U => va_X b L xs U U.heap)) As :=
  ⟨fun a U g mk q => ⟨q.1, va_X.moved (u := U) (U := U.calling g mk a) (Vm.Alike.refl U.vm) q.2⟩, fun U hU hW => ⟨rfl, by show va_X b L xs U U.heap; rw [hU]; exact va_X.moved hW.alike (hX.kept hq)⟩⟩
theorem fr_xlt {D : va_G} {V : Nat} {ad : Nat → Nat} {ka : Nat → ClassId} {mk : Nat → Int64} {nm pt : Nat → Int32} {ro : Nat → Nat → Int64} {H : Heap} (hP : va_P D vwCl (fr_xw V ad ka mk nm pt ro) H) : ∀ i, i < 37 → ad i < H.size
  | 0, _ => (hP 0 _ rfl).lt
  | 1, _ => (hP 1 _ rfl).lt
  | 2, _ => (hP 2 _ rfl).lt
  | 3, _ => (hP 3 _ rfl).lt
  | 4, _ => (hP 4 _ rfl).lt
  | k + 5, h => (hP (k + 5) _ (fr_row (show k < 32 by omega))).lt
theorem fr_xlen {V : Nat} {ad : Nat → Nat} {ka : Nat → ClassId} {mk : Nat → Int64} {nm pt : Nat → Int32} {ro : Nat → Nat → Int64} : (fr_xw V ad ka mk nm pt ro).length = 37 := by
  simp [fr_xw]
theorem fr_xget {V : Nat} {ad : Nat → Nat} {ka : Nat → ClassId} {mk : Nat → Int64} {nm pt : Nat → Int32} {ro : Nat → Nat → Int64} : ∀ i, i < 37 → ∃ x, (fr_xw V ad ka mk nm pt ro)[i]? = some (ad i, x)
  | 0, _ => ⟨_, rfl⟩
  | 1, _ => ⟨_, rfl⟩
  | 2, _ => ⟨_, rfl⟩
  | 3, _ => ⟨_, rfl⟩
  | 4, _ => ⟨_, rfl⟩
  | k + 5, h => ⟨_, fr_row (show k < 32 by omega)⟩
/-- behind the second 'new': the class's world, the new object, apart -/
theorem fr_split {D : va_G} {A : Nat → Prop} {V : Nat} {ad : Nat → Nat} {ka : Nat → ClassId} {mk : Nat → Int64} {nm pt : Nat → Int32} {ro : Nat → Nat → Int64} {H : Heap} {q : Nat} {x : va_E} (hP : va_P D vwCl (fr_xw V ad ka mk nm pt ro ++ [(q, x)]) H) (hD : va_D A (fr_xw V ad ka mk nm pt ro ++ [(q, x)])) : va_P D vwCl (fr_xw V ad ka mk nm pt ro) H ∧ va_P D vwCl [(q, x)] H ∧ (∀ i, i < 37 → ad i ≠ q) ∧ A q := by
  have hl : (fr_xw V ad ka mk nm pt ro ++ [(q, x)])[37]? = some (q, x) := by
    rw [List.getElem?_append_right (by rw [fr_xlen]; exact Nat.le_refl _), fr_xlen]
    rfl
  have hp : ∀ (k : Nat) (y : Nat × va_E), (fr_xw V ad ka mk nm pt ro)[k]? = some y → (fr_xw V ad ka mk nm pt ro ++ [(q, x)])[k]? = some y := fun k y h => by
    rw [List.getElem?_append_left (List.getElem?_eq_some_iff.mp h).1]
    exact h
  refine ⟨fun k y h => hP k y (hp k y h), fun k y h => ?_, fun i hi e => ?_, hD.2 37 _ hl⟩
  · have hk : k < 1 := (List.getElem?_eq_some_iff.mp h).1
    rw [show k = 0 by omega] at h
    obtain rfl : (q, x) = y := Option.some.inj h
    exact hP 37 _ hl
  · obtain ⟨y, hy⟩ := fr_xget (V := V) (ad := ad) (ka := ka) (mk := mk) (nm := nm) (pt := pt) (ro := ro) i hi
    have := hD.1 i 37 _ _ (hp i _ hy) hl e
    omega
set_option maxHeartbeats 4000000 in
set_option maxRecDepth 100000 in
theorem cW_cell (l : Launch) (b L : Nat) (xs : Nat → Int32) (hL : L < 2 ^ 31) : Met l yL_cell wsW_cell rmW_cell (va_Pc [.ref b, .int 0] (fun U => va_X b L xs U U.heap)) (vp_Si (fun r => r = if 0 < L then xs 0 else 0)) 0 0 (fun _ => False) := by
  refine Met.ofW (cc := cL_cell) (maxL := 2) (ret := some .int) (by decide) rfl ?_
  intro p e s m args below meth c s₁ B hml hv
  obtain ⟨rfl, hv⟩ := hv
  have hx := B.exec
  have hb := B.bytes
  have hret := B.returns
  have hw := fun w (h : w ∈ WA) => atoms_spec (ws := wsW_cell) B.pre w (List.mem_cons_of_mem _ h)
  have hown : s.vm.findClass "FunctionRoomLaw" = some m.cls := findClass_of_methodNamed B.named
  have hlocks := B.notSynchronized
  have hS0 : CallFix p m c cL_cell 2 s _ WA "FunctionRoomLaw" := ⟨hx, hb, hml, hown, hw⟩
  have hl := lv_entry ([.ref b, .int 0]) (n := 2) (Nat.le_of_ble_eq_true rfl)
  rw [lg_entry_eq]
  generalize (lg_sl ([.ref b, .int 0]) ++ List.replicate (2 - (lg_sl ([.ref b, .int 0])).length) Slot.unset).toArray = ls at hl ⊢
  replace hl : lv_has ls 2 [(0, .ref b), (1, .int 0)] := hl
  have hS : va_S (fun _ => False) s.heap s.heap [] := va_S.rf
  have hbl : b < s.heap.size := by obtain ⟨scr, h1, -⟩ := hv; exact (Array.getElem?_eq_some_iff.mp h1).1
  refine lv_iload_n hx hb dL_cell_0 rfl (lv_at hl 1 rfl) ?_
  refine lv_aload_n hx hb dL_cell_1 rfl (lv_at hl 0 rfl) ?_
  refine va_slen hx hb hv hbl (fun z => z) hS dL_cell_2 ?_
  refine lv_icmp_ge (tgt := 12) hx hb dL_cell_3 rfl (fun h1 => ?_) (fun h1 => ?_)
  ·
    refine lv_iconst (v := 0) hx hb dL_cell_12 (by decide) ?_
    exact W.iret (v := 0) hx hb hret (fun t ht hW => ⟨_, rfl, by rw [if_neg (fun z => absurd h1 (nI_ge (a := 0) z (by omega)))], ht⟩) (fun q hq => by cases hq) dL_cell_13
  ·
    refine lv_aload_n hx hb dL_cell_6 rfl (lv_at hl 0 rfl) ?_
    refine lv_iload_n hx hb dL_cell_7 rfl (lv_at hl 1 rfl) ?_
    have h0 : 0 < L := Nat.lt_of_not_le fun z => h1 (nI_le (b := 0) z (by decide))
    refine fr_sld (i := 0) hx hb hv hbl (fun z => z) hS h0 (by omega) dL_cell_8 ?_
    refine lv_goto (tgt := 13) hx hb dL_cell_9 rfl ?_
    exact W.iret (v := xs 0) hx hb hret (fun t ht hW => ⟨_, rfl, by rw [if_pos h0], ht⟩) (fun q hq => by cases hq) dL_cell_13
set_option maxHeartbeats 4000000 in
set_option maxRecDepth 100000 in
theorem whole_start {p : Program} {e : Env} {s : State} {m : MethodId} {below : List Frame} {meth : Method} {c : Code} (l : Launch) {b L : Nat} {xs : Nat → Int32} (hL : L ≤ 2561) (C0 : lw_At p s m meth c b L xs) : W p l e room_1 s m #[Value.ref b] below meth c s.heap [] 0 0 (lw_Z below #[Value.ref b] s) (entryFrame m ([Value.ref b] : List Value).toArray 4) := by
  obtain ⟨hx, hb, hret, hml, hown, hts, hX, hbl, hlocks, hgv⟩ := C0
  have hw : ∀ w ∈ WA, w.before #[Value.ref b] s = true := fun w h => hts w (WA_tbl w h)
  have hT : fr_TS s := fr_TS_of hts hgv
  have hS0 : CallFix p m c code 4 s #[Value.ref b] WA "FunctionRoomLaw" := ⟨hx, hb, hml, hown, hw⟩
  have hin0 : (Cond.instantiable "FunctionRoom" 8).before #[Value.ref b] s = true := hts _ (List.mem_append_right _ (List.mem_of_getElem? (i := 7) rfl))
  have hin1 : (Cond.instantiable "FunctionRoomModel" 4).before #[Value.ref b] s = true := hts _ (List.mem_append_right _ (List.mem_of_getElem? (i := 162) rfl))
  have hov : fm_ov .long s := fm_over (args := #[Value.ref b]) (hts (Cond.arrayOver (.array .long)) (List.mem_append_right _ (List.mem_of_getElem? (i := 22) rfl)))
  obtain ⟨d0, i0, hk0⟩ := u_known hw hinF hin0
  obtain ⟨d1, i1, hk1⟩ := u_known hw hinM hin1
  obtain ⟨D, hDe⟩ : ∃ D : va_G, D = (fun k => if k = 0 then d0 else d1, fun k => if k = 0 then i0 else i1) := ⟨_, rfl⟩
  have hK : va_K D vwCl [] s := by
    refine ⟨fun k q hq => ?_, fun k q hq => by simp at hq⟩
    rw [hDe]
    match k, hq with
    | 0, hq => cases hq; exact hk0
    | 1, hq => cases hq; exact hk1
    | k + 2, hq => exact absurd hq (by simp)
  have hbA : ¬ s.heap.size ≤ b := by omega
  have hA : ∀ q : Nat, s.heap.size ≤ q → s.heap.size ≤ q := fun _ h => h
  have hP : va_P D vwCl [] s.heap := fun k q hq => by simp at hq
  have hD : va_D (fun q => s.heap.size ≤ q) [] := ⟨fun i j p q hp => by simp at hp, fun k q hq => by simp at hq⟩
  have hS : va_S (fun q => s.heap.size ≤ q) s.heap s.heap [] := va_S.rf
  have hl := lv_entry ([.ref b]) (n := 4) (Nat.le_of_ble_eq_true rfl)
  rw [lg_entry_eq]
  generalize (lg_sl ([.ref b]) ++ List.replicate (4 - (lg_sl ([.ref b])).length) Slot.unset).toArray = ls at hl ⊢
  replace hl : lv_has ls 4 [(0, .ref b)] := hl
  refine va_new (ci := CIF) (fs := [.int 0, .int 0, .int 0, .long 0, .null, .null, .null, .null]) (C := "FunctionRoom") (T := TF) (N := 8) hx hb hw hinF tyX0 tyX0_ok hown (hw _ (mW 6 rfl rfl)) hin0 (hw _ mI_F) hK hP hD hS hA rfl (fun j hj => by rcases (show j = 0 ∨ j = 1 ∨ j = 2 ∨ j = 3 ∨ j = 4 ∨ j = 5 ∨ j = 6 ∨ j = 7 by omega) with rfl | rfl | rfl | rfl | rfl | rfl | rfl | rfl <;> rfl) (Nat.le_of_ble_eq_true rfl) (Nat.le_of_ble_eq_true rfl) dL_law_0 (fun q0 H hP hD hS => ?_)
  replace hP : va_P D vwCl [(q0, .inr (CIF, [.int 0, .int 0, .int 0, .long 0, .null, .null, .null, .null]))] H := hP
  replace hD : va_D (fun q => s.heap.size ≤ q) [(q0, .inr (CIF, [.int 0, .int 0, .int 0, .long 0, .null, .null, .null, .null]))] := hD
  refine lv_dup hx hb dL_law_3 rfl ?_
  refine lv_aload_n hx hb dL_law_4 rfl (lv_at hl 0 rfl) ?_
  refine lv_iconst (v := 0) hx hb dL_law_5 (by decide) ?_
  refine fr_cSi (As := [.ref b, .int 0]) hS0 (cW_cell l b L xs (by omega)) (cw_W_cell hw ⟨Nat.le_of_ble_eq_true rfl, Nat.le_of_ble_eq_true rfl⟩) (fr_preX hX (hS.2.1 b hbl hbA)) rfl hl.1 rfl (Nat.le_of_ble_eq_true rfl) dL_law_6 ⟨Nat.le_of_ble_eq_true rfl, Nat.le_of_ble_eq_true rfl⟩ (fun v hv => ?_)
  rw [hv]
  clear hv v
  obtain ⟨v, hv⟩ : ∃ v, v = (if 0 < L then xs 0 else 0) := ⟨_, rfl⟩
  rw [← hv]
  have hFc := va_free (wc := [(q0, .inr (CIF, [.int 0, .int 0, .int 0, .long 0, .null, .null, .null, .null]))]) hD hS hA [0] rfl
  refine va_callv (va_runI (As := [.int v]) (rest := [.ref q0]) hS0 (cF_init l D q0 H.size v) (cw_W_F_init hw ⟨Nat.le_of_ble_eq_true rfl, Nat.le_of_ble_eq_true rfl⟩) ⟨fun a U g mk q => by obtain ⟨e0, e1, eP, eK, eO⟩ := q; exact ⟨e0, e1, eP, va_K.moved (u := U) (U := U.calling g mk a) (Vm.Alike.refl U.vm) eK, fm_ov.moved (u := U) (U := U.calling g mk a) (Vm.Alike.refl U.vm) eO⟩, fun U hU hW => ⟨rfl, by rw [hU], by rw [hU]; exact hP, va_K.moved hW.alike hK, fm_ov.moved hW.alike hov⟩⟩ rfl rfl hl.1 rfl (lv_room (Nat.le_of_ble_eq_true rfl)) dL_law_9 ⟨Nat.le_of_ble_eq_true rfl, Nat.le_of_ble_eq_true rfl⟩) hS (fun q _ h => hFc q h) hFc (fun u t H1 locs ht hvm hu hB hz1 hk1 hS => ?_)
  obtain ⟨ad, ka⟩ := u
  obtain ⟨had0, hinj, hadA⟩ := hu
  obtain ⟨hP1, hK1⟩ := hB
  replace had0 : ad 0 = q0 := had0
  replace hinj : fr_inj ad := hinj
  have had : ∀ i, i < 37 → s.heap.size ≤ ad i := fun i hi => hFc _ (hadA i hi)
  replace hK1 : va_K D vwCl (fr_ty ka) s := va_K.moved hvm.symm hK1
  replace hP1 : va_P D vwCl (fr_xw (fr_cl v) ad ka (fun _ => 0) (fun _ => 0) (fun _ => 0) (fun _ _ => 0)) H1 := by rw [← ht]; exact hP1
  subst had0
  clear hP hD hFc hz1 hk1 hadA
  refine lv_astore_n hx hb dL_law_12 rfl hl (by decide) rfl (fun ls hl => ?_)
  replace hl : lv_has ls 4 [(1, .ref (ad 0)), (0, .ref b)] := hl
  have hP := hP1
  have hD : va_D (fun q => s.heap.size ≤ q) (fr_xw (fr_cl v) ad ka (fun _ => 0) (fun _ => 0) (fun _ => 0) (fun _ _ => 0)) := (fr_D hinj).weaken (fun k q hk h => by obtain ⟨i, hi, e⟩ := h; rw [e]; exact had i hi)
  refine va_new (ci := CIM) (fs := [.int 0, .int 0, .null, .null]) (C := "FunctionRoomModel") (T := TM) (N := 4) hx hb hw hinM tyX1 tyX1_ok hown (hw _ (mW 161 rfl rfl)) hin1 (hw _ mI_M) hK hP hD hS hA rfl (fun j hj => by rcases (show j = 0 ∨ j = 1 ∨ j = 2 ∨ j = 3 by omega) with rfl | rfl | rfl | rfl <;> rfl) (Nat.le_of_ble_eq_true rfl) (Nat.le_of_ble_eq_true rfl) dL_law_13 (fun q2 H hP hD hS => ?_)
  obtain ⟨hPX, hPM, hne⟩ := fr_split hP hD
  clear hP hD hP1
  refine lv_dup hx hb dL_law_16 rfl ?_
  refine lv_aload_n hx hb dL_law_17 rfl (lv_at hl 1 rfl) ?_
  refine lv_iconst (v := 0) hx hb dL_law_18 (by decide) ?_
  refine fr_cSi (As := [.ref b, .int 0]) hS0 (cW_cell l b L xs (by omega)) (cw_W_cell hw ⟨Nat.le_of_ble_eq_true rfl, Nat.le_of_ble_eq_true rfl⟩) (fr_preX hX (hS.2.1 b hbl hbA)) rfl hl.1 rfl (Nat.le_of_ble_eq_true rfl) dL_law_19 ⟨Nat.le_of_ble_eq_true rfl, Nat.le_of_ble_eq_true rfl⟩ (fun v hv => ?_)
  rw [hv]
  clear hv v
  rw [← hv]
  have hD2 : va_D (fun q => s.heap.size ≤ q) [(q2, .inr (CIM, [.int 0, .int 0, .null, .null]))] := (fr_D1 _).weaken (fun k q hk _ => by have hk1 : k < 1 := (List.getElem?_eq_some_iff.mp hk).1; rw [show k = 0 by omega] at hk; cases hk; exact hne.2)
  have hFc := va_free (wc := [(q2, .inr (CIM, [.int 0, .int 0, .null, .null]))]) hD2 hS hA [0] rfl
  refine va_callv (va_runI (As := [.int v]) (rest := [.ref q2]) hS0 (cM_init l D q2 H.size v) (cw_W_M_init hw ⟨Nat.le_of_ble_eq_true rfl, Nat.le_of_ble_eq_true rfl⟩) ⟨fun a U g mk q => by obtain ⟨e0, e1, eP, eK⟩ := q; exact ⟨e0, e1, eP, va_K.moved (u := U) (U := U.calling g mk a) (Vm.Alike.refl U.vm) eK⟩, fun U hU hW => ⟨rfl, by rw [hU], by rw [hU]; exact hPM, va_K.moved hW.alike hK⟩⟩ rfl rfl hl.1 rfl (lv_room (Nat.le_of_ble_eq_true rfl)) dL_law_22 ⟨Nat.le_of_ble_eq_true rfl, Nat.le_of_ble_eq_true rfl⟩) hS (fun q _ h => hFc q h) hFc (fun u t H2 locs ht hvm hu hB hz1 hk1 hS => ?_)
  obtain ⟨bd, kb⟩ := u
  obtain ⟨hbd0, hinjB, hbdA⟩ := hu
  obtain ⟨hP2, hK2⟩ := hB
  replace hbd0 : bd 0 = q2 := hbd0
  replace hinjB : fr_injB bd := hinjB
  have hbd : ∀ i, i < 3 → s.heap.size ≤ bd i := fun i hi => hFc _ (hbdA i hi)
  replace hK2 : va_K D vwCl (fr_mty kb) s := va_K.moved hvm.symm hK2
  replace hP2 : va_P D vwCl (fr_mw (fr_cl v) bd kb (fun _ => 0) (fun _ => 0)) H2 := by rw [← ht]; exact hP2
  have hnA : ∀ i, i < 37 → ad i < H.size ∧ ¬ va_A [(q2, .inr (CIM, [.int 0, .int 0, .null, .null]))] H.size (ad i) := by
    intro i hi
    refine ⟨fr_xlt hPX i hi, fun z => ?_⟩
    rcases z with ⟨k, e, z⟩ | z
    · have hk1 : k < 1 := (List.getElem?_eq_some_iff.mp z).1
      rw [show k = 0 by omega] at z
      exact hne.1 i hi (congrArg Prod.fst (Option.some.inj z)).symm
    · have := fr_xlt hPX i hi
      omega
  have hPX2 : va_P D vwCl (fr_xw (fr_cl v) ad ka (fun _ => 0) (fun _ => 0) (fun _ => 0) (fun _ _ => 0)) H2 := hPX.kept (fun k q hk => by obtain ⟨h37, e⟩ := fr_addr k q hk; rw [e]; exact hk1 _ (hnA k h37).1 (hnA k h37).2)
  have hdis : ∀ i k, i < 37 → k < 3 → ad i ≠ bd k := fun i k hi hk z => (hnA i hi).2 (by rw [z]; exact hbdA k hk)
  obtain ⟨hV1, hV⟩ := fr_cl_le v
  subst hbd0
  refine lv_astore_n hx hb dL_law_25 rfl hl (by decide) rfl (fun ls hl => ?_)
  replace hl : lv_has ls 4 [(2, .ref (bd 0)), (1, .ref (ad 0)), (0, .ref b)] := hl
  refine lv_iconst (v := 1) hx hb dL_law_26 (by decide) ?_
  refine lv_istore_n hx hb dL_law_27 rfl hl (by decide) rfl (fun ls hl => ?_)
  replace hl : lv_has ls 4 [(3, .int 1), (2, .ref (bd 0)), (1, .ref (ad 0)), (0, .ref b)] := hl
  refine W.widen (k := 40) (n := 18400) (Nat.le_of_ble_eq_true rfl) (Nat.le_of_ble_eq_true rfl) ?_
  exact fr_lawloop l hL hx hb hret hS0 hw hX hbl hbA hlocks hT D (fr_cl v) hV hV1 ad bd ka kb hK1 hK2 hinj hinjB had hbd hdis L 1 H2 locs ls _ _ _ _ _ _ (fun _ _ => false) (by omega) (by omega) (lv_sub hl [0, 3, 2, 1] rfl) hPX2 hP2 (fun j _ => fr_R_const hV false (fun w _ => rfl)) (fun j x _ _ => rfl) hS
end
section
set_option maxHeartbeats 4000000 in
theorem lw_walk (l : Launch) (b : Addr) (xs : List Int32) : MetFree l x (headSpec (Jvm.Cond.code x code maxLocals ret :: tables_1) room_1) (lw_P b xs) (fun _ _ _ _ _ => True) lw_Q := by
  refine MetFree.of_bodyS (code := code) (maxLocals := maxLocals) (ret := ret) (by decide) ?_ ?_
  · intro args s m h hn
    obtain ⟨meth, c, h1, h2, h3, h4, h5, h6, -, -⟩ := Cond.code_spec hn (atoms_spec (ws := Jvm.Cond.code x code maxLocals ret :: tables_1) h _ List.mem_cons_self)
    exact ⟨meth, c, h1, h2, h3, h4, h5, h6⟩
  · intro p e s m args below meth c s₁ B hml0 hP _
    obtain ⟨rfl, hx, hbd, hgv⟩ := hP
    obtain ⟨scr, harrAt, hlist, hof, hsmall⟩ := hx
    obtain ⟨hcb, hkn, -, -⟩ := State.arrayAt?_spec harrAt
    have hown : s.vm.findClass R_law = some m.cls := findClass_of_methodNamed B.named
    have hts0 : ∀ c ∈ (Jvm.Cond.code x code maxLocals ret :: tables_1), c.before #[Value.ref b] s = true := atoms_spec (ws := Jvm.Cond.code x code maxLocals ret :: tables_1) B.pre
    have hts : ∀ w ∈ lw_tbl, w.before #[Value.ref b] s = true := k2_hts_sels lw_privs (fun w hw => hts0 w (List.mem_cons_of_mem _ hw)) lw_privs_ok
    have hml : c.maxLocals = 4 := B.maxLocals_eq (hts0 _ List.mem_cons_self)
    have X₀ : Stand p l e room_1 s m #[Value.ref b] below meth c s₁ [] 0 0 := Stand.of_body B
    have hh0 : s₁.heap = s.heap := by rw [B.state]; rfl
    have hsz : scr.slots.size = xs.length := by rw [← Array.length_toList, hlist, List.length_map]
    have hval : ∀ j : Nat, j < xs.length → scr.slots[j]? = some (.int (xs.getD j 0)) := fun j hj => by
      rw [← Array.getElem?_toList, hlist]
      simp [hj]
    have hbl : b < s.heap.size := (Array.getElem?_eq_some_iff.mp hcb).1
    have hX : va_X b xs.length (fun j => xs.getD j 0) s s.heap := ⟨scr, hcb, hof, hkn, hsz, hval⟩
    have K : W p l e room_1 s m #[Value.ref b] below meth c s₁.heap [] 0 0 (lw_Z below #[Value.ref b] s) (entryFrame m ([Value.ref b] : List Value).toArray 4) := by
      rw [hh0]
      exact whole_start l hbd ⟨B.exec, B.bytes, B.returns, hml, hown, hts, hX, hbl, B.notSynchronized, hgv⟩
    obtain ⟨t, a1, o, b1, b2, b3⟩ := K s₁ rfl X₀
    exact ⟨t, o, a1, b1, b2, b3⟩
theorem lw_pre_spec {args : Array Value} {s : State} (h : (Jvm.Cond.and given_1 narrow_1).before args s = true) (hr : rest_1_c.before args s = true) : ∃ (b : Addr) (xs : List Int32), lw_P b xs args s := by
  have hs := flat_of_before _ h
  have hq := flat_of_before _ hr
  have hc : (Cond.count 1).before args s = true := hs _ (by decide +kernel)
  have harr : (Cond.arrayOf (.arg 0) .int).before args s = true := hs _ (by decide +kernel)
  have hle : (Cond.le (.length (.arg 0)) (.int 2561)).before args s = true := hs _ (by decide +kernel)
  have hlen : (Cond.isInt (.length (.arg 0))).before args s = true := hq _ (by decide +kernel)
  have hall : (Cond.all (.arg 0) (.isInt (.elem (.arg 0) (.index 0)))).before args s = true := hq _ (by decide +kernel)
  obtain ⟨b, xs, hb, hx⟩ := State.ints_of_pre rfl harr hlen hall
  have hsm : xs.length < 2 ^ 31 := hx.choose_spec.2.2.2
  have hev : (Term.length (.arg 0)).eval args s none [] s = some (.int xs.length.toInt32) := hx.length_eval hb
  have hv := Cond.le_ints hev (show (Term.int 2561).eval args s none [] s = some (.int 2561) from rfl)
  have hd : xs.length.toInt32 ≤ 2561 := by
    simpa [Cond.before, Cond.holds, hv] using hle
  have hN : xs.length ≤ 2561 := (Int32.ofNat_le_ofNat hsm (by decide)).mp (show Int32.ofNat xs.length ≤ Int32.ofNat 2561 from hd)
  exact ⟨b, xs, Cond.one_arg hc (show args[0]? = some (.ref b) from hb), hx, hN, h⟩
theorem lw_comes (l : Launch) : Comes l x (Jvm.Cond.code x code maxLocals ret :: tables_1) room_1 (fun tb e args s => Calls_1 tb e args s ∧ rest_1 tb e args s ∧ Pre_1 tb e args s)
    (fun _ _ args s o t => lw_Q args s o t) := by
  intro p e ha hc hk s m args below hf hfit hheap happ hpre
  obtain ⟨b, xs, hP⟩ := lw_pre_spec hpre.2.2 hpre.2.1
  obtain ⟨k, o, h1, h2, h3, hQ⟩ := lw_walk l b xs p e ha hc hk s m args below hf ((Spec.applies_iff_loose hf).mp happ).1 hP trivial
  exact ⟨k, o, h1, h2, h3, hQ⟩
theorem lw_frame {s t : State} {o : Outcome} {args : Array Value} (h : Framed s o t [] 600000 7302250) :
    Framed s o t (fieldLocs frame_1_writes args s ++ arrayLocs frame_1_arrays args s ++ staticLocs frame_1_statics s) 600000 7302250 := h
theorem lw_limb (L : Cond) (hL : ∀ (args : Array Value) (s t : State), L.after args s (.returned (some (.int 1))) t = true) :
    ArmFor flags0 classFile x code maxLocals ret World_1 tables_1 room_1 Calls_1 rest_1 Pre_1
      (fun tb e a s o t => postC L tb e a s o t ∧ Framed s o t (fieldLocs frame_1_writes a s ++ arrayLocs frame_1_arrays a s ++ staticLocs frame_1_statics s) 600000 7302250) := by
  intro l _ _ _ p e ha hc hk s m args below hf hfit hheap happ hpre
  obtain ⟨k, o, h1, h2, h3, rfl, hF⟩ := lw_comes l p e ha hc hk s m args below hf hfit hheap happ hpre
  exact ⟨k, _, h1, h2, h3, hL args s _, lw_frame hF⟩
theorem i_vc : Claimed_1_1 ∧ Claimed_1_2 := ⟨lw_limb limb_1_1 (fun args s t => by simp [limb_1_1, Cond.after, Cond.holds, Cond.value]), lw_limb limb_1_2 (fun args s t => Cond.after_iff.mpr (by
  first | (rw [show limb_1_2 = Cond.eq .result (.int 1) from rfl, Cond.eq_ints (x := 1) (y := 1) rfl rfl]; simp; done) | (simp [limb_1_2, Cond.value, Term.eval]; done)))⟩
end
