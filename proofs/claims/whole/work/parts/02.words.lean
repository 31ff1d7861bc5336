/-! the bits of a long (uN .. uN_sk begin as the kit's BITS.to-paste), Long.bitCount's value; words and functions -/
def uN (x : Int64) : Nat := x.toUInt64.toNat
theorem uN_lt (x : Int64) : uN x < 18446744073709551616 := x.toUInt64.toNat_lt
theorem uN_inj {x y : Int64} (h : uN x = uN y) : x = y := congrArg UInt64.toInt64 (UInt64.toNat_inj.mp h)
theorem uN_add (x y : Int64) : uN (x + y) = (uN x + uN y) % 18446744073709551616 := by
  show (x.toUInt64 + y.toUInt64).toNat = _
  exact UInt64.toNat_add _ _
theorem uN_sub {x y : Int64} (h : uN y ≤ uN x) : uN (x - y) = uN x - uN y := by
  show (x.toUInt64 - y.toUInt64).toNat = _
  exact UInt64.toNat_sub_of_le _ _ (UInt64.le_iff_toNat_le.mpr h)
theorem uN_shr (x : Int64) (s : UInt64) : uN (x.toUInt64 >>> s).toInt64 = uN x / 2 ^ (s.toNat % 64) := by
  show (x.toUInt64 >>> s).toNat = _
  rw [UInt64.toNat_shiftRight, Nat.shiftRight_eq_div_pow]
  rfl
theorem fr_cnt (k : Nat) (hk : k < 2 ^ 31) : ((nI k).toInt64.toUInt64 &&& Int64.toUInt64 63).toNat % 64 = k % 64 := by
  rw [nI_l hk, UInt64.toNat_and]
  have e : (lN k).toUInt64.toNat = k % 2 ^ 64 := rfl
  have e2 : (Int64.toUInt64 63).toNat = 2 ^ 6 - 1 := by decide
  rw [e, e2, Nat.and_two_pow_sub_one_eq_mod]
  omega
theorem uN_sk (x : Int64) {k : Nat} (hk : k < 2 ^ 31) : uN (x.toUInt64 >>> ((nI k).toInt64.toUInt64 &&& Int64.toUInt64 63)).toInt64 = uN x / 2 ^ (k % 64) := by
  rw [uN_shr, fr_cnt k hk]
theorem uN_and (x y : Int64) : uN (x &&& y) = uN x &&& uN y := UInt64.toNat_and _ _
theorem uN_or (x y : Int64) : uN (x ||| y) = uN x ||| uN y := UInt64.toNat_or _ _
theorem uN_xor (x y : Int64) : uN (x ^^^ y) = uN x ^^^ uN y := UInt64.toNat_xor _ _
theorem fr_smod : ∀ d, d < 64 → (((nI d).toInt64 &&& 63).toBitVec.smod 64).toNat = d := by decide +kernel
theorem uN_shl (x : Int64) {d : Nat} (hd : d < 64) : uN (x <<< ((nI d).toInt64 &&& 63)) = (uN x * 2 ^ d) % 2 ^ 64 := by
  show (x.toBitVec <<< (((nI d).toInt64 &&& 63).toBitVec.smod 64).toNat).toNat = _
  rw [fr_smod d hd, BitVec.toNat_shiftLeft, Nat.shiftLeft_eq]
  rfl
theorem fr_l2i (v : Int64) : v.toInt32.toBitVec.toNat = uN v % 4294967296 := by
  rw [Int64.toBitVec_toInt32, BitVec.signExtend_eq_setWidth_of_le _ (by decide), BitVec.toNat_setWidth]
  rfl
theorem fr_lmask (v : Int64) {m : Int32} (k : Nat) (hk : k ≤ 32) (hm : m.toBitVec.toNat = 2 ^ k - 1) : v.toInt32 &&& m = nI (uN v % 2 ^ k) := by
  rw [pk_and v.toInt32 k hm, fr_l2i, show (4294967296 : Nat) = 2 ^ 32 from rfl, Nat.mod_mod_of_dvd _ (Nat.pow_dvd_pow 2 hk)]
/-- the value of Long.bitCount's text -/
theorem fr_bitCount (x x1 x2 x3 x4 x5 x6 : Int64)
    (e1 : x1 = x - ((x.toUInt64 >>> ((1 : Int32).toInt64.toUInt64 &&& Int64.toUInt64 63)).toInt64 &&& 6148914691236517205))
    (e2 : x2 = (x1 &&& 3689348814741910323) + ((x1.toUInt64 >>> ((2 : Int32).toInt64.toUInt64 &&& Int64.toUInt64 63)).toInt64 &&& 3689348814741910323))
    (e3 : x3 = (x2 + (x2.toUInt64 >>> ((4 : Int32).toInt64.toUInt64 &&& Int64.toUInt64 63)).toInt64) &&& 1085102592571150095)
    (e4 : x4 = x3 + (x3.toUInt64 >>> ((8 : Int32).toInt64.toUInt64 &&& Int64.toUInt64 63)).toInt64)
    (e5 : x5 = x4 + (x4.toUInt64 >>> ((16 : Int32).toInt64.toUInt64 &&& Int64.toUInt64 63)).toInt64)
    (e6 : x6 = x5 + (x5.toUInt64 >>> ((32 : Int32).toInt64.toUInt64 &&& Int64.toUInt64 63)).toInt64) :
    x6.toInt32 &&& 127 = nI (fr_po (uN x) 64) := by
  have k1 : ∀ y : Int64, uN (y.toUInt64 >>> ((1 : Int32).toInt64.toUInt64 &&& Int64.toUInt64 63)).toInt64 = uN y / 2 := fun y => uN_sk y (k := 1) (by decide)
  have k2 : ∀ y : Int64, uN (y.toUInt64 >>> ((2 : Int32).toInt64.toUInt64 &&& Int64.toUInt64 63)).toInt64 = uN y / 4 := fun y => uN_sk y (k := 2) (by decide)
  have k4 : ∀ y : Int64, uN (y.toUInt64 >>> ((4 : Int32).toInt64.toUInt64 &&& Int64.toUInt64 63)).toInt64 = uN y / 16 := fun y => uN_sk y (k := 4) (by decide)
  have k8 : ∀ y : Int64, uN (y.toUInt64 >>> ((8 : Int32).toInt64.toUInt64 &&& Int64.toUInt64 63)).toInt64 = uN y / 256 := fun y => uN_sk y (k := 8) (by decide)
  have k16 : ∀ y : Int64, uN (y.toUInt64 >>> ((16 : Int32).toInt64.toUInt64 &&& Int64.toUInt64 63)).toInt64 = uN y / 65536 := fun y => uN_sk y (k := 16) (by decide)
  have k32 : ∀ y : Int64, uN (y.toUInt64 >>> ((32 : Int32).toInt64.toUInt64 &&& Int64.toUInt64 63)).toInt64 = uN y / 4294967296 := fun y => uN_sk y (k := 32) (by decide)
  have c5 : uN 6148914691236517205 = fr_rep 85 8 := by decide +kernel
  have c3 : uN 3689348814741910323 = fr_rep 51 8 := by decide +kernel
  have cf : uN 1085102592571150095 = fr_rep 15 8 := by decide +kernel
  have p1 : uN x1 = fr_s1 8 (uN x) := by
    have hle : uN ((x.toUInt64 >>> ((1 : Int32).toInt64.toUInt64 &&& Int64.toUInt64 63)).toInt64 &&& 6148914691236517205) ≤ uN x := by
      rw [uN_and, k1]
      exact Nat.le_trans Nat.and_le_left (Nat.div_le_self _ 2)
    rw [e1, uN_sub hle, uN_and, k1, c5]
    rfl
  have l51 : fr_rep 51 8 < 4000000000000000000 := by decide +kernel
  have p2 : uN x2 = fr_s2 8 (uN x1) := by
    rw [e2, uN_add, uN_and, uN_and, k2, c3]
    have a1 : uN x1 &&& fr_rep 51 8 ≤ fr_rep 51 8 := Nat.and_le_right
    have a2 : uN x1 / 4 &&& fr_rep 51 8 ≤ fr_rep 51 8 := Nat.and_le_right
    rw [Nat.mod_eq_of_lt (by omega)]
    rfl
  have p3 : uN x3 = fr_s3 8 (uN x2) := by
    have b2 : uN x2 ≤ 2 * fr_rep 51 8 := by
      have a1 : uN x1 &&& fr_rep 51 8 ≤ fr_rep 51 8 := Nat.and_le_right
      have a2 : uN x1 / 4 &&& fr_rep 51 8 ≤ fr_rep 51 8 := Nat.and_le_right
      rw [p2]
      show (uN x1 &&& fr_rep 51 8) + (uN x1 / 4 &&& fr_rep 51 8) ≤ _
      omega
    rw [e3, uN_and, uN_add, k4, cf, Nat.mod_eq_of_lt (by omega)]
    rfl
  have p4 : uN x3 = fr_dg 8 (uN x) := by rw [p3, p2, p1]; exact (fr_swar 8 (uN x)).2
  have q4 : uN x4 = (fr_dg 8 (uN x) + fr_dg 8 (uN x) / 256) % 18446744073709551616 := by rw [e4, uN_add, k8, p4]
  have q5 : uN x5 = (uN x4 + uN x4 / 65536) % 18446744073709551616 := by rw [e5, uN_add, k16]
  have q6 : uN x6 = (uN x5 + uN x5 / 4294967296) % 18446744073709551616 := by rw [e6, uN_add, k32]
  rw [fr_lmask x6 7 (by decide) (by decide)]
  exact congrArg nI (fr_bitc (uN x) (uN x4) (uN x5) (uN x6) q4 q5 q6)
/-! bits -/
def fr_b (x : Int64) (j : Nat) : Bool := (uN x).testBit j
theorem fr_b_and (x y : Int64) (j : Nat) : fr_b (x &&& y) j = (fr_b x j && fr_b y j) := by
  unfold fr_b
  rw [uN_and, Nat.testBit_and]
theorem fr_b_or (x y : Int64) (j : Nat) : fr_b (x ||| y) j = (fr_b x j || fr_b y j) := by
  unfold fr_b
  rw [uN_or, Nat.testBit_or]
theorem fr_b_xor (x y : Int64) (j : Nat) : fr_b (x ^^^ y) j = (fr_b x j ^^ fr_b y j) := by
  unfold fr_b
  rw [uN_xor, Nat.testBit_xor]
theorem fr_b_m1 : ∀ j, j < 64 → fr_b (-1) j = true := by decide +kernel
theorem fr_b_not (x : Int64) {j : Nat} (h : j < 64) : fr_b (x ^^^ (-1)) j = !fr_b x j := by
  rw [fr_b_xor, fr_b_m1 j h]
  cases fr_b x j <;> rfl
theorem fr_b_0 (j : Nat) : fr_b 0 j = false := by
  show Nat.testBit (uN 0) j = false
  rw [show uN 0 = 0 by decide, Nat.zero_testBit]
theorem fr_b_big (x : Int64) {j : Nat} (h : 64 ≤ j) : fr_b x j = false :=
  Nat.testBit_lt_two_pow (Nat.lt_of_lt_of_le (uN_lt x) (show 2 ^ 64 ≤ 2 ^ j from Nat.pow_le_pow_right (by decide) h))
theorem fr_b_ext {x y : Int64} (h : ∀ j, j < 64 → fr_b x j = fr_b y j) : x = y := by
  refine uN_inj (Nat.eq_of_testBit_eq fun i => ?_)
  rcases Nat.lt_or_ge i 64 with hi | hi
  · exact h i hi
  · exact (fr_b_big x hi).trans (fr_b_big y hi).symm
theorem fr_b_shr (x : Int64) {d : Nat} (hd : d < 64) (j : Nat) : fr_b ((x.toUInt64 >>> ((nI d).toInt64.toUInt64 &&& Int64.toUInt64 63)).toInt64) j = fr_b x (j + d) := by
  unfold fr_b
  rw [uN_sk x (by omega), Nat.mod_eq_of_lt hd, Nat.testBit_div_two_pow]
theorem fr_b_shl (x : Int64) {d : Nat} (hd : d < 64) {j : Nat} (hj : j < 64) : fr_b (x <<< ((nI d).toInt64 &&& 63)) j = (decide (d ≤ j) && fr_b x (j - d)) := by
  unfold fr_b
  rw [uN_shl x hd, Nat.testBit_mod_two_pow, Nat.testBit_mul_two_pow, decide_eq_true hj, Bool.true_and]
def fr_bi (b : Bool) : Int32 := if b = true then 1 else 0
theorem fr_valueAt (x : Int64) {n : Nat} (hn : n < 2 ^ 31) : (x.toUInt64 >>> ((nI n).toInt64.toUInt64 &&& Int64.toUInt64 63)).toInt64.toInt32 &&& 1 = fr_bi (fr_b x (n % 64)) := by
  rw [fr_lmask _ 1 (by decide) (by decide), uN_sk x hn]
  show nI (uN x / 2 ^ (n % 64) % 2) = fr_bi ((uN x).testBit (n % 64))
  rw [Nat.testBit_eq_decide_div_mod_eq]
  rcases Nat.mod_two_eq_zero_or_one (uN x / 2 ^ (n % 64)) with h | h <;> rw [h] <;> decide
/-! the object's numbers -/
def fr_wn (V : Nat) : Nat := if V < 6 then 1 else 2 ^ (V - 6)
def fr_pl (V : Nat) : Int64 := if V < 6 then lN (2 ^ 2 ^ V - 1) else -1
def fr_pb (b : Nat) : Int64 := if b = 0 then -6148914691236517206 else if b = 1 then -3689348814741910324 else if b = 2 then -1085102592571150096 else if b = 3 then -71777214294589696 else if b = 4 then -281470681808896 else -4294967296
theorem fr_b_pb : ∀ b, b < 6 → ∀ j, j < 64 → fr_b (fr_pb b) j = j.testBit b := by decide +kernel
theorem fr_b_pl : ∀ V, V < 10 → ∀ j, j < 64 → fr_b (fr_pl V) j = decide (j < 2 ^ V) := by decide +kernel
theorem fr_wn_le : ∀ V, V < 10 → 1 ≤ fr_wn V ∧ fr_wn V ≤ 8 ∧ 2 ^ V ≤ 64 * fr_wn V ∧ (6 ≤ V → 2 ^ V = 64 * fr_wn V) ∧ (V < 6 → fr_wn V = 1) ∧ 2 ^ V ≤ 512 ∧ 2 ≤ 2 ^ V + (1 - V) := by decide +kernel
/-- the words g hold the function f of V variables -/
def fr_R (V : Nat) (f : Nat → Bool) (g : Nat → Int64) : Prop := ∀ w j, w < fr_wn V → j < 64 → fr_b (g w) j = (decide (64 * w + j < 2 ^ V) && f (64 * w + j))
theorem fr_R_in {V : Nat} (hV : V < 10) {f : Nat → Bool} {g : Nat → Int64} (h : fr_R V f g) {x : Nat} (hx : x < 2 ^ V) : x / 64 < fr_wn V ∧ fr_b (g (x / 64)) (x % 64) = f x := by
  obtain ⟨-, -, h3, -⟩ := fr_wn_le V hV
  have h1 : x / 64 < fr_wn V := by omega
  have h2 := h (x / 64) (x % 64) h1 (Nat.mod_lt _ (by decide))
  rw [show 64 * (x / 64) + x % 64 = x by omega, decide_eq_true hx, Bool.true_and] at h2
  exact ⟨h1, h2⟩
theorem fr_R_of {V : Nat} {f : Nat → Bool} {g : Nat → Int64} (h : ∀ w j, w < fr_wn V → j < 64 → 64 * w + j < 2 ^ V → fr_b (g w) j = f (64 * w + j)) (h0 : ∀ w j, w < fr_wn V → j < 64 → ¬ 64 * w + j < 2 ^ V → fr_b (g w) j = false) : fr_R V f g := by
  intro w j hw hj
  by_cases hx : 64 * w + j < 2 ^ V
  · rw [h w j hw hj hx, decide_eq_true hx, Bool.true_and]
  · rw [h0 w j hw hj hx, decide_eq_false hx, Bool.false_and]
theorem fr_R_congr {V : Nat} {f f' : Nat → Bool} {g g' : Nat → Int64} (h : fr_R V f g) (hf : ∀ x, x < 2 ^ V → f' x = f x) (hg : ∀ w, w < fr_wn V → g' w = g w) : fr_R V f' g' := by
  intro w j hw hj
  rw [hg w hw, h w j hw hj]
  by_cases hx : 64 * w + j < 2 ^ V
  · rw [decide_eq_true hx, hf _ hx]
  · rw [decide_eq_false hx, Bool.false_and, Bool.false_and]
theorem fr_inr {V w j : Nat} (hV : V < 10) (hw : w < fr_wn V) (hj : j < 64) : decide (64 * w + j < 2 ^ V) = decide (j < 2 ^ V) := by
  obtain ⟨-, -, -, h4, h5, -⟩ := fr_wn_le V hV
  rcases Nat.lt_or_ge V 6 with h | h
  · have := h5 h
    have hw0 : w = 0 := by omega
    rw [hw0]
    congr 1
    simp
  · have h6 := h4 h
    have a1 : 64 * w + j < 2 ^ V := by omega
    have a2 : j < 2 ^ V := by omega
    rw [decide_eq_true a1, decide_eq_true a2]
/-- how many ones a row has -/
def fr_ct (g : Nat → Int64) : Nat → Nat
  | 0 => 0
  | w + 1 => fr_ct g w + fr_po (uN (g w)) 64
theorem fr_ct_cn (g : Nat → Int64) : ∀ w, fr_ct g w = fr_cn (fun x => fr_b (g (x / 64)) (x % 64)) (64 * w)
  | 0 => rfl
  | w + 1 => by
    rw [show 64 * (w + 1) = 64 * w + 64 by omega, fr_cn_add, ← fr_ct_cn g w]
    show fr_ct g w + fr_po (uN (g w)) 64 = _
    congr 1
    refine fr_cn_congr 64 fun i hi => ?_
    show (uN (g w)).testBit i = fr_b (g ((64 * w + i) / 64)) ((64 * w + i) % 64)
    rw [show (64 * w + i) / 64 = w by omega, show (64 * w + i) % 64 = i by omega]
    rfl
theorem fr_ct_R {V : Nat} (hV : V < 10) {f : Nat → Bool} {g : Nat → Int64} (h : fr_R V f g) : fr_ct g (fr_wn V) = fr_cn f (2 ^ V) := by
  obtain ⟨-, -, h3, -⟩ := fr_wn_le V hV
  rw [fr_ct_cn]
  have e1 : fr_cn (fun x => fr_b (g (x / 64)) (x % 64)) (64 * fr_wn V) = fr_cn (fun x => decide (x < 2 ^ V) && f x) (64 * fr_wn V) := by
    refine fr_cn_congr _ fun x hx => ?_
    have h2 := h (x / 64) (x % 64) (by omega) (Nat.mod_lt _ (by decide))
    rw [show 64 * (x / 64) + x % 64 = x by omega] at h2
    exact h2
  have e2 : 64 * fr_wn V = 2 ^ V + (64 * fr_wn V - 2 ^ V) := by omega
  rw [e1, e2, fr_cn_cut _ (2 ^ V) (fun i hi => by
    show (decide (i < 2 ^ V) && f i) = false
    rw [decide_eq_false (by omega), Bool.false_and])]
  refine fr_cn_congr _ fun x hx => ?_
  show (decide (x < 2 ^ V) && f x) = f x
  rw [decide_eq_true hx, Bool.true_and]
