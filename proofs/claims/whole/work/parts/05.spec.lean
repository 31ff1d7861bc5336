/-! what each call answers and does, in words of functions: the class and the reference are both held to this -/
def fr_ok (x : Int32) (n : Nat) : Prop := ¬ x < 0 ∧ ¬ nI n ≤ x
def fr_v (x : Int32) : Nat := x.toNatClampNeg
theorem fr_v_nI {j : Nat} (h : j < 2 ^ 31) : fr_v (nI j) = j := nI_clamp h
theorem fr_ok_ex {x : Int32} {n : Nat} (hn : n < 2 ^ 31) (h : fr_ok x n) : ∃ j, j < n ∧ x = nI j := by
  rcases pk_ix x hn with a | a | a
  · exact absurd a h.1
  · exact absurd a h.2
  · exact a
theorem fr_ok_nI {j n : Nat} (h : j < n) (hn : n < 2 ^ 31) : fr_ok (nI j) n := ⟨nI_pos (by omega), nI_ge h hn⟩
def fr_okB (x : Int32) (n : Nat) : Bool := !decide (x < 0) && !decide (nI n ≤ x)
theorem fr_okB_iff {x : Int32} {n : Nat} : fr_okB x n = true ↔ fr_ok x n := by
  unfold fr_okB fr_ok
  simp
theorem fr_okB_nI {j n : Nat} (h : j < n) (hn : n < 2 ^ 31) : fr_okB (nI j) n = true := fr_okB_iff.mpr (fr_ok_nI h hn)
theorem fr_okB_no {x : Int32} {n : Nat} (h : ¬ fr_ok x n) : fr_okB x n = false := by
  cases e : fr_okB x n
  · rfl
  · exact absurd (fr_okB_iff.mp e) h
abbrev fr_F : Type := Nat → Nat → Bool
def fr_set (V : Nat) (F : fr_F) (r : Int32) (f : Nat → Bool) : Int32 × fr_F := (nI (fr_cn f (2 ^ V)), va_up F (fr_v r) f)
def fr_sLoad (V : Nat) (F : fr_F) (r what : Int32) : Int32 × fr_F :=
  if (fr_okB r 32 && (decide (what = -2) || decide (what = -1) || fr_okB what V)) = true then fr_set V F r (if what = -2 then fun _ => false else if what = -1 then fun _ => true else fun x => x.testBit (V - 1 - fr_v what)) else (-1, F)
def fr_sReckon (V : Nat) (F : fr_F) (op r a b : Int32) : Int32 × fr_F :=
  if (fr_okB op 5 && fr_okB r 32 && fr_okB a 32 && fr_okB b 32) = true then fr_set V F r (fun x => fr_co (fr_v op) (F (fr_v a) x) (F (fr_v b) x)) else (-1, F)
def fr_sNot (V : Nat) (F : fr_F) (r a : Int32) : Int32 × fr_F :=
  if (fr_okB r 32 && fr_okB a 32) = true then fr_set V F r (fun x => !F (fr_v a) x) else (-1, F)
def fr_sWith (V : Nat) (F : fr_F) (r a v : Int32) (one : Bool) : Int32 × fr_F :=
  if (fr_okB r 32 && fr_okB a 32 && fr_okB v V) = true then fr_set V F r (fun x => F (fr_v a) (fr_sb x (V - 1 - fr_v v) one)) else (-1, F)
def fr_sBind (V : Nat) (F : fr_F) (r a v : Int32) (all : Bool) : Int32 × fr_F :=
  if (fr_okB r 32 && fr_okB a 32 && fr_okB v V) = true then fr_set V F r (fun x => if all = true then F (fr_v a) x && F (fr_v a) (x ^^^ 2 ^ (V - 1 - fr_v v)) else F (fr_v a) x || F (fr_v a) (x ^^^ 2 ^ (V - 1 - fr_v v))) else (-1, F)
def fr_sPut (V : Nat) (F : fr_F) (r a v b : Int32) : Int32 × fr_F :=
  if (fr_okB r 32 && fr_okB a 32 && fr_okB v V && fr_okB b 32) = true then fr_set V F r (fun x => F (fr_v a) (fr_sb x (V - 1 - fr_v v) (F (fr_v b) x))) else (-1, F)
def fr_sMany (V : Nat) (F : fr_F) (r : Int32) : Int32 := if fr_okB r 32 = true then nI (fr_cn (F (fr_v r)) (2 ^ V)) else -1
/-- from place i on, c seen: n places more -/
def fr_nthS (f : Nat → Bool) (k : Int32) : Nat → Nat → Nat → Int32
  | 0, _, _ => -2
  | n + 1, i, c => if f i = true then (if nI c = k then nI i else fr_nthS f k n (i + 1) (c + 1)) else fr_nthS f k n (i + 1) c
def fr_sNth (V : Nat) (F : fr_F) (r k : Int32) : Int32 := if fr_okB r 32 = true then fr_nthS (F (fr_v r)) k (2 ^ V) 0 0 else -1
def fr_sValue (V : Nat) (F : fr_F) (r x : Int32) : Int32 := if (fr_okB r 32 && fr_okB x (2 ^ V)) = true then fr_bi (F (fr_v r) (fr_v x)) else -1
def fr_eqB (V : Nat) (f g : Nat → Bool) : Bool := decide (∀ x, x < 2 ^ V → f x = g x)
def fr_sSame (V : Nat) (F : fr_F) (a b : Int32) : Int32 := if (fr_okB a 32 && fr_okB b 32) = true then fr_bi (fr_eqB V (F (fr_v a)) (F (fr_v b))) else 0
def fr_sSize (V : Nat) (F : fr_F) (r : Int32) : Int32 := if fr_okB r 32 = true then nI (fr_sz (F (fr_v r)) V V) else -1
/-- the bits of the first n variables that matter -/
def fr_mt (V : Nat) (f : Nat → Bool) : Nat → Nat
  | 0 => 0
  | v + 1 => fr_mt V f v + (if fr_eqB V f (fun x => f (x ^^^ 2 ^ (V - 1 - v))) = true then 0 else 2 ^ v)
def fr_sMatters (V : Nat) (F : fr_F) (r : Int32) : Int32 := if fr_okB r 32 = true then nI (fr_mt V (F (fr_v r)) V) else -1
theorem fr_mt_lt (V : Nat) (f : Nat → Bool) : ∀ v, fr_mt V f v < 2 ^ v
  | 0 => by show 0 < 1; omega
  | v + 1 => by
    have h := fr_mt_lt V f v
    show fr_mt V f v + (if fr_eqB V f (fun x => f (x ^^^ 2 ^ (V - 1 - v))) = true then 0 else 2 ^ v) < 2 ^ (v + 1)
    rw [Nat.pow_succ]
    split <;> omega
/-- the class's rows hold F -/
def fr_XR (V : Nat) (F : fr_F) (ro : Nat → Nat → Int64) : Prop := ∀ j, j < 32 → fr_R V (F j) (ro j)
theorem fr_XR_set {V j : Nat} {F : fr_F} {ro : Nat → Nat → Int64} {f : Nat → Bool} {mk g : Nat → Int64} (h : fr_XR V F ro) (hf : fr_R V f mk) : fr_XR V (va_up F j f) (va_up ro j (va_cpy mk g 0 0 (fr_wn V))) := by
  intro i hi
  by_cases e : i = j
  · subst e
    rw [va_up_self, va_up_self]
    exact fr_R_congr hf (fun _ _ => rfl) (fun w hw => by rw [pk_cpy_in (Nat.zero_le _) (by omega)]; congr 1; omega)
  · rw [va_up_ne _ _ e, va_up_ne _ _ e]
    exact h i hi
/-- the reference's row holds F -/
def fr_MR (V : Nat) (F : fr_F) (row : Nat → Int32) : Prop := ∀ j x, j < 32 → x < 2 ^ V → row (512 * j + x) = fr_bi (F j x)
theorem fr_bi_ne0 {b : Bool} : fr_bi b = 0 ↔ b = false := by cases b <;> simp [fr_bi]
theorem fr_bi_inj {a b : Bool} : fr_bi a = fr_bi b ↔ a = b := by cases a <;> cases b <;> simp [fr_bi]
theorem fr_bi_nar (b : Bool) : vp_nar .boolean (fr_bi b) = fr_bi b := by cases b <;> rfl
theorem fr_inc (i : Nat) : nI i + Int32.ofInt 1 = nI (i + 1) := nI_1 i
theorem fr_dec (i : Nat) : nI (i + 1) + Int32.ofInt (-1) = nI i := pk_m1 i
theorem fr_pow31 {V : Nat} (h : V < 10) : 2 ^ V < 2 ^ 31 := Nat.pow_lt_pow_right (by decide) (by omega)
theorem fr_shl1 : ∀ b, b < 10 → (1 : Int32) <<< (nI b &&& 31) = nI (2 ^ b) := by decide +kernel
theorem fr_pow512 {V : Nat} (h : V < 10) : 2 ^ V ≤ 512 := show 2 ^ V ≤ 2 ^ 9 from Nat.pow_le_pow_right (by decide) (by omega)
