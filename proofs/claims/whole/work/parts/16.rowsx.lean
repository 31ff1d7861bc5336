/-! rows over the class's world -/
abbrev fr_U : Type := (Nat → Int64) × (Nat → Int32) × (Nat → Int32) × (Nat → Nat → Int64)
abbrev fr_xu (V : Nat) (ad : Nat → Nat) (ka : Nat → ClassId) (u : fr_U) : va_W := fr_xw V ad ka u.1 u.2.1 u.2.2.1 u.2.2.2
theorem fr_pwt : ∀ i, i < 8 → ∀ d, d < 3 → (nI i >>> (nI d &&& 31)) &&& 1 = fr_bi (i.testBit d) := by decide +kernel
theorem fr_tnx : ∀ i, i < 8 → ∀ d, d < 3 → nI i ^^^ ((1 : Int32) <<< (nI d &&& 31)) = nI (i ^^^ 2 ^ d) := by decide +kernel
theorem fr_ok5 {x : Int32} (h1 : ¬ x < 0) (h2 : ¬ 4 < x) : fr_ok x 5 := by
  refine ⟨h1, fun z => h2 ?_⟩
  rw [Int32.lt_iff_toInt_lt]
  rw [Int32.le_iff_toInt_le] at z
  have e1 : (nI 5).toInt = 5 := by decide
  have e2 : (4 : Int32).toInt = 4 := by decide
  omega
theorem fr_pre0 {s : State} {H : Heap} {As : List Value} : PreS s H (va_Pc As (fun _ => True)) As := ⟨fun _ _ _ _ q => ⟨q.1, trivial⟩, fun _ _ _ => ⟨rfl, trivial⟩⟩
theorem fr_preA {s : State} {H : Heap} {D : va_G} {tys : List (ClassId × FieldType)} {ws : va_W} {As : List Value} {q tq a n : Nat} {cA : ClassId} {g : Nat → Int64} (hK : va_K D vwCl tys s) (hP : va_P D vwCl ws H) (hq : ws[q]? = some (a, .inl (cA, n, .inr (.inl g)))) (htq : tys[tq]? = some (cA, .long)) : PreS s H (va_Pc As (fun U => va_P D vwCl [(a, .inl (cA, n, .inr (.inl g)))] U.heap ∧ va_K D vwCl [(cA, .long)] U)) As := by
  have hP1 := hP.sub (ws' := [(a, .inl (cA, n, .inr (.inl g)))]) [q] (by simp [hq])
  have hK1 := hK.sub (tys' := [(cA, .long)]) [tq] (by simp [htq])
  exact ⟨fun a U g mk q => ⟨q.1, q.2.1, va_K.moved (u := U) (U := U.calling g mk a) (Vm.Alike.refl U.vm) q.2.2⟩, fun U hU hW => ⟨rfl, by rw [hU]; exact hP1, va_K.moved hW.alike hK1⟩⟩
theorem fr_fin {V j : Nat} {F : fr_F} {ro : Nat → Nat → Int64} {f : Nat → Bool} {mk : Nat → Int64} {sp : Int32 × fr_F} (hV : V < 10) (hF : fr_XR V F ro) (hj : j < 32) (hR : fr_R V f mk) (hsp : sp = fr_set V F (nI j) f) : nI (fr_ct mk (fr_wn V)) = sp.1 ∧ fr_XR V sp.2 (va_up ro j (va_cpy mk (ro j) 0 0 (fr_wn V))) := by
  subst hsp
  refine ⟨by rw [fr_ct_R hV hR]; rfl, ?_⟩
  show fr_XR V (va_up F (fr_v (nI j)) f) _
  rw [fr_v_nI (by omega)]
  exact fr_XR_set hF hR
theorem fr_and4 {a b c d : Bool} (h : a = false ∨ b = false ∨ c = false ∨ d = false) : ¬ (a && b && c && d) = true := by
  rcases h with h | h | h | h <;> rw [h] <;> simp
theorem fr_and3 {a b c : Bool} (h : a = false ∨ b = false ∨ c = false) : ¬ (a && b && c) = true := by
  rcases h with h | h | h <;> rw [h] <;> simp
theorem fr_and2 {a b : Bool} (h : a = false ∨ b = false) : ¬ (a && b) = true := by
  rcases h with h | h <;> rw [h] <;> simp
section FRWX
variable {p : Program} {l : Launch} {e : Env} {R : Room} {s : State} {m : MethodId} {args : Array Value} {below : List Frame} {meth : Method} {c : Code} {H : Heap} {locs : List Loc} {cells slots : Nat} {Q : State → Prop}
variable {cc : ByteArray} {pc : Nat} {ls : Array Slot} {rest : List Value} {D : va_G} {H0 : Heap}
variable {V : Nat} {ad : Nat → Nat} {ka : Nat → ClassId} {mk : Nat → Int64} {nm pt : Nat → Int32} {ro : Nat → Nat → Int64} {bd : Nat → Nat} {kb : Nat → ClassId} {row made : Nat → Int32}
variable {y : MethodName} {bytes : ByteArray} {maxL nL n index : Nat} {ret : Option FieldType} {wsy : List Cond} {rm : Room} {Ts : List Cond} {own : String} {As st0 : List Value}
theorem fr_gen {ws : va_W} {A : Nat → Prop} {g : JFrame} (hP : va_P D vwCl ws s.heap) (k : ∀ (H : Heap) (locs : List Loc), va_P D vwCl ws H → va_S A s.heap H locs → W p l e R s m args below meth c H locs cells slots Q g) : W p l e R s m args below meth c s.heap [] cells slots Q g := k s.heap [] hP va_S.rf
theorem fr_gX {v : Value} {tys : List (ClassId × FieldType)} (k : Nat) (hexec : p.tables.exec = Jvm.exec) (hb : c.code = cc) (hw : ∀ w ∈ WA, w.before args s = true) (hown : s.vm.findClass "FunctionRoom" = some m.cls) (hK : va_K D vwCl tys s) (hP : va_P D vwCl (fr_xw V ad ka mk nm pt ro) H) (hk : k < 8) (hm : Cond.fieldLink "FunctionRoom" index "FunctionRoom" (TF k).2.1 (TF k).2.2.1 ∈ WA) (hv : [Value.int (nI V), .int (nI (2 ^ V)), .int (nI (fr_wn V)), .long (fr_pl V), .ref (ad 1), .ref (ad 2), .ref (ad 3), .ref (ad 4)][k]? = some v) (hdg : decode cc pc = .ok (.getfield index, 3))
    (kk : W p l e R s m args below meth c H locs cells slots Q (F0 m (pc + 3) ls (v :: rest))) : W p l e R s m args below meth c H locs cells slots Q (F0 m pc ls (.ref (ad 0) :: rest)) :=
  va_get (D := D) (ci := CIF) (C := "FunctionRoom") (T := TF) (N := 8) hexec hb hw hinF hown hK hP 0 rfl rfl k hk (hw _ hm) (fun x h9 => by rw [TF_decl k] at h9; exact h9) hv hdg kk
theorem fr_gM {v : Value} {tys : List (ClassId × FieldType)} (k : Nat) (hexec : p.tables.exec = Jvm.exec) (hb : c.code = cc) (hw : ∀ w ∈ WA, w.before args s = true) (hown : s.vm.findClass "FunctionRoomModel" = some m.cls) (hK : va_K D vwCl tys s) (hP : va_P D vwCl (fr_mw V bd kb row made) H) (hk : k < 4) (hm : Cond.fieldLink "FunctionRoomModel" index "FunctionRoomModel" (TM k).2.1 (TM k).2.2.1 ∈ WA) (hv : [Value.int (nI V), .int (nI (2 ^ V)), .ref (bd 1), .ref (bd 2)][k]? = some v) (hdg : decode cc pc = .ok (.getfield index, 3))
    (kk : W p l e R s m args below meth c H locs cells slots Q (F0 m (pc + 3) ls (v :: rest))) : W p l e R s m args below meth c H locs cells slots Q (F0 m pc ls (.ref (bd 0) :: rest)) :=
  va_get (D := D) (ci := CIM) (C := "FunctionRoomModel") (T := TM) (N := 4) hexec hb hw hinM hown hK hP 0 rfl rfl k hk (hw _ hm) (fun x h9 => by rw [TM_decl k] at h9; exact h9) hv hdg kk
theorem fr_Xi {post : Int32 → Prop} (S : CallFix p m c cc nL s args Ts own) (hM : Met l y wsy rm (va_Pc (.ref (ad 0) :: As) (fr_PX D V ad ka mk nm pt ro)) (vp_Si post) 0 0 (fun _ => False)) (cw : CallW R s args own "FunctionRoom" index y bytes maxL ret wsy rm 0 0 n) (hK : va_K D vwCl (fr_ty ka) s) (hP : va_P D vwCl (fr_xw V ad ka mk nm pt ro) H) (hT : fr_T ad s s.heap) (hS : va_S (fr_A ad) s.heap H locs)
    (hn : As.length = n) (hsize : ls.size = nL) (hst : st0 = As.reverse ++ .ref (ad 0) :: rest) (hW : (rest.map fun v => v.category).sum ≤ 8) (hdg : decode cc pc = .ok (.invokevirtual index, 3)) (hf : cells ≤ R.cells ∧ slots ≤ R.slots)
    (kk : ∀ r, post r → W p l e R s m args below meth c H locs cells slots Q (F0 m (pc + 3) ls (.int r :: rest))) : W p l e R s m args below meth c H locs cells slots Q (F0 m pc ls st0) :=
  fr_cVi (ci := CIF) (q0 := 0) S hM cw hK hP rfl rfl rfl (fr_T_at hT hS) fr_T_blind hn hsize hst hW hdg hf kk
theorem fr_Xl {post : Int64 → Prop} (S : CallFix p m c cc nL s args Ts own) (hM : Met l y wsy rm (va_Pc (.ref (ad 0) :: As) (fr_PX D V ad ka mk nm pt ro)) (vp_Sl post) 0 0 (fun _ => False)) (cw : CallW R s args own "FunctionRoom" index y bytes maxL ret wsy rm 0 0 n) (hK : va_K D vwCl (fr_ty ka) s) (hP : va_P D vwCl (fr_xw V ad ka mk nm pt ro) H) (hT : fr_T ad s s.heap) (hS : va_S (fr_A ad) s.heap H locs)
    (hn : As.length = n) (hsize : ls.size = nL) (hst : st0 = As.reverse ++ .ref (ad 0) :: rest) (hW : (rest.map fun v => v.category).sum ≤ 8) (hdg : decode cc pc = .ok (.invokevirtual index, 3)) (hf : cells ≤ R.cells ∧ slots ≤ R.slots)
    (kk : ∀ r, post r → W p l e R s m args below meth c H locs cells slots Q (F0 m (pc + 3) ls (.long r :: rest))) : W p l e R s m args below meth c H locs cells slots Q (F0 m pc ls st0) :=
  fr_cVl (ci := CIF) (q0 := 0) S hM cw hK hP rfl rfl rfl (fr_T_at hT hS) fr_T_blind hn hsize hst hW hdg hf kk
theorem fr_Xm {post : Int32 → fr_U → Prop} (S : CallFix p m c cc nL s args Ts own) (hM : Met l y wsy rm (va_Pc (.ref (ad 0) :: As) (fr_PX D V ad ka mk nm pt ro)) (va_Qi post (fun u t => va_P D vwCl (fr_xu V ad ka u) t.heap) (fr_A ad)) 0 0 (fr_A ad)) (cw : CallW R s args own "FunctionRoom" index y bytes maxL ret wsy rm 0 0 n) (hK : va_K D vwCl (fr_ty ka) s) (hP : va_P D vwCl (fr_xw V ad ka mk nm pt ro) H) (hT : fr_T ad s s.heap) (hS : va_S (fr_A ad) s.heap H locs)
    (hn : As.length = n) (hsize : ls.size = nL) (hst : st0 = As.reverse ++ .ref (ad 0) :: rest) (hW : (rest.map fun v => v.category).sum ≤ 8) (hdg : decode cc pc = .ok (.invokevirtual index, 3)) (hf : cells ≤ R.cells ∧ slots ≤ R.slots)
    (kk : ∀ (r : Int32) (u : fr_U) (H1 : Heap) (locs1 : List Loc), post r u → va_P D vwCl (fr_xu V ad ka u) H1 → va_S (fr_A ad) s.heap H1 locs1 → W p l e R s m args below meth c H1 locs1 cells slots Q (F0 m (pc + 3) ls (.int r :: rest))) : W p l e R s m args below meth c H locs cells slots Q (F0 m pc ls st0) :=
  fr_cVm (ci := CIF) (q0 := 0) S hM cw hK hP rfl rfl rfl (fr_T_at hT hS) fr_T_blind hn hsize hst hW hdg hf (fun _ h => h) hS (fun r u H1 locs1 h1 h2 _ h4 => kk r u H1 locs1 h1 h2 h4)
theorem fr_Mi {post : Int32 → Prop} (S : CallFix p m c cc nL s args Ts own) (hM : Met l y wsy rm (va_Pc (.ref (bd 0) :: As) (fr_PM D V bd kb row made)) (vp_Si post) 0 0 (fun _ => False)) (cw : CallW R s args own "FunctionRoomModel" index y bytes maxL ret wsy rm 0 0 n) (hK : va_K D vwCl (fr_mty kb) s) (hP : va_P D vwCl (fr_mw V bd kb row made) H)
    (hn : As.length = n) (hsize : ls.size = nL) (hst : st0 = As.reverse ++ .ref (bd 0) :: rest) (hW : (rest.map fun v => v.category).sum ≤ 8) (hdg : decode cc pc = .ok (.invokevirtual index, 3)) (hf : cells ≤ R.cells ∧ slots ≤ R.slots)
    (kk : ∀ r, post r → W p l e R s m args below meth c H locs cells slots Q (F0 m (pc + 3) ls (.int r :: rest))) : W p l e R s m args below meth c H locs cells slots Q (F0 m pc ls st0) :=
  fr_cVi (ci := CIM) (q0 := 0) S hM cw hK hP rfl rfl rfl (fun _ _ _ => trivial) (fun _ _ _ _ _ => trivial) hn hsize hst hW hdg hf kk
theorem fr_Mm {post : Int32 → (Nat → Int32) × (Nat → Int32) → Prop} (S : CallFix p m c cc nL s args Ts own) (hM : Met l y wsy rm (va_Pc (.ref (bd 0) :: As) (fr_PM D V bd kb row made)) (va_Qi post (fun u t => va_P D vwCl (fr_mw V bd kb u.1 u.2) t.heap) (fr_B bd)) 0 0 (fr_B bd)) (cw : CallW R s args own "FunctionRoomModel" index y bytes maxL ret wsy rm 0 0 n) (hK : va_K D vwCl (fr_mty kb) s) (hP : va_P D vwCl (fr_mw V bd kb row made) H) (hS : va_S (fr_B bd) s.heap H locs)
    (hn : As.length = n) (hsize : ls.size = nL) (hst : st0 = As.reverse ++ .ref (bd 0) :: rest) (hW : (rest.map fun v => v.category).sum ≤ 8) (hdg : decode cc pc = .ok (.invokevirtual index, 3)) (hf : cells ≤ R.cells ∧ slots ≤ R.slots)
    (kk : ∀ (r : Int32) (u : (Nat → Int32) × (Nat → Int32)) (H1 : Heap) (locs1 : List Loc), post r u → va_P D vwCl (fr_mw V bd kb u.1 u.2) H1 → va_S (fr_B bd) s.heap H1 locs1 → W p l e R s m args below meth c H1 locs1 cells slots Q (F0 m (pc + 3) ls (.int r :: rest))) : W p l e R s m args below meth c H locs cells slots Q (F0 m pc ls st0) :=
  fr_cVm (ci := CIM) (q0 := 0) S hM cw hK hP rfl rfl rfl (fun _ _ _ => trivial) (fun _ _ _ _ _ => trivial) hn hsize hst hW hdg hf (fun _ h => h) hS (fun r u H1 locs1 h1 h2 _ h4 => kk r u H1 locs1 h1 h2 h4)
end FRWX
theorem fr_upS {mk E : Nat → Int64} {i : Nat} {x : Int64} (hg : ∀ w, w < i → mk w = E w) (he : x = E i) : ∀ w, w < i + 1 → vp_updL mk i x w = E w := by
  intro w hw
  by_cases e : w = i
  · subst e
    rw [pk_uLs, he]
  · rw [pk_uLn e]
    exact hg w (by omega)
theorem fr_updS {nm E : Nat → Int32} {i : Nat} (hg : ∀ w, w < i → nm w = E w) : ∀ w, w < i + 1 → upd nm i (E i) w = E w := by
  intro w hw
  by_cases e : w = i
  · subst e
    rw [pk_us]
  · rw [pk_un e]
    exact hg w (by omega)
theorem fr_ltle {x y : Int32} (h : x < y) (z : y ≤ x) : False := by
  rw [Int32.lt_iff_toInt_lt] at h
  rw [Int32.le_iff_toInt_le] at z
  omega
theorem fr_nle {x : Int32} {n : Nat} (z : fr_ok x n) : x < nI n := by
  have h := z.2
  rw [Int32.le_iff_toInt_le] at h
  rw [Int32.lt_iff_toInt_lt]
  omega
theorem fr_gt4 {x : Int32} (z : fr_ok x 5) (h : 4 < x) : False := by
  obtain ⟨j, hj, rfl⟩ := fr_ok_ex (by decide) z
  have e1 : (nI j).toInt = (j : Int) := nI_toInt (by omega)
  have e2 : (4 : Int32).toInt = 4 := by decide
  rw [Int32.lt_iff_toInt_lt, e1, e2] at h
  omega
theorem fr_nor (a b : Nat) : nI a ||| nI b = nI (a ||| b) := by
  apply Int32.toBitVec_inj.1
  show BitVec.ofNat 32 a ||| BitVec.ofNat 32 b = BitVec.ofNat 32 (a ||| b)
  apply BitVec.eq_of_getLsbD_eq
  intro i hi
  simp [hi]
theorem fr_mtor {V i : Nat} {f : Nat → Bool} (he : fr_eqB V f (fun x => f (x ^^^ 2 ^ (V - 1 - i))) = false) : nI (fr_mt V f i) ||| nI (2 ^ i) = nI (fr_mt V f (i + 1)) := by
  rw [fr_nor, Nat.or_two_pow_eq_add_of_lt (fr_mt_lt V f i)]
  show _ = nI (fr_mt V f i + (if fr_eqB V f (fun x => f (x ^^^ 2 ^ (V - 1 - i))) = true then 0 else 2 ^ i))
  rw [he]
  rfl
theorem fr_part {a b : Nat} (ha : a < 1024) (hb : b < 1024) : (nI a <<< ((10 : Int32) &&& 31)) ||| nI b = nI (a * 1024 + b) := by
  rw [pk_shlN _ 10 (by decide) (by omega), fr_nor]
  congr 1
  have h := Nat.two_pow_add_eq_or_of_lt (i := 10) (b := b) hb a
  have e : a * 2 ^ 10 = 2 ^ 10 * a := Nat.mul_comm _ _
  rw [e, ← h]
theorem fr_decm (n : Nat) : nI n + Int32.ofInt (-1) = nI n - 1 := by
  apply Int32.toBitVec_inj.1
  show (nI n).toBitVec + (Int32.ofInt (-1)).toBitVec = (nI n).toBitVec - (1 : Int32).toBitVec
  rw [BitVec.sub_eq_add_neg]
  congr 1
