set_option maxHeartbeats 4000000 in
set_option maxRecDepth 100000 in
theorem fr_lawloop {p : Program} {e : Env} {s : State} {m : MethodId} {below : List Frame} {meth : Method} {c : Code} (l : Launch) {b L : Nat} {xs : Nat → Int32} (hL : L ≤ 2561) (hx : p.tables.exec = Jvm.exec) (hb : c.code = code) (hret : meth.sig.returnType = ret) (hS0 : CallFix p m c code 4 s #[Value.ref b] WA "FunctionRoomLaw") (hw : ∀ w ∈ WA, w.before #[Value.ref b] s = true) (hX : va_X b L xs s s.heap) (hbl : b < s.heap.size) (hbA : ¬ s.heap.size ≤ b) (hlocks : meth.locks = false) (hT : fr_TS s) (D : va_G) (V : Nat) (hV : V < 10) (hV1 : 1 ≤ V) (ad bd : Nat → Nat) (ka kb : Nat → ClassId) (hK : va_K D vwCl (fr_ty ka) s) (hK2 : va_K D vwCl (fr_mty kb) s) (hinj : fr_inj ad) (hinjB : fr_injB bd) (had : ∀ i, i < 37 → s.heap.size ≤ ad i) (hbd : ∀ i, i < 3 → s.heap.size ≤ bd i) (hdis : ∀ i k, i < 37 → k < 3 → ad i ≠ bd k) : ∀ (n i : Nat) (H : Heap) (locs : List Loc) (ls : Array Slot) (mk : Nat → Int64) (nm pt : Nat → Int32) (ro : Nat → Nat → Int64) (row made : Nat → Int32) (F : fr_F), L < i + 5 + 5 * n → i ≤ L + 5 → lv_has ls 4 [(3, .int (nI i)), (0, .ref b), (1, .ref (ad 0)), (2, .ref (bd 0))] → va_P D vwCl (fr_xw V ad ka mk nm pt ro) H → va_P D vwCl (fr_mw V bd kb row made) H → fr_XR V F ro → fr_MR V F row → va_S (fun q => s.heap.size ≤ q) s.heap H locs → W p l e room_1 s m #[Value.ref b] below meth c H locs 40 18400 (lw_Z below #[Value.ref b] s) (F0 m 28 ls []) := by
  intro n
  induction n with
  | zero =>
    intro i H locs ls mk nm pt ro row made F hfu hi1 hl hP hP2 hF hM hS
    refine lv_iload_n hx hb dL_law_28 rfl (lv_at hl 0 rfl) ?_
    refine lv_aload_n hx hb dL_law_29 rfl (lv_at hl 1 rfl) ?_
    refine va_slen hx hb hX hbl hbA hS dL_law_30 ?_
    refine lv_iconst (v := 5) hx hb dL_law_31 (by decide) ?_
    refine lv_isub hx hb dL_law_32 ?_
    refine lv_icmp_gt (tgt := 588) hx hb dL_law_33 rfl (fun hcm => ?_) (fun hcm => absurd (fr_exit (by omega) (by omega) (by omega)) hcm)
    refine lv_iconst (v := 1) hx hb dL_law_588 (by decide) ?_
    refine va_forget (fun q hq => hS.2.2 q hq) ?_
    refine W.widen (k := 600000) (n := 7302250) (Nat.le_of_ble_eq_true rfl) (Nat.le_of_ble_eq_true rfl) ?_
    exact lw_ret hx hb hret hlocks dL_law_589
  | succ n ih =>
    intro i H locs ls mk nm pt ro row made F hfu hi1 hl hP hP2 hF hM hS
    rcases Nat.lt_or_ge L (i + 5) with hout | hgo
    ·
      refine lv_iload_n hx hb dL_law_28 rfl (lv_at hl 0 rfl) ?_
      refine lv_aload_n hx hb dL_law_29 rfl (lv_at hl 1 rfl) ?_
      refine va_slen hx hb hX hbl hbA hS dL_law_30 ?_
      refine lv_iconst (v := 5) hx hb dL_law_31 (by decide) ?_
      refine lv_isub hx hb dL_law_32 ?_
      refine lv_icmp_gt (tgt := 588) hx hb dL_law_33 rfl (fun hcm => ?_) (fun hcm => absurd (fr_exit (by omega) (by omega) (by omega)) hcm)
      refine lv_iconst (v := 1) hx hb dL_law_588 (by decide) ?_
      refine va_forget (fun q hq => hS.2.2 q hq) ?_
      refine W.widen (k := 600000) (n := 7302250) (Nat.le_of_ble_eq_true rfl) (Nat.le_of_ble_eq_true rfl) ?_
      exact lw_ret hx hb hret hlocks dL_law_589
    ·
      refine lv_iload_n hx hb dL_law_28 rfl (lv_at hl 0 rfl) ?_
      refine lv_aload_n hx hb dL_law_29 rfl (lv_at hl 1 rfl) ?_
      refine va_slen hx hb hX hbl hbA hS dL_law_30 ?_
      refine lv_iconst (v := 5) hx hb dL_law_31 (by decide) ?_
      refine lv_isub hx hb dL_law_32 ?_
      refine lv_icmp_gt (tgt := 588) hx hb dL_law_33 rfl (fun hcm => absurd hcm (fr_noexit (by omega) (by omega) (by omega))) (fun hcm => ?_)
      refine lv_aload_n hx hb dL_law_36 rfl (lv_at hl 1 rfl) ?_
      refine lv_iload_n hx hb dL_law_37 rfl (lv_at hl 0 rfl) ?_
      refine fr_sld hx hb hX hbl hbA hS (show i + 0 < L by omega) (by omega) dL_law_38 ?_
      refine lv_bipush (v := 15) hx hb dL_law_39 (by decide) ?_
      refine lv_iand hx hb dL_law_41 ?_
      obtain ⟨j, hj16, hje⟩ := pk_andE (xs (i + 0)) (m := 15) 4 (by decide)
      refine fr_top hje ?_
      have hji : (nI j).toInt = (j : Int) := nI_toInt (by omega)
      rcases (show j = 0 ∨ j = 1 ∨ j = 2 ∨ j = 3 ∨ j = 4 ∨ j = 5 ∨ j = 6 ∨ j = 7 ∨ j = 8 ∨ j = 9 ∨ j = 10 ∨ j = 11 ∨ 12 ≤ j by omega) with rfl | rfl | rfl | rfl | rfl | rfl | rfl | rfl | rfl | rfl | rfl | rfl | hbig
      ·
        refine lv_tableIn (tgt := 104) hx hb dL_law_42 (by rw [hji]; decide) (by rw [hji]; decide) (by rw [hji]; rfl) rfl ?_
        refine lv_aload_n hx hb dL_law_104 rfl (lv_at hl 2 rfl) ?_
        refine lv_aload_n hx hb dL_law_105 rfl (lv_at hl 1 rfl) ?_
        refine lv_iload_n hx hb dL_law_106 rfl (lv_at hl 0 rfl) ?_
        refine lv_iconst (v := 1) hx hb dL_law_107 (by decide) ?_
        refine lv_iadd hx hb dL_law_108 ?_
        refine fr_top (show ((nI i + 1) : Int32) = nI (i + 1) from nI_add i 1) ?_
        refine fr_sld hx hb hX hbl hbA hS (show i + 1 < L by omega) (by omega) dL_law_109 ?_
        refine lv_aload_n hx hb dL_law_110 rfl (lv_at hl 1 rfl) ?_
        refine lv_iload_n hx hb dL_law_111 rfl (lv_at hl 0 rfl) ?_
        refine lv_iconst (v := 2) hx hb dL_law_112 (by decide) ?_
        refine lv_iadd hx hb dL_law_113 ?_
        refine fr_top (show ((nI i + 2) : Int32) = nI (i + 2) from nI_add i 2) ?_
        refine fr_sld hx hb hX hbl hbA hS (show i + 2 < L by omega) (by omega) dL_law_114 ?_
        refine fr_lawX (sp := fr_sLoad V F (xs (i + 1)) (xs (i + 2))) (As := [.int (xs (i + 1)), .int (xs (i + 2))]) hS0 (cF_load l D V ad ka mk nm pt ro F hF hV hV1 hinj (xs (i + 1)) (xs (i + 2))) (cw_W_F_load hw ⟨Nat.le_of_ble_eq_true rfl, Nat.le_of_ble_eq_true rfl⟩) hK hP hP2 hT hS had hdis rfl hl.1 rfl (Nat.le_of_ble_eq_true rfl) dL_law_115 ⟨Nat.le_of_ble_eq_true rfl, Nat.le_of_ble_eq_true rfl⟩ (fun H locs mk nm pt ro hP hP2 hF2 hS => ?_)
        refine lv_aload_n hx hb dL_law_118 rfl (lv_at hl 3 rfl) ?_
        refine lv_aload_n hx hb dL_law_119 rfl (lv_at hl 1 rfl) ?_
        refine lv_iload_n hx hb dL_law_120 rfl (lv_at hl 0 rfl) ?_
        refine lv_iconst (v := 1) hx hb dL_law_121 (by decide) ?_
        refine lv_iadd hx hb dL_law_122 ?_
        refine fr_top (show ((nI i + 1) : Int32) = nI (i + 1) from nI_add i 1) ?_
        refine fr_sld hx hb hX hbl hbA hS (show i + 1 < L by omega) (by omega) dL_law_123 ?_
        refine lv_aload_n hx hb dL_law_124 rfl (lv_at hl 1 rfl) ?_
        refine lv_iload_n hx hb dL_law_125 rfl (lv_at hl 0 rfl) ?_
        refine lv_iconst (v := 2) hx hb dL_law_126 (by decide) ?_
        refine lv_iadd hx hb dL_law_127 ?_
        refine fr_top (show ((nI i + 2) : Int32) = nI (i + 2) from nI_add i 2) ?_
        refine fr_sld hx hb hX hbl hbA hS (show i + 2 < L by omega) (by omega) dL_law_128 ?_
        refine fr_lawM (sp := fr_sLoad V F (xs (i + 1)) (xs (i + 2))) (As := [.int (xs (i + 1)), .int (xs (i + 2))]) hS0 (cM_load l D V bd kb row made F hM hV hV1 hinjB (xs (i + 1)) (xs (i + 2))) (cw_W_M_load hw ⟨Nat.le_of_ble_eq_true rfl, Nat.le_of_ble_eq_true rfl⟩) hK2 hP hP2 hS hbd hdis rfl hl.1 rfl (Nat.le_of_ble_eq_true rfl) dL_law_129 ⟨Nat.le_of_ble_eq_true rfl, Nat.le_of_ble_eq_true rfl⟩ (fun H locs row made hP hP2 hM2 hS => ?_)
        refine lv_icmp_eq (tgt := 582) hx hb dL_law_132 rfl (fun hne => ?_) (fun hne => absurd rfl hne)
        refine lv_iinc (k := 0) (v := nI (i + 5)) hx hb dL_law_582 hl rfl (nI_add i 5) (by decide) rfl (fun ls hl => ?_)
        replace hl : lv_has ls 4 [(3, .int (nI (i + 5))), (0, .ref b), (1, .ref (ad 0)), (2, .ref (bd 0))] := hl
        refine lv_goto (tgt := 28) hx hb dL_law_585 rfl ?_
        exact ih (i + 5) H locs ls mk nm pt ro row made _ (by omega) (by omega) (lv_sub hl [0, 1, 2, 3] rfl) hP hP2 hF2 hM2 hS
      ·
        refine lv_tableIn (tgt := 137) hx hb dL_law_42 (by rw [hji]; decide) (by rw [hji]; decide) (by rw [hji]; rfl) rfl ?_
        refine lv_aload_n hx hb dL_law_137 rfl (lv_at hl 2 rfl) ?_
        refine lv_aload_n hx hb dL_law_138 rfl (lv_at hl 1 rfl) ?_
        refine lv_iload_n hx hb dL_law_139 rfl (lv_at hl 0 rfl) ?_
        refine lv_iconst (v := 1) hx hb dL_law_140 (by decide) ?_
        refine lv_iadd hx hb dL_law_141 ?_
        refine fr_top (show ((nI i + 1) : Int32) = nI (i + 1) from nI_add i 1) ?_
        refine fr_sld hx hb hX hbl hbA hS (show i + 1 < L by omega) (by omega) dL_law_142 ?_
        refine lv_aload_n hx hb dL_law_143 rfl (lv_at hl 1 rfl) ?_
        refine lv_iload_n hx hb dL_law_144 rfl (lv_at hl 0 rfl) ?_
        refine lv_iconst (v := 2) hx hb dL_law_145 (by decide) ?_
        refine lv_iadd hx hb dL_law_146 ?_
        refine fr_top (show ((nI i + 2) : Int32) = nI (i + 2) from nI_add i 2) ?_
        refine fr_sld hx hb hX hbl hbA hS (show i + 2 < L by omega) (by omega) dL_law_147 ?_
        refine lv_aload_n hx hb dL_law_148 rfl (lv_at hl 1 rfl) ?_
        refine lv_iload_n hx hb dL_law_149 rfl (lv_at hl 0 rfl) ?_
        refine lv_iconst (v := 3) hx hb dL_law_150 (by decide) ?_
        refine lv_iadd hx hb dL_law_151 ?_
        refine fr_top (show ((nI i + 3) : Int32) = nI (i + 3) from nI_add i 3) ?_
        refine fr_sld hx hb hX hbl hbA hS (show i + 3 < L by omega) (by omega) dL_law_152 ?_
        refine lv_aload_n hx hb dL_law_153 rfl (lv_at hl 1 rfl) ?_
        refine lv_iload_n hx hb dL_law_154 rfl (lv_at hl 0 rfl) ?_
        refine lv_iconst (v := 4) hx hb dL_law_155 (by decide) ?_
        refine lv_iadd hx hb dL_law_156 ?_
        refine fr_top (show ((nI i + 4) : Int32) = nI (i + 4) from nI_add i 4) ?_
        refine fr_sld hx hb hX hbl hbA hS (show i + 4 < L by omega) (by omega) dL_law_157 ?_
        refine fr_lawX (sp := fr_sReckon V F (xs (i + 1)) (xs (i + 2)) (xs (i + 3)) (xs (i + 4))) (As := [.int (xs (i + 1)), .int (xs (i + 2)), .int (xs (i + 3)), .int (xs (i + 4))]) hS0 (cF_reckon l D V ad ka mk nm pt ro F hF hV hV1 hinj (xs (i + 1)) (xs (i + 2)) (xs (i + 3)) (xs (i + 4))) (cw_W_F_reckon hw ⟨Nat.le_of_ble_eq_true rfl, Nat.le_of_ble_eq_true rfl⟩) hK hP hP2 hT hS had hdis rfl hl.1 rfl (Nat.le_of_ble_eq_true rfl) dL_law_158 ⟨Nat.le_of_ble_eq_true rfl, Nat.le_of_ble_eq_true rfl⟩ (fun H locs mk nm pt ro hP hP2 hF2 hS => ?_)
        refine lv_aload_n hx hb dL_law_161 rfl (lv_at hl 3 rfl) ?_
        refine lv_aload_n hx hb dL_law_162 rfl (lv_at hl 1 rfl) ?_
        refine lv_iload_n hx hb dL_law_163 rfl (lv_at hl 0 rfl) ?_
        refine lv_iconst (v := 1) hx hb dL_law_164 (by decide) ?_
        refine lv_iadd hx hb dL_law_165 ?_
        refine fr_top (show ((nI i + 1) : Int32) = nI (i + 1) from nI_add i 1) ?_
        refine fr_sld hx hb hX hbl hbA hS (show i + 1 < L by omega) (by omega) dL_law_166 ?_
        refine lv_aload_n hx hb dL_law_167 rfl (lv_at hl 1 rfl) ?_
        refine lv_iload_n hx hb dL_law_168 rfl (lv_at hl 0 rfl) ?_
        refine lv_iconst (v := 2) hx hb dL_law_169 (by decide) ?_
        refine lv_iadd hx hb dL_law_170 ?_
        refine fr_top (show ((nI i + 2) : Int32) = nI (i + 2) from nI_add i 2) ?_
        refine fr_sld hx hb hX hbl hbA hS (show i + 2 < L by omega) (by omega) dL_law_171 ?_
        refine lv_aload_n hx hb dL_law_172 rfl (lv_at hl 1 rfl) ?_
        refine lv_iload_n hx hb dL_law_173 rfl (lv_at hl 0 rfl) ?_
        refine lv_iconst (v := 3) hx hb dL_law_174 (by decide) ?_
        refine lv_iadd hx hb dL_law_175 ?_
        refine fr_top (show ((nI i + 3) : Int32) = nI (i + 3) from nI_add i 3) ?_
        refine fr_sld hx hb hX hbl hbA hS (show i + 3 < L by omega) (by omega) dL_law_176 ?_
        refine lv_aload_n hx hb dL_law_177 rfl (lv_at hl 1 rfl) ?_
        refine lv_iload_n hx hb dL_law_178 rfl (lv_at hl 0 rfl) ?_
        refine lv_iconst (v := 4) hx hb dL_law_179 (by decide) ?_
        refine lv_iadd hx hb dL_law_180 ?_
        refine fr_top (show ((nI i + 4) : Int32) = nI (i + 4) from nI_add i 4) ?_
        refine fr_sld hx hb hX hbl hbA hS (show i + 4 < L by omega) (by omega) dL_law_181 ?_
        refine fr_lawM (sp := fr_sReckon V F (xs (i + 1)) (xs (i + 2)) (xs (i + 3)) (xs (i + 4))) (As := [.int (xs (i + 1)), .int (xs (i + 2)), .int (xs (i + 3)), .int (xs (i + 4))]) hS0 (cM_reckon l D V bd kb row made F hM hV hV1 hinjB (xs (i + 1)) (xs (i + 2)) (xs (i + 3)) (xs (i + 4))) (cw_W_M_reckon hw ⟨Nat.le_of_ble_eq_true rfl, Nat.le_of_ble_eq_true rfl⟩) hK2 hP hP2 hS hbd hdis rfl hl.1 rfl (Nat.le_of_ble_eq_true rfl) dL_law_182 ⟨Nat.le_of_ble_eq_true rfl, Nat.le_of_ble_eq_true rfl⟩ (fun H locs row made hP hP2 hM2 hS => ?_)
        refine lv_icmp_eq (tgt := 582) hx hb dL_law_185 rfl (fun hne => ?_) (fun hne => absurd rfl hne)
        refine lv_iinc (k := 0) (v := nI (i + 5)) hx hb dL_law_582 hl rfl (nI_add i 5) (by decide) rfl (fun ls hl => ?_)
        replace hl : lv_has ls 4 [(3, .int (nI (i + 5))), (0, .ref b), (1, .ref (ad 0)), (2, .ref (bd 0))] := hl
        refine lv_goto (tgt := 28) hx hb dL_law_585 rfl ?_
        exact ih (i + 5) H locs ls mk nm pt ro row made _ (by omega) (by omega) (lv_sub hl [0, 1, 2, 3] rfl) hP hP2 hF2 hM2 hS
      ·
        refine lv_tableIn (tgt := 190) hx hb dL_law_42 (by rw [hji]; decide) (by rw [hji]; decide) (by rw [hji]; rfl) rfl ?_
        refine lv_aload_n hx hb dL_law_190 rfl (lv_at hl 2 rfl) ?_
        refine lv_aload_n hx hb dL_law_191 rfl (lv_at hl 1 rfl) ?_
        refine lv_iload_n hx hb dL_law_192 rfl (lv_at hl 0 rfl) ?_
        refine lv_iconst (v := 1) hx hb dL_law_193 (by decide) ?_
        refine lv_iadd hx hb dL_law_194 ?_
        refine fr_top (show ((nI i + 1) : Int32) = nI (i + 1) from nI_add i 1) ?_
        refine fr_sld hx hb hX hbl hbA hS (show i + 1 < L by omega) (by omega) dL_law_195 ?_
        refine lv_aload_n hx hb dL_law_196 rfl (lv_at hl 1 rfl) ?_
        refine lv_iload_n hx hb dL_law_197 rfl (lv_at hl 0 rfl) ?_
        refine lv_iconst (v := 2) hx hb dL_law_198 (by decide) ?_
        refine lv_iadd hx hb dL_law_199 ?_
        refine fr_top (show ((nI i + 2) : Int32) = nI (i + 2) from nI_add i 2) ?_
        refine fr_sld hx hb hX hbl hbA hS (show i + 2 < L by omega) (by omega) dL_law_200 ?_
        refine fr_lawX (sp := fr_sNot V F (xs (i + 1)) (xs (i + 2))) (As := [.int (xs (i + 1)), .int (xs (i + 2))]) hS0 (cF_not l D V ad ka mk nm pt ro F hF hV hV1 hinj (xs (i + 1)) (xs (i + 2))) (cw_W_F_not hw ⟨Nat.le_of_ble_eq_true rfl, Nat.le_of_ble_eq_true rfl⟩) hK hP hP2 hT hS had hdis rfl hl.1 rfl (Nat.le_of_ble_eq_true rfl) dL_law_201 ⟨Nat.le_of_ble_eq_true rfl, Nat.le_of_ble_eq_true rfl⟩ (fun H locs mk nm pt ro hP hP2 hF2 hS => ?_)
        refine lv_aload_n hx hb dL_law_204 rfl (lv_at hl 3 rfl) ?_
        refine lv_aload_n hx hb dL_law_205 rfl (lv_at hl 1 rfl) ?_
        refine lv_iload_n hx hb dL_law_206 rfl (lv_at hl 0 rfl) ?_
        refine lv_iconst (v := 1) hx hb dL_law_207 (by decide) ?_
        refine lv_iadd hx hb dL_law_208 ?_
        refine fr_top (show ((nI i + 1) : Int32) = nI (i + 1) from nI_add i 1) ?_
        refine fr_sld hx hb hX hbl hbA hS (show i + 1 < L by omega) (by omega) dL_law_209 ?_
        refine lv_aload_n hx hb dL_law_210 rfl (lv_at hl 1 rfl) ?_
        refine lv_iload_n hx hb dL_law_211 rfl (lv_at hl 0 rfl) ?_
        refine lv_iconst (v := 2) hx hb dL_law_212 (by decide) ?_
        refine lv_iadd hx hb dL_law_213 ?_
        refine fr_top (show ((nI i + 2) : Int32) = nI (i + 2) from nI_add i 2) ?_
        refine fr_sld hx hb hX hbl hbA hS (show i + 2 < L by omega) (by omega) dL_law_214 ?_
        refine fr_lawM (sp := fr_sNot V F (xs (i + 1)) (xs (i + 2))) (As := [.int (xs (i + 1)), .int (xs (i + 2))]) hS0 (cM_not l D V bd kb row made F hM hV hV1 hinjB (xs (i + 1)) (xs (i + 2))) (cw_W_M_not hw ⟨Nat.le_of_ble_eq_true rfl, Nat.le_of_ble_eq_true rfl⟩) hK2 hP hP2 hS hbd hdis rfl hl.1 rfl (Nat.le_of_ble_eq_true rfl) dL_law_215 ⟨Nat.le_of_ble_eq_true rfl, Nat.le_of_ble_eq_true rfl⟩ (fun H locs row made hP hP2 hM2 hS => ?_)
        refine lv_icmp_eq (tgt := 582) hx hb dL_law_218 rfl (fun hne => ?_) (fun hne => absurd rfl hne)
        refine lv_iinc (k := 0) (v := nI (i + 5)) hx hb dL_law_582 hl rfl (nI_add i 5) (by decide) rfl (fun ls hl => ?_)
        replace hl : lv_has ls 4 [(3, .int (nI (i + 5))), (0, .ref b), (1, .ref (ad 0)), (2, .ref (bd 0))] := hl
        refine lv_goto (tgt := 28) hx hb dL_law_585 rfl ?_
        exact ih (i + 5) H locs ls mk nm pt ro row made _ (by omega) (by omega) (lv_sub hl [0, 1, 2, 3] rfl) hP hP2 hF2 hM2 hS
      ·
        refine lv_tableIn (tgt := 223) hx hb dL_law_42 (by rw [hji]; decide) (by rw [hji]; decide) (by rw [hji]; rfl) rfl ?_
        rcases Decidable.em (xs (i + 4) = 0) with hz | hz
        ·
          refine lv_aload_n hx hb dL_law_223 rfl (lv_at hl 2 rfl) ?_
          refine lv_aload_n hx hb dL_law_224 rfl (lv_at hl 1 rfl) ?_
          refine lv_iload_n hx hb dL_law_225 rfl (lv_at hl 0 rfl) ?_
          refine lv_iconst (v := 1) hx hb dL_law_226 (by decide) ?_
          refine lv_iadd hx hb dL_law_227 ?_
          refine fr_top (show ((nI i + 1) : Int32) = nI (i + 1) from nI_add i 1) ?_
          refine fr_sld hx hb hX hbl hbA hS (show i + 1 < L by omega) (by omega) dL_law_228 ?_
          refine lv_aload_n hx hb dL_law_229 rfl (lv_at hl 1 rfl) ?_
          refine lv_iload_n hx hb dL_law_230 rfl (lv_at hl 0 rfl) ?_
          refine lv_iconst (v := 2) hx hb dL_law_231 (by decide) ?_
          refine lv_iadd hx hb dL_law_232 ?_
          refine fr_top (show ((nI i + 2) : Int32) = nI (i + 2) from nI_add i 2) ?_
          refine fr_sld hx hb hX hbl hbA hS (show i + 2 < L by omega) (by omega) dL_law_233 ?_
          refine lv_aload_n hx hb dL_law_234 rfl (lv_at hl 1 rfl) ?_
          refine lv_iload_n hx hb dL_law_235 rfl (lv_at hl 0 rfl) ?_
          refine lv_iconst (v := 3) hx hb dL_law_236 (by decide) ?_
          refine lv_iadd hx hb dL_law_237 ?_
          refine fr_top (show ((nI i + 3) : Int32) = nI (i + 3) from nI_add i 3) ?_
          refine fr_sld hx hb hX hbl hbA hS (show i + 3 < L by omega) (by omega) dL_law_238 ?_
          refine lv_aload_n hx hb dL_law_239 rfl (lv_at hl 1 rfl) ?_
          refine lv_iload_n hx hb dL_law_240 rfl (lv_at hl 0 rfl) ?_
          refine lv_iconst (v := 4) hx hb dL_law_241 (by decide) ?_
          refine lv_iadd hx hb dL_law_242 ?_
          refine fr_top (show ((nI i + 4) : Int32) = nI (i + 4) from nI_add i 4) ?_
          refine fr_sld hx hb hX hbl hbA hS (show i + 4 < L by omega) (by omega) dL_law_243 ?_
          refine lv_if_eq (tgt := 251) hx hb dL_law_244 rfl (fun hzz => ?_) (fun hzz => absurd hz hzz)
          refine lv_iconst (v := 0) hx hb dL_law_251 (by decide) ?_
          refine fr_lawX (sp := fr_sWith V F (xs (i + 1)) (xs (i + 2)) (xs (i + 3)) false) (As := [.int (xs (i + 1)), .int (xs (i + 2)), .int (xs (i + 3)), .int (fr_bi false)]) hS0 (cF_with l D V ad ka mk nm pt ro F hF hV hV1 hinj (xs (i + 1)) (xs (i + 2)) (xs (i + 3)) false) (cw_W_F_with hw ⟨Nat.le_of_ble_eq_true rfl, Nat.le_of_ble_eq_true rfl⟩) hK hP hP2 hT hS had hdis rfl hl.1 rfl (Nat.le_of_ble_eq_true rfl) dL_law_252 ⟨Nat.le_of_ble_eq_true rfl, Nat.le_of_ble_eq_true rfl⟩ (fun H locs mk nm pt ro hP hP2 hF2 hS => ?_)
          refine lv_aload_n hx hb dL_law_255 rfl (lv_at hl 3 rfl) ?_
          refine lv_aload_n hx hb dL_law_256 rfl (lv_at hl 1 rfl) ?_
          refine lv_iload_n hx hb dL_law_257 rfl (lv_at hl 0 rfl) ?_
          refine lv_iconst (v := 1) hx hb dL_law_258 (by decide) ?_
          refine lv_iadd hx hb dL_law_259 ?_
          refine fr_top (show ((nI i + 1) : Int32) = nI (i + 1) from nI_add i 1) ?_
          refine fr_sld hx hb hX hbl hbA hS (show i + 1 < L by omega) (by omega) dL_law_260 ?_
          refine lv_aload_n hx hb dL_law_261 rfl (lv_at hl 1 rfl) ?_
          refine lv_iload_n hx hb dL_law_262 rfl (lv_at hl 0 rfl) ?_
          refine lv_iconst (v := 2) hx hb dL_law_263 (by decide) ?_
          refine lv_iadd hx hb dL_law_264 ?_
          refine fr_top (show ((nI i + 2) : Int32) = nI (i + 2) from nI_add i 2) ?_
          refine fr_sld hx hb hX hbl hbA hS (show i + 2 < L by omega) (by omega) dL_law_265 ?_
          refine lv_aload_n hx hb dL_law_266 rfl (lv_at hl 1 rfl) ?_
          refine lv_iload_n hx hb dL_law_267 rfl (lv_at hl 0 rfl) ?_
          refine lv_iconst (v := 3) hx hb dL_law_268 (by decide) ?_
          refine lv_iadd hx hb dL_law_269 ?_
          refine fr_top (show ((nI i + 3) : Int32) = nI (i + 3) from nI_add i 3) ?_
          refine fr_sld hx hb hX hbl hbA hS (show i + 3 < L by omega) (by omega) dL_law_270 ?_
          refine lv_aload_n hx hb dL_law_271 rfl (lv_at hl 1 rfl) ?_
          refine lv_iload_n hx hb dL_law_272 rfl (lv_at hl 0 rfl) ?_
          refine lv_iconst (v := 4) hx hb dL_law_273 (by decide) ?_
          refine lv_iadd hx hb dL_law_274 ?_
          refine fr_top (show ((nI i + 4) : Int32) = nI (i + 4) from nI_add i 4) ?_
          refine fr_sld hx hb hX hbl hbA hS (show i + 4 < L by omega) (by omega) dL_law_275 ?_
          refine lv_if_eq (tgt := 283) hx hb dL_law_276 rfl (fun hzz => ?_) (fun hzz => absurd hz hzz)
          refine lv_iconst (v := 0) hx hb dL_law_283 (by decide) ?_
          refine fr_lawM (sp := fr_sWith V F (xs (i + 1)) (xs (i + 2)) (xs (i + 3)) false) (As := [.int (xs (i + 1)), .int (xs (i + 2)), .int (xs (i + 3)), .int (fr_bi false)]) hS0 (cM_with l D V bd kb row made F hM hV hV1 hinjB (xs (i + 1)) (xs (i + 2)) (xs (i + 3)) false) (cw_W_M_with hw ⟨Nat.le_of_ble_eq_true rfl, Nat.le_of_ble_eq_true rfl⟩) hK2 hP hP2 hS hbd hdis rfl hl.1 rfl (Nat.le_of_ble_eq_true rfl) dL_law_284 ⟨Nat.le_of_ble_eq_true rfl, Nat.le_of_ble_eq_true rfl⟩ (fun H locs row made hP hP2 hM2 hS => ?_)
          refine lv_icmp_eq (tgt := 582) hx hb dL_law_287 rfl (fun hne => ?_) (fun hne => absurd rfl hne)
          refine lv_iinc (k := 0) (v := nI (i + 5)) hx hb dL_law_582 hl rfl (nI_add i 5) (by decide) rfl (fun ls hl => ?_)
          replace hl : lv_has ls 4 [(3, .int (nI (i + 5))), (0, .ref b), (1, .ref (ad 0)), (2, .ref (bd 0))] := hl
          refine lv_goto (tgt := 28) hx hb dL_law_585 rfl ?_
          exact ih (i + 5) H locs ls mk nm pt ro row made _ (by omega) (by omega) (lv_sub hl [0, 1, 2, 3] rfl) hP hP2 hF2 hM2 hS
        ·
          refine lv_aload_n hx hb dL_law_223 rfl (lv_at hl 2 rfl) ?_
          refine lv_aload_n hx hb dL_law_224 rfl (lv_at hl 1 rfl) ?_
          refine lv_iload_n hx hb dL_law_225 rfl (lv_at hl 0 rfl) ?_
          refine lv_iconst (v := 1) hx hb dL_law_226 (by decide) ?_
          refine lv_iadd hx hb dL_law_227 ?_
          refine fr_top (show ((nI i + 1) : Int32) = nI (i + 1) from nI_add i 1) ?_
          refine fr_sld hx hb hX hbl hbA hS (show i + 1 < L by omega) (by omega) dL_law_228 ?_
          refine lv_aload_n hx hb dL_law_229 rfl (lv_at hl 1 rfl) ?_
          refine lv_iload_n hx hb dL_law_230 rfl (lv_at hl 0 rfl) ?_
          refine lv_iconst (v := 2) hx hb dL_law_231 (by decide) ?_
          refine lv_iadd hx hb dL_law_232 ?_
          refine fr_top (show ((nI i + 2) : Int32) = nI (i + 2) from nI_add i 2) ?_
          refine fr_sld hx hb hX hbl hbA hS (show i + 2 < L by omega) (by omega) dL_law_233 ?_
          refine lv_aload_n hx hb dL_law_234 rfl (lv_at hl 1 rfl) ?_
          refine lv_iload_n hx hb dL_law_235 rfl (lv_at hl 0 rfl) ?_
          refine lv_iconst (v := 3) hx hb dL_law_236 (by decide) ?_
          refine lv_iadd hx hb dL_law_237 ?_
          refine fr_top (show ((nI i + 3) : Int32) = nI (i + 3) from nI_add i 3) ?_
          refine fr_sld hx hb hX hbl hbA hS (show i + 3 < L by omega) (by omega) dL_law_238 ?_
          refine lv_aload_n hx hb dL_law_239 rfl (lv_at hl 1 rfl) ?_
          refine lv_iload_n hx hb dL_law_240 rfl (lv_at hl 0 rfl) ?_
          refine lv_iconst (v := 4) hx hb dL_law_241 (by decide) ?_
          refine lv_iadd hx hb dL_law_242 ?_
          refine fr_top (show ((nI i + 4) : Int32) = nI (i + 4) from nI_add i 4) ?_
          refine fr_sld hx hb hX hbl hbA hS (show i + 4 < L by omega) (by omega) dL_law_243 ?_
          refine lv_if_eq (tgt := 251) hx hb dL_law_244 rfl (fun hzz => absurd hzz hz) (fun hzz => ?_)
          refine lv_iconst (v := 1) hx hb dL_law_247 (by decide) ?_
          refine lv_goto (tgt := 252) hx hb dL_law_248 rfl ?_
          refine fr_lawX (sp := fr_sWith V F (xs (i + 1)) (xs (i + 2)) (xs (i + 3)) true) (As := [.int (xs (i + 1)), .int (xs (i + 2)), .int (xs (i + 3)), .int (fr_bi true)]) hS0 (cF_with l D V ad ka mk nm pt ro F hF hV hV1 hinj (xs (i + 1)) (xs (i + 2)) (xs (i + 3)) true) (cw_W_F_with hw ⟨Nat.le_of_ble_eq_true rfl, Nat.le_of_ble_eq_true rfl⟩) hK hP hP2 hT hS had hdis rfl hl.1 rfl (Nat.le_of_ble_eq_true rfl) dL_law_252 ⟨Nat.le_of_ble_eq_true rfl, Nat.le_of_ble_eq_true rfl⟩ (fun H locs mk nm pt ro hP hP2 hF2 hS => ?_)
          refine lv_aload_n hx hb dL_law_255 rfl (lv_at hl 3 rfl) ?_
          refine lv_aload_n hx hb dL_law_256 rfl (lv_at hl 1 rfl) ?_
          refine lv_iload_n hx hb dL_law_257 rfl (lv_at hl 0 rfl) ?_
          refine lv_iconst (v := 1) hx hb dL_law_258 (by decide) ?_
          refine lv_iadd hx hb dL_law_259 ?_
          refine fr_top (show ((nI i + 1) : Int32) = nI (i + 1) from nI_add i 1) ?_
          refine fr_sld hx hb hX hbl hbA hS (show i + 1 < L by omega) (by omega) dL_law_260 ?_
          refine lv_aload_n hx hb dL_law_261 rfl (lv_at hl 1 rfl) ?_
          refine lv_iload_n hx hb dL_law_262 rfl (lv_at hl 0 rfl) ?_
          refine lv_iconst (v := 2) hx hb dL_law_263 (by decide) ?_
          refine lv_iadd hx hb dL_law_264 ?_
          refine fr_top (show ((nI i + 2) : Int32) = nI (i + 2) from nI_add i 2) ?_
          refine fr_sld hx hb hX hbl hbA hS (show i + 2 < L by omega) (by omega) dL_law_265 ?_
          refine lv_aload_n hx hb dL_law_266 rfl (lv_at hl 1 rfl) ?_
          refine lv_iload_n hx hb dL_law_267 rfl (lv_at hl 0 rfl) ?_
          refine lv_iconst (v := 3) hx hb dL_law_268 (by decide) ?_
          refine lv_iadd hx hb dL_law_269 ?_
          refine fr_top (show ((nI i + 3) : Int32) = nI (i + 3) from nI_add i 3) ?_
          refine fr_sld hx hb hX hbl hbA hS (show i + 3 < L by omega) (by omega) dL_law_270 ?_
          refine lv_aload_n hx hb dL_law_271 rfl (lv_at hl 1 rfl) ?_
          refine lv_iload_n hx hb dL_law_272 rfl (lv_at hl 0 rfl) ?_
          refine lv_iconst (v := 4) hx hb dL_law_273 (by decide) ?_
          refine lv_iadd hx hb dL_law_274 ?_
          refine fr_top (show ((nI i + 4) : Int32) = nI (i + 4) from nI_add i 4) ?_
          refine fr_sld hx hb hX hbl hbA hS (show i + 4 < L by omega) (by omega) dL_law_275 ?_
          refine lv_if_eq (tgt := 283) hx hb dL_law_276 rfl (fun hzz => absurd hzz hz) (fun hzz => ?_)
          refine lv_iconst (v := 1) hx hb dL_law_279 (by decide) ?_
          refine lv_goto (tgt := 284) hx hb dL_law_280 rfl ?_
          refine fr_lawM (sp := fr_sWith V F (xs (i + 1)) (xs (i + 2)) (xs (i + 3)) true) (As := [.int (xs (i + 1)), .int (xs (i + 2)), .int (xs (i + 3)), .int (fr_bi true)]) hS0 (cM_with l D V bd kb row made F hM hV hV1 hinjB (xs (i + 1)) (xs (i + 2)) (xs (i + 3)) true) (cw_W_M_with hw ⟨Nat.le_of_ble_eq_true rfl, Nat.le_of_ble_eq_true rfl⟩) hK2 hP hP2 hS hbd hdis rfl hl.1 rfl (Nat.le_of_ble_eq_true rfl) dL_law_284 ⟨Nat.le_of_ble_eq_true rfl, Nat.le_of_ble_eq_true rfl⟩ (fun H locs row made hP hP2 hM2 hS => ?_)
          refine lv_icmp_eq (tgt := 582) hx hb dL_law_287 rfl (fun hne => ?_) (fun hne => absurd rfl hne)
          refine lv_iinc (k := 0) (v := nI (i + 5)) hx hb dL_law_582 hl rfl (nI_add i 5) (by decide) rfl (fun ls hl => ?_)
          replace hl : lv_has ls 4 [(3, .int (nI (i + 5))), (0, .ref b), (1, .ref (ad 0)), (2, .ref (bd 0))] := hl
          refine lv_goto (tgt := 28) hx hb dL_law_585 rfl ?_
          exact ih (i + 5) H locs ls mk nm pt ro row made _ (by omega) (by omega) (lv_sub hl [0, 1, 2, 3] rfl) hP hP2 hF2 hM2 hS
      ·
        refine lv_tableIn (tgt := 292) hx hb dL_law_42 (by rw [hji]; decide) (by rw [hji]; decide) (by rw [hji]; rfl) rfl ?_
        rcases Decidable.em (xs (i + 4) = 0) with hz | hz
        ·
          refine lv_aload_n hx hb dL_law_292 rfl (lv_at hl 2 rfl) ?_
          refine lv_aload_n hx hb dL_law_293 rfl (lv_at hl 1 rfl) ?_
          refine lv_iload_n hx hb dL_law_294 rfl (lv_at hl 0 rfl) ?_
          refine lv_iconst (v := 1) hx hb dL_law_295 (by decide) ?_
          refine lv_iadd hx hb dL_law_296 ?_
          refine fr_top (show ((nI i + 1) : Int32) = nI (i + 1) from nI_add i 1) ?_
          refine fr_sld hx hb hX hbl hbA hS (show i + 1 < L by omega) (by omega) dL_law_297 ?_
          refine lv_aload_n hx hb dL_law_298 rfl (lv_at hl 1 rfl) ?_
          refine lv_iload_n hx hb dL_law_299 rfl (lv_at hl 0 rfl) ?_
          refine lv_iconst (v := 2) hx hb dL_law_300 (by decide) ?_
          refine lv_iadd hx hb dL_law_301 ?_
          refine fr_top (show ((nI i + 2) : Int32) = nI (i + 2) from nI_add i 2) ?_
          refine fr_sld hx hb hX hbl hbA hS (show i + 2 < L by omega) (by omega) dL_law_302 ?_
          refine lv_aload_n hx hb dL_law_303 rfl (lv_at hl 1 rfl) ?_
          refine lv_iload_n hx hb dL_law_304 rfl (lv_at hl 0 rfl) ?_
          refine lv_iconst (v := 3) hx hb dL_law_305 (by decide) ?_
          refine lv_iadd hx hb dL_law_306 ?_
          refine fr_top (show ((nI i + 3) : Int32) = nI (i + 3) from nI_add i 3) ?_
          refine fr_sld hx hb hX hbl hbA hS (show i + 3 < L by omega) (by omega) dL_law_307 ?_
          refine lv_aload_n hx hb dL_law_308 rfl (lv_at hl 1 rfl) ?_
          refine lv_iload_n hx hb dL_law_309 rfl (lv_at hl 0 rfl) ?_
          refine lv_iconst (v := 4) hx hb dL_law_310 (by decide) ?_
          refine lv_iadd hx hb dL_law_311 ?_
          refine fr_top (show ((nI i + 4) : Int32) = nI (i + 4) from nI_add i 4) ?_
          refine fr_sld hx hb hX hbl hbA hS (show i + 4 < L by omega) (by omega) dL_law_312 ?_
          refine lv_if_eq (tgt := 320) hx hb dL_law_313 rfl (fun hzz => ?_) (fun hzz => absurd hz hzz)
          refine lv_iconst (v := 0) hx hb dL_law_320 (by decide) ?_
          refine fr_lawX (sp := fr_sBind V F (xs (i + 1)) (xs (i + 2)) (xs (i + 3)) false) (As := [.int (xs (i + 1)), .int (xs (i + 2)), .int (xs (i + 3)), .int (fr_bi false)]) hS0 (cF_bind l D V ad ka mk nm pt ro F hF hV hV1 hinj (xs (i + 1)) (xs (i + 2)) (xs (i + 3)) false) (cw_W_F_bind hw ⟨Nat.le_of_ble_eq_true rfl, Nat.le_of_ble_eq_true rfl⟩) hK hP hP2 hT hS had hdis rfl hl.1 rfl (Nat.le_of_ble_eq_true rfl) dL_law_321 ⟨Nat.le_of_ble_eq_true rfl, Nat.le_of_ble_eq_true rfl⟩ (fun H locs mk nm pt ro hP hP2 hF2 hS => ?_)
          refine lv_aload_n hx hb dL_law_324 rfl (lv_at hl 3 rfl) ?_
          refine lv_aload_n hx hb dL_law_325 rfl (lv_at hl 1 rfl) ?_
          refine lv_iload_n hx hb dL_law_326 rfl (lv_at hl 0 rfl) ?_
          refine lv_iconst (v := 1) hx hb dL_law_327 (by decide) ?_
          refine lv_iadd hx hb dL_law_328 ?_
          refine fr_top (show ((nI i + 1) : Int32) = nI (i + 1) from nI_add i 1) ?_
          refine fr_sld hx hb hX hbl hbA hS (show i + 1 < L by omega) (by omega) dL_law_329 ?_
          refine lv_aload_n hx hb dL_law_330 rfl (lv_at hl 1 rfl) ?_
          refine lv_iload_n hx hb dL_law_331 rfl (lv_at hl 0 rfl) ?_
          refine lv_iconst (v := 2) hx hb dL_law_332 (by decide) ?_
          refine lv_iadd hx hb dL_law_333 ?_
          refine fr_top (show ((nI i + 2) : Int32) = nI (i + 2) from nI_add i 2) ?_
          refine fr_sld hx hb hX hbl hbA hS (show i + 2 < L by omega) (by omega) dL_law_334 ?_
          refine lv_aload_n hx hb dL_law_335 rfl (lv_at hl 1 rfl) ?_
          refine lv_iload_n hx hb dL_law_336 rfl (lv_at hl 0 rfl) ?_
          refine lv_iconst (v := 3) hx hb dL_law_337 (by decide) ?_
          refine lv_iadd hx hb dL_law_338 ?_
          refine fr_top (show ((nI i + 3) : Int32) = nI (i + 3) from nI_add i 3) ?_
          refine fr_sld hx hb hX hbl hbA hS (show i + 3 < L by omega) (by omega) dL_law_339 ?_
          refine lv_aload_n hx hb dL_law_340 rfl (lv_at hl 1 rfl) ?_
          refine lv_iload_n hx hb dL_law_341 rfl (lv_at hl 0 rfl) ?_
          refine lv_iconst (v := 4) hx hb dL_law_342 (by decide) ?_
          refine lv_iadd hx hb dL_law_343 ?_
          refine fr_top (show ((nI i + 4) : Int32) = nI (i + 4) from nI_add i 4) ?_
          refine fr_sld hx hb hX hbl hbA hS (show i + 4 < L by omega) (by omega) dL_law_344 ?_
          refine lv_if_eq (tgt := 352) hx hb dL_law_345 rfl (fun hzz => ?_) (fun hzz => absurd hz hzz)
          refine lv_iconst (v := 0) hx hb dL_law_352 (by decide) ?_
          refine fr_lawM (sp := fr_sBind V F (xs (i + 1)) (xs (i + 2)) (xs (i + 3)) false) (As := [.int (xs (i + 1)), .int (xs (i + 2)), .int (xs (i + 3)), .int (fr_bi false)]) hS0 (cM_bind l D V bd kb row made F hM hV hV1 hinjB (xs (i + 1)) (xs (i + 2)) (xs (i + 3)) false) (cw_W_M_bind hw ⟨Nat.le_of_ble_eq_true rfl, Nat.le_of_ble_eq_true rfl⟩) hK2 hP hP2 hS hbd hdis rfl hl.1 rfl (Nat.le_of_ble_eq_true rfl) dL_law_353 ⟨Nat.le_of_ble_eq_true rfl, Nat.le_of_ble_eq_true rfl⟩ (fun H locs row made hP hP2 hM2 hS => ?_)
          refine lv_icmp_eq (tgt := 582) hx hb dL_law_356 rfl (fun hne => ?_) (fun hne => absurd rfl hne)
          refine lv_iinc (k := 0) (v := nI (i + 5)) hx hb dL_law_582 hl rfl (nI_add i 5) (by decide) rfl (fun ls hl => ?_)
          replace hl : lv_has ls 4 [(3, .int (nI (i + 5))), (0, .ref b), (1, .ref (ad 0)), (2, .ref (bd 0))] := hl
          refine lv_goto (tgt := 28) hx hb dL_law_585 rfl ?_
          exact ih (i + 5) H locs ls mk nm pt ro row made _ (by omega) (by omega) (lv_sub hl [0, 1, 2, 3] rfl) hP hP2 hF2 hM2 hS
        ·
          refine lv_aload_n hx hb dL_law_292 rfl (lv_at hl 2 rfl) ?_
          refine lv_aload_n hx hb dL_law_293 rfl (lv_at hl 1 rfl) ?_
          refine lv_iload_n hx hb dL_law_294 rfl (lv_at hl 0 rfl) ?_
          refine lv_iconst (v := 1) hx hb dL_law_295 (by decide) ?_
          refine lv_iadd hx hb dL_law_296 ?_
          refine fr_top (show ((nI i + 1) : Int32) = nI (i + 1) from nI_add i 1) ?_
          refine fr_sld hx hb hX hbl hbA hS (show i + 1 < L by omega) (by omega) dL_law_297 ?_
          refine lv_aload_n hx hb dL_law_298 rfl (lv_at hl 1 rfl) ?_
          refine lv_iload_n hx hb dL_law_299 rfl (lv_at hl 0 rfl) ?_
          refine lv_iconst (v := 2) hx hb dL_law_300 (by decide) ?_
          refine lv_iadd hx hb dL_law_301 ?_
          refine fr_top (show ((nI i + 2) : Int32) = nI (i + 2) from nI_add i 2) ?_
          refine fr_sld hx hb hX hbl hbA hS (show i + 2 < L by omega) (by omega) dL_law_302 ?_
          refine lv_aload_n hx hb dL_law_303 rfl (lv_at hl 1 rfl) ?_
          refine lv_iload_n hx hb dL_law_304 rfl (lv_at hl 0 rfl) ?_
          refine lv_iconst (v := 3) hx hb dL_law_305 (by decide) ?_
          refine lv_iadd hx hb dL_law_306 ?_
          refine fr_top (show ((nI i + 3) : Int32) = nI (i + 3) from nI_add i 3) ?_
          refine fr_sld hx hb hX hbl hbA hS (show i + 3 < L by omega) (by omega) dL_law_307 ?_
          refine lv_aload_n hx hb dL_law_308 rfl (lv_at hl 1 rfl) ?_
          refine lv_iload_n hx hb dL_law_309 rfl (lv_at hl 0 rfl) ?_
          refine lv_iconst (v := 4) hx hb dL_law_310 (by decide) ?_
          refine lv_iadd hx hb dL_law_311 ?_
          refine fr_top (show ((nI i + 4) : Int32) = nI (i + 4) from nI_add i 4) ?_
          refine fr_sld hx hb hX hbl hbA hS (show i + 4 < L by omega) (by omega) dL_law_312 ?_
          refine lv_if_eq (tgt := 320) hx hb dL_law_313 rfl (fun hzz => absurd hzz hz) (fun hzz => ?_)
          refine lv_iconst (v := 1) hx hb dL_law_316 (by decide) ?_
          refine lv_goto (tgt := 321) hx hb dL_law_317 rfl ?_
          refine fr_lawX (sp := fr_sBind V F (xs (i + 1)) (xs (i + 2)) (xs (i + 3)) true) (As := [.int (xs (i + 1)), .int (xs (i + 2)), .int (xs (i + 3)), .int (fr_bi true)]) hS0 (cF_bind l D V ad ka mk nm pt ro F hF hV hV1 hinj (xs (i + 1)) (xs (i + 2)) (xs (i + 3)) true) (cw_W_F_bind hw ⟨Nat.le_of_ble_eq_true rfl, Nat.le_of_ble_eq_true rfl⟩) hK hP hP2 hT hS had hdis rfl hl.1 rfl (Nat.le_of_ble_eq_true rfl) dL_law_321 ⟨Nat.le_of_ble_eq_true rfl, Nat.le_of_ble_eq_true rfl⟩ (fun H locs mk nm pt ro hP hP2 hF2 hS => ?_)
          refine lv_aload_n hx hb dL_law_324 rfl (lv_at hl 3 rfl) ?_
          refine lv_aload_n hx hb dL_law_325 rfl (lv_at hl 1 rfl) ?_
          refine lv_iload_n hx hb dL_law_326 rfl (lv_at hl 0 rfl) ?_
          refine lv_iconst (v := 1) hx hb dL_law_327 (by decide) ?_
          refine lv_iadd hx hb dL_law_328 ?_
          refine fr_top (show ((nI i + 1) : Int32) = nI (i + 1) from nI_add i 1) ?_
          refine fr_sld hx hb hX hbl hbA hS (show i + 1 < L by omega) (by omega) dL_law_329 ?_
          refine lv_aload_n hx hb dL_law_330 rfl (lv_at hl 1 rfl) ?_
          refine lv_iload_n hx hb dL_law_331 rfl (lv_at hl 0 rfl) ?_
          refine lv_iconst (v := 2) hx hb dL_law_332 (by decide) ?_
          refine lv_iadd hx hb dL_law_333 ?_
          refine fr_top (show ((nI i + 2) : Int32) = nI (i + 2) from nI_add i 2) ?_
          refine fr_sld hx hb hX hbl hbA hS (show i + 2 < L by omega) (by omega) dL_law_334 ?_
          refine lv_aload_n hx hb dL_law_335 rfl (lv_at hl 1 rfl) ?_
          refine lv_iload_n hx hb dL_law_336 rfl (lv_at hl 0 rfl) ?_
          refine lv_iconst (v := 3) hx hb dL_law_337 (by decide) ?_
          refine lv_iadd hx hb dL_law_338 ?_
          refine fr_top (show ((nI i + 3) : Int32) = nI (i + 3) from nI_add i 3) ?_
          refine fr_sld hx hb hX hbl hbA hS (show i + 3 < L by omega) (by omega) dL_law_339 ?_
          refine lv_aload_n hx hb dL_law_340 rfl (lv_at hl 1 rfl) ?_
          refine lv_iload_n hx hb dL_law_341 rfl (lv_at hl 0 rfl) ?_
          refine lv_iconst (v := 4) hx hb dL_law_342 (by decide) ?_
          refine lv_iadd hx hb dL_law_343 ?_
          refine fr_top (show ((nI i + 4) : Int32) = nI (i + 4) from nI_add i 4) ?_
          refine fr_sld hx hb hX hbl hbA hS (show i + 4 < L by omega) (by omega) dL_law_344 ?_
          refine lv_if_eq (tgt := 352) hx hb dL_law_345 rfl (fun hzz => absurd hzz hz) (fun hzz => ?_)
          refine lv_iconst (v := 1) hx hb dL_law_348 (by decide) ?_
          refine lv_goto (tgt := 353) hx hb dL_law_349 rfl ?_
          refine fr_lawM (sp := fr_sBind V F (xs (i + 1)) (xs (i + 2)) (xs (i + 3)) true) (As := [.int (xs (i + 1)), .int (xs (i + 2)), .int (xs (i + 3)), .int (fr_bi true)]) hS0 (cM_bind l D V bd kb row made F hM hV hV1 hinjB (xs (i + 1)) (xs (i + 2)) (xs (i + 3)) true) (cw_W_M_bind hw ⟨Nat.le_of_ble_eq_true rfl, Nat.le_of_ble_eq_true rfl⟩) hK2 hP hP2 hS hbd hdis rfl hl.1 rfl (Nat.le_of_ble_eq_true rfl) dL_law_353 ⟨Nat.le_of_ble_eq_true rfl, Nat.le_of_ble_eq_true rfl⟩ (fun H locs row made hP hP2 hM2 hS => ?_)
          refine lv_icmp_eq (tgt := 582) hx hb dL_law_356 rfl (fun hne => ?_) (fun hne => absurd rfl hne)
          refine lv_iinc (k := 0) (v := nI (i + 5)) hx hb dL_law_582 hl rfl (nI_add i 5) (by decide) rfl (fun ls hl => ?_)
          replace hl : lv_has ls 4 [(3, .int (nI (i + 5))), (0, .ref b), (1, .ref (ad 0)), (2, .ref (bd 0))] := hl
          refine lv_goto (tgt := 28) hx hb dL_law_585 rfl ?_
          exact ih (i + 5) H locs ls mk nm pt ro row made _ (by omega) (by omega) (lv_sub hl [0, 1, 2, 3] rfl) hP hP2 hF2 hM2 hS
      ·
        refine lv_tableIn (tgt := 361) hx hb dL_law_42 (by rw [hji]; decide) (by rw [hji]; decide) (by rw [hji]; rfl) rfl ?_
        refine lv_aload_n hx hb dL_law_361 rfl (lv_at hl 2 rfl) ?_
        refine lv_aload_n hx hb dL_law_362 rfl (lv_at hl 1 rfl) ?_
        refine lv_iload_n hx hb dL_law_363 rfl (lv_at hl 0 rfl) ?_
        refine lv_iconst (v := 1) hx hb dL_law_364 (by decide) ?_
        refine lv_iadd hx hb dL_law_365 ?_
        refine fr_top (show ((nI i + 1) : Int32) = nI (i + 1) from nI_add i 1) ?_
        refine fr_sld hx hb hX hbl hbA hS (show i + 1 < L by omega) (by omega) dL_law_366 ?_
        refine lv_aload_n hx hb dL_law_367 rfl (lv_at hl 1 rfl) ?_
        refine lv_iload_n hx hb dL_law_368 rfl (lv_at hl 0 rfl) ?_
        refine lv_iconst (v := 2) hx hb dL_law_369 (by decide) ?_
        refine lv_iadd hx hb dL_law_370 ?_
        refine fr_top (show ((nI i + 2) : Int32) = nI (i + 2) from nI_add i 2) ?_
        refine fr_sld hx hb hX hbl hbA hS (show i + 2 < L by omega) (by omega) dL_law_371 ?_
        refine lv_aload_n hx hb dL_law_372 rfl (lv_at hl 1 rfl) ?_
        refine lv_iload_n hx hb dL_law_373 rfl (lv_at hl 0 rfl) ?_
        refine lv_iconst (v := 3) hx hb dL_law_374 (by decide) ?_
        refine lv_iadd hx hb dL_law_375 ?_
        refine fr_top (show ((nI i + 3) : Int32) = nI (i + 3) from nI_add i 3) ?_
        refine fr_sld hx hb hX hbl hbA hS (show i + 3 < L by omega) (by omega) dL_law_376 ?_
        refine lv_aload_n hx hb dL_law_377 rfl (lv_at hl 1 rfl) ?_
        refine lv_iload_n hx hb dL_law_378 rfl (lv_at hl 0 rfl) ?_
        refine lv_iconst (v := 4) hx hb dL_law_379 (by decide) ?_
        refine lv_iadd hx hb dL_law_380 ?_
        refine fr_top (show ((nI i + 4) : Int32) = nI (i + 4) from nI_add i 4) ?_
        refine fr_sld hx hb hX hbl hbA hS (show i + 4 < L by omega) (by omega) dL_law_381 ?_
        refine fr_lawX (sp := fr_sPut V F (xs (i + 1)) (xs (i + 2)) (xs (i + 3)) (xs (i + 4))) (As := [.int (xs (i + 1)), .int (xs (i + 2)), .int (xs (i + 3)), .int (xs (i + 4))]) hS0 (cF_put l D V ad ka mk nm pt ro F hF hV hV1 hinj (xs (i + 1)) (xs (i + 2)) (xs (i + 3)) (xs (i + 4))) (cw_W_F_put hw ⟨Nat.le_of_ble_eq_true rfl, Nat.le_of_ble_eq_true rfl⟩) hK hP hP2 hT hS had hdis rfl hl.1 rfl (Nat.le_of_ble_eq_true rfl) dL_law_382 ⟨Nat.le_of_ble_eq_true rfl, Nat.le_of_ble_eq_true rfl⟩ (fun H locs mk nm pt ro hP hP2 hF2 hS => ?_)
        refine lv_aload_n hx hb dL_law_385 rfl (lv_at hl 3 rfl) ?_
        refine lv_aload_n hx hb dL_law_386 rfl (lv_at hl 1 rfl) ?_
        refine lv_iload_n hx hb dL_law_387 rfl (lv_at hl 0 rfl) ?_
        refine lv_iconst (v := 1) hx hb dL_law_388 (by decide) ?_
        refine lv_iadd hx hb dL_law_389 ?_
        refine fr_top (show ((nI i + 1) : Int32) = nI (i + 1) from nI_add i 1) ?_
        refine fr_sld hx hb hX hbl hbA hS (show i + 1 < L by omega) (by omega) dL_law_390 ?_
        refine lv_aload_n hx hb dL_law_391 rfl (lv_at hl 1 rfl) ?_
        refine lv_iload_n hx hb dL_law_392 rfl (lv_at hl 0 rfl) ?_
        refine lv_iconst (v := 2) hx hb dL_law_393 (by decide) ?_
        refine lv_iadd hx hb dL_law_394 ?_
        refine fr_top (show ((nI i + 2) : Int32) = nI (i + 2) from nI_add i 2) ?_
        refine fr_sld hx hb hX hbl hbA hS (show i + 2 < L by omega) (by omega) dL_law_395 ?_
        refine lv_aload_n hx hb dL_law_396 rfl (lv_at hl 1 rfl) ?_
        refine lv_iload_n hx hb dL_law_397 rfl (lv_at hl 0 rfl) ?_
        refine lv_iconst (v := 3) hx hb dL_law_398 (by decide) ?_
        refine lv_iadd hx hb dL_law_399 ?_
        refine fr_top (show ((nI i + 3) : Int32) = nI (i + 3) from nI_add i 3) ?_
        refine fr_sld hx hb hX hbl hbA hS (show i + 3 < L by omega) (by omega) dL_law_400 ?_
        refine lv_aload_n hx hb dL_law_401 rfl (lv_at hl 1 rfl) ?_
        refine lv_iload_n hx hb dL_law_402 rfl (lv_at hl 0 rfl) ?_
        refine lv_iconst (v := 4) hx hb dL_law_403 (by decide) ?_
        refine lv_iadd hx hb dL_law_404 ?_
        refine fr_top (show ((nI i + 4) : Int32) = nI (i + 4) from nI_add i 4) ?_
        refine fr_sld hx hb hX hbl hbA hS (show i + 4 < L by omega) (by omega) dL_law_405 ?_
        refine fr_lawM (sp := fr_sPut V F (xs (i + 1)) (xs (i + 2)) (xs (i + 3)) (xs (i + 4))) (As := [.int (xs (i + 1)), .int (xs (i + 2)), .int (xs (i + 3)), .int (xs (i + 4))]) hS0 (cM_put l D V bd kb row made F hM hV hV1 hinjB (xs (i + 1)) (xs (i + 2)) (xs (i + 3)) (xs (i + 4))) (cw_W_M_put hw ⟨Nat.le_of_ble_eq_true rfl, Nat.le_of_ble_eq_true rfl⟩) hK2 hP hP2 hS hbd hdis rfl hl.1 rfl (Nat.le_of_ble_eq_true rfl) dL_law_406 ⟨Nat.le_of_ble_eq_true rfl, Nat.le_of_ble_eq_true rfl⟩ (fun H locs row made hP hP2 hM2 hS => ?_)
        refine lv_icmp_eq (tgt := 582) hx hb dL_law_409 rfl (fun hne => ?_) (fun hne => absurd rfl hne)
        refine lv_iinc (k := 0) (v := nI (i + 5)) hx hb dL_law_582 hl rfl (nI_add i 5) (by decide) rfl (fun ls hl => ?_)
        replace hl : lv_has ls 4 [(3, .int (nI (i + 5))), (0, .ref b), (1, .ref (ad 0)), (2, .ref (bd 0))] := hl
        refine lv_goto (tgt := 28) hx hb dL_law_585 rfl ?_
        exact ih (i + 5) H locs ls mk nm pt ro row made _ (by omega) (by omega) (lv_sub hl [0, 1, 2, 3] rfl) hP hP2 hF2 hM2 hS
      ·
        refine lv_tableIn (tgt := 414) hx hb dL_law_42 (by rw [hji]; decide) (by rw [hji]; decide) (by rw [hji]; rfl) rfl ?_
        refine lv_aload_n hx hb dL_law_414 rfl (lv_at hl 2 rfl) ?_
        refine lv_aload_n hx hb dL_law_415 rfl (lv_at hl 1 rfl) ?_
        refine lv_iload_n hx hb dL_law_416 rfl (lv_at hl 0 rfl) ?_
        refine lv_iconst (v := 1) hx hb dL_law_417 (by decide) ?_
        refine lv_iadd hx hb dL_law_418 ?_
        refine fr_top (show ((nI i + 1) : Int32) = nI (i + 1) from nI_add i 1) ?_
        refine fr_sld hx hb hX hbl hbA hS (show i + 1 < L by omega) (by omega) dL_law_419 ?_
        refine fr_lawXr (v := fr_sMany V F (xs (i + 1))) (As := [.int (xs (i + 1))]) hS0 (cF_many l D V ad ka mk nm pt ro F hF hV hV1 hinj (xs (i + 1))) (cw_W_F_many hw ⟨Nat.le_of_ble_eq_true rfl, Nat.le_of_ble_eq_true rfl⟩) hK hP hT hS had rfl hl.1 rfl (Nat.le_of_ble_eq_true rfl) dL_law_420 ⟨Nat.le_of_ble_eq_true rfl, Nat.le_of_ble_eq_true rfl⟩ ?_
        refine lv_aload_n hx hb dL_law_423 rfl (lv_at hl 3 rfl) ?_
        refine lv_aload_n hx hb dL_law_424 rfl (lv_at hl 1 rfl) ?_
        refine lv_iload_n hx hb dL_law_425 rfl (lv_at hl 0 rfl) ?_
        refine lv_iconst (v := 1) hx hb dL_law_426 (by decide) ?_
        refine lv_iadd hx hb dL_law_427 ?_
        refine fr_top (show ((nI i + 1) : Int32) = nI (i + 1) from nI_add i 1) ?_
        refine fr_sld hx hb hX hbl hbA hS (show i + 1 < L by omega) (by omega) dL_law_428 ?_
        refine fr_lawMr (v := fr_sMany V F (xs (i + 1))) (As := [.int (xs (i + 1))]) hS0 (cM_many l D V bd kb row made F hM hV hV1 hinjB (xs (i + 1))) (cw_W_M_many hw ⟨Nat.le_of_ble_eq_true rfl, Nat.le_of_ble_eq_true rfl⟩) hK2 hP2 rfl hl.1 rfl (Nat.le_of_ble_eq_true rfl) dL_law_429 ⟨Nat.le_of_ble_eq_true rfl, Nat.le_of_ble_eq_true rfl⟩ ?_
        refine lv_icmp_eq (tgt := 582) hx hb dL_law_432 rfl (fun hne => ?_) (fun hne => absurd rfl hne)
        refine lv_iinc (k := 0) (v := nI (i + 5)) hx hb dL_law_582 hl rfl (nI_add i 5) (by decide) rfl (fun ls hl => ?_)
        replace hl : lv_has ls 4 [(3, .int (nI (i + 5))), (0, .ref b), (1, .ref (ad 0)), (2, .ref (bd 0))] := hl
        refine lv_goto (tgt := 28) hx hb dL_law_585 rfl ?_
        exact ih (i + 5) H locs ls mk nm pt ro row made F (by omega) (by omega) (lv_sub hl [0, 1, 2, 3] rfl) hP hP2 hF hM hS
      ·
        refine lv_tableIn (tgt := 437) hx hb dL_law_42 (by rw [hji]; decide) (by rw [hji]; decide) (by rw [hji]; rfl) rfl ?_
        refine lv_aload_n hx hb dL_law_437 rfl (lv_at hl 2 rfl) ?_
        refine lv_aload_n hx hb dL_law_438 rfl (lv_at hl 1 rfl) ?_
        refine lv_iload_n hx hb dL_law_439 rfl (lv_at hl 0 rfl) ?_
        refine lv_iconst (v := 1) hx hb dL_law_440 (by decide) ?_
        refine lv_iadd hx hb dL_law_441 ?_
        refine fr_top (show ((nI i + 1) : Int32) = nI (i + 1) from nI_add i 1) ?_
        refine fr_sld hx hb hX hbl hbA hS (show i + 1 < L by omega) (by omega) dL_law_442 ?_
        refine lv_aload_n hx hb dL_law_443 rfl (lv_at hl 1 rfl) ?_
        refine lv_iload_n hx hb dL_law_444 rfl (lv_at hl 0 rfl) ?_
        refine lv_iconst (v := 2) hx hb dL_law_445 (by decide) ?_
        refine lv_iadd hx hb dL_law_446 ?_
        refine fr_top (show ((nI i + 2) : Int32) = nI (i + 2) from nI_add i 2) ?_
        refine fr_sld hx hb hX hbl hbA hS (show i + 2 < L by omega) (by omega) dL_law_447 ?_
        refine fr_lawXr (v := fr_sNth V F (xs (i + 1)) (xs (i + 2))) (As := [.int (xs (i + 1)), .int (xs (i + 2))]) hS0 (cF_nth l D V ad ka mk nm pt ro F hF hV hV1 hinj (xs (i + 1)) (xs (i + 2))) (cw_W_F_nth hw ⟨Nat.le_of_ble_eq_true rfl, Nat.le_of_ble_eq_true rfl⟩) hK hP hT hS had rfl hl.1 rfl (Nat.le_of_ble_eq_true rfl) dL_law_448 ⟨Nat.le_of_ble_eq_true rfl, Nat.le_of_ble_eq_true rfl⟩ ?_
        refine lv_aload_n hx hb dL_law_451 rfl (lv_at hl 3 rfl) ?_
        refine lv_aload_n hx hb dL_law_452 rfl (lv_at hl 1 rfl) ?_
        refine lv_iload_n hx hb dL_law_453 rfl (lv_at hl 0 rfl) ?_
        refine lv_iconst (v := 1) hx hb dL_law_454 (by decide) ?_
        refine lv_iadd hx hb dL_law_455 ?_
        refine fr_top (show ((nI i + 1) : Int32) = nI (i + 1) from nI_add i 1) ?_
        refine fr_sld hx hb hX hbl hbA hS (show i + 1 < L by omega) (by omega) dL_law_456 ?_
        refine lv_aload_n hx hb dL_law_457 rfl (lv_at hl 1 rfl) ?_
        refine lv_iload_n hx hb dL_law_458 rfl (lv_at hl 0 rfl) ?_
        refine lv_iconst (v := 2) hx hb dL_law_459 (by decide) ?_
        refine lv_iadd hx hb dL_law_460 ?_
        refine fr_top (show ((nI i + 2) : Int32) = nI (i + 2) from nI_add i 2) ?_
        refine fr_sld hx hb hX hbl hbA hS (show i + 2 < L by omega) (by omega) dL_law_461 ?_
        refine fr_lawMr (v := fr_sNth V F (xs (i + 1)) (xs (i + 2))) (As := [.int (xs (i + 1)), .int (xs (i + 2))]) hS0 (cM_nth l D V bd kb row made F hM hV hV1 hinjB (xs (i + 1)) (xs (i + 2))) (cw_W_M_nth hw ⟨Nat.le_of_ble_eq_true rfl, Nat.le_of_ble_eq_true rfl⟩) hK2 hP2 rfl hl.1 rfl (Nat.le_of_ble_eq_true rfl) dL_law_462 ⟨Nat.le_of_ble_eq_true rfl, Nat.le_of_ble_eq_true rfl⟩ ?_
        refine lv_icmp_eq (tgt := 582) hx hb dL_law_465 rfl (fun hne => ?_) (fun hne => absurd rfl hne)
        refine lv_iinc (k := 0) (v := nI (i + 5)) hx hb dL_law_582 hl rfl (nI_add i 5) (by decide) rfl (fun ls hl => ?_)
        replace hl : lv_has ls 4 [(3, .int (nI (i + 5))), (0, .ref b), (1, .ref (ad 0)), (2, .ref (bd 0))] := hl
        refine lv_goto (tgt := 28) hx hb dL_law_585 rfl ?_
        exact ih (i + 5) H locs ls mk nm pt ro row made F (by omega) (by omega) (lv_sub hl [0, 1, 2, 3] rfl) hP hP2 hF hM hS
      ·
        refine lv_tableIn (tgt := 470) hx hb dL_law_42 (by rw [hji]; decide) (by rw [hji]; decide) (by rw [hji]; rfl) rfl ?_
        refine lv_aload_n hx hb dL_law_470 rfl (lv_at hl 2 rfl) ?_
        refine lv_aload_n hx hb dL_law_471 rfl (lv_at hl 1 rfl) ?_
        refine lv_iload_n hx hb dL_law_472 rfl (lv_at hl 0 rfl) ?_
        refine lv_iconst (v := 1) hx hb dL_law_473 (by decide) ?_
        refine lv_iadd hx hb dL_law_474 ?_
        refine fr_top (show ((nI i + 1) : Int32) = nI (i + 1) from nI_add i 1) ?_
        refine fr_sld hx hb hX hbl hbA hS (show i + 1 < L by omega) (by omega) dL_law_475 ?_
        refine lv_aload_n hx hb dL_law_476 rfl (lv_at hl 1 rfl) ?_
        refine lv_iload_n hx hb dL_law_477 rfl (lv_at hl 0 rfl) ?_
        refine lv_iconst (v := 2) hx hb dL_law_478 (by decide) ?_
        refine lv_iadd hx hb dL_law_479 ?_
        refine fr_top (show ((nI i + 2) : Int32) = nI (i + 2) from nI_add i 2) ?_
        refine fr_sld hx hb hX hbl hbA hS (show i + 2 < L by omega) (by omega) dL_law_480 ?_
        refine fr_lawXr (v := fr_sValue V F (xs (i + 1)) (xs (i + 2))) (As := [.int (xs (i + 1)), .int (xs (i + 2))]) hS0 (cF_value l D V ad ka mk nm pt ro F hF hV hV1 hinj (xs (i + 1)) (xs (i + 2))) (cw_W_F_value hw ⟨Nat.le_of_ble_eq_true rfl, Nat.le_of_ble_eq_true rfl⟩) hK hP hT hS had rfl hl.1 rfl (Nat.le_of_ble_eq_true rfl) dL_law_481 ⟨Nat.le_of_ble_eq_true rfl, Nat.le_of_ble_eq_true rfl⟩ ?_
        refine lv_aload_n hx hb dL_law_484 rfl (lv_at hl 3 rfl) ?_
        refine lv_aload_n hx hb dL_law_485 rfl (lv_at hl 1 rfl) ?_
        refine lv_iload_n hx hb dL_law_486 rfl (lv_at hl 0 rfl) ?_
        refine lv_iconst (v := 1) hx hb dL_law_487 (by decide) ?_
        refine lv_iadd hx hb dL_law_488 ?_
        refine fr_top (show ((nI i + 1) : Int32) = nI (i + 1) from nI_add i 1) ?_
        refine fr_sld hx hb hX hbl hbA hS (show i + 1 < L by omega) (by omega) dL_law_489 ?_
        refine lv_aload_n hx hb dL_law_490 rfl (lv_at hl 1 rfl) ?_
        refine lv_iload_n hx hb dL_law_491 rfl (lv_at hl 0 rfl) ?_
        refine lv_iconst (v := 2) hx hb dL_law_492 (by decide) ?_
        refine lv_iadd hx hb dL_law_493 ?_
        refine fr_top (show ((nI i + 2) : Int32) = nI (i + 2) from nI_add i 2) ?_
        refine fr_sld hx hb hX hbl hbA hS (show i + 2 < L by omega) (by omega) dL_law_494 ?_
        refine fr_lawMr (v := fr_sValue V F (xs (i + 1)) (xs (i + 2))) (As := [.int (xs (i + 1)), .int (xs (i + 2))]) hS0 (cM_value l D V bd kb row made F hM hV hV1 hinjB (xs (i + 1)) (xs (i + 2))) (cw_W_M_value hw ⟨Nat.le_of_ble_eq_true rfl, Nat.le_of_ble_eq_true rfl⟩) hK2 hP2 rfl hl.1 rfl (Nat.le_of_ble_eq_true rfl) dL_law_495 ⟨Nat.le_of_ble_eq_true rfl, Nat.le_of_ble_eq_true rfl⟩ ?_
        refine lv_icmp_eq (tgt := 582) hx hb dL_law_498 rfl (fun hne => ?_) (fun hne => absurd rfl hne)
        refine lv_iinc (k := 0) (v := nI (i + 5)) hx hb dL_law_582 hl rfl (nI_add i 5) (by decide) rfl (fun ls hl => ?_)
        replace hl : lv_has ls 4 [(3, .int (nI (i + 5))), (0, .ref b), (1, .ref (ad 0)), (2, .ref (bd 0))] := hl
        refine lv_goto (tgt := 28) hx hb dL_law_585 rfl ?_
        exact ih (i + 5) H locs ls mk nm pt ro row made F (by omega) (by omega) (lv_sub hl [0, 1, 2, 3] rfl) hP hP2 hF hM hS
      ·
        refine lv_tableIn (tgt := 503) hx hb dL_law_42 (by rw [hji]; decide) (by rw [hji]; decide) (by rw [hji]; rfl) rfl ?_
        refine lv_aload_n hx hb dL_law_503 rfl (lv_at hl 2 rfl) ?_
        refine lv_aload_n hx hb dL_law_504 rfl (lv_at hl 1 rfl) ?_
        refine lv_iload_n hx hb dL_law_505 rfl (lv_at hl 0 rfl) ?_
        refine lv_iconst (v := 1) hx hb dL_law_506 (by decide) ?_
        refine lv_iadd hx hb dL_law_507 ?_
        refine fr_top (show ((nI i + 1) : Int32) = nI (i + 1) from nI_add i 1) ?_
        refine fr_sld hx hb hX hbl hbA hS (show i + 1 < L by omega) (by omega) dL_law_508 ?_
        refine lv_aload_n hx hb dL_law_509 rfl (lv_at hl 1 rfl) ?_
        refine lv_iload_n hx hb dL_law_510 rfl (lv_at hl 0 rfl) ?_
        refine lv_iconst (v := 2) hx hb dL_law_511 (by decide) ?_
        refine lv_iadd hx hb dL_law_512 ?_
        refine fr_top (show ((nI i + 2) : Int32) = nI (i + 2) from nI_add i 2) ?_
        refine fr_sld hx hb hX hbl hbA hS (show i + 2 < L by omega) (by omega) dL_law_513 ?_
        refine fr_lawXr (v := fr_sSame V F (xs (i + 1)) (xs (i + 2))) (As := [.int (xs (i + 1)), .int (xs (i + 2))]) hS0 (cF_same l D V ad ka mk nm pt ro F hF hV hV1 hinj (xs (i + 1)) (xs (i + 2))) (cw_W_F_same hw ⟨Nat.le_of_ble_eq_true rfl, Nat.le_of_ble_eq_true rfl⟩) hK hP hT hS had rfl hl.1 rfl (Nat.le_of_ble_eq_true rfl) dL_law_514 ⟨Nat.le_of_ble_eq_true rfl, Nat.le_of_ble_eq_true rfl⟩ ?_
        refine lv_aload_n hx hb dL_law_517 rfl (lv_at hl 3 rfl) ?_
        refine lv_aload_n hx hb dL_law_518 rfl (lv_at hl 1 rfl) ?_
        refine lv_iload_n hx hb dL_law_519 rfl (lv_at hl 0 rfl) ?_
        refine lv_iconst (v := 1) hx hb dL_law_520 (by decide) ?_
        refine lv_iadd hx hb dL_law_521 ?_
        refine fr_top (show ((nI i + 1) : Int32) = nI (i + 1) from nI_add i 1) ?_
        refine fr_sld hx hb hX hbl hbA hS (show i + 1 < L by omega) (by omega) dL_law_522 ?_
        refine lv_aload_n hx hb dL_law_523 rfl (lv_at hl 1 rfl) ?_
        refine lv_iload_n hx hb dL_law_524 rfl (lv_at hl 0 rfl) ?_
        refine lv_iconst (v := 2) hx hb dL_law_525 (by decide) ?_
        refine lv_iadd hx hb dL_law_526 ?_
        refine fr_top (show ((nI i + 2) : Int32) = nI (i + 2) from nI_add i 2) ?_
        refine fr_sld hx hb hX hbl hbA hS (show i + 2 < L by omega) (by omega) dL_law_527 ?_
        refine fr_lawMr (v := fr_sSame V F (xs (i + 1)) (xs (i + 2))) (As := [.int (xs (i + 1)), .int (xs (i + 2))]) hS0 (cM_same l D V bd kb row made F hM hV hV1 hinjB (xs (i + 1)) (xs (i + 2))) (cw_W_M_same hw ⟨Nat.le_of_ble_eq_true rfl, Nat.le_of_ble_eq_true rfl⟩) hK2 hP2 rfl hl.1 rfl (Nat.le_of_ble_eq_true rfl) dL_law_528 ⟨Nat.le_of_ble_eq_true rfl, Nat.le_of_ble_eq_true rfl⟩ ?_
        refine lv_icmp_eq (tgt := 582) hx hb dL_law_531 rfl (fun hne => ?_) (fun hne => absurd rfl hne)
        refine lv_iinc (k := 0) (v := nI (i + 5)) hx hb dL_law_582 hl rfl (nI_add i 5) (by decide) rfl (fun ls hl => ?_)
        replace hl : lv_has ls 4 [(3, .int (nI (i + 5))), (0, .ref b), (1, .ref (ad 0)), (2, .ref (bd 0))] := hl
        refine lv_goto (tgt := 28) hx hb dL_law_585 rfl ?_
        exact ih (i + 5) H locs ls mk nm pt ro row made F (by omega) (by omega) (lv_sub hl [0, 1, 2, 3] rfl) hP hP2 hF hM hS
      ·
        refine lv_tableIn (tgt := 536) hx hb dL_law_42 (by rw [hji]; decide) (by rw [hji]; decide) (by rw [hji]; rfl) rfl ?_
        refine lv_aload_n hx hb dL_law_536 rfl (lv_at hl 2 rfl) ?_
        refine lv_aload_n hx hb dL_law_537 rfl (lv_at hl 1 rfl) ?_
        refine lv_iload_n hx hb dL_law_538 rfl (lv_at hl 0 rfl) ?_
        refine lv_iconst (v := 1) hx hb dL_law_539 (by decide) ?_
        refine lv_iadd hx hb dL_law_540 ?_
        refine fr_top (show ((nI i + 1) : Int32) = nI (i + 1) from nI_add i 1) ?_
        refine fr_sld hx hb hX hbl hbA hS (show i + 1 < L by omega) (by omega) dL_law_541 ?_
        refine fr_lawZ (v := fr_sSize V F (xs (i + 1))) (F := F) (As := [.int (xs (i + 1))]) hS0 (cF_size l D V ad ka mk nm pt ro F hF hV hV1 hinj (xs (i + 1))) (cw_W_F_size hw ⟨Nat.le_of_ble_eq_true rfl, Nat.le_of_ble_eq_true rfl⟩) hK hP hP2 hT hS had hdis rfl hl.1 rfl (Nat.le_of_ble_eq_true rfl) dL_law_542 ⟨Nat.le_of_ble_eq_true rfl, Nat.le_of_ble_eq_true rfl⟩ (fun H locs mk nm pt ro hP hP2 hF2 hS => ?_)
        refine lv_aload_n hx hb dL_law_545 rfl (lv_at hl 3 rfl) ?_
        refine lv_aload_n hx hb dL_law_546 rfl (lv_at hl 1 rfl) ?_
        refine lv_iload_n hx hb dL_law_547 rfl (lv_at hl 0 rfl) ?_
        refine lv_iconst (v := 1) hx hb dL_law_548 (by decide) ?_
        refine lv_iadd hx hb dL_law_549 ?_
        refine fr_top (show ((nI i + 1) : Int32) = nI (i + 1) from nI_add i 1) ?_
        refine fr_sld hx hb hX hbl hbA hS (show i + 1 < L by omega) (by omega) dL_law_550 ?_
        refine fr_lawMr (v := fr_sSize V F (xs (i + 1))) (As := [.int (xs (i + 1))]) hS0 (cM_size l D V bd kb row made F hM hV hV1 hinjB (xs (i + 1))) (cw_W_M_size hw ⟨Nat.le_of_ble_eq_true rfl, Nat.le_of_ble_eq_true rfl⟩) hK2 hP2 rfl hl.1 rfl (Nat.le_of_ble_eq_true rfl) dL_law_551 ⟨Nat.le_of_ble_eq_true rfl, Nat.le_of_ble_eq_true rfl⟩ ?_
        refine lv_icmp_eq (tgt := 582) hx hb dL_law_554 rfl (fun hne => ?_) (fun hne => absurd rfl hne)
        refine lv_iinc (k := 0) (v := nI (i + 5)) hx hb dL_law_582 hl rfl (nI_add i 5) (by decide) rfl (fun ls hl => ?_)
        replace hl : lv_has ls 4 [(3, .int (nI (i + 5))), (0, .ref b), (1, .ref (ad 0)), (2, .ref (bd 0))] := hl
        refine lv_goto (tgt := 28) hx hb dL_law_585 rfl ?_
        exact ih (i + 5) H locs ls mk nm pt ro row made F (by omega) (by omega) (lv_sub hl [0, 1, 2, 3] rfl) hP hP2 hF2 hM hS
      ·
        refine lv_tableIn (tgt := 559) hx hb dL_law_42 (by rw [hji]; decide) (by rw [hji]; decide) (by rw [hji]; rfl) rfl ?_
        refine lv_aload_n hx hb dL_law_559 rfl (lv_at hl 2 rfl) ?_
        refine lv_aload_n hx hb dL_law_560 rfl (lv_at hl 1 rfl) ?_
        refine lv_iload_n hx hb dL_law_561 rfl (lv_at hl 0 rfl) ?_
        refine lv_iconst (v := 1) hx hb dL_law_562 (by decide) ?_
        refine lv_iadd hx hb dL_law_563 ?_
        refine fr_top (show ((nI i + 1) : Int32) = nI (i + 1) from nI_add i 1) ?_
        refine fr_sld hx hb hX hbl hbA hS (show i + 1 < L by omega) (by omega) dL_law_564 ?_
        refine fr_lawXr (v := fr_sMatters V F (xs (i + 1))) (As := [.int (xs (i + 1))]) hS0 (cF_matters l D V ad ka mk nm pt ro F hF hV hV1 hinj (xs (i + 1))) (cw_W_F_matters hw ⟨Nat.le_of_ble_eq_true rfl, Nat.le_of_ble_eq_true rfl⟩) hK hP hT hS had rfl hl.1 rfl (Nat.le_of_ble_eq_true rfl) dL_law_565 ⟨Nat.le_of_ble_eq_true rfl, Nat.le_of_ble_eq_true rfl⟩ ?_
        refine lv_aload_n hx hb dL_law_568 rfl (lv_at hl 3 rfl) ?_
        refine lv_aload_n hx hb dL_law_569 rfl (lv_at hl 1 rfl) ?_
        refine lv_iload_n hx hb dL_law_570 rfl (lv_at hl 0 rfl) ?_
        refine lv_iconst (v := 1) hx hb dL_law_571 (by decide) ?_
        refine lv_iadd hx hb dL_law_572 ?_
        refine fr_top (show ((nI i + 1) : Int32) = nI (i + 1) from nI_add i 1) ?_
        refine fr_sld hx hb hX hbl hbA hS (show i + 1 < L by omega) (by omega) dL_law_573 ?_
        refine fr_lawMr (v := fr_sMatters V F (xs (i + 1))) (As := [.int (xs (i + 1))]) hS0 (cM_matters l D V bd kb row made F hM hV hV1 hinjB (xs (i + 1))) (cw_W_M_matters hw ⟨Nat.le_of_ble_eq_true rfl, Nat.le_of_ble_eq_true rfl⟩) hK2 hP2 rfl hl.1 rfl (Nat.le_of_ble_eq_true rfl) dL_law_574 ⟨Nat.le_of_ble_eq_true rfl, Nat.le_of_ble_eq_true rfl⟩ ?_
        refine lv_icmp_eq (tgt := 582) hx hb dL_law_577 rfl (fun hne => ?_) (fun hne => absurd rfl hne)
        refine lv_iinc (k := 0) (v := nI (i + 5)) hx hb dL_law_582 hl rfl (nI_add i 5) (by decide) rfl (fun ls hl => ?_)
        replace hl : lv_has ls 4 [(3, .int (nI (i + 5))), (0, .ref b), (1, .ref (ad 0)), (2, .ref (bd 0))] := hl
        refine lv_goto (tgt := 28) hx hb dL_law_585 rfl ?_
        exact ih (i + 5) H locs ls mk nm pt ro row made F (by omega) (by omega) (lv_sub hl [0, 1, 2, 3] rfl) hP hP2 hF hM hS
      ·
        refine lv_tableOut (tgt := 582) hx hb dL_law_42 (by rw [hji]; omega) rfl ?_
        refine lv_iinc (k := 0) (v := nI (i + 5)) hx hb dL_law_582 hl rfl (nI_add i 5) (by decide) rfl (fun ls hl => ?_)
        replace hl : lv_has ls 4 [(3, .int (nI (i + 5))), (0, .ref b), (1, .ref (ad 0)), (2, .ref (bd 0))] := hl
        refine lv_goto (tgt := 28) hx hb dL_law_585 rfl ?_
        exact ih (i + 5) H locs ls mk nm pt ro row made F (by omega) (by omega) (lv_sub hl [0, 1, 2, 3] rfl) hP hP2 hF hM hS
