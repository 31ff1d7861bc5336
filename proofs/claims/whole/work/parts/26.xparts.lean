set_option maxHeartbeats 4000000 in
set_option maxRecDepth 100000 in
theorem cF_placeOfPart (l : Launch) (D : va_G) (V : Nat) (ad : Nat → Nat) (ka : Nat → ClassId) (mk : Nat → Int64) (nm pt : Nat → Int32) (ro : Nat → Nat → Int64) (hV : V < 10) (part : Int32) (fb fd : Nat) (hbd : fb ≤ fd) (hd : fd ≤ 2 ^ V) : Met l yX0_placeOfPart wsF_placeOfPart rmF_placeOfPart (va_Pc [.ref (ad 0), .int part, .int (nI fb), .int (nI fd)] (fr_PX D V ad ka mk nm pt ro)) (vp_Si (fun res => ∃ a, res = nI a ∧ fb ≤ a ∧ a ≤ fd ∧ (∀ b, fb ≤ b → b < a → pt b ≠ part) ∧ (a < fd → pt a = part))) 0 0 (fun _ => False) := by
  refine Met.ofW (cc := cX0_placeOfPart) (maxL := 5) (ret := some .int) (by decide) rfl ?_
  intro p e s m args below meth c s₁ B hml hv
  obtain ⟨rfl, hP, hK, hT⟩ := hv
  have hx := B.exec
  have hb := B.bytes
  have hret := B.returns
  have hw := fun w (h : w ∈ WA) => atoms_spec (ws := wsF_placeOfPart) B.pre w (List.mem_cons_of_mem _ h)
  have hown : s.vm.findClass "FunctionRoom" = some m.cls := findClass_of_methodNamed B.named
  have hlocks := B.notSynchronized
  have hS0 : CallFix p m c cX0_placeOfPart 5 s _ WA "FunctionRoom" := ⟨hx, hb, hml, hown, hw⟩
  have hl := lv_entry ([.ref (ad 0), .int part, .int (nI fb), .int (nI fd)]) (n := 5) (Nat.le_of_ble_eq_true rfl)
  rw [lg_entry_eq]
  generalize (lg_sl ([.ref (ad 0), .int part, .int (nI fb), .int (nI fd)]) ++ List.replicate (5 - (lg_sl ([.ref (ad 0), .int part, .int (nI fb), .int (nI fd)])).length) Slot.unset).toArray = ls at hl ⊢
  replace hl : lv_has ls 5 [(0, .ref (ad 0)), (1, .int part), (2, .int (nI fb)), (3, .int (nI fd))] := hl
  have hS : va_S (fr_A ad) s.heap s.heap [] := va_S.rf
  have h512 := fr_pow512 hV
  refine lv_iload_n hx hb dX0_placeOfPart_0 rfl (lv_at hl 2 rfl) ?_
  refine lv_istore hx hb dX0_placeOfPart_1 hl (by decide) rfl (fun ls hl => ?_)
  replace hl : lv_has ls 5 [(4, .int (nI fb)), (0, .ref (ad 0)), (1, .int part), (2, .int (nI fb)), (3, .int (nI fd))] := hl
  obtain ⟨n, i, hin, hi0⟩ : ∃ n i : Nat, i + n = fd ∧ i = fb := ⟨fd - fb, fb, by omega, rfl⟩
  replace hl : lv_has ls 5 [(4, .int (nI i)), (0, .ref (ad 0)), (1, .int part), (2, .int (nI fb)), (3, .int (nI fd))] := by rw [hi0]; exact hl
  have hbi : fb ≤ i := by omega
  have hg : ∀ b, fb ≤ b → b < i → pt b ≠ part := fun b h1 h2 => by omega
  clear hi0
  induction n generalizing i ls  with
  | zero =>
    refine lv_iload hx hb dX0_placeOfPart_3 (lv_at hl 0 rfl) ?_
    refine lv_iload_n hx hb dX0_placeOfPart_5 rfl (lv_at hl 4 rfl) ?_
    refine lv_icmp_ge (tgt := 29) hx hb dX0_placeOfPart_6 rfl (fun hcm => ?_) (fun hcm => absurd (nI_le (show fd ≤ i by omega) (by omega)) hcm)
    refine lv_iload_n hx hb dX0_placeOfPart_29 rfl (lv_at hl 4 rfl) ?_
    exact W.iret (v := nI fd) hx hb hret (fun t ht hW => ⟨_, rfl, ⟨fd, rfl, by omega, by omega, fun b h1 h2 => hg b h1 (by omega), fun h => by omega⟩, ht⟩) (fun q hq => by cases hq) dX0_placeOfPart_30
  | succ n ih =>
    refine lv_iload hx hb dX0_placeOfPart_3 (lv_at hl 0 rfl) ?_
    refine lv_iload_n hx hb dX0_placeOfPart_5 rfl (lv_at hl 4 rfl) ?_
    refine lv_icmp_ge (tgt := 29) hx hb dX0_placeOfPart_6 rfl (fun hcm => absurd hcm (nI_ge (show i < fd by omega) (by omega))) (fun hcm => ?_)
    refine lv_aload_n hx hb dX0_placeOfPart_9 rfl (lv_at hl 1 rfl) ?_
    refine fr_gX 7 hx hb hw hown hK hP (by decide) mF_parts rfl dX0_placeOfPart_10 ?_
    refine lv_iload hx hb dX0_placeOfPart_13 (lv_at hl 0 rfl) ?_
    refine fr_iald hx hb hK hP 4 4 rfl rfl (show i < 2 ^ V by omega) (by omega) dX0_placeOfPart_15 ?_
    refine lv_iload_n hx hb dX0_placeOfPart_16 rfl (lv_at hl 2 rfl) ?_
    refine lv_icmp_ne (tgt := 23) hx hb dX0_placeOfPart_17 rfl (fun h2 => ?_) (fun h2 => ?_)
    ·
      refine lv_iinc (k := 0) (v := nI (i + 1)) hx hb dX0_placeOfPart_23 hl rfl (fr_inc i) (by decide) rfl (fun ls hl => ?_)
      replace hl : lv_has ls 5 [(4, .int (nI (i + 1))), (0, .ref (ad 0)), (1, .int part), (2, .int (nI fb)), (3, .int (nI fd))] := hl
      refine lv_goto (tgt := 3) hx hb dX0_placeOfPart_26 rfl ?_
      exact ih ls (i + 1) (by omega) (lv_sub hl [0, 1, 2, 3, 4] rfl) (by omega) (fun b h3 h4 => by rcases Nat.lt_or_ge b i with h5 | h5; exact hg b h3 h5; rw [show b = i by omega]; exact h2)
    ·
      refine lv_iload hx hb dX0_placeOfPart_20 (lv_at hl 0 rfl) ?_
      exact W.iret (v := nI i) hx hb hret (fun t ht hW => ⟨_, rfl, ⟨i, rfl, hbi, by omega, hg, fun _ => h2⟩, ht⟩) (fun q hq => by cases hq) dX0_placeOfPart_22
set_option maxHeartbeats 4000000 in
set_option maxRecDepth 100000 in
theorem cF_joinHalves (l : Launch) (D : va_G) (V : Nat) (ad : Nat → Nat) (ka : Nat → ClassId) (mk : Nat → Int64) (nm pt : Nat → Int32) (ro : Nat → Nat → Int64) (hV : V < 10) (hinj : fr_inj ad) (k fb : Nat) (N : Nat → Nat) (hk : k < V) (hfb : fb + 2 ^ (k + 1) ≤ 2 ^ V) (hN : ∀ i, i < 2 * 2 ^ k → nm i = nI (N i)) (hNb : ∀ i, i < 2 * 2 ^ k → N i < fb + 2) : Met l yX0_joinHalves wsF_joinHalves rmF_joinHalves (va_Pc [.ref (ad 0), .int (nI k), .int (nI fb)] (fr_PX D V ad ka mk nm pt ro)) (va_Qi (fun res u => ∃ fd N', res = nI fd ∧ u.1 = mk ∧ u.2.2.2 = ro ∧ fr_J (2 ^ k) N N' fb (2 ^ k) fd u.2.1 u.2.2.1) (fun u t => va_P D vwCl (fr_xu V ad ka u) t.heap) (fr_A ad)) 0 0 (fr_A ad) := by
  refine Met.ofW (cc := cX0_joinHalves) (maxL := 9) (ret := some .int) (by decide) rfl ?_
  intro p e s m args below meth c s₁ B hml hv
  obtain ⟨rfl, hP, hK, hT⟩ := hv
  have hx := B.exec
  have hb := B.bytes
  have hret := B.returns
  have hw := fun w (h : w ∈ WA) => atoms_spec (ws := wsF_joinHalves) B.pre w (List.mem_cons_of_mem _ h)
  have hown : s.vm.findClass "FunctionRoom" = some m.cls := findClass_of_methodNamed B.named
  have hlocks := B.notSynchronized
  have hS0 : CallFix p m c cX0_joinHalves 9 s _ WA "FunctionRoom" := ⟨hx, hb, hml, hown, hw⟩
  have hl := lv_entry ([.ref (ad 0), .int (nI k), .int (nI fb)]) (n := 9) (Nat.le_of_ble_eq_true rfl)
  rw [lg_entry_eq]
  generalize (lg_sl ([.ref (ad 0), .int (nI k), .int (nI fb)]) ++ List.replicate (9 - (lg_sl ([.ref (ad 0), .int (nI k), .int (nI fb)])).length) Slot.unset).toArray = ls at hl ⊢
  replace hl : lv_has ls 9 [(0, .ref (ad 0)), (1, .int (nI k)), (2, .int (nI fb))] := hl
  have h512 := fr_pow512 hV
  have hk2 : 2 ^ (k + 1) = 2 * 2 ^ k := by rw [Nat.pow_succ]; omega
  refine fr_gen (A := fr_A ad) hP (fun H locs hP2 hS => ?_)
  clear hP
  have hP := hP2
  clear hP2
  refine lv_iload_n hx hb dX0_joinHalves_0 rfl (lv_at hl 2 rfl) ?_
  refine lv_istore_n hx hb dX0_joinHalves_1 rfl hl (by decide) rfl (fun ls hl => ?_)
  replace hl : lv_has ls 9 [(3, .int (nI fb)), (0, .ref (ad 0)), (1, .int (nI k)), (2, .int (nI fb))] := hl
  refine lv_iconst (v := 0) hx hb dX0_joinHalves_2 (by decide) ?_
  refine lv_istore hx hb dX0_joinHalves_3 hl (by decide) rfl (fun ls hl => ?_)
  replace hl : lv_has ls 9 [(4, .int 0), (3, .int (nI fb)), (0, .ref (ad 0)), (1, .int (nI k)), (2, .int (nI fb))] := hl
  obtain ⟨n, i, hin, hi0⟩ : ∃ n i : Nat, i + n = 2 ^ k ∧ i = 0 := ⟨2 ^ k, 0, by omega, rfl⟩
  obtain ⟨fd, hfd⟩ : ∃ fd, fd = fb := ⟨fb, rfl⟩
  obtain ⟨N', hN'⟩ : ∃ N' : Nat → Nat, N' = N := ⟨N, rfl⟩
  replace hl : lv_has ls 9 [(4, .int (nI i)), (3, .int (nI fd)), (0, .ref (ad 0)), (1, .int (nI k)), (2, .int (nI fb))] := by rw [hi0, hfd]; exact hl
  have hJ : fr_J (2 ^ k) N N' fb i fd nm pt := by rw [hi0, hfd, hN']; exact fr_J_0 hN
  clear hi0 hfd hN' hN
  induction n generalizing i ls H locs nm pt fd N' with
  | zero =>
    refine lv_iload hx hb dX0_joinHalves_5 (lv_at hl 0 rfl) ?_
    refine lv_iconst (v := 1) hx hb dX0_joinHalves_7 (by decide) ?_
    refine lv_iload_n hx hb dX0_joinHalves_8 rfl (lv_at hl 3 rfl) ?_
    refine lv_ishl hx hb dX0_joinHalves_9 ?_
    refine fr_top (show ((1 <<< (nI k &&& 31)) : Int32) = nI (2 ^ k) from fr_shl1 k (by omega)) ?_
    refine lv_icmp_ge (tgt := 111) hx hb dX0_joinHalves_10 rfl (fun hcm => ?_) (fun hcm => absurd (nI_le (show 2 ^ k ≤ i by omega) (by omega)) hcm)
    have hik : i = 2 ^ k := by omega
    rw [hik] at hJ
    refine lv_iload_n hx hb dX0_joinHalves_111 rfl (lv_at hl 1 rfl) ?_
    exact W.iret (v := nI fd) hx hb hret (fun t ht hW => ⟨⟨_, (mk, nm, pt, ro), rfl, ⟨fd, N', rfl, rfl, rfl, hJ⟩, by show va_P D vwCl _ t.heap; rw [ht]; exact hP⟩, hS.F ht⟩) hS.2.2 dX0_joinHalves_112
  | succ n ih =>
    refine lv_iload hx hb dX0_joinHalves_5 (lv_at hl 0 rfl) ?_
    refine lv_iconst (v := 1) hx hb dX0_joinHalves_7 (by decide) ?_
    refine lv_iload_n hx hb dX0_joinHalves_8 rfl (lv_at hl 3 rfl) ?_
    refine lv_ishl hx hb dX0_joinHalves_9 ?_
    refine fr_top (show ((1 <<< (nI k &&& 31)) : Int32) = nI (2 ^ k) from fr_shl1 k (by omega)) ?_
    refine lv_icmp_ge (tgt := 111) hx hb dX0_joinHalves_10 rfl (fun hcm => absurd hcm (nI_ge (show i < 2 ^ k by omega) (by omega))) (fun hcm => ?_)
    have hik : i < 2 ^ k := by omega
    have hn0 := hNb (2 * i) (by omega)
    have hn1 := hNb (2 * i + 1) (by omega)
    have hfd : fd ≤ fb + i ∧ fb ≤ fd := by have h3 := hJ.2.2.1; have h4 := fr_cn_le (fr_nN N) i; omega
    refine lv_aload_n hx hb dX0_joinHalves_13 rfl (lv_at hl 2 rfl) ?_
    refine fr_gX 6 hx hb hw hown hK hP (by decide) mF_names rfl dX0_joinHalves_14 ?_
    refine lv_iconst (v := 2) hx hb dX0_joinHalves_17 (by decide) ?_
    refine lv_iload hx hb dX0_joinHalves_18 (lv_at hl 0 rfl) ?_
    refine lv_imul hx hb dX0_joinHalves_20 ?_
    refine fr_top (show ((2 * nI i) : Int32) = nI (2 * i) from pk_mul 2 i) ?_
    refine fr_iald hx hb hK hP 3 3 rfl rfl (show 2 * i < 2 ^ V by omega) (by omega) dX0_joinHalves_21 ?_
    refine fr_top (show (nm (2 * i) : Int32) = nI (N (2 * i)) from hJ.2.1 (2 * i) (by omega) (by omega)) ?_
    refine lv_istore hx hb dX0_joinHalves_22 hl (by decide) rfl (fun ls hl => ?_)
    replace hl : lv_has ls 9 [(5, .int (nI (N (2 * i)))), (4, .int (nI i)), (3, .int (nI fd)), (0, .ref (ad 0)), (1, .int (nI k)), (2, .int (nI fb))] := hl
    refine lv_aload_n hx hb dX0_joinHalves_24 rfl (lv_at hl 3 rfl) ?_
    refine fr_gX 6 hx hb hw hown hK hP (by decide) mF_names rfl dX0_joinHalves_25 ?_
    refine lv_iconst (v := 2) hx hb dX0_joinHalves_28 (by decide) ?_
    refine lv_iload hx hb dX0_joinHalves_29 (lv_at hl 1 rfl) ?_
    refine lv_imul hx hb dX0_joinHalves_31 ?_
    refine lv_iconst (v := 1) hx hb dX0_joinHalves_32 (by decide) ?_
    refine lv_iadd hx hb dX0_joinHalves_33 ?_
    refine fr_top (show (((2 * nI i) + 1) : Int32) = nI (2 * i + 1) from by rw [show (2 : Int32) * nI i = nI (2 * i) from pk_mul 2 i]; exact nI_1 _) ?_
    refine fr_iald hx hb hK hP 3 3 rfl rfl (show 2 * i + 1 < 2 ^ V by omega) (by omega) dX0_joinHalves_34 ?_
    refine fr_top (show (nm (2 * i + 1) : Int32) = nI (N (2 * i + 1)) from hJ.2.1 (2 * i + 1) (by omega) (by omega)) ?_
    refine lv_istore hx hb dX0_joinHalves_35 hl (by decide) rfl (fun ls hl => ?_)
    replace hl : lv_has ls 9 [(6, .int (nI (N (2 * i + 1)))), (5, .int (nI (N (2 * i)))), (4, .int (nI i)), (3, .int (nI fd)), (0, .ref (ad 0)), (1, .int (nI k)), (2, .int (nI fb))] := hl
    refine lv_iload hx hb dX0_joinHalves_37 (lv_at hl 1 rfl) ?_
    refine lv_iload hx hb dX0_joinHalves_39 (lv_at hl 0 rfl) ?_
    refine lv_icmp_ne (tgt := 56) hx hb dX0_joinHalves_41 rfl (fun h2 => ?_) (fun h2 => ?_)
    ·
      have hne : N (2 * i) ≠ N (2 * i + 1) := fun z => h2 (by rw [z])
      refine lv_iload hx hb dX0_joinHalves_56 (lv_at hl 1 rfl) ?_
      refine lv_bipush (v := 10) hx hb dX0_joinHalves_58 (by decide) ?_
      refine lv_ishl hx hb dX0_joinHalves_60 ?_
      refine lv_iload hx hb dX0_joinHalves_61 (lv_at hl 0 rfl) ?_
      refine lv_ior hx hb dX0_joinHalves_63 ?_
      refine fr_top (show (((nI (N (2 * i)) <<< (10 &&& 31)) ||| nI (N (2 * i + 1))) : Int32) = fr_pr N i from fr_part (by omega) (by omega)) ?_
      refine lv_istore hx hb dX0_joinHalves_64 hl (by decide) rfl (fun ls hl => ?_)
      replace hl : lv_has ls 9 [(7, .int (fr_pr N i)), (6, .int (nI (N (2 * i + 1)))), (5, .int (nI (N (2 * i)))), (4, .int (nI i)), (3, .int (nI fd)), (0, .ref (ad 0)), (1, .int (nI k)), (2, .int (nI fb))] := hl
      refine lv_aload_n hx hb dX0_joinHalves_66 rfl (lv_at hl 5 rfl) ?_
      refine lv_iload hx hb dX0_joinHalves_67 (lv_at hl 0 rfl) ?_
      refine lv_iload_n hx hb dX0_joinHalves_69 rfl (lv_at hl 7 rfl) ?_
      refine lv_iload_n hx hb dX0_joinHalves_70 rfl (lv_at hl 4 rfl) ?_
      refine fr_Xi (As := [.int (fr_pr N i), .int (nI fb), .int (nI fd)]) hS0 (cF_placeOfPart l D V ad ka mk nm pt ro hV (fr_pr N i) fb fd (by omega) (by omega)) (cw_F_placeOfPart hw ⟨Nat.le_of_ble_eq_true rfl, Nat.le_of_ble_eq_true rfl⟩) hK hP hT hS rfl hl.1 rfl (Nat.le_of_ble_eq_true rfl) dX0_joinHalves_71 ⟨Nat.zero_le _, Nat.zero_le _⟩ (fun b2 hb2 => ?_)
      obtain ⟨a, rfl, ha1, ha2, ha3, ha4⟩ := hb2
      refine lv_istore hx hb dX0_joinHalves_74 hl (by decide) rfl (fun ls hl => ?_)
      replace hl : lv_has ls 9 [(8, .int (nI a)), (7, .int (fr_pr N i)), (6, .int (nI (N (2 * i + 1)))), (5, .int (nI (N (2 * i)))), (4, .int (nI i)), (3, .int (nI fd)), (0, .ref (ad 0)), (1, .int (nI k)), (2, .int (nI fb))] := hl
      refine lv_aload_n hx hb dX0_joinHalves_76 rfl (lv_at hl 6 rfl) ?_
      refine fr_gX 7 hx hb hw hown hK hP (by decide) mF_parts rfl dX0_joinHalves_77 ?_
      refine lv_iload hx hb dX0_joinHalves_80 (lv_at hl 0 rfl) ?_
      refine lv_iload hx hb dX0_joinHalves_82 (lv_at hl 1 rfl) ?_
      refine fr_iast (ws2 := fr_xw V ad ka mk nm (upd pt a (fr_pr N i)) ro) hx hb hK hP (fr_D hinj) hS 4 4 rfl rfl (show a < 2 ^ V by omega) (by omega) dX0_joinHalves_84 rfl (fun H locs hP hS => ?_)
      refine lv_iload_n hx hb dX0_joinHalves_85 rfl (lv_at hl 5 rfl) ?_
      refine lv_iload hx hb dX0_joinHalves_86 (lv_at hl 0 rfl) ?_
      refine lv_iconst (v := 1) hx hb dX0_joinHalves_88 (by decide) ?_
      refine lv_iadd hx hb dX0_joinHalves_89 ?_
      refine fr_top (show ((nI a + 1) : Int32) = nI (a + 1) from nI_1 a) ?_
      refine va_mmax hx hb (by rw [hml, hl.1]) hown (hw _ mM_F_max) (hw _ mS_max) (hw _ mI_Math) (hw _ mO_max) (Nat.le_of_ble_eq_true rfl) (Nat.le_of_ble_eq_true rfl) (Nat.zero_le _) (Nat.zero_le _) dX0_joinHalves_90 ?_
      rcases Nat.lt_or_ge a fd with hlt | hge
      ·
        refine fr_top (show ((if nI fd < nI (a + 1) then nI (a + 1) else nI fd) : Int32) = nI fd from if_neg (nI_nlt (by omega) (by omega))) ?_
        refine lv_istore_n hx hb dX0_joinHalves_93 rfl hl (by decide) rfl (fun ls hl => ?_)
        replace hl : lv_has ls 9 [(3, .int (nI fd)), (8, .int (nI a)), (7, .int (fr_pr N i)), (6, .int (nI (N (2 * i + 1)))), (5, .int (nI (N (2 * i)))), (4, .int (nI i)), (0, .ref (ad 0)), (1, .int (nI k)), (2, .int (nI fb))] := hl
        refine lv_aload_n hx hb dX0_joinHalves_94 rfl (lv_at hl 6 rfl) ?_
        refine fr_gX 6 hx hb hw hown hK hP (by decide) mF_names rfl dX0_joinHalves_95 ?_
        refine lv_iload hx hb dX0_joinHalves_98 (lv_at hl 5 rfl) ?_
        refine lv_iconst (v := 2) hx hb dX0_joinHalves_100 (by decide) ?_
        refine lv_iload hx hb dX0_joinHalves_101 (lv_at hl 1 rfl) ?_
        refine lv_iadd hx hb dX0_joinHalves_103 ?_
        refine fr_top (show ((2 + nI a) : Int32) = nI (2 + a) from nI_add 2 a) ?_
        refine fr_iast (ws2 := fr_xw V ad ka mk (upd nm i (nI (2 + a))) (upd pt a (fr_pr N i)) ro) hx hb hK hP (fr_D hinj) hS 3 3 rfl rfl (show i < 2 ^ V by omega) (by omega) dX0_joinHalves_104 rfl (fun H locs hP hS => ?_)
        refine lv_iinc (k := 5) (v := nI (i + 1)) hx hb dX0_joinHalves_105 hl rfl (fr_inc i) (by decide) rfl (fun ls hl => ?_)
        replace hl : lv_has ls 9 [(4, .int (nI (i + 1))), (3, .int (nI fd)), (8, .int (nI a)), (7, .int (fr_pr N i)), (6, .int (nI (N (2 * i + 1)))), (5, .int (nI (N (2 * i)))), (0, .ref (ad 0)), (1, .int (nI k)), (2, .int (nI fb))] := hl
        refine lv_goto (tgt := 5) hx hb dX0_joinHalves_108 rfl ?_
        exact ih _ _ H locs hS hP ls (i + 1) (by omega) fd _ (lv_sub hl [0, 1, 6, 7, 8] rfl) (fr_J_old (fun x h => by have := hNb x h; omega) hik hJ hne ha1 hlt (ha4 hlt))
      ·
        obtain rfl : a = fd := by omega
        refine fr_top (show ((if nI a < nI (a + 1) then nI (a + 1) else nI a) : Int32) = nI (a + 1) from if_pos (nI_lt (by omega) (by omega))) ?_
        refine lv_istore_n hx hb dX0_joinHalves_93 rfl hl (by decide) rfl (fun ls hl => ?_)
        replace hl : lv_has ls 9 [(3, .int (nI (a + 1))), (8, .int (nI a)), (7, .int (fr_pr N i)), (6, .int (nI (N (2 * i + 1)))), (5, .int (nI (N (2 * i)))), (4, .int (nI i)), (0, .ref (ad 0)), (1, .int (nI k)), (2, .int (nI fb))] := hl
        refine lv_aload_n hx hb dX0_joinHalves_94 rfl (lv_at hl 6 rfl) ?_
        refine fr_gX 6 hx hb hw hown hK hP (by decide) mF_names rfl dX0_joinHalves_95 ?_
        refine lv_iload hx hb dX0_joinHalves_98 (lv_at hl 5 rfl) ?_
        refine lv_iconst (v := 2) hx hb dX0_joinHalves_100 (by decide) ?_
        refine lv_iload hx hb dX0_joinHalves_101 (lv_at hl 1 rfl) ?_
        refine lv_iadd hx hb dX0_joinHalves_103 ?_
        refine fr_top (show ((2 + nI a) : Int32) = nI (2 + a) from nI_add 2 a) ?_
        refine fr_iast (ws2 := fr_xw V ad ka mk (upd nm i (nI (2 + a))) (upd pt a (fr_pr N i)) ro) hx hb hK hP (fr_D hinj) hS 3 3 rfl rfl (show i < 2 ^ V by omega) (by omega) dX0_joinHalves_104 rfl (fun H locs hP hS => ?_)
        refine lv_iinc (k := 5) (v := nI (i + 1)) hx hb dX0_joinHalves_105 hl rfl (fr_inc i) (by decide) rfl (fun ls hl => ?_)
        replace hl : lv_has ls 9 [(4, .int (nI (i + 1))), (3, .int (nI (a + 1))), (8, .int (nI a)), (7, .int (fr_pr N i)), (6, .int (nI (N (2 * i + 1)))), (5, .int (nI (N (2 * i)))), (0, .ref (ad 0)), (1, .int (nI k)), (2, .int (nI fb))] := hl
        refine lv_goto (tgt := 5) hx hb dX0_joinHalves_108 rfl ?_
        exact ih _ _ H locs hS hP ls (i + 1) (by omega) (a + 1) _ (lv_sub hl [0, 1, 6, 7, 8] rfl) (fr_J_new (fun x h => by have := hNb x h; omega) hik hJ hne ha3)
    ·
      have heq : N (2 * i) = N (2 * i + 1) := (nI_eq (by omega) (by omega)).mp h2
      refine lv_aload_n hx hb dX0_joinHalves_44 rfl (lv_at hl 4 rfl) ?_
      refine fr_gX 6 hx hb hw hown hK hP (by decide) mF_names rfl dX0_joinHalves_45 ?_
      refine lv_iload hx hb dX0_joinHalves_48 (lv_at hl 2 rfl) ?_
      refine lv_iload hx hb dX0_joinHalves_50 (lv_at hl 1 rfl) ?_
      refine fr_iast (ws2 := fr_xw V ad ka mk (upd nm i (nI (N (2 * i)))) pt ro) hx hb hK hP (fr_D hinj) hS 3 3 rfl rfl (show i < 2 ^ V by omega) (by omega) dX0_joinHalves_52 rfl (fun H locs hP hS => ?_)
      refine lv_goto (tgt := 105) hx hb dX0_joinHalves_53 rfl ?_
      refine lv_iinc (k := 2) (v := nI (i + 1)) hx hb dX0_joinHalves_105 hl rfl (fr_inc i) (by decide) rfl (fun ls hl => ?_)
      replace hl : lv_has ls 9 [(4, .int (nI (i + 1))), (6, .int (nI (N (2 * i + 1)))), (5, .int (nI (N (2 * i)))), (3, .int (nI fd)), (0, .ref (ad 0)), (1, .int (nI k)), (2, .int (nI fb))] := hl
      refine lv_goto (tgt := 5) hx hb dX0_joinHalves_108 rfl ?_
      exact ih _ _ H locs hS hP ls (i + 1) (by omega) fd _ (lv_sub hl [0, 3, 4, 5, 6] rfl) (fr_J_same hJ heq)
