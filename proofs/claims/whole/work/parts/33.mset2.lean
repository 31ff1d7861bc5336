set_option maxHeartbeats 4000000 in
set_option maxRecDepth 100000 in
theorem cM_reckon (l : Launch) (D : va_G) (V : Nat) (bd : Nat → Nat) (kb : Nat → ClassId) (row made : Nat → Int32) (F : fr_F) (hM : fr_MR V F row) (hV : V < 10) (hV1 : 1 ≤ V) (hinj : fr_injB bd) (op r a b : Int32)    : Met l yX1_reckon wsM_reckon rmM_reckon (va_Pc [.ref (bd 0), .int op, .int r, .int a, .int b] (fr_PM D V bd kb row made)) (va_Qi (fun (res : Int32) (u : (Nat → Int32) × (Nat → Int32)) => res = (fr_sReckon V F op r a b).1 ∧ fr_MR V (fr_sReckon V F op r a b).2 u.1) (fun u t => va_P D vwCl (fr_mw V bd kb u.1 u.2) t.heap) (fr_B bd)) 0 0 (fr_B bd) := by
  refine Met.ofW (cc := cX1_reckon) (maxL := 8) (ret := some .int) (by decide) rfl ?_
  intro p e s m args below meth c s₁ B hml hv
  obtain ⟨rfl, hP, hK, -⟩ := hv
  have hx := B.exec
  have hb := B.bytes
  have hret := B.returns
  have hw := fun w (h : w ∈ WA) => atoms_spec (ws := wsM_reckon) B.pre w (List.mem_cons_of_mem _ h)
  have hown : s.vm.findClass "FunctionRoomModel" = some m.cls := findClass_of_methodNamed B.named
  have hlocks := B.notSynchronized
  have hS0 : CallFix p m c cX1_reckon 8 s _ WA "FunctionRoomModel" := ⟨hx, hb, hml, hown, hw⟩
  have hl := lv_entry ([.ref (bd 0), .int op, .int r, .int a, .int b]) (n := 8) (Nat.le_of_ble_eq_true rfl)
  rw [lg_entry_eq]
  generalize (lg_sl ([.ref (bd 0), .int op, .int r, .int a, .int b]) ++ List.replicate (8 - (lg_sl ([.ref (bd 0), .int op, .int r, .int a, .int b])).length) Slot.unset).toArray = ls at hl ⊢
  replace hl : lv_has ls 8 [(0, .ref (bd 0)), (1, .int op), (2, .int r), (3, .int a), (4, .int b)] := hl
  have h512 := fr_pow512 hV
  refine fr_gen (A := fr_B bd) hP (fun H locs hP2 hS => ?_)
  clear hP
  have hP := hP2
  clear hP2
  refine lv_iload_n hx hb dX1_reckon_0 rfl (lv_at hl 1 rfl) ?_
  refine lv_if_lt (tgt := 31) hx hb dX1_reckon_1 rfl (fun h1 => ?_) (fun h1 => ?_)
  ·
    refine lv_iconst (v := (-1)) hx hb dX1_reckon_31 (by decide) ?_
    exact W.iret (v := (-1)) hx hb hret (fun t ht hW => ⟨⟨_, (row, made), rfl, by rw [show fr_sReckon V F op r a b = (-1, F) from if_neg (fr_and4 (Or.inl (fr_okB_no (fun z => z.1 h1))))]; exact ⟨rfl, hM⟩, by show va_P D vwCl _ t.heap; rw [ht]; exact hP⟩, hS.F ht⟩) hS.2.2 dX1_reckon_32
  ·
    refine lv_iload_n hx hb dX1_reckon_4 rfl (lv_at hl 1 rfl) ?_
    refine lv_iconst (v := 4) hx hb dX1_reckon_5 (by decide) ?_
    refine lv_icmp_gt (tgt := 31) hx hb dX1_reckon_6 rfl (fun h2 => ?_) (fun h2 => ?_)
    ·
      refine lv_iconst (v := (-1)) hx hb dX1_reckon_31 (by decide) ?_
      exact W.iret (v := (-1)) hx hb hret (fun t ht hW => ⟨⟨_, (row, made), rfl, by rw [show fr_sReckon V F op r a b = (-1, F) from if_neg (fr_and4 (Or.inl (fr_okB_no (fun z => fr_gt4 z h2))))]; exact ⟨rfl, hM⟩, by show va_P D vwCl _ t.heap; rw [ht]; exact hP⟩, hS.F ht⟩) hS.2.2 dX1_reckon_32
    ·
      obtain ⟨o, hLo, rfl⟩ := fr_ok_ex (by decide) (fr_ok5 h1 h2)
      refine lv_iload_n hx hb dX1_reckon_9 rfl (lv_at hl 2 rfl) ?_
      refine fr_cSi (As := [.int r]) hS0 (cM_is l r) (cw_M_is hw ⟨Nat.le_of_ble_eq_true rfl, Nat.le_of_ble_eq_true rfl⟩) (fr_pre0) rfl hl.1 rfl (Nat.le_of_ble_eq_true rfl) dX1_reckon_10 ⟨Nat.zero_le _, Nat.zero_le _⟩ (fun b0 hb0 => ?_)
      rcases hb0 with ⟨rfl, hOj⟩ | ⟨rfl, hno⟩
      ·
        refine lv_if_eq (tgt := 31) hx hb dX1_reckon_13 rfl (fun hz => absurd hz (by decide)) (fun hz => ?_)
        obtain ⟨j, hLj, rfl⟩ := fr_ok_ex (by decide) hOj
        refine lv_iload_n hx hb dX1_reckon_16 rfl (lv_at hl 3 rfl) ?_
        refine fr_cSi (As := [.int a]) hS0 (cM_is l a) (cw_M_is hw ⟨Nat.le_of_ble_eq_true rfl, Nat.le_of_ble_eq_true rfl⟩) (fr_pre0) rfl hl.1 rfl (Nat.le_of_ble_eq_true rfl) dX1_reckon_17 ⟨Nat.zero_le _, Nat.zero_le _⟩ (fun b0 hb0 => ?_)
        rcases hb0 with ⟨rfl, hOra⟩ | ⟨rfl, hno⟩
        ·
          refine lv_if_eq (tgt := 31) hx hb dX1_reckon_20 rfl (fun hz => absurd hz (by decide)) (fun hz => ?_)
          obtain ⟨ra, hLra, rfl⟩ := fr_ok_ex (by decide) hOra
          refine lv_iload hx hb dX1_reckon_23 (lv_at hl 4 rfl) ?_
          refine fr_cSi (As := [.int b]) hS0 (cM_is l b) (cw_M_is hw ⟨Nat.le_of_ble_eq_true rfl, Nat.le_of_ble_eq_true rfl⟩) (fr_pre0) rfl hl.1 rfl (Nat.le_of_ble_eq_true rfl) dX1_reckon_25 ⟨Nat.zero_le _, Nat.zero_le _⟩ (fun b0 hb0 => ?_)
          rcases hb0 with ⟨rfl, hOrb⟩ | ⟨rfl, hno⟩
          ·
            refine lv_if_ne (tgt := 33) hx hb dX1_reckon_28 rfl (fun hz => ?_) (fun hz => absurd hz (by decide))
            obtain ⟨rb, hLrb, rfl⟩ := fr_ok_ex (by decide) hOrb
            refine lv_iconst (v := 0) hx hb dX1_reckon_33 (by decide) ?_
            refine lv_istore hx hb dX1_reckon_34 hl (by decide) rfl (fun ls hl => ?_)
            replace hl : lv_has ls 8 [(5, .int 0), (0, .ref (bd 0)), (1, .int (nI o)), (2, .int (nI j)), (3, .int (nI ra)), (4, .int (nI rb))] := hl
            obtain ⟨n, i, hin, hi0⟩ : ∃ n i : Nat, i + n = 2 ^ V ∧ i = 0 := ⟨2 ^ V, 0, Nat.zero_add _, rfl⟩
            replace hl : lv_has ls 8 [(5, .int (nI i)), (0, .ref (bd 0)), (1, .int (nI o)), (2, .int (nI j)), (3, .int (nI ra)), (4, .int (nI rb))] := by rw [hi0]; exact hl
            have hg : ∀ x, x < i → made x = fr_bi (fr_co o (F ra x) (F rb x)) := fun x h => absurd h (by omega)
            clear hi0
            induction n generalizing i ls H locs made with
            | zero =>
              refine lv_iload hx hb dX1_reckon_36 (lv_at hl 0 rfl) ?_
              refine lv_aload_n hx hb dX1_reckon_38 rfl (lv_at hl 1 rfl) ?_
              refine fr_gM 1 hx hb hw hown hK hP (by decide) mG_all rfl dX1_reckon_39 ?_
              refine lv_icmp_ge (tgt := 192) hx hb dX1_reckon_42 rfl (fun hcm => ?_) (fun hcm => absurd (nI_le (show 2 ^ V ≤ i by omega) (by omega)) hcm)
              refine lv_aload_n hx hb dX1_reckon_192 rfl (lv_at hl 1 rfl) ?_
              refine lv_iload_n hx hb dX1_reckon_193 rfl (lv_at hl 3 rfl) ?_
              refine fr_Mm (As := [.int (nI j)]) hS0 (cM_keep l D V bd kb row made F hM hV hV1 hinj j (fun x => fr_co o (F ra x) (F rb x)) hLj (fun x h => hg x (by omega))) (cw_M_keep hw ⟨Nat.le_of_ble_eq_true rfl, Nat.le_of_ble_eq_true rfl⟩) hK hP hS rfl hl.1 rfl (Nat.le_of_ble_eq_true rfl) dX1_reckon_194 ⟨Nat.zero_le _, Nat.zero_le _⟩ (fun b u H locs hu hP hS => ?_)
              obtain ⟨rfl, hu2⟩ := hu
              have hsp : fr_sReckon V F (nI o) (nI j) (nI ra) (nI rb) = fr_set V F (nI j) (fun x => fr_co o (F ra x) (F rb x)) := by unfold fr_sReckon; rw [if_pos (by rw [fr_okB_nI hLo (by omega), fr_okB_nI hLj (by omega), fr_okB_nI hLra (by omega), fr_okB_nI hLrb (by omega)]; rfl), fr_v_nI (show o < 2 ^ 31 by omega), fr_v_nI (show ra < 2 ^ 31 by omega), fr_v_nI (show rb < 2 ^ 31 by omega)]
              exact W.iret (v := (nI (fr_cn (fun x => fr_co o (F ra x) (F rb x)) (2 ^ V)))) hx hb hret (fun t ht hW => ⟨⟨_, u, rfl, by rw [hsp]; refine ⟨rfl, ?_⟩; show fr_MR V (va_up F (fr_v (nI j)) _) _; rw [fr_v_nI (show j < 2 ^ 31 by omega)]; exact hu2, by show va_P D vwCl _ t.heap; rw [ht]; exact hP⟩, hS.F ht⟩) hS.2.2 dX1_reckon_197
            | succ n ih =>
              refine lv_iload hx hb dX1_reckon_36 (lv_at hl 0 rfl) ?_
              refine lv_aload_n hx hb dX1_reckon_38 rfl (lv_at hl 1 rfl) ?_
              refine fr_gM 1 hx hb hw hown hK hP (by decide) mG_all rfl dX1_reckon_39 ?_
              refine lv_icmp_ge (tgt := 192) hx hb dX1_reckon_42 rfl (fun hcm => absurd hcm (nI_ge (show i < 2 ^ V by omega) (by omega))) (fun hcm => ?_)
              have hi : i < 2 ^ V := by omega
              refine lv_aload_n hx hb dX1_reckon_45 rfl (lv_at hl 1 rfl) ?_
              refine fr_gM 2 hx hb hw hown hK hP (by decide) mG_row rfl dX1_reckon_46 ?_
              refine lv_sipush (v := 512) hx hb dX1_reckon_49 (by decide) ?_
              refine lv_iload_n hx hb dX1_reckon_52 rfl (lv_at hl 4 rfl) ?_
              refine lv_imul hx hb dX1_reckon_53 ?_
              refine lv_iload hx hb dX1_reckon_54 (lv_at hl 0 rfl) ?_
              refine lv_iadd hx hb dX1_reckon_56 ?_
              refine fr_top (show (((512 * nI ra) + nI i) : Int32) = nI (512 * ra + i) from by rw [show (512 : Int32) * nI ra = nI (512 * ra) from pk_mul 512 ra]; exact nI_add _ _) ?_
              refine fr_zald hx hb hK hP 1 0 rfl rfl (show 512 * ra + i < 16384 by omega) (by decide) dX1_reckon_57 ?_
              refine fr_top (show (row (512 * ra + i) : Int32) = fr_bi (F ra i) from hM ra i hLra hi) ?_
              refine lv_istore hx hb dX1_reckon_58 hl (by decide) rfl (fun ls hl => ?_)
              replace hl : lv_has ls 8 [(6, .int (fr_bi (F ra i))), (5, .int (nI i)), (0, .ref (bd 0)), (1, .int (nI o)), (2, .int (nI j)), (3, .int (nI ra)), (4, .int (nI rb))] := hl
              refine lv_aload_n hx hb dX1_reckon_60 rfl (lv_at hl 2 rfl) ?_
              refine fr_gM 2 hx hb hw hown hK hP (by decide) mG_row rfl dX1_reckon_61 ?_
              refine lv_sipush (v := 512) hx hb dX1_reckon_64 (by decide) ?_
              refine lv_iload hx hb dX1_reckon_67 (lv_at hl 6 rfl) ?_
              refine lv_imul hx hb dX1_reckon_69 ?_
              refine lv_iload hx hb dX1_reckon_70 (lv_at hl 1 rfl) ?_
              refine lv_iadd hx hb dX1_reckon_72 ?_
              refine fr_top (show (((512 * nI rb) + nI i) : Int32) = nI (512 * rb + i) from by rw [show (512 : Int32) * nI rb = nI (512 * rb) from pk_mul 512 rb]; exact nI_add _ _) ?_
              refine fr_zald hx hb hK hP 1 0 rfl rfl (show 512 * rb + i < 16384 by omega) (by decide) dX1_reckon_73 ?_
              refine fr_top (show (row (512 * rb + i) : Int32) = fr_bi (F rb i) from hM rb i hLrb hi) ?_
              refine lv_istore hx hb dX1_reckon_74 hl (by decide) rfl (fun ls hl => ?_)
              replace hl : lv_has ls 8 [(7, .int (fr_bi (F rb i))), (6, .int (fr_bi (F ra i))), (5, .int (nI i)), (0, .ref (bd 0)), (1, .int (nI o)), (2, .int (nI j)), (3, .int (nI ra)), (4, .int (nI rb))] := hl
              refine lv_aload_n hx hb dX1_reckon_76 rfl (lv_at hl 3 rfl) ?_
              refine fr_gM 3 hx hb hw hown hK hP (by decide) mG_made rfl dX1_reckon_77 ?_
              refine lv_iload hx hb dX1_reckon_80 (lv_at hl 2 rfl) ?_
              rcases (show o = 0 ∨ o = 1 ∨ o = 2 ∨ o = 3 ∨ o = 4 by omega) with rfl | rfl | rfl | rfl | rfl
              ·
                refine lv_iload_n hx hb dX1_reckon_82 rfl (lv_at hl 4 rfl) ?_
                refine lv_if_ne (tgt := 104) hx hb dX1_reckon_83 rfl (fun hz => absurd rfl hz) (fun hz => ?_)
                refine lv_iload hx hb dX1_reckon_86 (lv_at hl 1 rfl) ?_
                refine lv_if_eq (tgt := 100) hx hb dX1_reckon_88 rfl (fun hz => ?_) (fun hz => ?_)
                ·
                  have hp88 : (F ra i) = false := fr_bi_ne0.mp hz
                  refine lv_iconst (v := 0) hx hb dX1_reckon_100 (by decide) ?_
                  refine lv_goto (tgt := 185) hx hb dX1_reckon_101 rfl ?_
                  refine fr_zast (ws2 := fr_mw V bd kb row (upd made i (0))) hx hb hK hP (fr_DB hinj) hS 2 1 rfl rfl (show i < 512 by omega) (by decide) rfl dX1_reckon_185 rfl (fun H locs hP hS => ?_)
                  refine lv_iinc (k := 2) (v := nI (i + 1)) hx hb dX1_reckon_186 hl rfl (fr_inc i) (by decide) rfl (fun ls hl => ?_)
                  replace hl : lv_has ls 8 [(5, .int (nI (i + 1))), (7, .int (fr_bi (F rb i))), (6, .int (fr_bi (F ra i))), (0, .ref (bd 0)), (1, .int (nI 0)), (2, .int (nI j)), (3, .int (nI ra)), (4, .int (nI rb))] := hl
                  refine lv_goto (tgt := 36) hx hb dX1_reckon_189 rfl ?_
                  exact ih _ H locs hS hP ls (i + 1) (by omega) (lv_sub hl [0, 3, 4, 5, 6, 7] rfl) (fr_updZ hg (by simp [fr_co, fr_bi, hp88]))
                ·
                  have hp88 : (F ra i) = true := fr_bit hz
                  refine lv_iload hx hb dX1_reckon_91 (lv_at hl 0 rfl) ?_
                  refine lv_if_eq (tgt := 100) hx hb dX1_reckon_93 rfl (fun hz => ?_) (fun hz => ?_)
                  ·
                    have hp93 : (F rb i) = false := fr_bi_ne0.mp hz
                    refine lv_iconst (v := 0) hx hb dX1_reckon_100 (by decide) ?_
                    refine lv_goto (tgt := 185) hx hb dX1_reckon_101 rfl ?_
                    refine fr_zast (ws2 := fr_mw V bd kb row (upd made i (0))) hx hb hK hP (fr_DB hinj) hS 2 1 rfl rfl (show i < 512 by omega) (by decide) rfl dX1_reckon_185 rfl (fun H locs hP hS => ?_)
                    refine lv_iinc (k := 2) (v := nI (i + 1)) hx hb dX1_reckon_186 hl rfl (fr_inc i) (by decide) rfl (fun ls hl => ?_)
                    replace hl : lv_has ls 8 [(5, .int (nI (i + 1))), (7, .int (fr_bi (F rb i))), (6, .int (fr_bi (F ra i))), (0, .ref (bd 0)), (1, .int (nI 0)), (2, .int (nI j)), (3, .int (nI ra)), (4, .int (nI rb))] := hl
                    refine lv_goto (tgt := 36) hx hb dX1_reckon_189 rfl ?_
                    exact ih _ H locs hS hP ls (i + 1) (by omega) (lv_sub hl [0, 3, 4, 5, 6, 7] rfl) (fr_updZ hg (by simp [fr_co, fr_bi, hp88, hp93]))
                  ·
                    have hp93 : (F rb i) = true := fr_bit hz
                    refine lv_iconst (v := 1) hx hb dX1_reckon_96 (by decide) ?_
                    refine lv_goto (tgt := 185) hx hb dX1_reckon_97 rfl ?_
                    refine fr_zast (ws2 := fr_mw V bd kb row (upd made i (1))) hx hb hK hP (fr_DB hinj) hS 2 1 rfl rfl (show i < 512 by omega) (by decide) rfl dX1_reckon_185 rfl (fun H locs hP hS => ?_)
                    refine lv_iinc (k := 2) (v := nI (i + 1)) hx hb dX1_reckon_186 hl rfl (fr_inc i) (by decide) rfl (fun ls hl => ?_)
                    replace hl : lv_has ls 8 [(5, .int (nI (i + 1))), (7, .int (fr_bi (F rb i))), (6, .int (fr_bi (F ra i))), (0, .ref (bd 0)), (1, .int (nI 0)), (2, .int (nI j)), (3, .int (nI ra)), (4, .int (nI rb))] := hl
                    refine lv_goto (tgt := 36) hx hb dX1_reckon_189 rfl ?_
                    exact ih _ H locs hS hP ls (i + 1) (by omega) (lv_sub hl [0, 3, 4, 5, 6, 7] rfl) (fr_updZ hg (by simp [fr_co, fr_bi, hp88, hp93]))
              ·
                refine lv_iload_n hx hb dX1_reckon_82 rfl (lv_at hl 4 rfl) ?_
                refine lv_if_ne (tgt := 104) hx hb dX1_reckon_83 rfl (fun hz => ?_) (fun hz => absurd hz (by decide))
                refine lv_iload_n hx hb dX1_reckon_104 rfl (lv_at hl 4 rfl) ?_
                refine lv_iconst (v := 1) hx hb dX1_reckon_105 (by decide) ?_
                refine lv_icmp_ne (tgt := 127) hx hb dX1_reckon_106 rfl (fun hz => absurd rfl hz) (fun hz => ?_)
                refine lv_iload hx hb dX1_reckon_109 (lv_at hl 1 rfl) ?_
                refine lv_if_ne (tgt := 119) hx hb dX1_reckon_111 rfl (fun hz => ?_) (fun hz => ?_)
                ·
                  have hp111 : (F ra i) = true := fr_bit hz
                  refine lv_iconst (v := 1) hx hb dX1_reckon_119 (by decide) ?_
                  refine lv_goto (tgt := 185) hx hb dX1_reckon_120 rfl ?_
                  refine fr_zast (ws2 := fr_mw V bd kb row (upd made i (1))) hx hb hK hP (fr_DB hinj) hS 2 1 rfl rfl (show i < 512 by omega) (by decide) rfl dX1_reckon_185 rfl (fun H locs hP hS => ?_)
                  refine lv_iinc (k := 2) (v := nI (i + 1)) hx hb dX1_reckon_186 hl rfl (fr_inc i) (by decide) rfl (fun ls hl => ?_)
                  replace hl : lv_has ls 8 [(5, .int (nI (i + 1))), (7, .int (fr_bi (F rb i))), (6, .int (fr_bi (F ra i))), (0, .ref (bd 0)), (1, .int (nI 1)), (2, .int (nI j)), (3, .int (nI ra)), (4, .int (nI rb))] := hl
                  refine lv_goto (tgt := 36) hx hb dX1_reckon_189 rfl ?_
                  exact ih _ H locs hS hP ls (i + 1) (by omega) (lv_sub hl [0, 3, 4, 5, 6, 7] rfl) (fr_updZ hg (by simp [fr_co, fr_bi, hp111]))
                ·
                  have hp111 : (F ra i) = false := fr_bi_ne0.mp hz
                  refine lv_iload hx hb dX1_reckon_114 (lv_at hl 0 rfl) ?_
                  refine lv_if_eq (tgt := 123) hx hb dX1_reckon_116 rfl (fun hz => ?_) (fun hz => ?_)
                  ·
                    have hp116 : (F rb i) = false := fr_bi_ne0.mp hz
                    refine lv_iconst (v := 0) hx hb dX1_reckon_123 (by decide) ?_
                    refine lv_goto (tgt := 185) hx hb dX1_reckon_124 rfl ?_
                    refine fr_zast (ws2 := fr_mw V bd kb row (upd made i (0))) hx hb hK hP (fr_DB hinj) hS 2 1 rfl rfl (show i < 512 by omega) (by decide) rfl dX1_reckon_185 rfl (fun H locs hP hS => ?_)
                    refine lv_iinc (k := 2) (v := nI (i + 1)) hx hb dX1_reckon_186 hl rfl (fr_inc i) (by decide) rfl (fun ls hl => ?_)
                    replace hl : lv_has ls 8 [(5, .int (nI (i + 1))), (7, .int (fr_bi (F rb i))), (6, .int (fr_bi (F ra i))), (0, .ref (bd 0)), (1, .int (nI 1)), (2, .int (nI j)), (3, .int (nI ra)), (4, .int (nI rb))] := hl
                    refine lv_goto (tgt := 36) hx hb dX1_reckon_189 rfl ?_
                    exact ih _ H locs hS hP ls (i + 1) (by omega) (lv_sub hl [0, 3, 4, 5, 6, 7] rfl) (fr_updZ hg (by simp [fr_co, fr_bi, hp111, hp116]))
                  ·
                    have hp116 : (F rb i) = true := fr_bit hz
                    refine lv_iconst (v := 1) hx hb dX1_reckon_119 (by decide) ?_
                    refine lv_goto (tgt := 185) hx hb dX1_reckon_120 rfl ?_
                    refine fr_zast (ws2 := fr_mw V bd kb row (upd made i (1))) hx hb hK hP (fr_DB hinj) hS 2 1 rfl rfl (show i < 512 by omega) (by decide) rfl dX1_reckon_185 rfl (fun H locs hP hS => ?_)
                    refine lv_iinc (k := 2) (v := nI (i + 1)) hx hb dX1_reckon_186 hl rfl (fr_inc i) (by decide) rfl (fun ls hl => ?_)
                    replace hl : lv_has ls 8 [(5, .int (nI (i + 1))), (7, .int (fr_bi (F rb i))), (6, .int (fr_bi (F ra i))), (0, .ref (bd 0)), (1, .int (nI 1)), (2, .int (nI j)), (3, .int (nI ra)), (4, .int (nI rb))] := hl
                    refine lv_goto (tgt := 36) hx hb dX1_reckon_189 rfl ?_
                    exact ih _ H locs hS hP ls (i + 1) (by omega) (lv_sub hl [0, 3, 4, 5, 6, 7] rfl) (fr_updZ hg (by simp [fr_co, fr_bi, hp111, hp116]))
              ·
                refine lv_iload_n hx hb dX1_reckon_82 rfl (lv_at hl 4 rfl) ?_
                refine lv_if_ne (tgt := 104) hx hb dX1_reckon_83 rfl (fun hz => ?_) (fun hz => absurd hz (by decide))
                refine lv_iload_n hx hb dX1_reckon_104 rfl (lv_at hl 4 rfl) ?_
                refine lv_iconst (v := 1) hx hb dX1_reckon_105 (by decide) ?_
                refine lv_icmp_ne (tgt := 127) hx hb dX1_reckon_106 rfl (fun hz => ?_) (fun hz => absurd hz (by decide))
                refine lv_iload_n hx hb dX1_reckon_127 rfl (lv_at hl 4 rfl) ?_
                refine lv_iconst (v := 2) hx hb dX1_reckon_128 (by decide) ?_
                refine lv_icmp_ne (tgt := 147) hx hb dX1_reckon_129 rfl (fun hz => absurd rfl hz) (fun hz => ?_)
                refine lv_iload hx hb dX1_reckon_132 (lv_at hl 1 rfl) ?_
                refine lv_iload hx hb dX1_reckon_134 (lv_at hl 0 rfl) ?_
                refine lv_icmp_eq (tgt := 143) hx hb dX1_reckon_136 rfl (fun hz => ?_) (fun hz => ?_)
                ·
                  have hpq : (F ra i) = (F rb i) := fr_bi_inj.mp hz
                  refine lv_iconst (v := 0) hx hb dX1_reckon_143 (by decide) ?_
                  refine lv_goto (tgt := 185) hx hb dX1_reckon_144 rfl ?_
                  refine fr_zast (ws2 := fr_mw V bd kb row (upd made i (0))) hx hb hK hP (fr_DB hinj) hS 2 1 rfl rfl (show i < 512 by omega) (by decide) rfl dX1_reckon_185 rfl (fun H locs hP hS => ?_)
                  refine lv_iinc (k := 2) (v := nI (i + 1)) hx hb dX1_reckon_186 hl rfl (fr_inc i) (by decide) rfl (fun ls hl => ?_)
                  replace hl : lv_has ls 8 [(5, .int (nI (i + 1))), (7, .int (fr_bi (F rb i))), (6, .int (fr_bi (F ra i))), (0, .ref (bd 0)), (1, .int (nI 2)), (2, .int (nI j)), (3, .int (nI ra)), (4, .int (nI rb))] := hl
                  refine lv_goto (tgt := 36) hx hb dX1_reckon_189 rfl ?_
                  exact ih _ H locs hS hP ls (i + 1) (by omega) (lv_sub hl [0, 3, 4, 5, 6, 7] rfl) (fr_updZ hg (by simp [fr_co, fr_bi, hpq]))
                ·
                  have hpq : (F ra i ^^ F rb i) = true := fr_bxor hz
                  refine lv_iconst (v := 1) hx hb dX1_reckon_139 (by decide) ?_
                  refine lv_goto (tgt := 185) hx hb dX1_reckon_140 rfl ?_
                  refine fr_zast (ws2 := fr_mw V bd kb row (upd made i (1))) hx hb hK hP (fr_DB hinj) hS 2 1 rfl rfl (show i < 512 by omega) (by decide) rfl dX1_reckon_185 rfl (fun H locs hP hS => ?_)
                  refine lv_iinc (k := 2) (v := nI (i + 1)) hx hb dX1_reckon_186 hl rfl (fr_inc i) (by decide) rfl (fun ls hl => ?_)
                  replace hl : lv_has ls 8 [(5, .int (nI (i + 1))), (7, .int (fr_bi (F rb i))), (6, .int (fr_bi (F ra i))), (0, .ref (bd 0)), (1, .int (nI 2)), (2, .int (nI j)), (3, .int (nI ra)), (4, .int (nI rb))] := hl
                  refine lv_goto (tgt := 36) hx hb dX1_reckon_189 rfl ?_
                  exact ih _ H locs hS hP ls (i + 1) (by omega) (lv_sub hl [0, 3, 4, 5, 6, 7] rfl) (fr_updZ hg (by simp [fr_co, fr_bi, hpq]))
              ·
                refine lv_iload_n hx hb dX1_reckon_82 rfl (lv_at hl 4 rfl) ?_
                refine lv_if_ne (tgt := 104) hx hb dX1_reckon_83 rfl (fun hz => ?_) (fun hz => absurd hz (by decide))
                refine lv_iload_n hx hb dX1_reckon_104 rfl (lv_at hl 4 rfl) ?_
                refine lv_iconst (v := 1) hx hb dX1_reckon_105 (by decide) ?_
                refine lv_icmp_ne (tgt := 127) hx hb dX1_reckon_106 rfl (fun hz => ?_) (fun hz => absurd hz (by decide))
                refine lv_iload_n hx hb dX1_reckon_127 rfl (lv_at hl 4 rfl) ?_
                refine lv_iconst (v := 2) hx hb dX1_reckon_128 (by decide) ?_
                refine lv_icmp_ne (tgt := 147) hx hb dX1_reckon_129 rfl (fun hz => ?_) (fun hz => absurd hz (by decide))
                refine lv_iload_n hx hb dX1_reckon_147 rfl (lv_at hl 4 rfl) ?_
                refine lv_iconst (v := 3) hx hb dX1_reckon_148 (by decide) ?_
                refine lv_icmp_ne (tgt := 170) hx hb dX1_reckon_149 rfl (fun hz => absurd rfl hz) (fun hz => ?_)
                refine lv_iload hx hb dX1_reckon_152 (lv_at hl 1 rfl) ?_
                refine lv_if_eq (tgt := 166) hx hb dX1_reckon_154 rfl (fun hz => ?_) (fun hz => ?_)
                ·
                  have hp154 : (F ra i) = false := fr_bi_ne0.mp hz
                  refine lv_iconst (v := 0) hx hb dX1_reckon_166 (by decide) ?_
                  refine lv_goto (tgt := 185) hx hb dX1_reckon_167 rfl ?_
                  refine fr_zast (ws2 := fr_mw V bd kb row (upd made i (0))) hx hb hK hP (fr_DB hinj) hS 2 1 rfl rfl (show i < 512 by omega) (by decide) rfl dX1_reckon_185 rfl (fun H locs hP hS => ?_)
                  refine lv_iinc (k := 2) (v := nI (i + 1)) hx hb dX1_reckon_186 hl rfl (fr_inc i) (by decide) rfl (fun ls hl => ?_)
                  replace hl : lv_has ls 8 [(5, .int (nI (i + 1))), (7, .int (fr_bi (F rb i))), (6, .int (fr_bi (F ra i))), (0, .ref (bd 0)), (1, .int (nI 3)), (2, .int (nI j)), (3, .int (nI ra)), (4, .int (nI rb))] := hl
                  refine lv_goto (tgt := 36) hx hb dX1_reckon_189 rfl ?_
                  exact ih _ H locs hS hP ls (i + 1) (by omega) (lv_sub hl [0, 3, 4, 5, 6, 7] rfl) (fr_updZ hg (by simp [fr_co, fr_bi, hp154]))
                ·
                  have hp154 : (F ra i) = true := fr_bit hz
                  refine lv_iload hx hb dX1_reckon_157 (lv_at hl 0 rfl) ?_
                  refine lv_if_ne (tgt := 166) hx hb dX1_reckon_159 rfl (fun hz => ?_) (fun hz => ?_)
                  ·
                    have hp159 : (F rb i) = true := fr_bit hz
                    refine lv_iconst (v := 0) hx hb dX1_reckon_166 (by decide) ?_
                    refine lv_goto (tgt := 185) hx hb dX1_reckon_167 rfl ?_
                    refine fr_zast (ws2 := fr_mw V bd kb row (upd made i (0))) hx hb hK hP (fr_DB hinj) hS 2 1 rfl rfl (show i < 512 by omega) (by decide) rfl dX1_reckon_185 rfl (fun H locs hP hS => ?_)
                    refine lv_iinc (k := 2) (v := nI (i + 1)) hx hb dX1_reckon_186 hl rfl (fr_inc i) (by decide) rfl (fun ls hl => ?_)
                    replace hl : lv_has ls 8 [(5, .int (nI (i + 1))), (7, .int (fr_bi (F rb i))), (6, .int (fr_bi (F ra i))), (0, .ref (bd 0)), (1, .int (nI 3)), (2, .int (nI j)), (3, .int (nI ra)), (4, .int (nI rb))] := hl
                    refine lv_goto (tgt := 36) hx hb dX1_reckon_189 rfl ?_
                    exact ih _ H locs hS hP ls (i + 1) (by omega) (lv_sub hl [0, 3, 4, 5, 6, 7] rfl) (fr_updZ hg (by simp [fr_co, fr_bi, hp154, hp159]))
                  ·
                    have hp159 : (F rb i) = false := fr_bi_ne0.mp hz
                    refine lv_iconst (v := 1) hx hb dX1_reckon_162 (by decide) ?_
                    refine lv_goto (tgt := 185) hx hb dX1_reckon_163 rfl ?_
                    refine fr_zast (ws2 := fr_mw V bd kb row (upd made i (1))) hx hb hK hP (fr_DB hinj) hS 2 1 rfl rfl (show i < 512 by omega) (by decide) rfl dX1_reckon_185 rfl (fun H locs hP hS => ?_)
                    refine lv_iinc (k := 2) (v := nI (i + 1)) hx hb dX1_reckon_186 hl rfl (fr_inc i) (by decide) rfl (fun ls hl => ?_)
                    replace hl : lv_has ls 8 [(5, .int (nI (i + 1))), (7, .int (fr_bi (F rb i))), (6, .int (fr_bi (F ra i))), (0, .ref (bd 0)), (1, .int (nI 3)), (2, .int (nI j)), (3, .int (nI ra)), (4, .int (nI rb))] := hl
                    refine lv_goto (tgt := 36) hx hb dX1_reckon_189 rfl ?_
                    exact ih _ H locs hS hP ls (i + 1) (by omega) (lv_sub hl [0, 3, 4, 5, 6, 7] rfl) (fr_updZ hg (by simp [fr_co, fr_bi, hp154, hp159]))
              ·
                refine lv_iload_n hx hb dX1_reckon_82 rfl (lv_at hl 4 rfl) ?_
                refine lv_if_ne (tgt := 104) hx hb dX1_reckon_83 rfl (fun hz => ?_) (fun hz => absurd hz (by decide))
                refine lv_iload_n hx hb dX1_reckon_104 rfl (lv_at hl 4 rfl) ?_
                refine lv_iconst (v := 1) hx hb dX1_reckon_105 (by decide) ?_
                refine lv_icmp_ne (tgt := 127) hx hb dX1_reckon_106 rfl (fun hz => ?_) (fun hz => absurd hz (by decide))
                refine lv_iload_n hx hb dX1_reckon_127 rfl (lv_at hl 4 rfl) ?_
                refine lv_iconst (v := 2) hx hb dX1_reckon_128 (by decide) ?_
                refine lv_icmp_ne (tgt := 147) hx hb dX1_reckon_129 rfl (fun hz => ?_) (fun hz => absurd hz (by decide))
                refine lv_iload_n hx hb dX1_reckon_147 rfl (lv_at hl 4 rfl) ?_
                refine lv_iconst (v := 3) hx hb dX1_reckon_148 (by decide) ?_
                refine lv_icmp_ne (tgt := 170) hx hb dX1_reckon_149 rfl (fun hz => ?_) (fun hz => absurd hz (by decide))
                refine lv_iload hx hb dX1_reckon_170 (lv_at hl 1 rfl) ?_
                refine lv_if_eq (tgt := 180) hx hb dX1_reckon_172 rfl (fun hz => ?_) (fun hz => ?_)
                ·
                  have hp172 : (F ra i) = false := fr_bi_ne0.mp hz
                  refine lv_iconst (v := 1) hx hb dX1_reckon_180 (by decide) ?_
                  refine lv_goto (tgt := 185) hx hb dX1_reckon_181 rfl ?_
                  refine fr_zast (ws2 := fr_mw V bd kb row (upd made i (1))) hx hb hK hP (fr_DB hinj) hS 2 1 rfl rfl (show i < 512 by omega) (by decide) rfl dX1_reckon_185 rfl (fun H locs hP hS => ?_)
                  refine lv_iinc (k := 2) (v := nI (i + 1)) hx hb dX1_reckon_186 hl rfl (fr_inc i) (by decide) rfl (fun ls hl => ?_)
                  replace hl : lv_has ls 8 [(5, .int (nI (i + 1))), (7, .int (fr_bi (F rb i))), (6, .int (fr_bi (F ra i))), (0, .ref (bd 0)), (1, .int (nI 4)), (2, .int (nI j)), (3, .int (nI ra)), (4, .int (nI rb))] := hl
                  refine lv_goto (tgt := 36) hx hb dX1_reckon_189 rfl ?_
                  exact ih _ H locs hS hP ls (i + 1) (by omega) (lv_sub hl [0, 3, 4, 5, 6, 7] rfl) (fr_updZ hg (by simp [fr_co, fr_bi, hp172]))
                ·
                  have hp172 : (F ra i) = true := fr_bit hz
                  refine lv_iload hx hb dX1_reckon_175 (lv_at hl 0 rfl) ?_
                  refine lv_if_eq (tgt := 184) hx hb dX1_reckon_177 rfl (fun hz => ?_) (fun hz => ?_)
                  ·
                    have hp177 : (F rb i) = false := fr_bi_ne0.mp hz
                    refine lv_iconst (v := 0) hx hb dX1_reckon_184 (by decide) ?_
                    refine fr_zast (ws2 := fr_mw V bd kb row (upd made i (0))) hx hb hK hP (fr_DB hinj) hS 2 1 rfl rfl (show i < 512 by omega) (by decide) rfl dX1_reckon_185 rfl (fun H locs hP hS => ?_)
                    refine lv_iinc (k := 2) (v := nI (i + 1)) hx hb dX1_reckon_186 hl rfl (fr_inc i) (by decide) rfl (fun ls hl => ?_)
                    replace hl : lv_has ls 8 [(5, .int (nI (i + 1))), (7, .int (fr_bi (F rb i))), (6, .int (fr_bi (F ra i))), (0, .ref (bd 0)), (1, .int (nI 4)), (2, .int (nI j)), (3, .int (nI ra)), (4, .int (nI rb))] := hl
                    refine lv_goto (tgt := 36) hx hb dX1_reckon_189 rfl ?_
                    exact ih _ H locs hS hP ls (i + 1) (by omega) (lv_sub hl [0, 3, 4, 5, 6, 7] rfl) (fr_updZ hg (by simp [fr_co, fr_bi, hp172, hp177]))
                  ·
                    have hp177 : (F rb i) = true := fr_bit hz
                    refine lv_iconst (v := 1) hx hb dX1_reckon_180 (by decide) ?_
                    refine lv_goto (tgt := 185) hx hb dX1_reckon_181 rfl ?_
                    refine fr_zast (ws2 := fr_mw V bd kb row (upd made i (1))) hx hb hK hP (fr_DB hinj) hS 2 1 rfl rfl (show i < 512 by omega) (by decide) rfl dX1_reckon_185 rfl (fun H locs hP hS => ?_)
                    refine lv_iinc (k := 2) (v := nI (i + 1)) hx hb dX1_reckon_186 hl rfl (fr_inc i) (by decide) rfl (fun ls hl => ?_)
                    replace hl : lv_has ls 8 [(5, .int (nI (i + 1))), (7, .int (fr_bi (F rb i))), (6, .int (fr_bi (F ra i))), (0, .ref (bd 0)), (1, .int (nI 4)), (2, .int (nI j)), (3, .int (nI ra)), (4, .int (nI rb))] := hl
                    refine lv_goto (tgt := 36) hx hb dX1_reckon_189 rfl ?_
                    exact ih _ H locs hS hP ls (i + 1) (by omega) (lv_sub hl [0, 3, 4, 5, 6, 7] rfl) (fr_updZ hg (by simp [fr_co, fr_bi, hp172, hp177]))
          ·
            refine lv_if_ne (tgt := 33) hx hb dX1_reckon_28 rfl (fun hz => absurd rfl hz) (fun hz => ?_)
            refine lv_iconst (v := (-1)) hx hb dX1_reckon_31 (by decide) ?_
            exact W.iret (v := (-1)) hx hb hret (fun t ht hW => ⟨⟨_, (row, made), rfl, by rw [show fr_sReckon V F (nI o) (nI j) (nI ra) b = (-1, F) from if_neg (fr_and4 (Or.inr (Or.inr (Or.inr (fr_okB_no (hno))))))]; exact ⟨rfl, hM⟩, by show va_P D vwCl _ t.heap; rw [ht]; exact hP⟩, hS.F ht⟩) hS.2.2 dX1_reckon_32
        ·
          refine lv_if_eq (tgt := 31) hx hb dX1_reckon_20 rfl (fun hz => ?_) (fun hz => absurd rfl hz)
          refine lv_iconst (v := (-1)) hx hb dX1_reckon_31 (by decide) ?_
          exact W.iret (v := (-1)) hx hb hret (fun t ht hW => ⟨⟨_, (row, made), rfl, by rw [show fr_sReckon V F (nI o) (nI j) a b = (-1, F) from if_neg (fr_and4 (Or.inr (Or.inr (Or.inl (fr_okB_no (hno))))))]; exact ⟨rfl, hM⟩, by show va_P D vwCl _ t.heap; rw [ht]; exact hP⟩, hS.F ht⟩) hS.2.2 dX1_reckon_32
      ·
        refine lv_if_eq (tgt := 31) hx hb dX1_reckon_13 rfl (fun hz => ?_) (fun hz => absurd rfl hz)
        refine lv_iconst (v := (-1)) hx hb dX1_reckon_31 (by decide) ?_
        exact W.iret (v := (-1)) hx hb hret (fun t ht hW => ⟨⟨_, (row, made), rfl, by rw [show fr_sReckon V F (nI o) r a b = (-1, F) from if_neg (fr_and4 (Or.inr (Or.inl (fr_okB_no (hno)))))]; exact ⟨rfl, hM⟩, by show va_P D vwCl _ t.heap; rw [ht]; exact hP⟩, hS.F ht⟩) hS.2.2 dX1_reckon_32
set_option maxHeartbeats 4000000 in
set_option maxRecDepth 100000 in
theorem cM_with (l : Launch) (D : va_G) (V : Nat) (bd : Nat → Nat) (kb : Nat → ClassId) (row made : Nat → Int32) (F : fr_F) (hM : fr_MR V F row) (hV : V < 10) (hV1 : 1 ≤ V) (hinj : fr_injB bd) (r a v : Int32) (one : Bool)    : Met l yX1_with wsM_with rmM_with (va_Pc [.ref (bd 0), .int r, .int a, .int v, .int (fr_bi one)] (fr_PM D V bd kb row made)) (va_Qi (fun (res : Int32) (u : (Nat → Int32) × (Nat → Int32)) => res = (fr_sWith V F r a v one).1 ∧ fr_MR V (fr_sWith V F r a v one).2 u.1) (fun u t => va_P D vwCl (fr_mw V bd kb u.1 u.2) t.heap) (fr_B bd)) 0 0 (fr_B bd) := by
  refine Met.ofW (cc := cX1_with) (maxL := 6) (ret := some .int) (by decide) rfl ?_
  intro p e s m args below meth c s₁ B hml hv
  obtain ⟨rfl, hP, hK, -⟩ := hv
  have hx := B.exec
  have hb := B.bytes
  have hret := B.returns
  have hw := fun w (h : w ∈ WA) => atoms_spec (ws := wsM_with) B.pre w (List.mem_cons_of_mem _ h)
  have hown : s.vm.findClass "FunctionRoomModel" = some m.cls := findClass_of_methodNamed B.named
  have hlocks := B.notSynchronized
  have hS0 : CallFix p m c cX1_with 6 s _ WA "FunctionRoomModel" := ⟨hx, hb, hml, hown, hw⟩
  have hl := lv_entry ([.ref (bd 0), .int r, .int a, .int v, .int (fr_bi one)]) (n := 6) (Nat.le_of_ble_eq_true rfl)
  rw [lg_entry_eq]
  generalize (lg_sl ([.ref (bd 0), .int r, .int a, .int v, .int (fr_bi one)]) ++ List.replicate (6 - (lg_sl ([.ref (bd 0), .int r, .int a, .int v, .int (fr_bi one)])).length) Slot.unset).toArray = ls at hl ⊢
  replace hl : lv_has ls 6 [(0, .ref (bd 0)), (1, .int r), (2, .int a), (3, .int v), (4, .int (fr_bi one))] := hl
  have h512 := fr_pow512 hV
  refine fr_gen (A := fr_B bd) hP (fun H locs hP2 hS => ?_)
  clear hP
  have hP := hP2
  clear hP2
  refine lv_iload_n hx hb dX1_with_0 rfl (lv_at hl 1 rfl) ?_
  refine fr_cSi (As := [.int r]) hS0 (cM_is l r) (cw_M_is hw ⟨Nat.le_of_ble_eq_true rfl, Nat.le_of_ble_eq_true rfl⟩) (fr_pre0) rfl hl.1 rfl (Nat.le_of_ble_eq_true rfl) dX1_with_1 ⟨Nat.zero_le _, Nat.zero_le _⟩ (fun b0 hb0 => ?_)
  rcases hb0 with ⟨rfl, hOj⟩ | ⟨rfl, hno⟩
  ·
    refine lv_if_eq (tgt := 22) hx hb dX1_with_4 rfl (fun hz => absurd hz (by decide)) (fun hz => ?_)
    obtain ⟨j, hLj, rfl⟩ := fr_ok_ex (by decide) hOj
    refine lv_iload_n hx hb dX1_with_7 rfl (lv_at hl 2 rfl) ?_
    refine fr_cSi (As := [.int a]) hS0 (cM_is l a) (cw_M_is hw ⟨Nat.le_of_ble_eq_true rfl, Nat.le_of_ble_eq_true rfl⟩) (fr_pre0) rfl hl.1 rfl (Nat.le_of_ble_eq_true rfl) dX1_with_8 ⟨Nat.zero_le _, Nat.zero_le _⟩ (fun b0 hb0 => ?_)
    rcases hb0 with ⟨rfl, hOra⟩ | ⟨rfl, hno⟩
    ·
      refine lv_if_eq (tgt := 22) hx hb dX1_with_11 rfl (fun hz => absurd hz (by decide)) (fun hz => ?_)
      obtain ⟨ra, hLra, rfl⟩ := fr_ok_ex (by decide) hOra
      refine lv_aload_n hx hb dX1_with_14 rfl (lv_at hl 0 rfl) ?_
      refine lv_iload_n hx hb dX1_with_15 rfl (lv_at hl 3 rfl) ?_
      refine fr_Mi (As := [.int v]) hS0 (cM_var l D V bd kb row made v) (cw_M_var hw ⟨Nat.le_of_ble_eq_true rfl, Nat.le_of_ble_eq_true rfl⟩) hK hP rfl hl.1 rfl (Nat.le_of_ble_eq_true rfl) dX1_with_16 ⟨Nat.zero_le _, Nat.zero_le _⟩ (fun b0 hb0 => ?_)
      rcases hb0 with ⟨rfl, hOk⟩ | ⟨rfl, hno⟩
      ·
        refine lv_if_ne (tgt := 24) hx hb dX1_with_19 rfl (fun hz => ?_) (fun hz => absurd hz (by decide))
        obtain ⟨k, hLk, rfl⟩ := fr_ok_ex (by omega) hOk
        refine lv_iconst (v := 0) hx hb dX1_with_24 (by decide) ?_
        refine lv_istore hx hb dX1_with_25 hl (by decide) rfl (fun ls hl => ?_)
        replace hl : lv_has ls 6 [(5, .int 0), (0, .ref (bd 0)), (1, .int (nI j)), (2, .int (nI ra)), (3, .int (nI k)), (4, .int (fr_bi one))] := hl
        obtain ⟨n, i, hin, hi0⟩ : ∃ n i : Nat, i + n = 2 ^ V ∧ i = 0 := ⟨2 ^ V, 0, Nat.zero_add _, rfl⟩
        replace hl : lv_has ls 6 [(5, .int (nI i)), (0, .ref (bd 0)), (1, .int (nI j)), (2, .int (nI ra)), (3, .int (nI k)), (4, .int (fr_bi one))] := by rw [hi0]; exact hl
        have hg : ∀ x, x < i → made x = fr_bi (F ra (fr_sb x (V - 1 - k) one)) := fun x h => absurd h (by omega)
        clear hi0
        induction n generalizing i ls H locs made with
        | zero =>
          refine lv_iload hx hb dX1_with_27 (lv_at hl 0 rfl) ?_
          refine lv_aload_n hx hb dX1_with_29 rfl (lv_at hl 1 rfl) ?_
          refine fr_gM 1 hx hb hw hown hK hP (by decide) mG_all rfl dX1_with_30 ?_
          refine lv_icmp_ge (tgt := 86) hx hb dX1_with_33 rfl (fun hcm => ?_) (fun hcm => absurd (nI_le (show 2 ^ V ≤ i by omega) (by omega)) hcm)
          refine lv_aload_n hx hb dX1_with_86 rfl (lv_at hl 1 rfl) ?_
          refine lv_iload_n hx hb dX1_with_87 rfl (lv_at hl 2 rfl) ?_
          refine fr_Mm (As := [.int (nI j)]) hS0 (cM_keep l D V bd kb row made F hM hV hV1 hinj j (fun x => F ra (fr_sb x (V - 1 - k) one)) hLj (fun x h => hg x (by omega))) (cw_M_keep hw ⟨Nat.le_of_ble_eq_true rfl, Nat.le_of_ble_eq_true rfl⟩) hK hP hS rfl hl.1 rfl (Nat.le_of_ble_eq_true rfl) dX1_with_88 ⟨Nat.zero_le _, Nat.zero_le _⟩ (fun b u H locs hu hP hS => ?_)
          obtain ⟨rfl, hu2⟩ := hu
          have hsp : fr_sWith V F (nI j) (nI ra) (nI k) one = fr_set V F (nI j) (fun x => F ra (fr_sb x (V - 1 - k) one)) := by unfold fr_sWith; rw [if_pos (by rw [fr_okB_nI hLj (by omega), fr_okB_nI hLra (by omega), fr_okB_nI hLk (by omega)]; rfl), fr_v_nI (show ra < 2 ^ 31 by omega), fr_v_nI (show k < 2 ^ 31 by omega)]
          exact W.iret (v := (nI (fr_cn (fun x => F ra (fr_sb x (V - 1 - k) one)) (2 ^ V)))) hx hb hret (fun t ht hW => ⟨⟨_, u, rfl, by rw [hsp]; refine ⟨rfl, ?_⟩; show fr_MR V (va_up F (fr_v (nI j)) _) _; rw [fr_v_nI (show j < 2 ^ 31 by omega)]; exact hu2, by show va_P D vwCl _ t.heap; rw [ht]; exact hP⟩, hS.F ht⟩) hS.2.2 dX1_with_91
        | succ n ih =>
          refine lv_iload hx hb dX1_with_27 (lv_at hl 0 rfl) ?_
          refine lv_aload_n hx hb dX1_with_29 rfl (lv_at hl 1 rfl) ?_
          refine fr_gM 1 hx hb hw hown hK hP (by decide) mG_all rfl dX1_with_30 ?_
          refine lv_icmp_ge (tgt := 86) hx hb dX1_with_33 rfl (fun hcm => absurd hcm (nI_ge (show i < 2 ^ V by omega) (by omega))) (fun hcm => ?_)
          have hi : i < 2 ^ V := by omega
          refine lv_aload_n hx hb dX1_with_36 rfl (lv_at hl 1 rfl) ?_
          refine fr_gM 3 hx hb hw hown hK hP (by decide) mG_made rfl dX1_with_37 ?_
          refine lv_iload hx hb dX1_with_40 (lv_at hl 0 rfl) ?_
          refine lv_aload_n hx hb dX1_with_42 rfl (lv_at hl 1 rfl) ?_
          refine fr_gM 2 hx hb hw hown hK hP (by decide) mG_row rfl dX1_with_43 ?_
          refine lv_sipush (v := 512) hx hb dX1_with_46 (by decide) ?_
          refine lv_iload_n hx hb dX1_with_49 rfl (lv_at hl 3 rfl) ?_
          refine lv_imul hx hb dX1_with_50 ?_
          refine lv_iload hx hb dX1_with_51 (lv_at hl 5 rfl) ?_
          refine lv_if_eq (tgt := 67) hx hb dX1_with_53 rfl (fun hz => ?_) (fun hz => ?_)
          ·
            have hq : one = false := fr_bi_ne0.mp hz
            refine lv_iload hx hb dX1_with_67 (lv_at hl 0 rfl) ?_
            refine lv_aload_n hx hb dX1_with_69 rfl (lv_at hl 1 rfl) ?_
            refine lv_iload_n hx hb dX1_with_70 rfl (lv_at hl 4 rfl) ?_
            refine fr_Mi (As := [.int (nI k)]) hS0 (cM_bit l D V bd kb row made k hLk hV) (cw_M_bit hw ⟨Nat.le_of_ble_eq_true rfl, Nat.le_of_ble_eq_true rfl⟩) hK hP rfl hl.1 rfl (Nat.le_of_ble_eq_true rfl) dX1_with_71 ⟨Nat.zero_le _, Nat.zero_le _⟩ (fun b9 hb9 => ?_)
            subst hb9
            refine lv_iconst (v := (-1)) hx hb dX1_with_74 (by decide) ?_
            refine lv_ixor hx hb dX1_with_75 ?_
            refine lv_iand hx hb dX1_with_76 ?_
            refine fr_top (show ((nI i &&& (nI (2 ^ (V - 1 - k)) ^^^ (-1))) : Int32) = nI (fr_sb i (V - 1 - k) false) from fr_sbF _ (by omega) _ (by omega)) ?_
            refine lv_iadd hx hb dX1_with_77 ?_
            have hsb := fr_sb_lt (one := false) (show V - 1 - k < V by omega) hi
            refine fr_top (show (((512 * nI ra) + nI (fr_sb i (V - 1 - k) false)) : Int32) = nI (512 * ra + fr_sb i (V - 1 - k) false) from by rw [show (512 : Int32) * nI ra = nI (512 * ra) from pk_mul 512 ra]; exact nI_add _ _) ?_
            refine fr_zald hx hb hK hP 1 0 rfl rfl (show 512 * ra + fr_sb i (V - 1 - k) false < 16384 by omega) (by decide) dX1_with_78 ?_
            refine fr_top (show (row (512 * ra + fr_sb i (V - 1 - k) false) : Int32) = fr_bi (F ra (fr_sb i (V - 1 - k) false)) from hM ra _ hLra hsb) ?_
            refine fr_zast (ws2 := fr_mw V bd kb row (upd made i (fr_bi (F ra (fr_sb i (V - 1 - k) false))))) hx hb hK hP (fr_DB hinj) hS 2 1 rfl rfl (show i < 512 by omega) (by decide) (fr_bi_nar _) dX1_with_79 rfl (fun H locs hP hS => ?_)
            refine lv_iinc (k := 0) (v := nI (i + 1)) hx hb dX1_with_80 hl rfl (fr_inc i) (by decide) rfl (fun ls hl => ?_)
            replace hl : lv_has ls 6 [(5, .int (nI (i + 1))), (0, .ref (bd 0)), (1, .int (nI j)), (2, .int (nI ra)), (3, .int (nI k)), (4, .int (fr_bi one))] := hl
            refine lv_goto (tgt := 27) hx hb dX1_with_83 rfl ?_
            exact ih _ H locs hS hP ls (i + 1) (by omega) (lv_sub hl [0, 1, 2, 3, 4, 5] rfl) (fr_updZ hg (by rw [hq]))
          ·
            have hq : one = true := fr_bit hz
            refine lv_iload hx hb dX1_with_56 (lv_at hl 0 rfl) ?_
            refine lv_aload_n hx hb dX1_with_58 rfl (lv_at hl 1 rfl) ?_
            refine lv_iload_n hx hb dX1_with_59 rfl (lv_at hl 4 rfl) ?_
            refine fr_Mi (As := [.int (nI k)]) hS0 (cM_bit l D V bd kb row made k hLk hV) (cw_M_bit hw ⟨Nat.le_of_ble_eq_true rfl, Nat.le_of_ble_eq_true rfl⟩) hK hP rfl hl.1 rfl (Nat.le_of_ble_eq_true rfl) dX1_with_60 ⟨Nat.zero_le _, Nat.zero_le _⟩ (fun b9 hb9 => ?_)
            subst hb9
            refine lv_ior hx hb dX1_with_63 ?_
            refine lv_goto (tgt := 77) hx hb dX1_with_64 rfl ?_
            refine fr_top (show ((nI i ||| nI (2 ^ (V - 1 - k))) : Int32) = nI (fr_sb i (V - 1 - k) true) from fr_sbT _ (by omega) _ (by omega)) ?_
            refine lv_iadd hx hb dX1_with_77 ?_
            have hsb := fr_sb_lt (one := true) (show V - 1 - k < V by omega) hi
            refine fr_top (show (((512 * nI ra) + nI (fr_sb i (V - 1 - k) true)) : Int32) = nI (512 * ra + fr_sb i (V - 1 - k) true) from by rw [show (512 : Int32) * nI ra = nI (512 * ra) from pk_mul 512 ra]; exact nI_add _ _) ?_
            refine fr_zald hx hb hK hP 1 0 rfl rfl (show 512 * ra + fr_sb i (V - 1 - k) true < 16384 by omega) (by decide) dX1_with_78 ?_
            refine fr_top (show (row (512 * ra + fr_sb i (V - 1 - k) true) : Int32) = fr_bi (F ra (fr_sb i (V - 1 - k) true)) from hM ra _ hLra hsb) ?_
            refine fr_zast (ws2 := fr_mw V bd kb row (upd made i (fr_bi (F ra (fr_sb i (V - 1 - k) true))))) hx hb hK hP (fr_DB hinj) hS 2 1 rfl rfl (show i < 512 by omega) (by decide) (fr_bi_nar _) dX1_with_79 rfl (fun H locs hP hS => ?_)
            refine lv_iinc (k := 0) (v := nI (i + 1)) hx hb dX1_with_80 hl rfl (fr_inc i) (by decide) rfl (fun ls hl => ?_)
            replace hl : lv_has ls 6 [(5, .int (nI (i + 1))), (0, .ref (bd 0)), (1, .int (nI j)), (2, .int (nI ra)), (3, .int (nI k)), (4, .int (fr_bi one))] := hl
            refine lv_goto (tgt := 27) hx hb dX1_with_83 rfl ?_
            exact ih _ H locs hS hP ls (i + 1) (by omega) (lv_sub hl [0, 1, 2, 3, 4, 5] rfl) (fr_updZ hg (by rw [hq]))
      ·
        refine lv_if_ne (tgt := 24) hx hb dX1_with_19 rfl (fun hz => absurd rfl hz) (fun hz => ?_)
        refine lv_iconst (v := (-1)) hx hb dX1_with_22 (by decide) ?_
        exact W.iret (v := (-1)) hx hb hret (fun t ht hW => ⟨⟨_, (row, made), rfl, by rw [show fr_sWith V F (nI j) (nI ra) v one = (-1, F) from if_neg (fr_and3 (Or.inr (Or.inr (fr_okB_no (hno)))))]; exact ⟨rfl, hM⟩, by show va_P D vwCl _ t.heap; rw [ht]; exact hP⟩, hS.F ht⟩) hS.2.2 dX1_with_23
    ·
      refine lv_if_eq (tgt := 22) hx hb dX1_with_11 rfl (fun hz => ?_) (fun hz => absurd rfl hz)
      refine lv_iconst (v := (-1)) hx hb dX1_with_22 (by decide) ?_
      exact W.iret (v := (-1)) hx hb hret (fun t ht hW => ⟨⟨_, (row, made), rfl, by rw [show fr_sWith V F (nI j) a v one = (-1, F) from if_neg (fr_and3 (Or.inr (Or.inl (fr_okB_no (hno)))))]; exact ⟨rfl, hM⟩, by show va_P D vwCl _ t.heap; rw [ht]; exact hP⟩, hS.F ht⟩) hS.2.2 dX1_with_23
  ·
    refine lv_if_eq (tgt := 22) hx hb dX1_with_4 rfl (fun hz => ?_) (fun hz => absurd rfl hz)
    refine lv_iconst (v := (-1)) hx hb dX1_with_22 (by decide) ?_
    exact W.iret (v := (-1)) hx hb hret (fun t ht hW => ⟨⟨_, (row, made), rfl, by rw [show fr_sWith V F r a v one = (-1, F) from if_neg (fr_and3 (Or.inl (fr_okB_no (hno))))]; exact ⟨rfl, hM⟩, by show va_P D vwCl _ t.heap; rw [ht]; exact hP⟩, hS.F ht⟩) hS.2.2 dX1_with_23
set_option maxHeartbeats 4000000 in
set_option maxRecDepth 100000 in
theorem cM_bind (l : Launch) (D : va_G) (V : Nat) (bd : Nat → Nat) (kb : Nat → ClassId) (row made : Nat → Int32) (F : fr_F) (hM : fr_MR V F row) (hV : V < 10) (hV1 : 1 ≤ V) (hinj : fr_injB bd) (r a v : Int32) (all : Bool)    : Met l yX1_bind wsM_bind rmM_bind (va_Pc [.ref (bd 0), .int r, .int a, .int v, .int (fr_bi all)] (fr_PM D V bd kb row made)) (va_Qi (fun (res : Int32) (u : (Nat → Int32) × (Nat → Int32)) => res = (fr_sBind V F r a v all).1 ∧ fr_MR V (fr_sBind V F r a v all).2 u.1) (fun u t => va_P D vwCl (fr_mw V bd kb u.1 u.2) t.heap) (fr_B bd)) 0 0 (fr_B bd) := by
  refine Met.ofW (cc := cX1_bind) (maxL := 8) (ret := some .int) (by decide) rfl ?_
  intro p e s m args below meth c s₁ B hml hv
  obtain ⟨rfl, hP, hK, -⟩ := hv
  have hx := B.exec
  have hb := B.bytes
  have hret := B.returns
  have hw := fun w (h : w ∈ WA) => atoms_spec (ws := wsM_bind) B.pre w (List.mem_cons_of_mem _ h)
  have hown : s.vm.findClass "FunctionRoomModel" = some m.cls := findClass_of_methodNamed B.named
  have hlocks := B.notSynchronized
  have hS0 : CallFix p m c cX1_bind 8 s _ WA "FunctionRoomModel" := ⟨hx, hb, hml, hown, hw⟩
  have hl := lv_entry ([.ref (bd 0), .int r, .int a, .int v, .int (fr_bi all)]) (n := 8) (Nat.le_of_ble_eq_true rfl)
  rw [lg_entry_eq]
  generalize (lg_sl ([.ref (bd 0), .int r, .int a, .int v, .int (fr_bi all)]) ++ List.replicate (8 - (lg_sl ([.ref (bd 0), .int r, .int a, .int v, .int (fr_bi all)])).length) Slot.unset).toArray = ls at hl ⊢
  replace hl : lv_has ls 8 [(0, .ref (bd 0)), (1, .int r), (2, .int a), (3, .int v), (4, .int (fr_bi all))] := hl
  have h512 := fr_pow512 hV
  refine fr_gen (A := fr_B bd) hP (fun H locs hP2 hS => ?_)
  clear hP
  have hP := hP2
  clear hP2
  refine lv_iload_n hx hb dX1_bind_0 rfl (lv_at hl 1 rfl) ?_
  refine fr_cSi (As := [.int r]) hS0 (cM_is l r) (cw_M_is hw ⟨Nat.le_of_ble_eq_true rfl, Nat.le_of_ble_eq_true rfl⟩) (fr_pre0) rfl hl.1 rfl (Nat.le_of_ble_eq_true rfl) dX1_bind_1 ⟨Nat.zero_le _, Nat.zero_le _⟩ (fun b0 hb0 => ?_)
  rcases hb0 with ⟨rfl, hOj⟩ | ⟨rfl, hno⟩
  ·
    refine lv_if_eq (tgt := 22) hx hb dX1_bind_4 rfl (fun hz => absurd hz (by decide)) (fun hz => ?_)
    obtain ⟨j, hLj, rfl⟩ := fr_ok_ex (by decide) hOj
    refine lv_iload_n hx hb dX1_bind_7 rfl (lv_at hl 2 rfl) ?_
    refine fr_cSi (As := [.int a]) hS0 (cM_is l a) (cw_M_is hw ⟨Nat.le_of_ble_eq_true rfl, Nat.le_of_ble_eq_true rfl⟩) (fr_pre0) rfl hl.1 rfl (Nat.le_of_ble_eq_true rfl) dX1_bind_8 ⟨Nat.zero_le _, Nat.zero_le _⟩ (fun b0 hb0 => ?_)
    rcases hb0 with ⟨rfl, hOra⟩ | ⟨rfl, hno⟩
    ·
      refine lv_if_eq (tgt := 22) hx hb dX1_bind_11 rfl (fun hz => absurd hz (by decide)) (fun hz => ?_)
      obtain ⟨ra, hLra, rfl⟩ := fr_ok_ex (by decide) hOra
      refine lv_aload_n hx hb dX1_bind_14 rfl (lv_at hl 0 rfl) ?_
      refine lv_iload_n hx hb dX1_bind_15 rfl (lv_at hl 3 rfl) ?_
      refine fr_Mi (As := [.int v]) hS0 (cM_var l D V bd kb row made v) (cw_M_var hw ⟨Nat.le_of_ble_eq_true rfl, Nat.le_of_ble_eq_true rfl⟩) hK hP rfl hl.1 rfl (Nat.le_of_ble_eq_true rfl) dX1_bind_16 ⟨Nat.zero_le _, Nat.zero_le _⟩ (fun b0 hb0 => ?_)
      rcases hb0 with ⟨rfl, hOk⟩ | ⟨rfl, hno⟩
      ·
        refine lv_if_ne (tgt := 24) hx hb dX1_bind_19 rfl (fun hz => ?_) (fun hz => absurd hz (by decide))
        obtain ⟨k, hLk, rfl⟩ := fr_ok_ex (by omega) hOk
        refine lv_iconst (v := 0) hx hb dX1_bind_24 (by decide) ?_
        refine lv_istore hx hb dX1_bind_25 hl (by decide) rfl (fun ls hl => ?_)
        replace hl : lv_has ls 8 [(5, .int 0), (0, .ref (bd 0)), (1, .int (nI j)), (2, .int (nI ra)), (3, .int (nI k)), (4, .int (fr_bi all))] := hl
        obtain ⟨n, i, hin, hi0⟩ : ∃ n i : Nat, i + n = 2 ^ V ∧ i = 0 := ⟨2 ^ V, 0, Nat.zero_add _, rfl⟩
        replace hl : lv_has ls 8 [(5, .int (nI i)), (0, .ref (bd 0)), (1, .int (nI j)), (2, .int (nI ra)), (3, .int (nI k)), (4, .int (fr_bi all))] := by rw [hi0]; exact hl
        have hg : ∀ x, x < i → made x = fr_bi (if all = true then F ra x && F ra (x ^^^ 2 ^ (V - 1 - k)) else F ra x || F ra (x ^^^ 2 ^ (V - 1 - k))) := fun x h => absurd h (by omega)
        clear hi0
        induction n generalizing i ls H locs made with
        | zero =>
          refine lv_iload hx hb dX1_bind_27 (lv_at hl 0 rfl) ?_
          refine lv_aload_n hx hb dX1_bind_29 rfl (lv_at hl 1 rfl) ?_
          refine fr_gM 1 hx hb hw hown hK hP (by decide) mG_all rfl dX1_bind_30 ?_
          refine lv_icmp_ge (tgt := 131) hx hb dX1_bind_33 rfl (fun hcm => ?_) (fun hcm => absurd (nI_le (show 2 ^ V ≤ i by omega) (by omega)) hcm)
          refine lv_aload_n hx hb dX1_bind_131 rfl (lv_at hl 1 rfl) ?_
          refine lv_iload_n hx hb dX1_bind_132 rfl (lv_at hl 2 rfl) ?_
          refine fr_Mm (As := [.int (nI j)]) hS0 (cM_keep l D V bd kb row made F hM hV hV1 hinj j (fun x => if all = true then F ra x && F ra (x ^^^ 2 ^ (V - 1 - k)) else F ra x || F ra (x ^^^ 2 ^ (V - 1 - k))) hLj (fun x h => hg x (by omega))) (cw_M_keep hw ⟨Nat.le_of_ble_eq_true rfl, Nat.le_of_ble_eq_true rfl⟩) hK hP hS rfl hl.1 rfl (Nat.le_of_ble_eq_true rfl) dX1_bind_133 ⟨Nat.zero_le _, Nat.zero_le _⟩ (fun b u H locs hu hP hS => ?_)
          obtain ⟨rfl, hu2⟩ := hu
          have hsp : fr_sBind V F (nI j) (nI ra) (nI k) all = fr_set V F (nI j) (fun x => if all = true then F ra x && F ra (x ^^^ 2 ^ (V - 1 - k)) else F ra x || F ra (x ^^^ 2 ^ (V - 1 - k))) := by unfold fr_sBind; rw [if_pos (by rw [fr_okB_nI hLj (by omega), fr_okB_nI hLra (by omega), fr_okB_nI hLk (by omega)]; rfl), fr_v_nI (show ra < 2 ^ 31 by omega), fr_v_nI (show k < 2 ^ 31 by omega)]
          exact W.iret (v := (nI (fr_cn (fun x => if all = true then F ra x && F ra (x ^^^ 2 ^ (V - 1 - k)) else F ra x || F ra (x ^^^ 2 ^ (V - 1 - k))) (2 ^ V)))) hx hb hret (fun t ht hW => ⟨⟨_, u, rfl, by rw [hsp]; refine ⟨rfl, ?_⟩; show fr_MR V (va_up F (fr_v (nI j)) _) _; rw [fr_v_nI (show j < 2 ^ 31 by omega)]; exact hu2, by show va_P D vwCl _ t.heap; rw [ht]; exact hP⟩, hS.F ht⟩) hS.2.2 dX1_bind_136
        | succ n ih =>
          refine lv_iload hx hb dX1_bind_27 (lv_at hl 0 rfl) ?_
          refine lv_aload_n hx hb dX1_bind_29 rfl (lv_at hl 1 rfl) ?_
          refine fr_gM 1 hx hb hw hown hK hP (by decide) mG_all rfl dX1_bind_30 ?_
          refine lv_icmp_ge (tgt := 131) hx hb dX1_bind_33 rfl (fun hcm => absurd hcm (nI_ge (show i < 2 ^ V by omega) (by omega))) (fun hcm => ?_)
          have hi : i < 2 ^ V := by omega
          refine lv_aload_n hx hb dX1_bind_36 rfl (lv_at hl 1 rfl) ?_
          refine fr_gM 2 hx hb hw hown hK hP (by decide) mG_row rfl dX1_bind_37 ?_
          refine lv_sipush (v := 512) hx hb dX1_bind_40 (by decide) ?_
          refine lv_iload_n hx hb dX1_bind_43 rfl (lv_at hl 3 rfl) ?_
          refine lv_imul hx hb dX1_bind_44 ?_
          refine lv_iload hx hb dX1_bind_45 (lv_at hl 0 rfl) ?_
          refine lv_aload_n hx hb dX1_bind_47 rfl (lv_at hl 1 rfl) ?_
          refine lv_iload_n hx hb dX1_bind_48 rfl (lv_at hl 4 rfl) ?_
          refine fr_Mi (As := [.int (nI k)]) hS0 (cM_bit l D V bd kb row made k hLk hV) (cw_M_bit hw ⟨Nat.le_of_ble_eq_true rfl, Nat.le_of_ble_eq_true rfl⟩) hK hP rfl hl.1 rfl (Nat.le_of_ble_eq_true rfl) dX1_bind_49 ⟨Nat.zero_le _, Nat.zero_le _⟩ (fun b9 hb9 => ?_)
          subst hb9
          refine lv_ior hx hb dX1_bind_52 ?_
          refine fr_top (show ((nI i ||| nI (2 ^ (V - 1 - k))) : Int32) = nI (fr_sb i (V - 1 - k) true) from fr_sbT _ (by omega) _ (by omega)) ?_
          refine lv_iadd hx hb dX1_bind_53 ?_
          have hsb := fr_sb_lt (one := true) (show V - 1 - k < V by omega) hi
          refine fr_top (show (((512 * nI ra) + nI (fr_sb i (V - 1 - k) true)) : Int32) = nI (512 * ra + fr_sb i (V - 1 - k) true) from by rw [show (512 : Int32) * nI ra = nI (512 * ra) from pk_mul 512 ra]; exact nI_add _ _) ?_
          refine fr_zald hx hb hK hP 1 0 rfl rfl (show 512 * ra + fr_sb i (V - 1 - k) true < 16384 by omega) (by decide) dX1_bind_54 ?_
          refine fr_top (show (row (512 * ra + fr_sb i (V - 1 - k) true) : Int32) = fr_bi (F ra (fr_sb i (V - 1 - k) true)) from hM ra _ hLra hsb) ?_
          refine lv_istore hx hb dX1_bind_55 hl (by decide) rfl (fun ls hl => ?_)
          replace hl : lv_has ls 8 [(6, .int (fr_bi (F ra (fr_sb i (V - 1 - k) true)))), (5, .int (nI i)), (0, .ref (bd 0)), (1, .int (nI j)), (2, .int (nI ra)), (3, .int (nI k)), (4, .int (fr_bi all))] := hl
          refine lv_aload_n hx hb dX1_bind_57 rfl (lv_at hl 2 rfl) ?_
          refine fr_gM 2 hx hb hw hown hK hP (by decide) mG_row rfl dX1_bind_58 ?_
          refine lv_sipush (v := 512) hx hb dX1_bind_61 (by decide) ?_
          refine lv_iload_n hx hb dX1_bind_64 rfl (lv_at hl 4 rfl) ?_
          refine lv_imul hx hb dX1_bind_65 ?_
          refine lv_iload hx hb dX1_bind_66 (lv_at hl 1 rfl) ?_
          refine lv_aload_n hx hb dX1_bind_68 rfl (lv_at hl 2 rfl) ?_
          refine lv_iload_n hx hb dX1_bind_69 rfl (lv_at hl 5 rfl) ?_
          refine fr_Mi (As := [.int (nI k)]) hS0 (cM_bit l D V bd kb row made k hLk hV) (cw_M_bit hw ⟨Nat.le_of_ble_eq_true rfl, Nat.le_of_ble_eq_true rfl⟩) hK hP rfl hl.1 rfl (Nat.le_of_ble_eq_true rfl) dX1_bind_70 ⟨Nat.zero_le _, Nat.zero_le _⟩ (fun b9 hb9 => ?_)
          subst hb9
          refine lv_iconst (v := (-1)) hx hb dX1_bind_73 (by decide) ?_
          refine lv_ixor hx hb dX1_bind_74 ?_
          refine lv_iand hx hb dX1_bind_75 ?_
          refine fr_top (show ((nI i &&& (nI (2 ^ (V - 1 - k)) ^^^ (-1))) : Int32) = nI (fr_sb i (V - 1 - k) false) from fr_sbF _ (by omega) _ (by omega)) ?_
          refine lv_iadd hx hb dX1_bind_76 ?_
          have hsb := fr_sb_lt (one := false) (show V - 1 - k < V by omega) hi
          refine fr_top (show (((512 * nI ra) + nI (fr_sb i (V - 1 - k) false)) : Int32) = nI (512 * ra + fr_sb i (V - 1 - k) false) from by rw [show (512 : Int32) * nI ra = nI (512 * ra) from pk_mul 512 ra]; exact nI_add _ _) ?_
          refine fr_zald hx hb hK hP 1 0 rfl rfl (show 512 * ra + fr_sb i (V - 1 - k) false < 16384 by omega) (by decide) dX1_bind_77 ?_
          refine fr_top (show (row (512 * ra + fr_sb i (V - 1 - k) false) : Int32) = fr_bi (F ra (fr_sb i (V - 1 - k) false)) from hM ra _ hLra hsb) ?_
          refine lv_istore hx hb dX1_bind_78 hl (by decide) rfl (fun ls hl => ?_)
          replace hl : lv_has ls 8 [(7, .int (fr_bi (F ra (fr_sb i (V - 1 - k) false)))), (6, .int (fr_bi (F ra (fr_sb i (V - 1 - k) true)))), (5, .int (nI i)), (0, .ref (bd 0)), (1, .int (nI j)), (2, .int (nI ra)), (3, .int (nI k)), (4, .int (fr_bi all))] := hl
          refine lv_aload_n hx hb dX1_bind_80 rfl (lv_at hl 3 rfl) ?_
          refine fr_gM 3 hx hb hw hown hK hP (by decide) mG_made rfl dX1_bind_81 ?_
          refine lv_iload hx hb dX1_bind_84 (lv_at hl 2 rfl) ?_
          refine lv_iload hx hb dX1_bind_86 (lv_at hl 7 rfl) ?_
          refine lv_if_eq (tgt := 109) hx hb dX1_bind_88 rfl (fun hz => ?_) (fun hz => ?_)
          ·
            have hp88 : all = false := fr_bi_ne0.mp hz
            refine lv_iload hx hb dX1_bind_109 (lv_at hl 1 rfl) ?_
            refine lv_if_ne (tgt := 119) hx hb dX1_bind_111 rfl (fun hz => ?_) (fun hz => ?_)
            ·
              have hp111 : (F ra (fr_sb i (V - 1 - k) true)) = true := fr_bit hz
              refine lv_iconst (v := 1) hx hb dX1_bind_119 (by decide) ?_
              refine lv_goto (tgt := 124) hx hb dX1_bind_120 rfl ?_
              refine fr_zast (ws2 := fr_mw V bd kb row (upd made i (1))) hx hb hK hP (fr_DB hinj) hS 2 1 rfl rfl (show i < 512 by omega) (by decide) rfl dX1_bind_124 rfl (fun H locs hP hS => ?_)
              refine lv_iinc (k := 2) (v := nI (i + 1)) hx hb dX1_bind_125 hl rfl (fr_inc i) (by decide) rfl (fun ls hl => ?_)
              replace hl : lv_has ls 8 [(5, .int (nI (i + 1))), (7, .int (fr_bi (F ra (fr_sb i (V - 1 - k) false)))), (6, .int (fr_bi (F ra (fr_sb i (V - 1 - k) true)))), (0, .ref (bd 0)), (1, .int (nI j)), (2, .int (nI ra)), (3, .int (nI k)), (4, .int (fr_bi all))] := hl
              refine lv_goto (tgt := 27) hx hb dX1_bind_128 rfl ?_
              exact ih _ H locs hS hP ls (i + 1) (by omega) (lv_sub hl [0, 3, 4, 5, 6, 7] rfl) (fr_updZ hg (by rw [fr_bindeq]; simp [fr_bi, hp88, hp111]))
            ·
              have hp111 : (F ra (fr_sb i (V - 1 - k) true)) = false := fr_bi_ne0.mp hz
              refine lv_iload hx hb dX1_bind_114 (lv_at hl 0 rfl) ?_
              refine lv_if_eq (tgt := 123) hx hb dX1_bind_116 rfl (fun hz => ?_) (fun hz => ?_)
              ·
                have hp116 : (F ra (fr_sb i (V - 1 - k) false)) = false := fr_bi_ne0.mp hz
                refine lv_iconst (v := 0) hx hb dX1_bind_123 (by decide) ?_
                refine fr_zast (ws2 := fr_mw V bd kb row (upd made i (0))) hx hb hK hP (fr_DB hinj) hS 2 1 rfl rfl (show i < 512 by omega) (by decide) rfl dX1_bind_124 rfl (fun H locs hP hS => ?_)
                refine lv_iinc (k := 2) (v := nI (i + 1)) hx hb dX1_bind_125 hl rfl (fr_inc i) (by decide) rfl (fun ls hl => ?_)
                replace hl : lv_has ls 8 [(5, .int (nI (i + 1))), (7, .int (fr_bi (F ra (fr_sb i (V - 1 - k) false)))), (6, .int (fr_bi (F ra (fr_sb i (V - 1 - k) true)))), (0, .ref (bd 0)), (1, .int (nI j)), (2, .int (nI ra)), (3, .int (nI k)), (4, .int (fr_bi all))] := hl
                refine lv_goto (tgt := 27) hx hb dX1_bind_128 rfl ?_
                exact ih _ H locs hS hP ls (i + 1) (by omega) (lv_sub hl [0, 3, 4, 5, 6, 7] rfl) (fr_updZ hg (by rw [fr_bindeq]; simp [fr_bi, hp88, hp111, hp116]))
              ·
                have hp116 : (F ra (fr_sb i (V - 1 - k) false)) = true := fr_bit hz
                refine lv_iconst (v := 1) hx hb dX1_bind_119 (by decide) ?_
                refine lv_goto (tgt := 124) hx hb dX1_bind_120 rfl ?_
                refine fr_zast (ws2 := fr_mw V bd kb row (upd made i (1))) hx hb hK hP (fr_DB hinj) hS 2 1 rfl rfl (show i < 512 by omega) (by decide) rfl dX1_bind_124 rfl (fun H locs hP hS => ?_)
                refine lv_iinc (k := 2) (v := nI (i + 1)) hx hb dX1_bind_125 hl rfl (fr_inc i) (by decide) rfl (fun ls hl => ?_)
                replace hl : lv_has ls 8 [(5, .int (nI (i + 1))), (7, .int (fr_bi (F ra (fr_sb i (V - 1 - k) false)))), (6, .int (fr_bi (F ra (fr_sb i (V - 1 - k) true)))), (0, .ref (bd 0)), (1, .int (nI j)), (2, .int (nI ra)), (3, .int (nI k)), (4, .int (fr_bi all))] := hl
                refine lv_goto (tgt := 27) hx hb dX1_bind_128 rfl ?_
                exact ih _ H locs hS hP ls (i + 1) (by omega) (lv_sub hl [0, 3, 4, 5, 6, 7] rfl) (fr_updZ hg (by rw [fr_bindeq]; simp [fr_bi, hp88, hp111, hp116]))
          ·
            have hp88 : all = true := fr_bit hz
            refine lv_iload hx hb dX1_bind_91 (lv_at hl 1 rfl) ?_
            refine lv_if_eq (tgt := 105) hx hb dX1_bind_93 rfl (fun hz => ?_) (fun hz => ?_)
            ·
              have hp93 : (F ra (fr_sb i (V - 1 - k) true)) = false := fr_bi_ne0.mp hz
              refine lv_iconst (v := 0) hx hb dX1_bind_105 (by decide) ?_
              refine lv_goto (tgt := 124) hx hb dX1_bind_106 rfl ?_
              refine fr_zast (ws2 := fr_mw V bd kb row (upd made i (0))) hx hb hK hP (fr_DB hinj) hS 2 1 rfl rfl (show i < 512 by omega) (by decide) rfl dX1_bind_124 rfl (fun H locs hP hS => ?_)
              refine lv_iinc (k := 2) (v := nI (i + 1)) hx hb dX1_bind_125 hl rfl (fr_inc i) (by decide) rfl (fun ls hl => ?_)
              replace hl : lv_has ls 8 [(5, .int (nI (i + 1))), (7, .int (fr_bi (F ra (fr_sb i (V - 1 - k) false)))), (6, .int (fr_bi (F ra (fr_sb i (V - 1 - k) true)))), (0, .ref (bd 0)), (1, .int (nI j)), (2, .int (nI ra)), (3, .int (nI k)), (4, .int (fr_bi all))] := hl
              refine lv_goto (tgt := 27) hx hb dX1_bind_128 rfl ?_
              exact ih _ H locs hS hP ls (i + 1) (by omega) (lv_sub hl [0, 3, 4, 5, 6, 7] rfl) (fr_updZ hg (by rw [fr_bindeq]; simp [fr_bi, hp88, hp93]))
            ·
              have hp93 : (F ra (fr_sb i (V - 1 - k) true)) = true := fr_bit hz
              refine lv_iload hx hb dX1_bind_96 (lv_at hl 0 rfl) ?_
              refine lv_if_eq (tgt := 105) hx hb dX1_bind_98 rfl (fun hz => ?_) (fun hz => ?_)
              ·
                have hp98 : (F ra (fr_sb i (V - 1 - k) false)) = false := fr_bi_ne0.mp hz
                refine lv_iconst (v := 0) hx hb dX1_bind_105 (by decide) ?_
                refine lv_goto (tgt := 124) hx hb dX1_bind_106 rfl ?_
                refine fr_zast (ws2 := fr_mw V bd kb row (upd made i (0))) hx hb hK hP (fr_DB hinj) hS 2 1 rfl rfl (show i < 512 by omega) (by decide) rfl dX1_bind_124 rfl (fun H locs hP hS => ?_)
                refine lv_iinc (k := 2) (v := nI (i + 1)) hx hb dX1_bind_125 hl rfl (fr_inc i) (by decide) rfl (fun ls hl => ?_)
                replace hl : lv_has ls 8 [(5, .int (nI (i + 1))), (7, .int (fr_bi (F ra (fr_sb i (V - 1 - k) false)))), (6, .int (fr_bi (F ra (fr_sb i (V - 1 - k) true)))), (0, .ref (bd 0)), (1, .int (nI j)), (2, .int (nI ra)), (3, .int (nI k)), (4, .int (fr_bi all))] := hl
                refine lv_goto (tgt := 27) hx hb dX1_bind_128 rfl ?_
                exact ih _ H locs hS hP ls (i + 1) (by omega) (lv_sub hl [0, 3, 4, 5, 6, 7] rfl) (fr_updZ hg (by rw [fr_bindeq]; simp [fr_bi, hp88, hp93, hp98]))
              ·
                have hp98 : (F ra (fr_sb i (V - 1 - k) false)) = true := fr_bit hz
                refine lv_iconst (v := 1) hx hb dX1_bind_101 (by decide) ?_
                refine lv_goto (tgt := 124) hx hb dX1_bind_102 rfl ?_
                refine fr_zast (ws2 := fr_mw V bd kb row (upd made i (1))) hx hb hK hP (fr_DB hinj) hS 2 1 rfl rfl (show i < 512 by omega) (by decide) rfl dX1_bind_124 rfl (fun H locs hP hS => ?_)
                refine lv_iinc (k := 2) (v := nI (i + 1)) hx hb dX1_bind_125 hl rfl (fr_inc i) (by decide) rfl (fun ls hl => ?_)
                replace hl : lv_has ls 8 [(5, .int (nI (i + 1))), (7, .int (fr_bi (F ra (fr_sb i (V - 1 - k) false)))), (6, .int (fr_bi (F ra (fr_sb i (V - 1 - k) true)))), (0, .ref (bd 0)), (1, .int (nI j)), (2, .int (nI ra)), (3, .int (nI k)), (4, .int (fr_bi all))] := hl
                refine lv_goto (tgt := 27) hx hb dX1_bind_128 rfl ?_
                exact ih _ H locs hS hP ls (i + 1) (by omega) (lv_sub hl [0, 3, 4, 5, 6, 7] rfl) (fr_updZ hg (by rw [fr_bindeq]; simp [fr_bi, hp88, hp93, hp98]))
      ·
        refine lv_if_ne (tgt := 24) hx hb dX1_bind_19 rfl (fun hz => absurd rfl hz) (fun hz => ?_)
        refine lv_iconst (v := (-1)) hx hb dX1_bind_22 (by decide) ?_
        exact W.iret (v := (-1)) hx hb hret (fun t ht hW => ⟨⟨_, (row, made), rfl, by rw [show fr_sBind V F (nI j) (nI ra) v all = (-1, F) from if_neg (fr_and3 (Or.inr (Or.inr (fr_okB_no (hno)))))]; exact ⟨rfl, hM⟩, by show va_P D vwCl _ t.heap; rw [ht]; exact hP⟩, hS.F ht⟩) hS.2.2 dX1_bind_23
    ·
      refine lv_if_eq (tgt := 22) hx hb dX1_bind_11 rfl (fun hz => ?_) (fun hz => absurd rfl hz)
      refine lv_iconst (v := (-1)) hx hb dX1_bind_22 (by decide) ?_
      exact W.iret (v := (-1)) hx hb hret (fun t ht hW => ⟨⟨_, (row, made), rfl, by rw [show fr_sBind V F (nI j) a v all = (-1, F) from if_neg (fr_and3 (Or.inr (Or.inl (fr_okB_no (hno)))))]; exact ⟨rfl, hM⟩, by show va_P D vwCl _ t.heap; rw [ht]; exact hP⟩, hS.F ht⟩) hS.2.2 dX1_bind_23
  ·
    refine lv_if_eq (tgt := 22) hx hb dX1_bind_4 rfl (fun hz => ?_) (fun hz => absurd rfl hz)
    refine lv_iconst (v := (-1)) hx hb dX1_bind_22 (by decide) ?_
    exact W.iret (v := (-1)) hx hb hret (fun t ht hW => ⟨⟨_, (row, made), rfl, by rw [show fr_sBind V F r a v all = (-1, F) from if_neg (fr_and3 (Or.inl (fr_okB_no (hno))))]; exact ⟨rfl, hM⟩, by show va_P D vwCl _ t.heap; rw [ht]; exact hP⟩, hS.F ht⟩) hS.2.2 dX1_bind_23
set_option maxHeartbeats 4000000 in
set_option maxRecDepth 100000 in
theorem cM_put (l : Launch) (D : va_G) (V : Nat) (bd : Nat → Nat) (kb : Nat → ClassId) (row made : Nat → Int32) (F : fr_F) (hM : fr_MR V F row) (hV : V < 10) (hV1 : 1 ≤ V) (hinj : fr_injB bd) (r a v b : Int32)    : Met l yX1_put wsM_put rmM_put (va_Pc [.ref (bd 0), .int r, .int a, .int v, .int b] (fr_PM D V bd kb row made)) (va_Qi (fun (res : Int32) (u : (Nat → Int32) × (Nat → Int32)) => res = (fr_sPut V F r a v b).1 ∧ fr_MR V (fr_sPut V F r a v b).2 u.1) (fun u t => va_P D vwCl (fr_mw V bd kb u.1 u.2) t.heap) (fr_B bd)) 0 0 (fr_B bd) := by
  refine Met.ofW (cc := cX1_put) (maxL := 6) (ret := some .int) (by decide) rfl ?_
  intro p e s m args below meth c s₁ B hml hv
  obtain ⟨rfl, hP, hK, -⟩ := hv
  have hx := B.exec
  have hb := B.bytes
  have hret := B.returns
  have hw := fun w (h : w ∈ WA) => atoms_spec (ws := wsM_put) B.pre w (List.mem_cons_of_mem _ h)
  have hown : s.vm.findClass "FunctionRoomModel" = some m.cls := findClass_of_methodNamed B.named
  have hlocks := B.notSynchronized
  have hS0 : CallFix p m c cX1_put 6 s _ WA "FunctionRoomModel" := ⟨hx, hb, hml, hown, hw⟩
  have hl := lv_entry ([.ref (bd 0), .int r, .int a, .int v, .int b]) (n := 6) (Nat.le_of_ble_eq_true rfl)
  rw [lg_entry_eq]
  generalize (lg_sl ([.ref (bd 0), .int r, .int a, .int v, .int b]) ++ List.replicate (6 - (lg_sl ([.ref (bd 0), .int r, .int a, .int v, .int b])).length) Slot.unset).toArray = ls at hl ⊢
  replace hl : lv_has ls 6 [(0, .ref (bd 0)), (1, .int r), (2, .int a), (3, .int v), (4, .int b)] := hl
  have h512 := fr_pow512 hV
  refine fr_gen (A := fr_B bd) hP (fun H locs hP2 hS => ?_)
  clear hP
  have hP := hP2
  clear hP2
  refine lv_iload_n hx hb dX1_put_0 rfl (lv_at hl 1 rfl) ?_
  refine fr_cSi (As := [.int r]) hS0 (cM_is l r) (cw_M_is hw ⟨Nat.le_of_ble_eq_true rfl, Nat.le_of_ble_eq_true rfl⟩) (fr_pre0) rfl hl.1 rfl (Nat.le_of_ble_eq_true rfl) dX1_put_1 ⟨Nat.zero_le _, Nat.zero_le _⟩ (fun b0 hb0 => ?_)
  rcases hb0 with ⟨rfl, hOj⟩ | ⟨rfl, hno⟩
  ·
    refine lv_if_eq (tgt := 30) hx hb dX1_put_4 rfl (fun hz => absurd hz (by decide)) (fun hz => ?_)
    obtain ⟨j, hLj, rfl⟩ := fr_ok_ex (by decide) hOj
    refine lv_iload_n hx hb dX1_put_7 rfl (lv_at hl 2 rfl) ?_
    refine fr_cSi (As := [.int a]) hS0 (cM_is l a) (cw_M_is hw ⟨Nat.le_of_ble_eq_true rfl, Nat.le_of_ble_eq_true rfl⟩) (fr_pre0) rfl hl.1 rfl (Nat.le_of_ble_eq_true rfl) dX1_put_8 ⟨Nat.zero_le _, Nat.zero_le _⟩ (fun b0 hb0 => ?_)
    rcases hb0 with ⟨rfl, hOra⟩ | ⟨rfl, hno⟩
    ·
      refine lv_if_eq (tgt := 30) hx hb dX1_put_11 rfl (fun hz => absurd hz (by decide)) (fun hz => ?_)
      obtain ⟨ra, hLra, rfl⟩ := fr_ok_ex (by decide) hOra
      refine lv_iload hx hb dX1_put_14 (lv_at hl 4 rfl) ?_
      refine fr_cSi (As := [.int b]) hS0 (cM_is l b) (cw_M_is hw ⟨Nat.le_of_ble_eq_true rfl, Nat.le_of_ble_eq_true rfl⟩) (fr_pre0) rfl hl.1 rfl (Nat.le_of_ble_eq_true rfl) dX1_put_16 ⟨Nat.zero_le _, Nat.zero_le _⟩ (fun b0 hb0 => ?_)
      rcases hb0 with ⟨rfl, hOrb⟩ | ⟨rfl, hno⟩
      ·
        refine lv_if_eq (tgt := 30) hx hb dX1_put_19 rfl (fun hz => absurd hz (by decide)) (fun hz => ?_)
        obtain ⟨rb, hLrb, rfl⟩ := fr_ok_ex (by decide) hOrb
        refine lv_aload_n hx hb dX1_put_22 rfl (lv_at hl 0 rfl) ?_
        refine lv_iload_n hx hb dX1_put_23 rfl (lv_at hl 3 rfl) ?_
        refine fr_Mi (As := [.int v]) hS0 (cM_var l D V bd kb row made v) (cw_M_var hw ⟨Nat.le_of_ble_eq_true rfl, Nat.le_of_ble_eq_true rfl⟩) hK hP rfl hl.1 rfl (Nat.le_of_ble_eq_true rfl) dX1_put_24 ⟨Nat.zero_le _, Nat.zero_le _⟩ (fun b0 hb0 => ?_)
        rcases hb0 with ⟨rfl, hOk⟩ | ⟨rfl, hno⟩
        ·
          refine lv_if_ne (tgt := 32) hx hb dX1_put_27 rfl (fun hz => ?_) (fun hz => absurd hz (by decide))
          obtain ⟨k, hLk, rfl⟩ := fr_ok_ex (by omega) hOk
          refine lv_iconst (v := 0) hx hb dX1_put_32 (by decide) ?_
          refine lv_istore hx hb dX1_put_33 hl (by decide) rfl (fun ls hl => ?_)
          replace hl : lv_has ls 6 [(5, .int 0), (0, .ref (bd 0)), (1, .int (nI j)), (2, .int (nI ra)), (3, .int (nI k)), (4, .int (nI rb))] := hl
          obtain ⟨n, i, hin, hi0⟩ : ∃ n i : Nat, i + n = 2 ^ V ∧ i = 0 := ⟨2 ^ V, 0, Nat.zero_add _, rfl⟩
          replace hl : lv_has ls 6 [(5, .int (nI i)), (0, .ref (bd 0)), (1, .int (nI j)), (2, .int (nI ra)), (3, .int (nI k)), (4, .int (nI rb))] := by rw [hi0]; exact hl
          have hg : ∀ x, x < i → made x = fr_bi (F ra (fr_sb x (V - 1 - k) (F rb x))) := fun x h => absurd h (by omega)
          clear hi0
          induction n generalizing i ls H locs made with
          | zero =>
            refine lv_iload hx hb dX1_put_35 (lv_at hl 0 rfl) ?_
            refine lv_aload_n hx hb dX1_put_37 rfl (lv_at hl 1 rfl) ?_
            refine fr_gM 1 hx hb hw hown hK hP (by decide) mG_all rfl dX1_put_38 ?_
            refine lv_icmp_ge (tgt := 106) hx hb dX1_put_41 rfl (fun hcm => ?_) (fun hcm => absurd (nI_le (show 2 ^ V ≤ i by omega) (by omega)) hcm)
            refine lv_aload_n hx hb dX1_put_106 rfl (lv_at hl 1 rfl) ?_
            refine lv_iload_n hx hb dX1_put_107 rfl (lv_at hl 2 rfl) ?_
            refine fr_Mm (As := [.int (nI j)]) hS0 (cM_keep l D V bd kb row made F hM hV hV1 hinj j (fun x => F ra (fr_sb x (V - 1 - k) (F rb x))) hLj (fun x h => hg x (by omega))) (cw_M_keep hw ⟨Nat.le_of_ble_eq_true rfl, Nat.le_of_ble_eq_true rfl⟩) hK hP hS rfl hl.1 rfl (Nat.le_of_ble_eq_true rfl) dX1_put_108 ⟨Nat.zero_le _, Nat.zero_le _⟩ (fun b u H locs hu hP hS => ?_)
            obtain ⟨rfl, hu2⟩ := hu
            have hsp : fr_sPut V F (nI j) (nI ra) (nI k) (nI rb) = fr_set V F (nI j) (fun x => F ra (fr_sb x (V - 1 - k) (F rb x))) := by unfold fr_sPut; rw [if_pos (by rw [fr_okB_nI hLj (by omega), fr_okB_nI hLra (by omega), fr_okB_nI hLk (by omega), fr_okB_nI hLrb (by omega)]; rfl), fr_v_nI (show ra < 2 ^ 31 by omega), fr_v_nI (show k < 2 ^ 31 by omega), fr_v_nI (show rb < 2 ^ 31 by omega)]
            exact W.iret (v := (nI (fr_cn (fun x => F ra (fr_sb x (V - 1 - k) (F rb x))) (2 ^ V)))) hx hb hret (fun t ht hW => ⟨⟨_, u, rfl, by rw [hsp]; refine ⟨rfl, ?_⟩; show fr_MR V (va_up F (fr_v (nI j)) _) _; rw [fr_v_nI (show j < 2 ^ 31 by omega)]; exact hu2, by show va_P D vwCl _ t.heap; rw [ht]; exact hP⟩, hS.F ht⟩) hS.2.2 dX1_put_111
          | succ n ih =>
            refine lv_iload hx hb dX1_put_35 (lv_at hl 0 rfl) ?_
            refine lv_aload_n hx hb dX1_put_37 rfl (lv_at hl 1 rfl) ?_
            refine fr_gM 1 hx hb hw hown hK hP (by decide) mG_all rfl dX1_put_38 ?_
            refine lv_icmp_ge (tgt := 106) hx hb dX1_put_41 rfl (fun hcm => absurd hcm (nI_ge (show i < 2 ^ V by omega) (by omega))) (fun hcm => ?_)
            have hi : i < 2 ^ V := by omega
            refine lv_aload_n hx hb dX1_put_44 rfl (lv_at hl 1 rfl) ?_
            refine fr_gM 3 hx hb hw hown hK hP (by decide) mG_made rfl dX1_put_45 ?_
            refine lv_iload hx hb dX1_put_48 (lv_at hl 0 rfl) ?_
            refine lv_aload_n hx hb dX1_put_50 rfl (lv_at hl 1 rfl) ?_
            refine fr_gM 2 hx hb hw hown hK hP (by decide) mG_row rfl dX1_put_51 ?_
            refine lv_sipush (v := 512) hx hb dX1_put_54 (by decide) ?_
            refine lv_iload_n hx hb dX1_put_57 rfl (lv_at hl 3 rfl) ?_
            refine lv_imul hx hb dX1_put_58 ?_
            refine lv_aload_n hx hb dX1_put_59 rfl (lv_at hl 1 rfl) ?_
            refine fr_gM 2 hx hb hw hown hK hP (by decide) mG_row rfl dX1_put_60 ?_
            refine lv_sipush (v := 512) hx hb dX1_put_63 (by decide) ?_
            refine lv_iload hx hb dX1_put_66 (lv_at hl 5 rfl) ?_
            refine lv_imul hx hb dX1_put_68 ?_
            refine lv_iload hx hb dX1_put_69 (lv_at hl 0 rfl) ?_
            refine lv_iadd hx hb dX1_put_71 ?_
            refine fr_top (show (((512 * nI rb) + nI i) : Int32) = nI (512 * rb + i) from by rw [show (512 : Int32) * nI rb = nI (512 * rb) from pk_mul 512 rb]; exact nI_add _ _) ?_
            refine fr_zald hx hb hK hP 1 0 rfl rfl (show 512 * rb + i < 16384 by omega) (by decide) dX1_put_72 ?_
            refine fr_top (show (row (512 * rb + i) : Int32) = fr_bi (F rb i) from hM rb i hLrb hi) ?_
            refine lv_if_eq (tgt := 87) hx hb dX1_put_73 rfl (fun hz => ?_) (fun hz => ?_)
            ·
              have hq : F rb i = false := fr_bi_ne0.mp hz
              refine lv_iload hx hb dX1_put_87 (lv_at hl 0 rfl) ?_
              refine lv_aload_n hx hb dX1_put_89 rfl (lv_at hl 1 rfl) ?_
              refine lv_iload_n hx hb dX1_put_90 rfl (lv_at hl 4 rfl) ?_
              refine fr_Mi (As := [.int (nI k)]) hS0 (cM_bit l D V bd kb row made k hLk hV) (cw_M_bit hw ⟨Nat.le_of_ble_eq_true rfl, Nat.le_of_ble_eq_true rfl⟩) hK hP rfl hl.1 rfl (Nat.le_of_ble_eq_true rfl) dX1_put_91 ⟨Nat.zero_le _, Nat.zero_le _⟩ (fun b9 hb9 => ?_)
              subst hb9
              refine lv_iconst (v := (-1)) hx hb dX1_put_94 (by decide) ?_
              refine lv_ixor hx hb dX1_put_95 ?_
              refine lv_iand hx hb dX1_put_96 ?_
              refine fr_top (show ((nI i &&& (nI (2 ^ (V - 1 - k)) ^^^ (-1))) : Int32) = nI (fr_sb i (V - 1 - k) false) from fr_sbF _ (by omega) _ (by omega)) ?_
              refine lv_iadd hx hb dX1_put_97 ?_
              have hsb := fr_sb_lt (one := false) (show V - 1 - k < V by omega) hi
              refine fr_top (show (((512 * nI ra) + nI (fr_sb i (V - 1 - k) false)) : Int32) = nI (512 * ra + fr_sb i (V - 1 - k) false) from by rw [show (512 : Int32) * nI ra = nI (512 * ra) from pk_mul 512 ra]; exact nI_add _ _) ?_
              refine fr_zald hx hb hK hP 1 0 rfl rfl (show 512 * ra + fr_sb i (V - 1 - k) false < 16384 by omega) (by decide) dX1_put_98 ?_
              refine fr_top (show (row (512 * ra + fr_sb i (V - 1 - k) false) : Int32) = fr_bi (F ra (fr_sb i (V - 1 - k) false)) from hM ra _ hLra hsb) ?_
              refine fr_zast (ws2 := fr_mw V bd kb row (upd made i (fr_bi (F ra (fr_sb i (V - 1 - k) false))))) hx hb hK hP (fr_DB hinj) hS 2 1 rfl rfl (show i < 512 by omega) (by decide) (fr_bi_nar _) dX1_put_99 rfl (fun H locs hP hS => ?_)
              refine lv_iinc (k := 0) (v := nI (i + 1)) hx hb dX1_put_100 hl rfl (fr_inc i) (by decide) rfl (fun ls hl => ?_)
              replace hl : lv_has ls 6 [(5, .int (nI (i + 1))), (0, .ref (bd 0)), (1, .int (nI j)), (2, .int (nI ra)), (3, .int (nI k)), (4, .int (nI rb))] := hl
              refine lv_goto (tgt := 35) hx hb dX1_put_103 rfl ?_
              exact ih _ H locs hS hP ls (i + 1) (by omega) (lv_sub hl [0, 1, 2, 3, 4, 5] rfl) (fr_updZ hg (by rw [hq]))
            ·
              have hq : F rb i = true := fr_bit hz
              refine lv_iload hx hb dX1_put_76 (lv_at hl 0 rfl) ?_
              refine lv_aload_n hx hb dX1_put_78 rfl (lv_at hl 1 rfl) ?_
              refine lv_iload_n hx hb dX1_put_79 rfl (lv_at hl 4 rfl) ?_
              refine fr_Mi (As := [.int (nI k)]) hS0 (cM_bit l D V bd kb row made k hLk hV) (cw_M_bit hw ⟨Nat.le_of_ble_eq_true rfl, Nat.le_of_ble_eq_true rfl⟩) hK hP rfl hl.1 rfl (Nat.le_of_ble_eq_true rfl) dX1_put_80 ⟨Nat.zero_le _, Nat.zero_le _⟩ (fun b9 hb9 => ?_)
              subst hb9
              refine lv_ior hx hb dX1_put_83 ?_
              refine lv_goto (tgt := 97) hx hb dX1_put_84 rfl ?_
              refine fr_top (show ((nI i ||| nI (2 ^ (V - 1 - k))) : Int32) = nI (fr_sb i (V - 1 - k) true) from fr_sbT _ (by omega) _ (by omega)) ?_
              refine lv_iadd hx hb dX1_put_97 ?_
              have hsb := fr_sb_lt (one := true) (show V - 1 - k < V by omega) hi
              refine fr_top (show (((512 * nI ra) + nI (fr_sb i (V - 1 - k) true)) : Int32) = nI (512 * ra + fr_sb i (V - 1 - k) true) from by rw [show (512 : Int32) * nI ra = nI (512 * ra) from pk_mul 512 ra]; exact nI_add _ _) ?_
              refine fr_zald hx hb hK hP 1 0 rfl rfl (show 512 * ra + fr_sb i (V - 1 - k) true < 16384 by omega) (by decide) dX1_put_98 ?_
              refine fr_top (show (row (512 * ra + fr_sb i (V - 1 - k) true) : Int32) = fr_bi (F ra (fr_sb i (V - 1 - k) true)) from hM ra _ hLra hsb) ?_
              refine fr_zast (ws2 := fr_mw V bd kb row (upd made i (fr_bi (F ra (fr_sb i (V - 1 - k) true))))) hx hb hK hP (fr_DB hinj) hS 2 1 rfl rfl (show i < 512 by omega) (by decide) (fr_bi_nar _) dX1_put_99 rfl (fun H locs hP hS => ?_)
              refine lv_iinc (k := 0) (v := nI (i + 1)) hx hb dX1_put_100 hl rfl (fr_inc i) (by decide) rfl (fun ls hl => ?_)
              replace hl : lv_has ls 6 [(5, .int (nI (i + 1))), (0, .ref (bd 0)), (1, .int (nI j)), (2, .int (nI ra)), (3, .int (nI k)), (4, .int (nI rb))] := hl
              refine lv_goto (tgt := 35) hx hb dX1_put_103 rfl ?_
              exact ih _ H locs hS hP ls (i + 1) (by omega) (lv_sub hl [0, 1, 2, 3, 4, 5] rfl) (fr_updZ hg (by rw [hq]))
        ·
          refine lv_if_ne (tgt := 32) hx hb dX1_put_27 rfl (fun hz => absurd rfl hz) (fun hz => ?_)
          refine lv_iconst (v := (-1)) hx hb dX1_put_30 (by decide) ?_
          exact W.iret (v := (-1)) hx hb hret (fun t ht hW => ⟨⟨_, (row, made), rfl, by rw [show fr_sPut V F (nI j) (nI ra) v (nI rb) = (-1, F) from if_neg (fr_and4 (Or.inr (Or.inr (Or.inl (fr_okB_no (hno))))))]; exact ⟨rfl, hM⟩, by show va_P D vwCl _ t.heap; rw [ht]; exact hP⟩, hS.F ht⟩) hS.2.2 dX1_put_31
      ·
        refine lv_if_eq (tgt := 30) hx hb dX1_put_19 rfl (fun hz => ?_) (fun hz => absurd rfl hz)
        refine lv_iconst (v := (-1)) hx hb dX1_put_30 (by decide) ?_
        exact W.iret (v := (-1)) hx hb hret (fun t ht hW => ⟨⟨_, (row, made), rfl, by rw [show fr_sPut V F (nI j) (nI ra) v b = (-1, F) from if_neg (fr_and4 (Or.inr (Or.inr (Or.inr (fr_okB_no (hno))))))]; exact ⟨rfl, hM⟩, by show va_P D vwCl _ t.heap; rw [ht]; exact hP⟩, hS.F ht⟩) hS.2.2 dX1_put_31
    ·
      refine lv_if_eq (tgt := 30) hx hb dX1_put_11 rfl (fun hz => ?_) (fun hz => absurd rfl hz)
      refine lv_iconst (v := (-1)) hx hb dX1_put_30 (by decide) ?_
      exact W.iret (v := (-1)) hx hb hret (fun t ht hW => ⟨⟨_, (row, made), rfl, by rw [show fr_sPut V F (nI j) a v b = (-1, F) from if_neg (fr_and4 (Or.inr (Or.inl (fr_okB_no (hno)))))]; exact ⟨rfl, hM⟩, by show va_P D vwCl _ t.heap; rw [ht]; exact hP⟩, hS.F ht⟩) hS.2.2 dX1_put_31
  ·
    refine lv_if_eq (tgt := 30) hx hb dX1_put_4 rfl (fun hz => ?_) (fun hz => absurd rfl hz)
    refine lv_iconst (v := (-1)) hx hb dX1_put_30 (by decide) ?_
    exact W.iret (v := (-1)) hx hb hret (fun t ht hW => ⟨⟨_, (row, made), rfl, by rw [show fr_sPut V F r a v b = (-1, F) from if_neg (fr_and4 (Or.inl (fr_okB_no (hno))))]; exact ⟨rfl, hM⟩, by show va_P D vwCl _ t.heap; rw [ht]; exact hP⟩, hS.F ht⟩) hS.2.2 dX1_put_31
