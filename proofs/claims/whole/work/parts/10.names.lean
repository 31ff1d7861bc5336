-- ===== PART A: goes FIRST, ahead of the names: the tables' words, and 'selects' of the private methods out of them =====
/-- a private method of a class that the tables say can be made, by its rows of tables_1 -/
def lw_okq (q : MethodName × Nat) : Prop := (q.1.cls ≠ "java/lang/invoke/MethodHandle" ∧ q.1.cls ≠ "java/lang/invoke/VarHandle") ∧ Cond.instantiable q.1.cls q.2 ∈ tables_1 ∧ Cond.privateMethod q.1 ∈ tables_1 ∧ Cond.instanceMethod q.1 ∈ tables_1
theorem lw_p0 : lw_okq (⟨"FunctionRoom", "isVariable", "(I)Z"⟩, 8) := ⟨⟨by decide +kernel, by decide +kernel⟩, List.mem_of_getElem? (i := 7) (by decide +kernel), List.mem_of_getElem? (i := 58) (by decide +kernel), List.mem_of_getElem? (i := 59) (by decide +kernel)⟩
theorem lw_p1 : lw_okq (⟨"FunctionRoom", "placesWhereOne", "(II)J"⟩, 8) := ⟨⟨by decide +kernel, by decide +kernel⟩, List.mem_of_getElem? (i := 7) (by decide +kernel), List.mem_of_getElem? (i := 62) (by decide +kernel), List.mem_of_getElem? (i := 63) (by decide +kernel)⟩
theorem lw_p2 : lw_okq (⟨"FunctionRoom", "bitOf", "(I)I"⟩, 8) := ⟨⟨by decide +kernel, by decide +kernel⟩, List.mem_of_getElem? (i := 7) (by decide +kernel), List.mem_of_getElem? (i := 66) (by decide +kernel), List.mem_of_getElem? (i := 67) (by decide +kernel)⟩
theorem lw_p3 : lw_okq (⟨"FunctionRoom", "keep", "(I)I"⟩, 8) := ⟨⟨by decide +kernel, by decide +kernel⟩, List.mem_of_getElem? (i := 7) (by decide +kernel), List.mem_of_getElem? (i := 72) (by decide +kernel), List.mem_of_getElem? (i := 73) (by decide +kernel)⟩
theorem lw_p4 : lw_okq (⟨"FunctionRoom", "count", "([J)I"⟩, 8) := ⟨⟨by decide +kernel, by decide +kernel⟩, List.mem_of_getElem? (i := 7) (by decide +kernel), List.mem_of_getElem? (i := 79) (by decide +kernel), List.mem_of_getElem? (i := 80) (by decide +kernel)⟩
theorem lw_p5 : lw_okq (⟨"FunctionRoom", "narrowed", "([JIZI)J"⟩, 8) := ⟨⟨by decide +kernel, by decide +kernel⟩, List.mem_of_getElem? (i := 7) (by decide +kernel), List.mem_of_getElem? (i := 104) (by decide +kernel), List.mem_of_getElem? (i := 105) (by decide +kernel)⟩
theorem lw_p6 : lw_okq (⟨"FunctionRoom", "turned", "([JII)J"⟩, 8) := ⟨⟨by decide +kernel, by decide +kernel⟩, List.mem_of_getElem? (i := 7) (by decide +kernel), List.mem_of_getElem? (i := 108) (by decide +kernel), List.mem_of_getElem? (i := 109) (by decide +kernel)⟩
theorem lw_p7 : lw_okq (⟨"FunctionRoom", "joinHalves", "(II)I"⟩, 8) := ⟨⟨by decide +kernel, by decide +kernel⟩, List.mem_of_getElem? (i := 7) (by decide +kernel), List.mem_of_getElem? (i := 143) (by decide +kernel), List.mem_of_getElem? (i := 144) (by decide +kernel)⟩
theorem lw_p8 : lw_okq (⟨"FunctionRoom", "placeOfPart", "(III)I"⟩, 8) := ⟨⟨by decide +kernel, by decide +kernel⟩, List.mem_of_getElem? (i := 7) (by decide +kernel), List.mem_of_getElem? (i := 147) (by decide +kernel), List.mem_of_getElem? (i := 148) (by decide +kernel)⟩
theorem lw_p9 : lw_okq (⟨"FunctionRoom", "dependsOn", "([JI)Z"⟩, 8) := ⟨⟨by decide +kernel, by decide +kernel⟩, List.mem_of_getElem? (i := 7) (by decide +kernel), List.mem_of_getElem? (i := 155) (by decide +kernel), List.mem_of_getElem? (i := 156) (by decide +kernel)⟩
theorem lw_p10 : lw_okq (⟨"FunctionRoomModel", "bit", "(I)I"⟩, 4) := ⟨⟨by decide +kernel, by decide +kernel⟩, List.mem_of_getElem? (i := 162) (by decide +kernel), List.mem_of_getElem? (i := 189) (by decide +kernel), List.mem_of_getElem? (i := 190) (by decide +kernel)⟩
theorem lw_p11 : lw_okq (⟨"FunctionRoomModel", "keep", "(I)I"⟩, 4) := ⟨⟨by decide +kernel, by decide +kernel⟩, List.mem_of_getElem? (i := 162) (by decide +kernel), List.mem_of_getElem? (i := 193) (by decide +kernel), List.mem_of_getElem? (i := 194) (by decide +kernel)⟩
theorem lw_p12 : lw_okq (⟨"FunctionRoomModel", "var", "(I)Z"⟩, 4) := ⟨⟨by decide +kernel, by decide +kernel⟩, List.mem_of_getElem? (i := 162) (by decide +kernel), List.mem_of_getElem? (i := 213) (by decide +kernel), List.mem_of_getElem? (i := 214) (by decide +kernel)⟩
theorem lw_p13 : lw_okq (⟨"FunctionRoomModel", "alike", "(IIII)Z"⟩, 4) := ⟨⟨by decide +kernel, by decide +kernel⟩, List.mem_of_getElem? (i := 162) (by decide +kernel), List.mem_of_getElem? (i := 242) (by decide +kernel), List.mem_of_getElem? (i := 243) (by decide +kernel)⟩
def lw_privs_1 : List (MethodName × Nat) := [(⟨"FunctionRoom", "isVariable", "(I)Z"⟩, 8), (⟨"FunctionRoom", "placesWhereOne", "(II)J"⟩, 8), (⟨"FunctionRoom", "bitOf", "(I)I"⟩, 8), (⟨"FunctionRoom", "keep", "(I)I"⟩, 8), (⟨"FunctionRoom", "count", "([J)I"⟩, 8), (⟨"FunctionRoom", "narrowed", "([JIZI)J"⟩, 8), (⟨"FunctionRoom", "turned", "([JII)J"⟩, 8), (⟨"FunctionRoom", "joinHalves", "(II)I"⟩, 8), (⟨"FunctionRoom", "placeOfPart", "(III)I"⟩, 8), (⟨"FunctionRoom", "dependsOn", "([JI)Z"⟩, 8), (⟨"FunctionRoomModel", "bit", "(I)I"⟩, 4), (⟨"FunctionRoomModel", "keep", "(I)I"⟩, 4), (⟨"FunctionRoomModel", "var", "(I)Z"⟩, 4), (⟨"FunctionRoomModel", "alike", "(IIII)Z"⟩, 4)]
theorem lw_r1 : ∀ q ∈ lw_privs_1, lw_okq q := List.forall_mem_cons.mpr ⟨lw_p0, List.forall_mem_cons.mpr ⟨lw_p1, List.forall_mem_cons.mpr ⟨lw_p2, List.forall_mem_cons.mpr ⟨lw_p3, List.forall_mem_cons.mpr ⟨lw_p4, List.forall_mem_cons.mpr ⟨lw_p5, List.forall_mem_cons.mpr ⟨lw_p6, List.forall_mem_cons.mpr ⟨lw_p7, List.forall_mem_cons.mpr ⟨lw_p8, List.forall_mem_cons.mpr ⟨lw_p9, List.forall_mem_cons.mpr ⟨lw_p10, List.forall_mem_cons.mpr ⟨lw_p11, List.forall_mem_cons.mpr ⟨lw_p12, List.forall_mem_cons.mpr ⟨lw_p13, fun _ h => absurd h List.not_mem_nil⟩⟩⟩⟩⟩⟩⟩⟩⟩⟩⟩⟩⟩⟩
def lw_privs : List (MethodName × Nat) := lw_privs_1
def lw_tbl : List Cond := k2_sels lw_privs ++ tables_1
theorem lw_privs_ok : ∀ q ∈ lw_privs, lw_okq q := lw_r1
def RX0 : String := "FunctionRoom"
def TX0 : u_T := fun k => match k with
  | 0 => ("FunctionRoom", "variables", "I", true)
  | 1 => ("FunctionRoom", "assignments", "I", true)
  | 2 => ("FunctionRoom", "words", "I", true)
  | 3 => ("FunctionRoom", "places", "J", true)
  | 4 => ("FunctionRoom", "rows", "[[J", true)
  | 5 => ("FunctionRoom", "made", "[J", true)
  | 6 => ("FunctionRoom", "names", "[I", true)
  | _ => ("FunctionRoom", "parts", "[I", true)
def tyX0 : Nat → FieldType := fun k => match k with
  | 0 => .int
  | 1 => .int
  | 2 => .int
  | 3 => .long
  | 4 => .array (.array .long)
  | 5 => .array .long
  | 6 => .array .int
  | _ => .array .int
theorem nmX0 : ∀ a, a < 8 → ∀ b, b < 8 → a ≠ b → (TX0 a).2.1 ≠ (TX0 b).2.1 := by decide +kernel
theorem tyX0_ok : ∀ k, k < 8 → parseFieldDescriptor (TX0 k).2.2.1 = some (tyX0 k) := by decide +kernel
abbrev cX0_init : ByteArray := prog_1_method_1_code
def yX0_init : MethodName := ⟨RX0, "<init>", "(I)V"⟩
abbrev cX0_load : ByteArray := prog_1_method_2_code
def yX0_load : MethodName := ⟨RX0, "load", "(II)I"⟩
abbrev cX0_reckon : ByteArray := prog_1_method_3_code
def yX0_reckon : MethodName := ⟨RX0, "reckon", "(IIII)I"⟩
abbrev cX0_not : ByteArray := prog_1_method_4_code
def yX0_not : MethodName := ⟨RX0, "not", "(II)I"⟩
abbrev cX0_with : ByteArray := prog_1_method_5_code
def yX0_with : MethodName := ⟨RX0, "with", "(IIIZ)I"⟩
abbrev cX0_bind : ByteArray := prog_1_method_6_code
def yX0_bind : MethodName := ⟨RX0, "bind", "(IIIZ)I"⟩
abbrev cX0_put : ByteArray := prog_1_method_7_code
def yX0_put : MethodName := ⟨RX0, "put", "(IIII)I"⟩
abbrev cX0_many : ByteArray := prog_1_method_8_code
def yX0_many : MethodName := ⟨RX0, "many", "(I)I"⟩
abbrev cX0_nth : ByteArray := prog_1_method_9_code
def yX0_nth : MethodName := ⟨RX0, "nth", "(II)I"⟩
abbrev cX0_value : ByteArray := prog_1_method_10_code
def yX0_value : MethodName := ⟨RX0, "value", "(II)I"⟩
abbrev cX0_same : ByteArray := prog_1_method_11_code
def yX0_same : MethodName := ⟨RX0, "same", "(II)Z"⟩
abbrev cX0_size : ByteArray := prog_1_method_12_code
def yX0_size : MethodName := ⟨RX0, "size", "(I)I"⟩
abbrev cX0_matters : ByteArray := prog_1_method_13_code
def yX0_matters : MethodName := ⟨RX0, "matters", "(I)I"⟩
abbrev cX0_isRegister : ByteArray := prog_1_method_14_code
def yX0_isRegister : MethodName := ⟨RX0, "isRegister", "(I)Z"⟩
abbrev cX0_isVariable : ByteArray := prog_1_method_15_code
def yX0_isVariable : MethodName := ⟨RX0, "isVariable", "(I)Z"⟩
abbrev cX0_keep : ByteArray := prog_1_method_16_code
def yX0_keep : MethodName := ⟨RX0, "keep", "(I)I"⟩
abbrev cX0_count : ByteArray := prog_1_method_17_code
def yX0_count : MethodName := ⟨RX0, "count", "([J)I"⟩
abbrev cX0_valueAt : ByteArray := prog_1_method_18_code
def yX0_valueAt : MethodName := ⟨RX0, "valueAt", "([JI)I"⟩
abbrev cX0_combined : ByteArray := prog_1_method_19_code
def yX0_combined : MethodName := ⟨RX0, "combined", "(IJJ)J"⟩
abbrev cX0_bitOf : ByteArray := prog_1_method_20_code
def yX0_bitOf : MethodName := ⟨RX0, "bitOf", "(I)I"⟩
abbrev cX0_placesWhereOne : ByteArray := prog_1_method_21_code
def yX0_placesWhereOne : MethodName := ⟨RX0, "placesWhereOne", "(II)J"⟩
abbrev cX0_turned : ByteArray := prog_1_method_22_code
def yX0_turned : MethodName := ⟨RX0, "turned", "([JII)J"⟩
abbrev cX0_narrowed : ByteArray := prog_1_method_23_code
def yX0_narrowed : MethodName := ⟨RX0, "narrowed", "([JIZI)J"⟩
abbrev cX0_dependsOn : ByteArray := prog_1_method_24_code
def yX0_dependsOn : MethodName := ⟨RX0, "dependsOn", "([JI)Z"⟩
abbrev cX0_joinHalves : ByteArray := prog_1_method_25_code
def yX0_joinHalves : MethodName := ⟨RX0, "joinHalves", "(II)I"⟩
abbrev cX0_placeOfPart : ByteArray := prog_1_method_26_code
def yX0_placeOfPart : MethodName := ⟨RX0, "placeOfPart", "(III)I"⟩
def RX1 : String := "FunctionRoomModel"
def TX1 : u_T := fun k => match k with
  | 0 => ("FunctionRoomModel", "variables", "I", true)
  | 1 => ("FunctionRoomModel", "all", "I", true)
  | 2 => ("FunctionRoomModel", "row", "[Z", true)
  | _ => ("FunctionRoomModel", "made", "[Z", true)
def tyX1 : Nat → FieldType := fun k => match k with
  | 0 => .int
  | 1 => .int
  | 2 => .array .boolean
  | _ => .array .boolean
theorem nmX1 : ∀ a, a < 4 → ∀ b, b < 4 → a ≠ b → (TX1 a).2.1 ≠ (TX1 b).2.1 := by decide +kernel
theorem tyX1_ok : ∀ k, k < 4 → parseFieldDescriptor (TX1 k).2.2.1 = some (tyX1 k) := by decide +kernel
abbrev cX1_init : ByteArray := prog_3_method_1_code
def yX1_init : MethodName := ⟨RX1, "<init>", "(I)V"⟩
abbrev cX1_is : ByteArray := prog_3_method_2_code
def yX1_is : MethodName := ⟨RX1, "is", "(I)Z"⟩
abbrev cX1_var : ByteArray := prog_3_method_3_code
def yX1_var : MethodName := ⟨RX1, "var", "(I)Z"⟩
abbrev cX1_bit : ByteArray := prog_3_method_4_code
def yX1_bit : MethodName := ⟨RX1, "bit", "(I)I"⟩
abbrev cX1_keep : ByteArray := prog_3_method_5_code
def yX1_keep : MethodName := ⟨RX1, "keep", "(I)I"⟩
abbrev cX1_load : ByteArray := prog_3_method_6_code
def yX1_load : MethodName := ⟨RX1, "load", "(II)I"⟩
abbrev cX1_reckon : ByteArray := prog_3_method_7_code
def yX1_reckon : MethodName := ⟨RX1, "reckon", "(IIII)I"⟩
abbrev cX1_not : ByteArray := prog_3_method_8_code
def yX1_not : MethodName := ⟨RX1, "not", "(II)I"⟩
abbrev cX1_with : ByteArray := prog_3_method_9_code
def yX1_with : MethodName := ⟨RX1, "with", "(IIIZ)I"⟩
abbrev cX1_bind : ByteArray := prog_3_method_10_code
def yX1_bind : MethodName := ⟨RX1, "bind", "(IIIZ)I"⟩
abbrev cX1_put : ByteArray := prog_3_method_11_code
def yX1_put : MethodName := ⟨RX1, "put", "(IIII)I"⟩
abbrev cX1_many : ByteArray := prog_3_method_12_code
def yX1_many : MethodName := ⟨RX1, "many", "(I)I"⟩
abbrev cX1_nth : ByteArray := prog_3_method_13_code
def yX1_nth : MethodName := ⟨RX1, "nth", "(II)I"⟩
abbrev cX1_value : ByteArray := prog_3_method_14_code
def yX1_value : MethodName := ⟨RX1, "value", "(II)I"⟩
abbrev cX1_same : ByteArray := prog_3_method_15_code
def yX1_same : MethodName := ⟨RX1, "same", "(II)Z"⟩
def RJ13 : String := "java/lang/Long"
def TJ13 : u_T := fun k => match k with
  | _ => ("", "", "", false)
def tyJ13 : Nat → FieldType := fun k => match k with
  | _ => .int
theorem nmJ13 : ∀ a, a < 0 → ∀ b, b < 0 → a ≠ b → (TJ13 a).2.1 ≠ (TJ13 b).2.1 := by decide +kernel
theorem tyJ13_ok : ∀ k, k < 0 → parseFieldDescriptor (TJ13 k).2.2.1 = some (tyJ13 k) := by decide +kernel
abbrev cJ13_bitCount_95d88 : ByteArray := prog_4_method_50_code
def yJ13_bitCount_95d88 : MethodName := ⟨RJ13, "bitCount", "(J)I"⟩
def RJ9 : String := "java/lang/Math"
def TJ9 : u_T := fun k => match k with
  | _ => ("", "", "", false)
def tyJ9 : Nat → FieldType := fun k => match k with
  | _ => .int
theorem nmJ9 : ∀ a, a < 0 → ∀ b, b < 0 → a ≠ b → (TJ9 a).2.1 ≠ (TJ9 b).2.1 := by decide +kernel
theorem tyJ9_ok : ∀ k, k < 0 → parseFieldDescriptor (TJ9 k).2.2.1 = some (tyJ9 k) := by decide +kernel
abbrev cJ9_max_7cf53 : ByteArray := prog_5_method_65_code
def yJ9_max_7cf53 : MethodName := ⟨RJ9, "max", "(II)I"⟩
abbrev cJ9_min_7cf53 : ByteArray := prog_5_method_69_code
def yJ9_min_7cf53 : MethodName := ⟨RJ9, "min", "(II)I"⟩
def RL : String := "FunctionRoomLaw"
abbrev cL_cell : ByteArray := method_2_code
def yL_cell : MethodName := ⟨RL, "cell", "([II)I"⟩
abbrev cL_law : ByteArray := code
def yL_law : MethodName := ⟨RL, "law", "([I)Z"⟩
abbrev cX1_alike : ByteArray := prog_3_method_16_code
def yX1_alike : MethodName := ⟨RX1, "alike", "(IIII)Z"⟩
abbrev cX1_size : ByteArray := prog_3_method_17_code
def yX1_size : MethodName := ⟨RX1, "size", "(I)I"⟩
abbrev cX1_matters : ByteArray := prog_3_method_18_code
def yX1_matters : MethodName := ⟨RX1, "matters", "(I)I"⟩
abbrev vwCl : List vw_C := [(RX0, TX0, 8), (RX1, TX1, 4)]
abbrev TF : u_T := TX0
abbrev TM : u_T := TX1
abbrev CIF : Nat := 0
abbrev CIM : Nat := 1
theorem TF_decl (k : Nat) : (TF k).1 = "FunctionRoom" := by
  show (TX0 k).1 = _
  unfold TX0
  split <;> rfl
theorem TM_decl (k : Nat) : (TM k).1 = "FunctionRoomModel" := by
  show (TX1 k).1 = _
  unfold TX1
  split <;> rfl
/-- the words that every method gets -/
def WA : List Cond := lw_tbl.filter goodWord
theorem WA_good : ∀ w ∈ WA, (w.onTables && w.keeps) = true ∨ ∃ ty, w = .arrayClass ty := fun w h => good_of_word (List.mem_filter.mp h).2
theorem WA_tbl : ∀ w ∈ WA, w ∈ lw_tbl := fun w h => (List.mem_filter.mp h).1
theorem mW {w : Cond} (i : Nat) (h : tables_1[i]? = some w) (hg : goodWord w = true) : w ∈ WA := List.mem_filter.mpr ⟨List.mem_append_right _ (List.mem_of_getElem? h), hg⟩
theorem mP {w : Cond} (i : Nat) (h : (k2_sels lw_privs)[i]? = some w) (hg : goodWord w = true) : w ∈ WA := List.mem_filter.mpr ⟨List.mem_append_left _ (List.mem_of_getElem? h), hg⟩
theorem mF_variables : Cond.fieldLink "FunctionRoom" 18 "FunctionRoom" "variables" "I" ∈ WA := mW 23 rfl rfl
theorem mF_assignments : Cond.fieldLink "FunctionRoom" 22 "FunctionRoom" "assignments" "I" ∈ WA := mW 24 rfl rfl
theorem mF_words : Cond.fieldLink "FunctionRoom" 25 "FunctionRoom" "words" "I" ∈ WA := mW 25 rfl rfl
theorem mF_places : Cond.fieldLink "FunctionRoom" 30 "FunctionRoom" "places" "J" ∈ WA := mW 26 rfl rfl
theorem mF_rows : Cond.fieldLink "FunctionRoom" 36 "FunctionRoom" "rows" "[[J" ∈ WA := mW 27 rfl rfl
theorem mF_made : Cond.fieldLink "FunctionRoom" 39 "FunctionRoom" "made" "[J" ∈ WA := mW 28 rfl rfl
theorem mF_names : Cond.fieldLink "FunctionRoom" 43 "FunctionRoom" "names" "[I" ∈ WA := mW 29 rfl rfl
theorem mF_parts : Cond.fieldLink "FunctionRoom" 47 "FunctionRoom" "parts" "[I" ∈ WA := mW 30 rfl rfl
theorem mF_PLACES : Cond.fieldLink "FunctionRoom" 107 "FunctionRoom" "PLACES_WITH_BIT" "[J" ∈ WA := mW 69 rfl rfl
theorem mG_variables : Cond.fieldLink "FunctionRoomModel" 16 "FunctionRoomModel" "variables" "I" ∈ WA := mW 167 rfl rfl
theorem mG_all : Cond.fieldLink "FunctionRoomModel" 20 "FunctionRoomModel" "all" "I" ∈ WA := mW 168 rfl rfl
theorem mG_row : Cond.fieldLink "FunctionRoomModel" 9 "FunctionRoomModel" "row" "[Z" ∈ WA := mW 169 rfl rfl
theorem mG_made : Cond.fieldLink "FunctionRoomModel" 13 "FunctionRoomModel" "made" "[Z" ∈ WA := mW 170 rfl rfl
theorem mC_F_28 : Cond.constantLong "FunctionRoom" 28 (-1) ∈ WA := mW 20 rfl rfl
theorem mC_L_316 : Cond.constantLong "java/lang/Long" 314 6148914691236517205 ∈ WA := mW 85 rfl rfl
theorem mC_L_318 : Cond.constantLong "java/lang/Long" 316 3689348814741910323 ∈ WA := mW 86 rfl rfl
theorem mC_L_320 : Cond.constantLong "java/lang/Long" 318 1085102592571150095 ∈ WA := mW 87 rfl rfl
theorem mM_F_arraycopy : Cond.methodLink "FunctionRoom" 92 arraycopyName ∈ WA := mW 75 rfl rfl
theorem mN_arraycopy : Cond.native arraycopyName ∈ WA := mW 77 rfl rfl
theorem mS_arraycopy : Cond.static arraycopyName ∈ WA := mW 76 rfl rfl
theorem mI_System : Cond.initialized "java/lang/System" ∈ WA := mW 4 rfl rfl
theorem mI_Math : Cond.initialized "java/lang/Math" ∈ WA := mW 2 rfl rfl
theorem mM_F_max : Cond.methodLink "FunctionRoom" 15 Lib.Math.max.name ∈ WA := mW 17 rfl rfl
theorem mM_F_min : Cond.methodLink "FunctionRoom" 9 Lib.Math.min.name ∈ WA := mW 14 rfl rfl
theorem mS_max : Cond.static Lib.Math.max.name ∈ WA := mW 18 rfl rfl
theorem mS_min : Cond.static Lib.Math.min.name ∈ WA := mW 15 rfl rfl
theorem mO_max : Cond.code Lib.Math.max.name Lib.Math.max.code 2 (some .int) ∈ WA := mW 19 rfl rfl
theorem mO_min : Cond.code Lib.Math.min.name Lib.Math.min.code 2 (some .int) ∈ WA := mW 16 rfl rfl
theorem mM_F_objinit : Cond.methodLink "FunctionRoom" 1 objectInit ∈ WA := mW 11 rfl rfl
theorem mM_M_objinit : Cond.methodLink "FunctionRoomModel" 1 objectInit ∈ WA := mW 166 rfl rfl
theorem mV_objinit : Cond.instanceMethod objectInit ∈ WA := mW 12 rfl rfl
theorem mO_objinit : Cond.code objectInit ⟨#[0xb1]⟩ 1 none ∈ WA := mW 13 rfl rfl
theorem mA_long : Cond.arrayClass .long ∈ WA := mW 48 rfl rfl
theorem mA_int : Cond.arrayClass .int ∈ WA := mW 49 rfl rfl
theorem mA_boolean : Cond.arrayClass .boolean ∈ WA := mW 180 rfl rfl
theorem mK_F : Cond.classLink "FunctionRoom" 34 "[[J" ∈ WA := mW 21 rfl rfl
theorem mI_F : Cond.initialized "FunctionRoom" ∈ WA := mW 1 rfl rfl
theorem mI_M : Cond.initialized "FunctionRoomModel" ∈ WA := mW 3 rfl rfl
theorem mI_W : Cond.initialized "FunctionRoomLaw" ∈ WA := mW 0 rfl rfl
theorem mI_L : Cond.initialized "java/lang/Long" ∈ WA := mW 5 rfl rfl
theorem hinF : ∀ w ∈ u_ws "FunctionRoom" TX0 8, w ∈ WA := by
  intro w h
  obtain ⟨k, hk, rfl⟩ := List.mem_map.mp h
  have hk := List.mem_range.mp hk
  rcases (show k = 0 ∨ k = 1 ∨ k = 2 ∨ k = 3 ∨ k = 4 ∨ k = 5 ∨ k = 6 ∨ k = 7 by omega) with rfl | rfl | rfl | rfl | rfl | rfl | rfl | rfl
  · exact mW 31 rfl rfl
  · exact mW 33 rfl rfl
  · exact mW 35 rfl rfl
  · exact mW 37 rfl rfl
  · exact mW 39 rfl rfl
  · exact mW 41 rfl rfl
  · exact mW 43 rfl rfl
  · exact mW 45 rfl rfl
theorem hinM : ∀ w ∈ u_ws "FunctionRoomModel" TX1 4, w ∈ WA := by
  intro w h
  obtain ⟨k, hk, rfl⟩ := List.mem_map.mp h
  have hk := List.mem_range.mp hk
  rcases (show k = 0 ∨ k = 1 ∨ k = 2 ∨ k = 3 by omega) with rfl | rfl | rfl | rfl
  · exact mW 171 rfl rfl
  · exact mW 173 rfl rfl
  · exact mW 175 rfl rfl
  · exact mW 177 rfl rfl
