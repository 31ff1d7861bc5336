/-! rooms, words, and what each call asks of the tables -/
theorem fr_cwV {R : Room} {s : State} {args : Array Value} {own C : String} {index : Nat} {y : MethodName} {bytes : ByteArray} {maxL n : Nat} {ret : Option FieldType} {rm : Room} (hw : ∀ w ∈ WA, w.before args s = true) (hcode : Cond.code y bytes maxL ret ∈ WA) (hini : Cond.initialized y.cls ∈ WA) (hl : Cond.methodLink own index y ∈ WA) (hinst : Cond.instanceMethod y ∈ WA) (hsel : Cond.selects C y y ∈ WA)
    (hd : y.cls ≠ "java/lang/invoke/MethodHandle" ∧ y.cls ≠ "java/lang/invoke/VarHandle" ∧ (parseMethodDescriptor y.desc).map (fun d => d.parameters.length) = some n) (hR : rm.frames + 1 ≤ R.frames ∧ 8 + (maxL + 11) + rm.locals ≤ R.locals) (hrc : rm.cells = 0) (hrs : rm.slots = 0) : CallW R s args own C index y bytes maxL ret (Cond.code y bytes maxL ret :: WA) rm 0 0 n :=
  ⟨callB_of n hw (fun w h => (List.mem_cons.mp h).elim (fun e => by subst e; exact ⟨hcode, WA_good _ hcode⟩) (fun h => ⟨h, WA_good w h⟩)) rfl hrc hrs (hw _ hini) (hw _ hl) hd hR, hw _ hinst, hw _ hsel⟩
theorem fr_cwS {R : Room} {s : State} {args : Array Value} {own : String} {index : Nat} {y : MethodName} {bytes : ByteArray} {maxL n : Nat} {ret : Option FieldType} {rm : Room} (hw : ∀ w ∈ WA, w.before args s = true) (hcode : Cond.code y bytes maxL ret ∈ WA) (hini : Cond.initialized y.cls ∈ WA) (hl : Cond.methodLink own index y ∈ WA) (hst : Cond.static y ∈ WA)
    (hd : y.cls ≠ "java/lang/invoke/MethodHandle" ∧ y.cls ≠ "java/lang/invoke/VarHandle" ∧ (parseMethodDescriptor y.desc).map (fun d => d.parameters.length) = some n) (hR : rm.frames + 1 ≤ R.frames ∧ 8 + (maxL + 11) + rm.locals ≤ R.locals) (hrc : rm.cells = 0) (hrs : rm.slots = 0) : CallB R s args own index y bytes maxL ret (Cond.code y bytes maxL ret :: WA) rm 0 0 n ∧ (Cond.static y).before args s = true :=
  ⟨callB_of n hw (fun w h => (List.mem_cons.mp h).elim (fun e => by subst e; exact ⟨hcode, WA_good _ hcode⟩) (fun h => ⟨h, WA_good w h⟩)) rfl hrc hrs (hw _ hini) (hw _ hl) hd hR, hw _ hst⟩
theorem fr_cwI {R : Room} {s : State} {args : Array Value} {own : String} {index : Nat} {y : MethodName} {bytes : ByteArray} {maxL n mc ms : Nat} {rm : Room} (hw : ∀ w ∈ WA, w.before args s = true) (hcode : Cond.code y bytes maxL none ∈ WA) (hini : Cond.initialized y.cls ∈ WA) (hl : Cond.methodLink own index y ∈ WA) (hin : Cond.instanceMethod y ∈ WA) (hy1 : y.name = "<init>")
    (hd : y.cls ≠ "java/lang/invoke/MethodHandle" ∧ y.cls ≠ "java/lang/invoke/VarHandle" ∧ (parseMethodDescriptor y.desc).map (fun d => d.parameters.length) = some n) (hR : rm.frames + 1 ≤ R.frames ∧ 8 + (maxL + 11) + rm.locals ≤ R.locals) (hrc : rm.cells = mc) (hrs : rm.slots = ms) : CallB R s args own index y bytes maxL none (Cond.code y bytes maxL none :: WA) rm mc ms n ∧ y.name = "<init>" ∧ (Cond.instanceMethod y).before args s = true :=
  ⟨callB_of n hw (fun w h => (List.mem_cons.mp h).elim (fun e => by subst e; exact ⟨hcode, WA_good _ hcode⟩) (fun h => ⟨h, WA_good w h⟩)) rfl hrc hrs (hw _ hini) (hw _ hl) hd hR, hy1, hw _ hin⟩
abbrev rmL_bitCount : Room := { frames := 0, cells := 0, slots := 0, locals := 0 }
abbrev wsL_bitCount : List Cond := .code yJ13_bitCount_95d88 cJ13_bitCount_95d88 2 (some .int) :: WA
theorem mO_L_bitCount : Cond.code yJ13_bitCount_95d88 cJ13_bitCount_95d88 2 (some .int) ∈ WA := mW 84 rfl rfl
theorem cw_L_bitCount {R : Room} {s : State} {args : Array Value} (hw : ∀ w ∈ WA, w.before args s = true) (hR : rmL_bitCount.frames + 1 ≤ R.frames ∧ 8 + (2 + 11) + rmL_bitCount.locals ≤ R.locals) : CallB R s args "FunctionRoom" 98 yJ13_bitCount_95d88 cJ13_bitCount_95d88 2 (some .int) wsL_bitCount rmL_bitCount 0 0 1 ∧ (Cond.static yJ13_bitCount_95d88).before args s = true := fr_cwS hw mO_L_bitCount mI_L (mW 82 rfl rfl) (mW 83 rfl rfl) ⟨by decide, by decide, by decide +kernel⟩ hR rfl rfl
abbrev rmF_init : Room := { frames := 1, cells := 36, slots := 1400, locals := 21 }
abbrev wsF_init : List Cond := .code yX0_init cX0_init 2 none :: WA
theorem mO_F_init : Cond.code yX0_init cX0_init 2 none ∈ WA := mW 10 rfl rfl
theorem cw_W_F_init {R : Room} {s : State} {args : Array Value} (hw : ∀ w ∈ WA, w.before args s = true) (hR : rmF_init.frames + 1 ≤ R.frames ∧ 8 + (2 + 11) + rmF_init.locals ≤ R.locals) : CallB R s args "FunctionRoomLaw" 15 yX0_init cX0_init 2 none wsF_init rmF_init 36 1400 1 ∧ yX0_init.name = "<init>" ∧ (Cond.instanceMethod yX0_init).before args s = true := fr_cwI hw mO_F_init mI_F (mW 8 rfl rfl) (mW 9 rfl rfl) rfl ⟨by decide, by decide, by decide +kernel⟩ hR rfl rfl
abbrev rmF_load : Room := { frames := 3, cells := 0, slots := 0, locals := 65 }
abbrev wsF_load : List Cond := .code yX0_load cX0_load 5 (some .int) :: WA
theorem mO_F_load : Cond.code yX0_load cX0_load 5 (some .int) ∈ WA := mW 53 rfl rfl
theorem cw_W_F_load {R : Room} {s : State} {args : Array Value} (hw : ∀ w ∈ WA, w.before args s = true) (hR : rmF_load.frames + 1 ≤ R.frames ∧ 8 + (5 + 11) + rmF_load.locals ≤ R.locals) : CallW R s args "FunctionRoomLaw" "FunctionRoom" 21 yX0_load cX0_load 5 (some .int) wsF_load rmF_load 0 0 2 := fr_cwV hw mO_F_load mI_F (mW 50 rfl rfl) (mW 51 rfl rfl) (mW 52 rfl rfl) ⟨by decide, by decide, by decide +kernel⟩ hR rfl rfl
abbrev rmF_reckon : Room := { frames := 3, cells := 0, slots := 0, locals := 65 }
abbrev wsF_reckon : List Cond := .code yX0_reckon cX0_reckon 6 (some .int) :: WA
theorem mO_F_reckon : Cond.code yX0_reckon cX0_reckon 6 (some .int) ∈ WA := mW 91 rfl rfl
theorem cw_W_F_reckon {R : Room} {s : State} {args : Array Value} (hw : ∀ w ∈ WA, w.before args s = true) (hR : rmF_reckon.frames + 1 ≤ R.frames ∧ 8 + (6 + 11) + rmF_reckon.locals ≤ R.locals) : CallW R s args "FunctionRoomLaw" "FunctionRoom" 26 yX0_reckon cX0_reckon 6 (some .int) wsF_reckon rmF_reckon 0 0 4 := fr_cwV hw mO_F_reckon mI_F (mW 88 rfl rfl) (mW 89 rfl rfl) (mW 90 rfl rfl) ⟨by decide, by decide, by decide +kernel⟩ hR rfl rfl
abbrev rmF_not : Room := { frames := 3, cells := 0, slots := 0, locals := 65 }
abbrev wsF_not : List Cond := .code yX0_not cX0_not 4 (some .int) :: WA
theorem mO_F_not : Cond.code yX0_not cX0_not 4 (some .int) ∈ WA := mW 98 rfl rfl
theorem cw_W_F_not {R : Room} {s : State} {args : Array Value} (hw : ∀ w ∈ WA, w.before args s = true) (hR : rmF_not.frames + 1 ≤ R.frames ∧ 8 + (4 + 11) + rmF_not.locals ≤ R.locals) : CallW R s args "FunctionRoomLaw" "FunctionRoom" 31 yX0_not cX0_not 4 (some .int) wsF_not rmF_not 0 0 2 := fr_cwV hw mO_F_not mI_F (mW 95 rfl rfl) (mW 96 rfl rfl) (mW 97 rfl rfl) ⟨by decide, by decide, by decide +kernel⟩ hR rfl rfl
abbrev rmF_with : Room := { frames := 3, cells := 0, slots := 0, locals := 76 }
abbrev wsF_with : List Cond := .code yX0_with cX0_with 6 (some .int) :: WA
theorem mO_F_with : Cond.code yX0_with cX0_with 6 (some .int) ∈ WA := mW 102 rfl rfl
theorem cw_W_F_with {R : Room} {s : State} {args : Array Value} (hw : ∀ w ∈ WA, w.before args s = true) (hR : rmF_with.frames + 1 ≤ R.frames ∧ 8 + (6 + 11) + rmF_with.locals ≤ R.locals) : CallW R s args "FunctionRoomLaw" "FunctionRoom" 35 yX0_with cX0_with 6 (some .int) wsF_with rmF_with 0 0 4 := fr_cwV hw mO_F_with mI_F (mW 99 rfl rfl) (mW 100 rfl rfl) (mW 101 rfl rfl) ⟨by decide, by decide, by decide +kernel⟩ hR rfl rfl
abbrev rmF_bind : Room := { frames := 3, cells := 0, slots := 0, locals := 65 }
abbrev wsF_bind : List Cond := .code yX0_bind cX0_bind 10 (some .int) :: WA
theorem mO_F_bind : Cond.code yX0_bind cX0_bind 10 (some .int) ∈ WA := mW 114 rfl rfl
theorem cw_W_F_bind {R : Room} {s : State} {args : Array Value} (hw : ∀ w ∈ WA, w.before args s = true) (hR : rmF_bind.frames + 1 ≤ R.frames ∧ 8 + (10 + 11) + rmF_bind.locals ≤ R.locals) : CallW R s args "FunctionRoomLaw" "FunctionRoom" 40 yX0_bind cX0_bind 10 (some .int) wsF_bind rmF_bind 0 0 4 := fr_cwV hw mO_F_bind mI_F (mW 111 rfl rfl) (mW 112 rfl rfl) (mW 113 rfl rfl) ⟨by decide, by decide, by decide +kernel⟩ hR rfl rfl
abbrev rmF_put : Room := { frames := 3, cells := 0, slots := 0, locals := 76 }
abbrev wsF_put : List Cond := .code yX0_put cX0_put 8 (some .int) :: WA
theorem mO_F_put : Cond.code yX0_put cX0_put 8 (some .int) ∈ WA := mW 118 rfl rfl
theorem cw_W_F_put {R : Room} {s : State} {args : Array Value} (hw : ∀ w ∈ WA, w.before args s = true) (hR : rmF_put.frames + 1 ≤ R.frames ∧ 8 + (8 + 11) + rmF_put.locals ≤ R.locals) : CallW R s args "FunctionRoomLaw" "FunctionRoom" 44 yX0_put cX0_put 8 (some .int) wsF_put rmF_put 0 0 4 := fr_cwV hw mO_F_put mI_F (mW 115 rfl rfl) (mW 116 rfl rfl) (mW 117 rfl rfl) ⟨by decide, by decide, by decide +kernel⟩ hR rfl rfl
abbrev rmF_many : Room := { frames := 2, cells := 0, slots := 0, locals := 44 }
abbrev wsF_many : List Cond := .code yX0_many cX0_many 2 (some .int) :: WA
theorem mO_F_many : Cond.code yX0_many cX0_many 2 (some .int) ∈ WA := mW 122 rfl rfl
theorem cw_W_F_many {R : Room} {s : State} {args : Array Value} (hw : ∀ w ∈ WA, w.before args s = true) (hR : rmF_many.frames + 1 ≤ R.frames ∧ 8 + (2 + 11) + rmF_many.locals ≤ R.locals) : CallW R s args "FunctionRoomLaw" "FunctionRoom" 48 yX0_many cX0_many 2 (some .int) wsF_many rmF_many 0 0 1 := fr_cwV hw mO_F_many mI_F (mW 119 rfl rfl) (mW 120 rfl rfl) (mW 121 rfl rfl) ⟨by decide, by decide, by decide +kernel⟩ hR rfl rfl
abbrev rmF_nth : Room := { frames := 1, cells := 0, slots := 0, locals := 21 }
abbrev wsF_nth : List Cond := .code yX0_nth cX0_nth 5 (some .int) :: WA
theorem mO_F_nth : Cond.code yX0_nth cX0_nth 5 (some .int) ∈ WA := mW 126 rfl rfl
theorem cw_W_F_nth {R : Room} {s : State} {args : Array Value} (hw : ∀ w ∈ WA, w.before args s = true) (hR : rmF_nth.frames + 1 ≤ R.frames ∧ 8 + (5 + 11) + rmF_nth.locals ≤ R.locals) : CallW R s args "FunctionRoomLaw" "FunctionRoom" 53 yX0_nth cX0_nth 5 (some .int) wsF_nth rmF_nth 0 0 2 := fr_cwV hw mO_F_nth mI_F (mW 123 rfl rfl) (mW 124 rfl rfl) (mW 125 rfl rfl) ⟨by decide, by decide, by decide +kernel⟩ hR rfl rfl
abbrev rmF_value : Room := { frames := 1, cells := 0, slots := 0, locals := 21 }
abbrev wsF_value : List Cond := .code yX0_value cX0_value 3 (some .int) :: WA
theorem mO_F_value : Cond.code yX0_value cX0_value 3 (some .int) ∈ WA := mW 133 rfl rfl
theorem cw_W_F_value {R : Room} {s : State} {args : Array Value} (hw : ∀ w ∈ WA, w.before args s = true) (hR : rmF_value.frames + 1 ≤ R.frames ∧ 8 + (3 + 11) + rmF_value.locals ≤ R.locals) : CallW R s args "FunctionRoomLaw" "FunctionRoom" 57 yX0_value cX0_value 3 (some .int) wsF_value rmF_value 0 0 2 := fr_cwV hw mO_F_value mI_F (mW 130 rfl rfl) (mW 131 rfl rfl) (mW 132 rfl rfl) ⟨by decide, by decide, by decide +kernel⟩ hR rfl rfl
abbrev rmF_same : Room := { frames := 1, cells := 0, slots := 0, locals := 20 }
abbrev wsF_same : List Cond := .code yX0_same cX0_same 4 (some .boolean) :: WA
theorem mO_F_same : Cond.code yX0_same cX0_same 4 (some .boolean) ∈ WA := mW 137 rfl rfl
theorem cw_W_F_same {R : Room} {s : State} {args : Array Value} (hw : ∀ w ∈ WA, w.before args s = true) (hR : rmF_same.frames + 1 ≤ R.frames ∧ 8 + (4 + 11) + rmF_same.locals ≤ R.locals) : CallW R s args "FunctionRoomLaw" "FunctionRoom" 61 yX0_same cX0_same 4 (some .boolean) wsF_same rmF_same 0 0 2 := fr_cwV hw mO_F_same mI_F (mW 134 rfl rfl) (mW 135 rfl rfl) (mW 136 rfl rfl) ⟨by decide, by decide, by decide +kernel⟩ hR rfl rfl
abbrev rmF_size : Room := { frames := 2, cells := 0, slots := 0, locals := 52 }
abbrev wsF_size : List Cond := .code yX0_size cX0_size 4 (some .int) :: WA
theorem mO_F_size : Cond.code yX0_size cX0_size 4 (some .int) ∈ WA := mW 141 rfl rfl
theorem cw_W_F_size {R : Room} {s : State} {args : Array Value} (hw : ∀ w ∈ WA, w.before args s = true) (hR : rmF_size.frames + 1 ≤ R.frames ∧ 8 + (4 + 11) + rmF_size.locals ≤ R.locals) : CallW R s args "FunctionRoomLaw" "FunctionRoom" 66 yX0_size cX0_size 4 (some .int) wsF_size rmF_size 0 0 1 := fr_cwV hw mO_F_size mI_F (mW 138 rfl rfl) (mW 139 rfl rfl) (mW 140 rfl rfl) ⟨by decide, by decide, by decide +kernel⟩ hR rfl rfl
abbrev rmF_matters : Room := { frames := 3, cells := 0, slots := 0, locals := 71 }
abbrev wsF_matters : List Cond := .code yX0_matters cX0_matters 4 (some .int) :: WA
theorem mO_F_matters : Cond.code yX0_matters cX0_matters 4 (some .int) ∈ WA := mW 153 rfl rfl
theorem cw_W_F_matters {R : Room} {s : State} {args : Array Value} (hw : ∀ w ∈ WA, w.before args s = true) (hR : rmF_matters.frames + 1 ≤ R.frames ∧ 8 + (4 + 11) + rmF_matters.locals ≤ R.locals) : CallW R s args "FunctionRoomLaw" "FunctionRoom" 70 yX0_matters cX0_matters 4 (some .int) wsF_matters rmF_matters 0 0 1 := fr_cwV hw mO_F_matters mI_F (mW 150 rfl rfl) (mW 151 rfl rfl) (mW 152 rfl rfl) ⟨by decide, by decide, by decide +kernel⟩ hR rfl rfl
abbrev rmF_isRegister : Room := { frames := 0, cells := 0, slots := 0, locals := 0 }
abbrev wsF_isRegister : List Cond := .code yX0_isRegister cX0_isRegister 1 (some .boolean) :: WA
theorem mO_F_isRegister : Cond.code yX0_isRegister cX0_isRegister 1 (some .boolean) ∈ WA := mW 56 rfl rfl
theorem cw_F_isRegister {R : Room} {s : State} {args : Array Value} (hw : ∀ w ∈ WA, w.before args s = true) (hR : rmF_isRegister.frames + 1 ≤ R.frames ∧ 8 + (1 + 11) + rmF_isRegister.locals ≤ R.locals) : CallB R s args "FunctionRoom" 50 yX0_isRegister cX0_isRegister 1 (some .boolean) wsF_isRegister rmF_isRegister 0 0 1 ∧ (Cond.static yX0_isRegister).before args s = true := fr_cwS hw mO_F_isRegister mI_F (mW 54 rfl rfl) (mW 55 rfl rfl) ⟨by decide, by decide, by decide +kernel⟩ hR rfl rfl
abbrev rmF_isVariable : Room := { frames := 0, cells := 0, slots := 0, locals := 0 }
abbrev wsF_isVariable : List Cond := .code yX0_isVariable cX0_isVariable 2 (some .boolean) :: WA
theorem mO_F_isVariable : Cond.code yX0_isVariable cX0_isVariable 2 (some .boolean) ∈ WA := mW 60 rfl rfl
theorem cw_F_isVariable {R : Room} {s : State} {args : Array Value} (hw : ∀ w ∈ WA, w.before args s = true) (hR : rmF_isVariable.frames + 1 ≤ R.frames ∧ 8 + (2 + 11) + rmF_isVariable.locals ≤ R.locals) : CallW R s args "FunctionRoom" "FunctionRoom" 54 yX0_isVariable cX0_isVariable 2 (some .boolean) wsF_isVariable rmF_isVariable 0 0 1 := fr_cwV hw mO_F_isVariable mI_F (mW 57 rfl rfl) (mW 59 rfl rfl) (mP 0 rfl rfl) ⟨by decide, by decide, by decide +kernel⟩ hR rfl rfl
abbrev rmF_keep : Room := { frames := 2, cells := 0, slots := 0, locals := 44 }
abbrev wsF_keep : List Cond := .code yX0_keep cX0_keep 2 (some .int) :: WA
theorem mO_F_keep : Cond.code yX0_keep cX0_keep 2 (some .int) ∈ WA := mW 74 rfl rfl
theorem cw_F_keep {R : Room} {s : State} {args : Array Value} (hw : ∀ w ∈ WA, w.before args s = true) (hR : rmF_keep.frames + 1 ≤ R.frames ∧ 8 + (2 + 11) + rmF_keep.locals ≤ R.locals) : CallW R s args "FunctionRoom" "FunctionRoom" 61 yX0_keep cX0_keep 2 (some .int) wsF_keep rmF_keep 0 0 1 := fr_cwV hw mO_F_keep mI_F (mW 71 rfl rfl) (mW 73 rfl rfl) (mP 3 rfl rfl) ⟨by decide, by decide, by decide +kernel⟩ hR rfl rfl
abbrev rmF_count : Room := { frames := 1, cells := 0, slots := 0, locals := 21 }
abbrev wsF_count : List Cond := .code yX0_count cX0_count 4 (some .int) :: WA
theorem mO_F_count : Cond.code yX0_count cX0_count 4 (some .int) ∈ WA := mW 81 rfl rfl
theorem cw_F_count {R : Room} {s : State} {args : Array Value} (hw : ∀ w ∈ WA, w.before args s = true) (hR : rmF_count.frames + 1 ≤ R.frames ∧ 8 + (4 + 11) + rmF_count.locals ≤ R.locals) : CallW R s args "FunctionRoom" "FunctionRoom" 77 yX0_count cX0_count 4 (some .int) wsF_count rmF_count 0 0 1 := fr_cwV hw mO_F_count mI_F (mW 78 rfl rfl) (mW 80 rfl rfl) (mP 4 rfl rfl) ⟨by decide, by decide, by decide +kernel⟩ hR rfl rfl
abbrev rmF_valueAt : Room := { frames := 0, cells := 0, slots := 0, locals := 0 }
abbrev wsF_valueAt : List Cond := .code yX0_valueAt cX0_valueAt 2 (some .int) :: WA
theorem mO_F_valueAt : Cond.code yX0_valueAt cX0_valueAt 2 (some .int) ∈ WA := mW 129 rfl rfl
theorem cw_F_valueAt {R : Room} {s : State} {args : Array Value} (hw : ∀ w ∈ WA, w.before args s = true) (hR : rmF_valueAt.frames + 1 ≤ R.frames ∧ 8 + (2 + 11) + rmF_valueAt.locals ≤ R.locals) : CallB R s args "FunctionRoom" 81 yX0_valueAt cX0_valueAt 2 (some .int) wsF_valueAt rmF_valueAt 0 0 2 ∧ (Cond.static yX0_valueAt).before args s = true := fr_cwS hw mO_F_valueAt mI_F (mW 127 rfl rfl) (mW 128 rfl rfl) ⟨by decide, by decide, by decide +kernel⟩ hR rfl rfl
abbrev rmF_combined : Room := { frames := 0, cells := 0, slots := 0, locals := 0 }
abbrev wsF_combined : List Cond := .code yX0_combined cX0_combined 5 (some .long) :: WA
theorem mO_F_combined : Cond.code yX0_combined cX0_combined 5 (some .long) ∈ WA := mW 94 rfl rfl
theorem cw_F_combined {R : Room} {s : State} {args : Array Value} (hw : ∀ w ∈ WA, w.before args s = true) (hR : rmF_combined.frames + 1 ≤ R.frames ∧ 8 + (5 + 11) + rmF_combined.locals ≤ R.locals) : CallB R s args "FunctionRoom" 65 yX0_combined cX0_combined 5 (some .long) wsF_combined rmF_combined 0 0 3 ∧ (Cond.static yX0_combined).before args s = true := fr_cwS hw mO_F_combined mI_F (mW 92 rfl rfl) (mW 93 rfl rfl) ⟨by decide, by decide, by decide +kernel⟩ hR rfl rfl
abbrev rmF_bitOf : Room := { frames := 0, cells := 0, slots := 0, locals := 0 }
abbrev wsF_bitOf : List Cond := .code yX0_bitOf cX0_bitOf 2 (some .int) :: WA
theorem mO_F_bitOf : Cond.code yX0_bitOf cX0_bitOf 2 (some .int) ∈ WA := mW 68 rfl rfl
theorem cw_F_bitOf {R : Room} {s : State} {args : Array Value} (hw : ∀ w ∈ WA, w.before args s = true) (hR : rmF_bitOf.frames + 1 ≤ R.frames ∧ 8 + (2 + 11) + rmF_bitOf.locals ≤ R.locals) : CallW R s args "FunctionRoom" "FunctionRoom" 104 yX0_bitOf cX0_bitOf 2 (some .int) wsF_bitOf rmF_bitOf 0 0 1 := fr_cwV hw mO_F_bitOf mI_F (mW 65 rfl rfl) (mW 67 rfl rfl) (mP 2 rfl rfl) ⟨by decide, by decide, by decide +kernel⟩ hR rfl rfl
abbrev rmF_placesWhereOne : Room := { frames := 1, cells := 0, slots := 0, locals := 21 }
abbrev wsF_placesWhereOne : List Cond := .code yX0_placesWhereOne cX0_placesWhereOne 4 (some .long) :: WA
theorem mO_F_placesWhereOne : Cond.code yX0_placesWhereOne cX0_placesWhereOne 4 (some .long) ∈ WA := mW 64 rfl rfl
theorem cw_F_placesWhereOne {R : Room} {s : State} {args : Array Value} (hw : ∀ w ∈ WA, w.before args s = true) (hR : rmF_placesWhereOne.frames + 1 ≤ R.frames ∧ 8 + (4 + 11) + rmF_placesWhereOne.locals ≤ R.locals) : CallW R s args "FunctionRoom" "FunctionRoom" 57 yX0_placesWhereOne cX0_placesWhereOne 4 (some .long) wsF_placesWhereOne rmF_placesWhereOne 0 0 2 := fr_cwV hw mO_F_placesWhereOne mI_F (mW 61 rfl rfl) (mW 63 rfl rfl) (mP 1 rfl rfl) ⟨by decide, by decide, by decide +kernel⟩ hR rfl rfl
abbrev rmF_turned : Room := { frames := 1, cells := 0, slots := 0, locals := 21 }
abbrev wsF_turned : List Cond := .code yX0_turned cX0_turned 8 (some .long) :: WA
theorem mO_F_turned : Cond.code yX0_turned cX0_turned 8 (some .long) ∈ WA := mW 110 rfl rfl
theorem cw_F_turned {R : Room} {s : State} {args : Array Value} (hw : ∀ w ∈ WA, w.before args s = true) (hR : rmF_turned.frames + 1 ≤ R.frames ∧ 8 + (8 + 11) + rmF_turned.locals ≤ R.locals) : CallW R s args "FunctionRoom" "FunctionRoom" 73 yX0_turned cX0_turned 8 (some .long) wsF_turned rmF_turned 0 0 3 := fr_cwV hw mO_F_turned mI_F (mW 107 rfl rfl) (mW 109 rfl rfl) (mP 6 rfl rfl) ⟨by decide, by decide, by decide +kernel⟩ hR rfl rfl
abbrev rmF_narrowed : Room := { frames := 2, cells := 0, slots := 0, locals := 48 }
abbrev wsF_narrowed : List Cond := .code yX0_narrowed cX0_narrowed 9 (some .long) :: WA
theorem mO_F_narrowed : Cond.code yX0_narrowed cX0_narrowed 9 (some .long) ∈ WA := mW 106 rfl rfl
theorem cw_F_narrowed {R : Room} {s : State} {args : Array Value} (hw : ∀ w ∈ WA, w.before args s = true) (hR : rmF_narrowed.frames + 1 ≤ R.frames ∧ 8 + (9 + 11) + rmF_narrowed.locals ≤ R.locals) : CallW R s args "FunctionRoom" "FunctionRoom" 69 yX0_narrowed cX0_narrowed 9 (some .long) wsF_narrowed rmF_narrowed 0 0 4 := fr_cwV hw mO_F_narrowed mI_F (mW 103 rfl rfl) (mW 105 rfl rfl) (mP 5 rfl rfl) ⟨by decide, by decide, by decide +kernel⟩ hR rfl rfl
abbrev rmF_dependsOn : Room := { frames := 2, cells := 0, slots := 0, locals := 48 }
abbrev wsF_dependsOn : List Cond := .code yX0_dependsOn cX0_dependsOn 4 (some .boolean) :: WA
theorem mO_F_dependsOn : Cond.code yX0_dependsOn cX0_dependsOn 4 (some .boolean) ∈ WA := mW 157 rfl rfl
theorem cw_F_dependsOn {R : Room} {s : State} {args : Array Value} (hw : ∀ w ∈ WA, w.before args s = true) (hR : rmF_dependsOn.frames + 1 ≤ R.frames ∧ 8 + (4 + 11) + rmF_dependsOn.locals ≤ R.locals) : CallW R s args "FunctionRoom" "FunctionRoom" 88 yX0_dependsOn cX0_dependsOn 4 (some .boolean) wsF_dependsOn rmF_dependsOn 0 0 2 := fr_cwV hw mO_F_dependsOn mI_F (mW 154 rfl rfl) (mW 156 rfl rfl) (mP 9 rfl rfl) ⟨by decide, by decide, by decide +kernel⟩ hR rfl rfl
abbrev rmF_joinHalves : Room := { frames := 1, cells := 0, slots := 0, locals := 24 }
abbrev wsF_joinHalves : List Cond := .code yX0_joinHalves cX0_joinHalves 9 (some .int) :: WA
theorem mO_F_joinHalves : Cond.code yX0_joinHalves cX0_joinHalves 9 (some .int) ∈ WA := mW 145 rfl rfl
theorem cw_F_joinHalves {R : Room} {s : State} {args : Array Value} (hw : ∀ w ∈ WA, w.before args s = true) (hR : rmF_joinHalves.frames + 1 ≤ R.frames ∧ 8 + (9 + 11) + rmF_joinHalves.locals ≤ R.locals) : CallW R s args "FunctionRoom" "FunctionRoom" 85 yX0_joinHalves cX0_joinHalves 9 (some .int) wsF_joinHalves rmF_joinHalves 0 0 2 := fr_cwV hw mO_F_joinHalves mI_F (mW 142 rfl rfl) (mW 144 rfl rfl) (mP 7 rfl rfl) ⟨by decide, by decide, by decide +kernel⟩ hR rfl rfl
abbrev rmF_placeOfPart : Room := { frames := 0, cells := 0, slots := 0, locals := 0 }
abbrev wsF_placeOfPart : List Cond := .code yX0_placeOfPart cX0_placeOfPart 5 (some .int) :: WA
theorem mO_F_placeOfPart : Cond.code yX0_placeOfPart cX0_placeOfPart 5 (some .int) ∈ WA := mW 149 rfl rfl
theorem cw_F_placeOfPart {R : Room} {s : State} {args : Array Value} (hw : ∀ w ∈ WA, w.before args s = true) (hR : rmF_placeOfPart.frames + 1 ≤ R.frames ∧ 8 + (5 + 11) + rmF_placeOfPart.locals ≤ R.locals) : CallW R s args "FunctionRoom" "FunctionRoom" 110 yX0_placeOfPart cX0_placeOfPart 5 (some .int) wsF_placeOfPart rmF_placeOfPart 0 0 3 := fr_cwV hw mO_F_placeOfPart mI_F (mW 146 rfl rfl) (mW 148 rfl rfl) (mP 8 rfl rfl) ⟨by decide, by decide, by decide +kernel⟩ hR rfl rfl
abbrev rmM_init : Room := { frames := 1, cells := 2, slots := 16896, locals := 20 }
abbrev wsM_init : List Cond := .code yX1_init cX1_init 2 none :: WA
theorem mO_M_init : Cond.code yX1_init cX1_init 2 none ∈ WA := mW 165 rfl rfl
theorem cw_W_M_init {R : Room} {s : State} {args : Array Value} (hw : ∀ w ∈ WA, w.before args s = true) (hR : rmM_init.frames + 1 ≤ R.frames ∧ 8 + (2 + 11) + rmM_init.locals ≤ R.locals) : CallB R s args "FunctionRoomLaw" 20 yX1_init cX1_init 2 none wsM_init rmM_init 2 16896 1 ∧ yX1_init.name = "<init>" ∧ (Cond.instanceMethod yX1_init).before args s = true := fr_cwI hw mO_M_init mI_M (mW 163 rfl rfl) (mW 164 rfl rfl) rfl ⟨by decide, by decide, by decide +kernel⟩ hR rfl rfl
abbrev rmM_is : Room := { frames := 0, cells := 0, slots := 0, locals := 0 }
abbrev wsM_is : List Cond := .code yX1_is cX1_is 1 (some .boolean) :: WA
theorem mO_M_is : Cond.code yX1_is cX1_is 1 (some .boolean) ∈ WA := mW 187 rfl rfl
theorem cw_M_is {R : Room} {s : State} {args : Array Value} (hw : ∀ w ∈ WA, w.before args s = true) (hR : rmM_is.frames + 1 ≤ R.frames ∧ 8 + (1 + 11) + rmM_is.locals ≤ R.locals) : CallB R s args "FunctionRoomModel" 27 yX1_is cX1_is 1 (some .boolean) wsM_is rmM_is 0 0 1 ∧ (Cond.static yX1_is).before args s = true := fr_cwS hw mO_M_is mI_M (mW 185 rfl rfl) (mW 186 rfl rfl) ⟨by decide, by decide, by decide +kernel⟩ hR rfl rfl
abbrev rmM_var : Room := { frames := 0, cells := 0, slots := 0, locals := 0 }
abbrev wsM_var : List Cond := .code yX1_var cX1_var 2 (some .boolean) :: WA
theorem mO_M_var : Cond.code yX1_var cX1_var 2 (some .boolean) ∈ WA := mW 215 rfl rfl
theorem cw_M_var {R : Room} {s : State} {args : Array Value} (hw : ∀ w ∈ WA, w.before args s = true) (hR : rmM_var.frames + 1 ≤ R.frames ∧ 8 + (2 + 11) + rmM_var.locals ≤ R.locals) : CallW R s args "FunctionRoomModel" "FunctionRoomModel" 37 yX1_var cX1_var 2 (some .boolean) wsM_var rmM_var 0 0 1 := fr_cwV hw mO_M_var mI_M (mW 212 rfl rfl) (mW 214 rfl rfl) (mP 12 rfl rfl) ⟨by decide, by decide, by decide +kernel⟩ hR rfl rfl
abbrev rmM_bit : Room := { frames := 0, cells := 0, slots := 0, locals := 0 }
abbrev wsM_bit : List Cond := .code yX1_bit cX1_bit 2 (some .int) :: WA
theorem mO_M_bit : Cond.code yX1_bit cX1_bit 2 (some .int) ∈ WA := mW 191 rfl rfl
theorem cw_M_bit {R : Room} {s : State} {args : Array Value} (hw : ∀ w ∈ WA, w.before args s = true) (hR : rmM_bit.frames + 1 ≤ R.frames ∧ 8 + (2 + 11) + rmM_bit.locals ≤ R.locals) : CallW R s args "FunctionRoomModel" "FunctionRoomModel" 31 yX1_bit cX1_bit 2 (some .int) wsM_bit rmM_bit 0 0 1 := fr_cwV hw mO_M_bit mI_M (mW 188 rfl rfl) (mW 190 rfl rfl) (mP 10 rfl rfl) ⟨by decide, by decide, by decide +kernel⟩ hR rfl rfl
abbrev rmM_keep : Room := { frames := 2, cells := 0, slots := 0, locals := 43 }
abbrev wsM_keep : List Cond := .code yX1_keep cX1_keep 3 (some .int) :: WA
theorem mO_M_keep : Cond.code yX1_keep cX1_keep 3 (some .int) ∈ WA := mW 195 rfl rfl
theorem cw_M_keep {R : Room} {s : State} {args : Array Value} (hw : ∀ w ∈ WA, w.before args s = true) (hR : rmM_keep.frames + 1 ≤ R.frames ∧ 8 + (3 + 11) + rmM_keep.locals ≤ R.locals) : CallW R s args "FunctionRoomModel" "FunctionRoomModel" 34 yX1_keep cX1_keep 3 (some .int) wsM_keep rmM_keep 0 0 1 := fr_cwV hw mO_M_keep mI_M (mW 192 rfl rfl) (mW 194 rfl rfl) (mP 11 rfl rfl) ⟨by decide, by decide, by decide +kernel⟩ hR rfl rfl
abbrev rmM_load : Room := { frames := 3, cells := 0, slots := 0, locals := 65 }
abbrev wsM_load : List Cond := .code yX1_load cX1_load 4 (some .int) :: WA
theorem mO_M_load : Cond.code yX1_load cX1_load 4 (some .int) ∈ WA := mW 184 rfl rfl
theorem cw_W_M_load {R : Room} {s : State} {args : Array Value} (hw : ∀ w ∈ WA, w.before args s = true) (hR : rmM_load.frames + 1 ≤ R.frames ∧ 8 + (4 + 11) + rmM_load.locals ≤ R.locals) : CallW R s args "FunctionRoomLaw" "FunctionRoomModel" 25 yX1_load cX1_load 4 (some .int) wsM_load rmM_load 0 0 2 := fr_cwV hw mO_M_load mI_M (mW 181 rfl rfl) (mW 182 rfl rfl) (mW 183 rfl rfl) ⟨by decide, by decide, by decide +kernel⟩ hR rfl rfl
abbrev rmM_reckon : Room := { frames := 3, cells := 0, slots := 0, locals := 65 }
abbrev wsM_reckon : List Cond := .code yX1_reckon cX1_reckon 8 (some .int) :: WA
theorem mO_M_reckon : Cond.code yX1_reckon cX1_reckon 8 (some .int) ∈ WA := mW 203 rfl rfl
theorem cw_W_M_reckon {R : Room} {s : State} {args : Array Value} (hw : ∀ w ∈ WA, w.before args s = true) (hR : rmM_reckon.frames + 1 ≤ R.frames ∧ 8 + (8 + 11) + rmM_reckon.locals ≤ R.locals) : CallW R s args "FunctionRoomLaw" "FunctionRoomModel" 30 yX1_reckon cX1_reckon 8 (some .int) wsM_reckon rmM_reckon 0 0 4 := fr_cwV hw mO_M_reckon mI_M (mW 200 rfl rfl) (mW 201 rfl rfl) (mW 202 rfl rfl) ⟨by decide, by decide, by decide +kernel⟩ hR rfl rfl
abbrev rmM_not : Room := { frames := 3, cells := 0, slots := 0, locals := 65 }
abbrev wsM_not : List Cond := .code yX1_not cX1_not 4 (some .int) :: WA
theorem mO_M_not : Cond.code yX1_not cX1_not 4 (some .int) ∈ WA := mW 207 rfl rfl
theorem cw_W_M_not {R : Room} {s : State} {args : Array Value} (hw : ∀ w ∈ WA, w.before args s = true) (hR : rmM_not.frames + 1 ≤ R.frames ∧ 8 + (4 + 11) + rmM_not.locals ≤ R.locals) : CallW R s args "FunctionRoomLaw" "FunctionRoomModel" 34 yX1_not cX1_not 4 (some .int) wsM_not rmM_not 0 0 2 := fr_cwV hw mO_M_not mI_M (mW 204 rfl rfl) (mW 205 rfl rfl) (mW 206 rfl rfl) ⟨by decide, by decide, by decide +kernel⟩ hR rfl rfl
abbrev rmM_with : Room := { frames := 3, cells := 0, slots := 0, locals := 65 }
abbrev wsM_with : List Cond := .code yX1_with cX1_with 6 (some .int) :: WA
theorem mO_M_with : Cond.code yX1_with cX1_with 6 (some .int) ∈ WA := mW 211 rfl rfl
theorem cw_W_M_with {R : Room} {s : State} {args : Array Value} (hw : ∀ w ∈ WA, w.before args s = true) (hR : rmM_with.frames + 1 ≤ R.frames ∧ 8 + (6 + 11) + rmM_with.locals ≤ R.locals) : CallW R s args "FunctionRoomLaw" "FunctionRoomModel" 39 yX1_with cX1_with 6 (some .int) wsM_with rmM_with 0 0 4 := fr_cwV hw mO_M_with mI_M (mW 208 rfl rfl) (mW 209 rfl rfl) (mW 210 rfl rfl) ⟨by decide, by decide, by decide +kernel⟩ hR rfl rfl
abbrev rmM_bind : Room := { frames := 3, cells := 0, slots := 0, locals := 65 }
abbrev wsM_bind : List Cond := .code yX1_bind cX1_bind 8 (some .int) :: WA
theorem mO_M_bind : Cond.code yX1_bind cX1_bind 8 (some .int) ∈ WA := mW 219 rfl rfl
theorem cw_W_M_bind {R : Room} {s : State} {args : Array Value} (hw : ∀ w ∈ WA, w.before args s = true) (hR : rmM_bind.frames + 1 ≤ R.frames ∧ 8 + (8 + 11) + rmM_bind.locals ≤ R.locals) : CallW R s args "FunctionRoomLaw" "FunctionRoomModel" 43 yX1_bind cX1_bind 8 (some .int) wsM_bind rmM_bind 0 0 4 := fr_cwV hw mO_M_bind mI_M (mW 216 rfl rfl) (mW 217 rfl rfl) (mW 218 rfl rfl) ⟨by decide, by decide, by decide +kernel⟩ hR rfl rfl
abbrev rmM_put : Room := { frames := 3, cells := 0, slots := 0, locals := 65 }
abbrev wsM_put : List Cond := .code yX1_put cX1_put 6 (some .int) :: WA
theorem mO_M_put : Cond.code yX1_put cX1_put 6 (some .int) ∈ WA := mW 223 rfl rfl
theorem cw_W_M_put {R : Room} {s : State} {args : Array Value} (hw : ∀ w ∈ WA, w.before args s = true) (hR : rmM_put.frames + 1 ≤ R.frames ∧ 8 + (6 + 11) + rmM_put.locals ≤ R.locals) : CallW R s args "FunctionRoomLaw" "FunctionRoomModel" 47 yX1_put cX1_put 6 (some .int) wsM_put rmM_put 0 0 4 := fr_cwV hw mO_M_put mI_M (mW 220 rfl rfl) (mW 221 rfl rfl) (mW 222 rfl rfl) ⟨by decide, by decide, by decide +kernel⟩ hR rfl rfl
abbrev rmM_many : Room := { frames := 1, cells := 0, slots := 0, locals := 20 }
abbrev wsM_many : List Cond := .code yX1_many cX1_many 4 (some .int) :: WA
theorem mO_M_many : Cond.code yX1_many cX1_many 4 (some .int) ∈ WA := mW 199 rfl rfl
theorem cw_M_many {R : Room} {s : State} {args : Array Value} (hw : ∀ w ∈ WA, w.before args s = true) (hR : rmM_many.frames + 1 ≤ R.frames ∧ 8 + (4 + 11) + rmM_many.locals ≤ R.locals) : CallW R s args "FunctionRoomModel" "FunctionRoomModel" 23 yX1_many cX1_many 4 (some .int) wsM_many rmM_many 0 0 1 := fr_cwV hw mO_M_many mI_M (mW 196 rfl rfl) (mW 197 rfl rfl) (mW 198 rfl rfl) ⟨by decide, by decide, by decide +kernel⟩ hR rfl rfl
theorem cw_W_M_many {R : Room} {s : State} {args : Array Value} (hw : ∀ w ∈ WA, w.before args s = true) (hR : rmM_many.frames + 1 ≤ R.frames ∧ 8 + (4 + 11) + rmM_many.locals ≤ R.locals) : CallW R s args "FunctionRoomLaw" "FunctionRoomModel" 52 yX1_many cX1_many 4 (some .int) wsM_many rmM_many 0 0 1 := fr_cwV hw mO_M_many mI_M (mW 224 rfl rfl) (mW 197 rfl rfl) (mW 198 rfl rfl) ⟨by decide, by decide, by decide +kernel⟩ hR rfl rfl
abbrev rmM_nth : Room := { frames := 1, cells := 0, slots := 0, locals := 20 }
abbrev wsM_nth : List Cond := .code yX1_nth cX1_nth 5 (some .int) :: WA
theorem mO_M_nth : Cond.code yX1_nth cX1_nth 5 (some .int) ∈ WA := mW 228 rfl rfl
theorem cw_W_M_nth {R : Room} {s : State} {args : Array Value} (hw : ∀ w ∈ WA, w.before args s = true) (hR : rmM_nth.frames + 1 ≤ R.frames ∧ 8 + (5 + 11) + rmM_nth.locals ≤ R.locals) : CallW R s args "FunctionRoomLaw" "FunctionRoomModel" 56 yX1_nth cX1_nth 5 (some .int) wsM_nth rmM_nth 0 0 2 := fr_cwV hw mO_M_nth mI_M (mW 225 rfl rfl) (mW 226 rfl rfl) (mW 227 rfl rfl) ⟨by decide, by decide, by decide +kernel⟩ hR rfl rfl
abbrev rmM_value : Room := { frames := 1, cells := 0, slots := 0, locals := 20 }
abbrev wsM_value : List Cond := .code yX1_value cX1_value 3 (some .int) :: WA
theorem mO_M_value : Cond.code yX1_value cX1_value 3 (some .int) ∈ WA := mW 232 rfl rfl
theorem cw_W_M_value {R : Room} {s : State} {args : Array Value} (hw : ∀ w ∈ WA, w.before args s = true) (hR : rmM_value.frames + 1 ≤ R.frames ∧ 8 + (3 + 11) + rmM_value.locals ≤ R.locals) : CallW R s args "FunctionRoomLaw" "FunctionRoomModel" 60 yX1_value cX1_value 3 (some .int) wsM_value rmM_value 0 0 2 := fr_cwV hw mO_M_value mI_M (mW 229 rfl rfl) (mW 230 rfl rfl) (mW 231 rfl rfl) ⟨by decide, by decide, by decide +kernel⟩ hR rfl rfl
abbrev rmM_same : Room := { frames := 1, cells := 0, slots := 0, locals := 20 }
abbrev wsM_same : List Cond := .code yX1_same cX1_same 4 (some .boolean) :: WA
theorem mO_M_same : Cond.code yX1_same cX1_same 4 (some .boolean) ∈ WA := mW 236 rfl rfl
theorem cw_W_M_same {R : Room} {s : State} {args : Array Value} (hw : ∀ w ∈ WA, w.before args s = true) (hR : rmM_same.frames + 1 ≤ R.frames ∧ 8 + (4 + 11) + rmM_same.locals ≤ R.locals) : CallW R s args "FunctionRoomLaw" "FunctionRoomModel" 65 yX1_same cX1_same 4 (some .boolean) wsM_same rmM_same 0 0 2 := fr_cwV hw mO_M_same mI_M (mW 233 rfl rfl) (mW 234 rfl rfl) (mW 235 rfl rfl) ⟨by decide, by decide, by decide +kernel⟩ hR rfl rfl
abbrev rmM_alike : Room := { frames := 0, cells := 0, slots := 0, locals := 0 }
abbrev wsM_alike : List Cond := .code yX1_alike cX1_alike 6 (some .boolean) :: WA
theorem mO_M_alike : Cond.code yX1_alike cX1_alike 6 (some .boolean) ∈ WA := mW 244 rfl rfl
theorem cw_M_alike {R : Room} {s : State} {args : Array Value} (hw : ∀ w ∈ WA, w.before args s = true) (hR : rmM_alike.frames + 1 ≤ R.frames ∧ 8 + (6 + 11) + rmM_alike.locals ≤ R.locals) : CallW R s args "FunctionRoomModel" "FunctionRoomModel" 40 yX1_alike cX1_alike 6 (some .boolean) wsM_alike rmM_alike 0 0 4 := fr_cwV hw mO_M_alike mI_M (mW 241 rfl rfl) (mW 243 rfl rfl) (mP 13 rfl rfl) ⟨by decide, by decide, by decide +kernel⟩ hR rfl rfl
abbrev rmM_size : Room := { frames := 1, cells := 0, slots := 0, locals := 25 }
abbrev wsM_size : List Cond := .code yX1_size cX1_size 8 (some .int) :: WA
theorem mO_M_size : Cond.code yX1_size cX1_size 8 (some .int) ∈ WA := mW 240 rfl rfl
theorem cw_W_M_size {R : Room} {s : State} {args : Array Value} (hw : ∀ w ∈ WA, w.before args s = true) (hR : rmM_size.frames + 1 ≤ R.frames ∧ 8 + (8 + 11) + rmM_size.locals ≤ R.locals) : CallW R s args "FunctionRoomLaw" "FunctionRoomModel" 69 yX1_size cX1_size 8 (some .int) wsM_size rmM_size 0 0 1 := fr_cwV hw mO_M_size mI_M (mW 237 rfl rfl) (mW 238 rfl rfl) (mW 239 rfl rfl) ⟨by decide, by decide, by decide +kernel⟩ hR rfl rfl
abbrev rmM_matters : Room := { frames := 1, cells := 0, slots := 0, locals := 21 }
abbrev wsM_matters : List Cond := .code yX1_matters cX1_matters 5 (some .int) :: WA
theorem mO_M_matters : Cond.code yX1_matters cX1_matters 5 (some .int) ∈ WA := mW 248 rfl rfl
theorem cw_W_M_matters {R : Room} {s : State} {args : Array Value} (hw : ∀ w ∈ WA, w.before args s = true) (hR : rmM_matters.frames + 1 ≤ R.frames ∧ 8 + (5 + 11) + rmM_matters.locals ≤ R.locals) : CallW R s args "FunctionRoomLaw" "FunctionRoomModel" 73 yX1_matters cX1_matters 5 (some .int) wsM_matters rmM_matters 0 0 1 := fr_cwV hw mO_M_matters mI_M (mW 245 rfl rfl) (mW 246 rfl rfl) (mW 247 rfl rfl) ⟨by decide, by decide, by decide +kernel⟩ hR rfl rfl
abbrev rmW_cell : Room := { frames := 0, cells := 0, slots := 0, locals := 0 }
abbrev wsW_cell : List Cond := .code yL_cell cL_cell 2 (some .int) :: WA
theorem mO_W_cell : Cond.code yL_cell cL_cell 2 (some .int) ∈ WA := mW 160 rfl rfl
theorem cw_W_cell {R : Room} {s : State} {args : Array Value} (hw : ∀ w ∈ WA, w.before args s = true) (hR : rmW_cell.frames + 1 ≤ R.frames ∧ 8 + (2 + 11) + rmW_cell.locals ≤ R.locals) : CallB R s args "FunctionRoomLaw" 9 yL_cell cL_cell 2 (some .int) wsW_cell rmW_cell 0 0 2 ∧ (Cond.static yL_cell).before args s = true := fr_cwS hw mO_W_cell mI_W (mW 158 rfl rfl) (mW 159 rfl rfl) ⟨by decide, by decide, by decide +kernel⟩ hR rfl rfl
