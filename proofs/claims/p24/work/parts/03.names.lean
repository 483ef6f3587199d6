/-! ===== BEGIN printed: names, fields, word lists, decode rows ===== -/
def RX0 : String := "FeatureStore$Row"
def TX0 : u_T := fun k => match k with
  | 0 => ("FeatureStore$Row", "number", "I", true)
  | 1 => ("FeatureStore$Row", "feature", "I", true)
  | 2 => ("FeatureStore$Row", "entity", "I", true)
  | 3 => ("FeatureStore$Row", "event", "I", true)
  | 4 => ("FeatureStore$Row", "arrival", "I", true)
  | 5 => ("FeatureStore$Row", "value", "I", true)
  | _ => ("FeatureStore$Row", "older", "LFeatureStore$Row;", false)
def tyX0 : Nat → FieldType := fun k => match k with
  | 0 => .int
  | 1 => .int
  | 2 => .int
  | 3 => .int
  | 4 => .int
  | 5 => .int
  | _ => .object "FeatureStore$Row"
abbrev wsX00 : List Cond := u_ws RX0 TX0 7
theorem nmX0 : ∀ a, a < 7 → ∀ b, b < 7 → a ≠ b → (TX0 a).2.1 ≠ (TX0 b).2.1 := by decide +kernel
theorem tyX0_ok : ∀ k, k < 7 → parseFieldDescriptor (TX0 k).2.2.1 = some (tyX0 k) := by decide +kernel
abbrev cX0_init : ByteArray := prog_2_method_1_code
def yX0_init : MethodName := ⟨RX0, "<init>", "(IIIIII)V"⟩
def RX1 : String := "FeatureStore$Serving"
def TX1 : u_T := fun k => match k with
  | 0 => ("FeatureStore$Serving", "feature", "I", true)
  | 1 => ("FeatureStore$Serving", "entity", "I", true)
  | 2 => ("FeatureStore$Serving", "time", "I", true)
  | _ => ("FeatureStore$Serving", "row", "I", true)
def tyX1 : Nat → FieldType := fun k => match k with
  | 0 => .int
  | 1 => .int
  | 2 => .int
  | _ => .int
abbrev wsX10 : List Cond := u_ws RX1 TX1 4
theorem nmX1 : ∀ a, a < 4 → ∀ b, b < 4 → a ≠ b → (TX1 a).2.1 ≠ (TX1 b).2.1 := by decide +kernel
theorem tyX1_ok : ∀ k, k < 4 → parseFieldDescriptor (TX1 k).2.2.1 = some (tyX1 k) := by decide +kernel
abbrev cX1_init : ByteArray := prog_3_method_1_code
def yX1_init : MethodName := ⟨RX1, "<init>", "(IIII)V"⟩
def RX2 : String := "FeatureStore"
def TX2 : u_T := fun k => match k with
  | 0 => ("FeatureStore", "now", "I", false)
  | 1 => ("FeatureStore", "lifetimes", "[I", true)
  | 2 => ("FeatureStore", "rows", "[LFeatureStore$Row;", true)
  | 3 => ("FeatureStore", "rowCount", "I", false)
  | 4 => ("FeatureStore", "latest", "[LFeatureStore$Row;", true)
  | 5 => ("FeatureStore", "onlineCopy", "[LFeatureStore$Row;", true)
  | 6 => ("FeatureStore", "taken", "I", false)
  | 7 => ("FeatureStore", "servings", "[LFeatureStore$Serving;", true)
  | _ => ("FeatureStore", "servingCount", "I", false)
def tyX2 : Nat → FieldType := fun k => match k with
  | 0 => .int
  | 1 => .array .int
  | 2 => .array (.object "FeatureStore$Row")
  | 3 => .int
  | 4 => .array (.object "FeatureStore$Row")
  | 5 => .array (.object "FeatureStore$Row")
  | 6 => .int
  | 7 => .array (.object "FeatureStore$Serving")
  | _ => .int
abbrev wsX20 : List Cond := u_ws RX2 TX2 9
theorem nmX2 : ∀ a, a < 9 → ∀ b, b < 9 → a ≠ b → (TX2 a).2.1 ≠ (TX2 b).2.1 := by decide +kernel
theorem tyX2_ok : ∀ k, k < 9 → parseFieldDescriptor (TX2 k).2.2.1 = some (tyX2 k) := by decide +kernel
abbrev cX2_init : ByteArray := prog_1_method_1_code
def yX2_init : MethodName := ⟨RX2, "<init>", "()V"⟩
abbrev cX2_arrive : ByteArray := prog_1_method_2_code
def yX2_arrive : MethodName := ⟨RX2, "arrive", "(IIII)I"⟩
abbrev cX2_pass : ByteArray := prog_1_method_3_code
def yX2_pass : MethodName := ⟨RX2, "pass", "(I)I"⟩
abbrev cX2_setLifetime : ByteArray := prog_1_method_4_code
def yX2_setLifetime : MethodName := ⟨RX2, "setLifetime", "(II)I"⟩
abbrev cX2_now : ByteArray := prog_1_method_5_code
def yX2_now : MethodName := ⟨RX2, "now", "()I"⟩
abbrev cX2_rows : ByteArray := prog_1_method_6_code
def yX2_rows : MethodName := ⟨RX2, "rows", "()I"⟩
abbrev cX2_value : ByteArray := prog_1_method_7_code
def yX2_value : MethodName := ⟨RX2, "value", "(I)I"⟩
abbrev cX2_late : ByteArray := prog_1_method_8_code
def yX2_late : MethodName := ⟨RX2, "late", "(I)I"⟩
abbrev cX2_join : ByteArray := prog_1_method_9_code
def yX2_join : MethodName := ⟨RX2, "join", "(IIII)I"⟩
abbrev cX2_window : ByteArray := prog_1_method_10_code
def yX2_window : MethodName := ⟨RX2, "window", "(IIII)I"⟩
abbrev cX2_greatestTile : ByteArray := prog_1_method_11_code
def yX2_greatestTile : MethodName := ⟨RX2, "greatestTile", "(III)I"⟩
abbrev cX2_tiles : ByteArray := prog_1_method_12_code
def yX2_tiles : MethodName := ⟨RX2, "tiles", "(III)I"⟩
abbrev cX2_revised : ByteArray := prog_1_method_13_code
def yX2_revised : MethodName := ⟨RX2, "revised", "(III)I"⟩
abbrev cX2_take : ByteArray := prog_1_method_14_code
def yX2_take : MethodName := ⟨RX2, "take", "(I)I"⟩
abbrev cX2_lag : ByteArray := prog_1_method_15_code
def yX2_lag : MethodName := ⟨RX2, "lag", "()I"⟩
abbrev cX2_online : ByteArray := prog_1_method_16_code
def yX2_online : MethodName := ⟨RX2, "online", "(II)I"⟩
abbrev cX2_skew : ByteArray := prog_1_method_17_code
def yX2_skew : MethodName := ⟨RX2, "skew", "()I"⟩
abbrev cX2_serve : ByteArray := prog_1_method_18_code
def yX2_serve : MethodName := ⟨RX2, "serve", "(II)I"⟩
abbrev cX2_servings : ByteArray := prog_1_method_19_code
def yX2_servings : MethodName := ⟨RX2, "servings", "()I"⟩
abbrev cX2_served : ByteArray := prog_1_method_20_code
def yX2_served : MethodName := ⟨RX2, "served", "(I)I"⟩
abbrev cX2_isSound : ByteArray := prog_1_method_21_code
def yX2_isSound : MethodName := ⟨RX2, "isSound", "(I)Z"⟩
abbrev cX2_unsound : ByteArray := prog_1_method_22_code
def yX2_unsound : MethodName := ⟨RX2, "unsound", "()I"⟩
abbrev cX2_requireRange : ByteArray := prog_1_method_23_code
def yX2_requireRange : MethodName := ⟨RX2, "requireRange", "(III)V"⟩
abbrev cX2_requirePair : ByteArray := prog_1_method_24_code
def yX2_requirePair : MethodName := ⟨RX2, "requirePair", "(II)V"⟩
abbrev cX2_requireRow : ByteArray := prog_1_method_25_code
def yX2_requireRow : MethodName := ⟨RX2, "requireRow", "(I)LFeatureStore$Row;"⟩
abbrev cX2_requireServing : ByteArray := prog_1_method_26_code
def yX2_requireServing : MethodName := ⟨RX2, "requireServing", "(I)LFeatureStore$Serving;"⟩
abbrev cX2_rowOrNull : ByteArray := prog_1_method_27_code
def yX2_rowOrNull : MethodName := ⟨RX2, "rowOrNull", "(I)LFeatureStore$Row;"⟩
abbrev cX2_placeOf : ByteArray := prog_1_method_28_code
def yX2_placeOf : MethodName := ⟨RX2, "placeOf", "(II)I"⟩
abbrev cX2_putInChain : ByteArray := prog_1_method_29_code
def yX2_putInChain : MethodName := ⟨RX2, "putInChain", "(LFeatureStore$Row;)V"⟩
abbrev cX2_find : ByteArray := prog_1_method_30_code
def yX2_find : MethodName := ⟨RX2, "find", "(IIII)I"⟩
abbrev cX2_tell : ByteArray := prog_1_method_31_code
def yX2_tell : MethodName := ⟨RX2, "tell", "(II)I"⟩
abbrev cX2_numberUnlessExpired : ByteArray := prog_1_method_32_code
def yX2_numberUnlessExpired : MethodName := ⟨RX2, "numberUnlessExpired", "(LFeatureStore$Row;I)I"⟩
abbrev cX2_takeIn : ByteArray := prog_1_method_33_code
def yX2_takeIn : MethodName := ⟨RX2, "takeIn", "(LFeatureStore$Row;)V"⟩
abbrev cX2_multiplesBelow : ByteArray := prog_1_method_34_code
def yX2_multiplesBelow : MethodName := ⟨RX2, "multiplesBelow", "(II)I"⟩
def RX3 : String := "FeatureStoreModel"
def TX3 : u_T := fun k => match k with
  | _ => ("", "", "", false)
def tyX3 : Nat → FieldType := fun k => match k with
  | _ => .int
abbrev wsX30 : List Cond := u_ws RX3 TX3 0
theorem nmX3 : ∀ a, a < 0 → ∀ b, b < 0 → a ≠ b → (TX3 a).2.1 ≠ (TX3 b).2.1 := by decide +kernel
theorem tyX3_ok : ∀ k, k < 0 → parseFieldDescriptor (TX3 k).2.2.1 = some (tyX3 k) := by decide +kernel
def RJ9 : String := "java/lang/Math"
def TJ9 : u_T := fun k => match k with
  | _ => ("", "", "", false)
def tyJ9 : Nat → FieldType := fun k => match k with
  | _ => .int
abbrev wsJ90 : List Cond := u_ws RJ9 TJ9 0
theorem nmJ9 : ∀ a, a < 0 → ∀ b, b < 0 → a ≠ b → (TJ9 a).2.1 ≠ (TJ9 b).2.1 := by decide +kernel
theorem tyJ9_ok : ∀ k, k < 0 → parseFieldDescriptor (TJ9 k).2.2.1 = some (tyJ9 k) := by decide +kernel
abbrev cJ9_max_7cf53 : ByteArray := prog_10_method_65_code
def yJ9_max_7cf53 : MethodName := ⟨RJ9, "max", "(II)I"⟩
abbrev cJ9_min_7cf53 : ByteArray := prog_10_method_69_code
def yJ9_min_7cf53 : MethodName := ⟨RJ9, "min", "(II)I"⟩
def RJ0 : String := "java/lang/String"
def TJ0 : u_T := fun k => match k with
  | _ => ("", "", "", false)
def tyJ0 : Nat → FieldType := fun k => match k with
  | _ => .int
abbrev wsJ00 : List Cond := u_ws RJ0 TJ0 0
theorem nmJ0 : ∀ a, a < 0 → ∀ b, b < 0 → a ≠ b → (TJ0 a).2.1 ≠ (TJ0 b).2.1 := by decide +kernel
theorem tyJ0_ok : ∀ k, k < 0 → parseFieldDescriptor (TJ0 k).2.2.1 = some (tyJ0 k) := by decide +kernel
def RL : String := "FeatureStoreLaw"
abbrev cL_cell : ByteArray := method_2_code
def yL_cell : MethodName := ⟨RL, "cell", "([II)I"⟩
abbrev cL_low : ByteArray := method_3_code
def yL_low : MethodName := ⟨RL, "low", "(II)I"⟩
abbrev cL_arrive : ByteArray := method_4_code
def yL_arrive : MethodName := ⟨RL, "arrive", "(LFeatureStore;IIII)I"⟩
abbrev cL_pass : ByteArray := method_5_code
def yL_pass : MethodName := ⟨RL, "pass", "(LFeatureStore;I)I"⟩
abbrev cL_setLifetime : ByteArray := method_6_code
def yL_setLifetime : MethodName := ⟨RL, "setLifetime", "(LFeatureStore;II)I"⟩
abbrev cL_value : ByteArray := method_7_code
def yL_value : MethodName := ⟨RL, "value", "(LFeatureStore;I)I"⟩
abbrev cL_late : ByteArray := method_8_code
def yL_late : MethodName := ⟨RL, "late", "(LFeatureStore;I)I"⟩
abbrev cL_join : ByteArray := method_9_code
def yL_join : MethodName := ⟨RL, "join", "(LFeatureStore;IIII)I"⟩
abbrev cL_window : ByteArray := method_10_code
def yL_window : MethodName := ⟨RL, "window", "(LFeatureStore;IIII)I"⟩
abbrev cL_greatestTile : ByteArray := method_11_code
def yL_greatestTile : MethodName := ⟨RL, "greatestTile", "(LFeatureStore;III)I"⟩
abbrev cL_tiles : ByteArray := method_12_code
def yL_tiles : MethodName := ⟨RL, "tiles", "(LFeatureStore;III)I"⟩
abbrev cL_revised : ByteArray := method_13_code
def yL_revised : MethodName := ⟨RL, "revised", "(LFeatureStore;III)I"⟩
abbrev cL_take : ByteArray := method_14_code
def yL_take : MethodName := ⟨RL, "take", "(LFeatureStore;I)I"⟩
abbrev cL_online : ByteArray := method_15_code
def yL_online : MethodName := ⟨RL, "online", "(LFeatureStore;II)I"⟩
abbrev cL_serve : ByteArray := method_16_code
def yL_serve : MethodName := ⟨RL, "serve", "(LFeatureStore;II)I"⟩
abbrev cL_served : ByteArray := method_17_code
def yL_served : MethodName := ⟨RL, "served", "(LFeatureStore;I)I"⟩
abbrev cL_isSound : ByteArray := method_18_code
def yL_isSound : MethodName := ⟨RL, "isSound", "(LFeatureStore;I)I"⟩
abbrev cL_find : ByteArray := method_19_code
def yL_find : MethodName := ⟨RL, "find", "([I[I[I[IIIII)I"⟩
abbrev cL_copied : ByteArray := method_20_code
def yL_copied : MethodName := ⟨RL, "copied", "([I[I[I[I[II)I"⟩
abbrev cL_keeps : ByteArray := method_21_code
def yL_keeps : MethodName := ⟨RL, "keeps", "(LFeatureStore;III[I[I[I[I[I[I[I[I)Z"⟩
abbrev cL_areTiles : ByteArray := method_22_code
def yL_areTiles : MethodName := ⟨RL, "areTiles", "(LFeatureStore;IIIII[I[I[I[I)Z"⟩
abbrev cL_isTold : ByteArray := method_23_code
def yL_isTold : MethodName := ⟨RL, "isTold", "(LFeatureStore;II[I[I[I[I[I[I[I[I)Z"⟩
abbrev cL_law : ByteArray := code
def yL_law : MethodName := ⟨RL, "law", "([I)Z"⟩
def wsX0_init : List Cond := .code yX0_init cX0_init 7 none :: ([.methodLink RX0 1 objectInit, .instanceMethod objectInit, .code objectInit ⟨#[0xb1]⟩ 1 none, .fieldLink RX0 7 "FeatureStore$Row" "number" "I", .fieldLink RX0 13 "FeatureStore$Row" "feature" "I", .fieldLink RX0 16 "FeatureStore$Row" "entity" "I", .fieldLink RX0 19 "FeatureStore$Row" "event" "I", .fieldLink RX0 22 "FeatureStore$Row" "arrival" "I", .fieldLink RX0 25 "FeatureStore$Row" "value" "I"] ++ wsX00)
def wsX1_init : List Cond := .code yX1_init cX1_init 5 none :: ([.methodLink RX1 1 objectInit, .instanceMethod objectInit, .code objectInit ⟨#[0xb1]⟩ 1 none, .fieldLink RX1 7 "FeatureStore$Serving" "feature" "I", .fieldLink RX1 13 "FeatureStore$Serving" "entity" "I", .fieldLink RX1 16 "FeatureStore$Serving" "time" "I", .fieldLink RX1 19 "FeatureStore$Serving" "row" "I"] ++ wsX10)
def wsX2_init : List Cond := .code yX2_init cX2_init 2 none :: ([.methodLink RX2 1 objectInit, .instanceMethod objectInit, .code objectInit ⟨#[0xb1]⟩ 1 none, .arrayClass .int, .fieldLink RX2 9 "FeatureStore" "lifetimes" "[I", .classLink RX2 13 RX0, .fieldLink RX2 15 "FeatureStore" "rows" "[LFeatureStore$Row;", .fieldLink RX2 19 "FeatureStore" "latest" "[LFeatureStore$Row;", .fieldLink RX2 22 "FeatureStore" "onlineCopy" "[LFeatureStore$Row;", .classLink RX2 25 RX1, .fieldLink RX2 27 "FeatureStore" "servings" "[LFeatureStore$Serving;"] ++ wsX20)
def wsX2_requireRange : List Cond := .code yX2_requireRange cX2_requireRange 3 none :: ([.classLink RX2 142 "java/lang/IllegalArgumentException", .initialized "java/lang/IllegalArgumentException"] ++ (vx_atS RX2 146 "java/lang/IllegalArgumentException" ["java/lang/RuntimeException", "java/lang/Exception"]).filter goodWord)
def wsX2_requirePair : List Cond := .code yX2_requirePair cX2_requirePair 2 none :: ([.methodLink RX2 39 yX2_requireRange, .static yX2_requireRange, .initialized RX2, .code yX2_requireRange cX2_requireRange 3 none, .classLink RX2 142 "java/lang/IllegalArgumentException", .initialized "java/lang/IllegalArgumentException"] ++ (vx_atS RX2 146 "java/lang/IllegalArgumentException" ["java/lang/RuntimeException", "java/lang/Exception"]).filter goodWord)
def wsX2_placeOf : List Cond := .code yX2_placeOf cX2_placeOf 2 (some .int) :: ([])
def wsX2_putInChain : List Cond := .code yX2_putInChain cX2_putInChain 5 none :: ([.fieldLink RX2 154 "FeatureStore$Row" "feature" "I", .fieldLink RX2 155 "FeatureStore$Row" "entity" "I", .fieldLink RX2 19 "FeatureStore" "latest" "[LFeatureStore$Row;", .fieldLink RX2 76 "FeatureStore$Row" "event" "I", .fieldLink RX2 87 "FeatureStore$Row" "older" "LFeatureStore$Row;", .methodLink RX2 83 yX2_placeOf, .static yX2_placeOf, .initialized RX2, .code yX2_placeOf cX2_placeOf 2 (some .int)] ++ wsX00 ++ wsX20)
def wsX2_arrive_r1 : List Cond := [Cond.classLink RX2 47 "java/lang/IllegalStateException", Cond.initialized "java/lang/IllegalStateException", Cond.fieldLink RX2 35 "FeatureStore" "now" "I", Cond.constant RX2 43 (100000), Cond.fieldLink RX2 44 "FeatureStore" "rowCount" "I", Cond.classLink RX2 13 RX0, Cond.instantiable RX0 7, Cond.initialized RX0, Cond.fieldLink RX2 15 "FeatureStore" "rows" "[LFeatureStore$Row;", Cond.fieldLink RX2 61 "FeatureStore$Row" "number" "I", Cond.methodLink RX2 31 yX2_requirePair, Cond.static yX2_requirePair, Cond.initialized RX2, Cond.code yX2_requirePair cX2_requirePair 2 none, Cond.methodLink RX2 39 yX2_requireRange, Cond.static yX2_requireRange, Cond.code yX2_requireRange cX2_requireRange 3 none, Cond.classLink RX2 142 "java/lang/IllegalArgumentException", Cond.initialized "java/lang/IllegalArgumentException", Cond.methodLink RX2 54 yX0_init, Cond.instanceMethod yX0_init, Cond.code yX0_init cX0_init 7 none, Cond.methodLink RX0 1 objectInit, Cond.instanceMethod objectInit]
def wsX2_arrive_r2 : List Cond := [Cond.code objectInit ⟨#[0xb1]⟩ 1 none, Cond.fieldLink RX0 7 "FeatureStore$Row" "number" "I", Cond.fieldLink RX0 13 "FeatureStore$Row" "feature" "I", Cond.fieldLink RX0 16 "FeatureStore$Row" "entity" "I", Cond.fieldLink RX0 19 "FeatureStore$Row" "event" "I", Cond.fieldLink RX0 22 "FeatureStore$Row" "arrival" "I", Cond.fieldLink RX0 25 "FeatureStore$Row" "value" "I", Cond.methodLink RX2 57 yX2_putInChain, Cond.instanceMethod yX2_putInChain, Cond.selects RX2 yX2_putInChain yX2_putInChain, Cond.code yX2_putInChain cX2_putInChain 5 none, Cond.fieldLink RX2 154 "FeatureStore$Row" "feature" "I", Cond.fieldLink RX2 155 "FeatureStore$Row" "entity" "I", Cond.fieldLink RX2 19 "FeatureStore" "latest" "[LFeatureStore$Row;", Cond.fieldLink RX2 76 "FeatureStore$Row" "event" "I", Cond.fieldLink RX2 87 "FeatureStore$Row" "older" "LFeatureStore$Row;", Cond.methodLink RX2 83 yX2_placeOf, Cond.static yX2_placeOf, Cond.code yX2_placeOf cX2_placeOf 2 (some .int)]
def wsX2_arrive : List Cond := .code yX2_arrive cX2_arrive 6 (some .int) :: ((wsX2_arrive_r1 ++ wsX2_arrive_r2) ++ wsX20 ++ wsX00 ++ (vx_atS RX2 51 "java/lang/IllegalStateException" ["java/lang/RuntimeException", "java/lang/Exception"]).filter goodWord ++ (vx_atS RX2 146 "java/lang/IllegalArgumentException" ["java/lang/RuntimeException", "java/lang/Exception"]).filter goodWord)
def wsX2_pass : List Cond := .code yX2_pass cX2_pass 2 (some .int) :: ([.classLink RX2 47 "java/lang/IllegalStateException", .initialized "java/lang/IllegalStateException", .fieldLink RX2 35 "FeatureStore" "now" "I", .methodLink RX2 39 yX2_requireRange, .static yX2_requireRange, .initialized RX2, .code yX2_requireRange cX2_requireRange 3 none, .classLink RX2 142 "java/lang/IllegalArgumentException", .initialized "java/lang/IllegalArgumentException"] ++ wsX20 ++ (vx_atS RX2 51 "java/lang/IllegalStateException" ["java/lang/RuntimeException", "java/lang/Exception"]).filter goodWord ++ (vx_atS RX2 146 "java/lang/IllegalArgumentException" ["java/lang/RuntimeException", "java/lang/Exception"]).filter goodWord)
def wsX2_setLifetime : List Cond := .code yX2_setLifetime cX2_setLifetime 4 (some .int) :: ([.fieldLink RX2 9 "FeatureStore" "lifetimes" "[I", .methodLink RX2 39 yX2_requireRange, .static yX2_requireRange, .initialized RX2, .code yX2_requireRange cX2_requireRange 3 none, .classLink RX2 142 "java/lang/IllegalArgumentException", .initialized "java/lang/IllegalArgumentException"] ++ wsX20 ++ (vx_atS RX2 146 "java/lang/IllegalArgumentException" ["java/lang/RuntimeException", "java/lang/Exception"]).filter goodWord)
def wsX2_now : List Cond := .code yX2_now cX2_now 1 (some .int) :: ([.fieldLink RX2 35 "FeatureStore" "now" "I"] ++ wsX20)
def wsX2_rows : List Cond := .code yX2_rows cX2_rows 1 (some .int) :: ([.fieldLink RX2 44 "FeatureStore" "rowCount" "I"] ++ wsX20)
def wsX2_rowOrNull : List Cond := .code yX2_rowOrNull cX2_rowOrNull 2 (some (.object "FeatureStore$Row")) :: ([.fieldLink RX2 44 "FeatureStore" "rowCount" "I", .fieldLink RX2 15 "FeatureStore" "rows" "[LFeatureStore$Row;"] ++ wsX20)
def wsX2_requireRow : List Cond := .code yX2_requireRow cX2_requireRow 3 (some (.object "FeatureStore$Row")) :: ([.classLink RX2 147 "java/lang/IndexOutOfBoundsException", .initialized "java/lang/IndexOutOfBoundsException", .methodLink RX2 105 yX2_rowOrNull, .instanceMethod yX2_rowOrNull, .selects RX2 yX2_rowOrNull yX2_rowOrNull, .initialized RX2, .code yX2_rowOrNull cX2_rowOrNull 2 (some (.object "FeatureStore$Row")), .fieldLink RX2 44 "FeatureStore" "rowCount" "I", .fieldLink RX2 15 "FeatureStore" "rows" "[LFeatureStore$Row;"] ++ wsX20 ++ (vx_atS RX2 151 "java/lang/IndexOutOfBoundsException" ["java/lang/RuntimeException", "java/lang/Exception"]).filter goodWord)
def wsX2_value : List Cond := .code yX2_value cX2_value 2 (some .int) :: ([.fieldLink RX2 70 "FeatureStore$Row" "value" "I", .methodLink RX2 66 yX2_requireRow, .instanceMethod yX2_requireRow, .selects RX2 yX2_requireRow yX2_requireRow, .initialized RX2, .code yX2_requireRow cX2_requireRow 3 (some (.object "FeatureStore$Row")), .classLink RX2 147 "java/lang/IndexOutOfBoundsException", .initialized "java/lang/IndexOutOfBoundsException", .methodLink RX2 105 yX2_rowOrNull, .instanceMethod yX2_rowOrNull, .selects RX2 yX2_rowOrNull yX2_rowOrNull, .code yX2_rowOrNull cX2_rowOrNull 2 (some (.object "FeatureStore$Row")), .fieldLink RX2 44 "FeatureStore" "rowCount" "I", .fieldLink RX2 15 "FeatureStore" "rows" "[LFeatureStore$Row;"] ++ wsX00 ++ wsX20 ++ (vx_atS RX2 151 "java/lang/IndexOutOfBoundsException" ["java/lang/RuntimeException", "java/lang/Exception"]).filter goodWord)
def wsX2_late : List Cond := .code yX2_late cX2_late 3 (some .int) :: ([.fieldLink RX2 73 "FeatureStore$Row" "arrival" "I", .fieldLink RX2 76 "FeatureStore$Row" "event" "I", .methodLink RX2 66 yX2_requireRow, .instanceMethod yX2_requireRow, .selects RX2 yX2_requireRow yX2_requireRow, .initialized RX2, .code yX2_requireRow cX2_requireRow 3 (some (.object "FeatureStore$Row")), .classLink RX2 147 "java/lang/IndexOutOfBoundsException", .initialized "java/lang/IndexOutOfBoundsException", .methodLink RX2 105 yX2_rowOrNull, .instanceMethod yX2_rowOrNull, .selects RX2 yX2_rowOrNull yX2_rowOrNull, .code yX2_rowOrNull cX2_rowOrNull 2 (some (.object "FeatureStore$Row")), .fieldLink RX2 44 "FeatureStore" "rowCount" "I", .fieldLink RX2 15 "FeatureStore" "rows" "[LFeatureStore$Row;"] ++ wsX00 ++ wsX20 ++ (vx_atS RX2 151 "java/lang/IndexOutOfBoundsException" ["java/lang/RuntimeException", "java/lang/Exception"]).filter goodWord)
def wsX2_numberUnlessExpired : List Cond := .code yX2_numberUnlessExpired cX2_numberUnlessExpired 3 (some .int) :: ([.fieldLink RX2 76 "FeatureStore$Row" "event" "I", .fieldLink RX2 9 "FeatureStore" "lifetimes" "[I", .fieldLink RX2 154 "FeatureStore$Row" "feature" "I", .fieldLink RX2 61 "FeatureStore$Row" "number" "I"] ++ wsX00 ++ wsX20)
def wsX2_find : List Cond := .code yX2_find cX2_find 6 (some .int) :: ([.fieldLink RX2 19 "FeatureStore" "latest" "[LFeatureStore$Row;", .fieldLink RX2 76 "FeatureStore$Row" "event" "I", .fieldLink RX2 73 "FeatureStore$Row" "arrival" "I", .fieldLink RX2 87 "FeatureStore$Row" "older" "LFeatureStore$Row;", .methodLink RX2 83 yX2_placeOf, .static yX2_placeOf, .initialized RX2, .code yX2_placeOf cX2_placeOf 2 (some .int), .methodLink RX2 156 yX2_numberUnlessExpired, .instanceMethod yX2_numberUnlessExpired, .selects RX2 yX2_numberUnlessExpired yX2_numberUnlessExpired, .code yX2_numberUnlessExpired cX2_numberUnlessExpired 3 (some .int), .fieldLink RX2 9 "FeatureStore" "lifetimes" "[I", .fieldLink RX2 154 "FeatureStore$Row" "feature" "I", .fieldLink RX2 61 "FeatureStore$Row" "number" "I"] ++ wsX20 ++ wsX00)
def wsX2_join_r1 : List Cond := [Cond.fieldLink RX2 35 "FeatureStore" "now" "I", Cond.methodLink RX2 31 yX2_requirePair, Cond.static yX2_requirePair, Cond.initialized RX2, Cond.code yX2_requirePair cX2_requirePair 2 none, Cond.methodLink RX2 39 yX2_requireRange, Cond.static yX2_requireRange, Cond.code yX2_requireRange cX2_requireRange 3 none, Cond.classLink RX2 142 "java/lang/IllegalArgumentException", Cond.initialized "java/lang/IllegalArgumentException", Cond.methodLink RX2 79 yX2_find, Cond.instanceMethod yX2_find, Cond.selects RX2 yX2_find yX2_find, Cond.code yX2_find cX2_find 6 (some .int), Cond.fieldLink RX2 19 "FeatureStore" "latest" "[LFeatureStore$Row;", Cond.fieldLink RX2 76 "FeatureStore$Row" "event" "I", Cond.fieldLink RX2 73 "FeatureStore$Row" "arrival" "I", Cond.fieldLink RX2 87 "FeatureStore$Row" "older" "LFeatureStore$Row;", Cond.methodLink RX2 83 yX2_placeOf, Cond.static yX2_placeOf, Cond.code yX2_placeOf cX2_placeOf 2 (some .int), Cond.methodLink RX2 156 yX2_numberUnlessExpired, Cond.instanceMethod yX2_numberUnlessExpired, Cond.selects RX2 yX2_numberUnlessExpired yX2_numberUnlessExpired]
def wsX2_join_r2 : List Cond := [Cond.code yX2_numberUnlessExpired cX2_numberUnlessExpired 3 (some .int), Cond.fieldLink RX2 9 "FeatureStore" "lifetimes" "[I", Cond.fieldLink RX2 154 "FeatureStore$Row" "feature" "I", Cond.fieldLink RX2 61 "FeatureStore$Row" "number" "I"]
def wsX2_join : List Cond := .code yX2_join cX2_join 5 (some .int) :: ((wsX2_join_r1 ++ wsX2_join_r2) ++ wsX20 ++ wsX00 ++ (vx_atS RX2 146 "java/lang/IllegalArgumentException" ["java/lang/RuntimeException", "java/lang/Exception"]).filter goodWord)
def wsX2_window : List Cond := .code yX2_window cX2_window 7 (some .int) :: ([.fieldLink RX2 19 "FeatureStore" "latest" "[LFeatureStore$Row;", .fieldLink RX2 76 "FeatureStore$Row" "event" "I", .fieldLink RX2 70 "FeatureStore$Row" "value" "I", .fieldLink RX2 87 "FeatureStore$Row" "older" "LFeatureStore$Row;", .methodLink RX2 31 yX2_requirePair, .static yX2_requirePair, .initialized RX2, .code yX2_requirePair cX2_requirePair 2 none, .methodLink RX2 39 yX2_requireRange, .static yX2_requireRange, .code yX2_requireRange cX2_requireRange 3 none, .classLink RX2 142 "java/lang/IllegalArgumentException", .initialized "java/lang/IllegalArgumentException", .methodLink RX2 83 yX2_placeOf, .static yX2_placeOf, .code yX2_placeOf cX2_placeOf 2 (some .int)] ++ wsX20 ++ wsX00 ++ (vx_atS RX2 146 "java/lang/IllegalArgumentException" ["java/lang/RuntimeException", "java/lang/Exception"]).filter goodWord)
def wsX2_greatestTile : List Cond := .code yX2_greatestTile cX2_greatestTile 9 (some .int) :: ([.fieldLink RX2 19 "FeatureStore" "latest" "[LFeatureStore$Row;", .fieldLink RX2 76 "FeatureStore$Row" "event" "I", .fieldLink RX2 70 "FeatureStore$Row" "value" "I", .methodLink RX2 91 Lib.Math.max.name, .static Lib.Math.max.name, .initialized "java/lang/Math", .code Lib.Math.max.name Lib.Math.max.code 2 (some .int), .fieldLink RX2 87 "FeatureStore$Row" "older" "LFeatureStore$Row;", .methodLink RX2 31 yX2_requirePair, .static yX2_requirePair, .initialized RX2, .code yX2_requirePair cX2_requirePair 2 none, .methodLink RX2 39 yX2_requireRange, .static yX2_requireRange, .code yX2_requireRange cX2_requireRange 3 none, .classLink RX2 142 "java/lang/IllegalArgumentException", .initialized "java/lang/IllegalArgumentException", .methodLink RX2 83 yX2_placeOf, .static yX2_placeOf, .code yX2_placeOf cX2_placeOf 2 (some .int)] ++ wsX20 ++ wsX00 ++ (vx_atS RX2 146 "java/lang/IllegalArgumentException" ["java/lang/RuntimeException", "java/lang/Exception"]).filter goodWord)
def wsX2_tiles : List Cond := .code yX2_tiles cX2_tiles 8 (some .int) :: ([.fieldLink RX2 19 "FeatureStore" "latest" "[LFeatureStore$Row;", .fieldLink RX2 76 "FeatureStore$Row" "event" "I", .fieldLink RX2 87 "FeatureStore$Row" "older" "LFeatureStore$Row;", .methodLink RX2 31 yX2_requirePair, .static yX2_requirePair, .initialized RX2, .code yX2_requirePair cX2_requirePair 2 none, .methodLink RX2 39 yX2_requireRange, .static yX2_requireRange, .code yX2_requireRange cX2_requireRange 3 none, .classLink RX2 142 "java/lang/IllegalArgumentException", .initialized "java/lang/IllegalArgumentException", .methodLink RX2 83 yX2_placeOf, .static yX2_placeOf, .code yX2_placeOf cX2_placeOf 2 (some .int)] ++ wsX20 ++ wsX00 ++ (vx_atS RX2 146 "java/lang/IllegalArgumentException" ["java/lang/RuntimeException", "java/lang/Exception"]).filter goodWord)
def wsX2_multiplesBelow : List Cond := .code yX2_multiplesBelow cX2_multiplesBelow 2 (some .int) :: ([])
def wsX2_revised_r1 : List Cond := [Cond.fieldLink RX2 35 "FeatureStore" "now" "I", Cond.fieldLink RX2 19 "FeatureStore" "latest" "[LFeatureStore$Row;", Cond.fieldLink RX2 76 "FeatureStore$Row" "event" "I", Cond.fieldLink RX2 9 "FeatureStore" "lifetimes" "[I", Cond.methodLink RX2 96 Lib.Math.min.name, Cond.static Lib.Math.min.name, Cond.initialized "java/lang/Math", Cond.code Lib.Math.min.name Lib.Math.min.code 2 (some .int), Cond.fieldLink RX2 73 "FeatureStore$Row" "arrival" "I", Cond.fieldLink RX2 87 "FeatureStore$Row" "older" "LFeatureStore$Row;", Cond.methodLink RX2 31 yX2_requirePair, Cond.static yX2_requirePair, Cond.initialized RX2, Cond.code yX2_requirePair cX2_requirePair 2 none, Cond.methodLink RX2 39 yX2_requireRange, Cond.static yX2_requireRange, Cond.code yX2_requireRange cX2_requireRange 3 none, Cond.classLink RX2 142 "java/lang/IllegalArgumentException", Cond.initialized "java/lang/IllegalArgumentException", Cond.methodLink RX2 83 yX2_placeOf, Cond.static yX2_placeOf, Cond.code yX2_placeOf cX2_placeOf 2 (some .int), Cond.methodLink RX2 99 yX2_multiplesBelow, Cond.static yX2_multiplesBelow]
def wsX2_revised_r2 : List Cond := [Cond.code yX2_multiplesBelow cX2_multiplesBelow 2 (some .int)]
def wsX2_revised : List Cond := .code yX2_revised cX2_revised 9 (some .int) :: ((wsX2_revised_r1 ++ wsX2_revised_r2) ++ wsX20 ++ wsX00 ++ (vx_atS RX2 146 "java/lang/IllegalArgumentException" ["java/lang/RuntimeException", "java/lang/Exception"]).filter goodWord)
def wsX2_takeIn : List Cond := .code yX2_takeIn cX2_takeIn 4 none :: ([.fieldLink RX2 154 "FeatureStore$Row" "feature" "I", .fieldLink RX2 155 "FeatureStore$Row" "entity" "I", .fieldLink RX2 22 "FeatureStore" "onlineCopy" "[LFeatureStore$Row;", .fieldLink RX2 76 "FeatureStore$Row" "event" "I", .methodLink RX2 83 yX2_placeOf, .static yX2_placeOf, .initialized RX2, .code yX2_placeOf cX2_placeOf 2 (some .int)] ++ wsX00 ++ wsX20)
def wsX2_take : List Cond := .code yX2_take cX2_take 4 (some .int) :: ([.fieldLink RX2 102 "FeatureStore" "taken" "I", .methodLink RX2 39 yX2_requireRange, .static yX2_requireRange, .initialized RX2, .code yX2_requireRange cX2_requireRange 3 none, .classLink RX2 142 "java/lang/IllegalArgumentException", .initialized "java/lang/IllegalArgumentException", .methodLink RX2 105 yX2_rowOrNull, .instanceMethod yX2_rowOrNull, .selects RX2 yX2_rowOrNull yX2_rowOrNull, .code yX2_rowOrNull cX2_rowOrNull 2 (some (.object "FeatureStore$Row")), .fieldLink RX2 44 "FeatureStore" "rowCount" "I", .fieldLink RX2 15 "FeatureStore" "rows" "[LFeatureStore$Row;", .methodLink RX2 108 yX2_takeIn, .instanceMethod yX2_takeIn, .selects RX2 yX2_takeIn yX2_takeIn, .code yX2_takeIn cX2_takeIn 4 none, .fieldLink RX2 154 "FeatureStore$Row" "feature" "I", .fieldLink RX2 155 "FeatureStore$Row" "entity" "I", .fieldLink RX2 22 "FeatureStore" "onlineCopy" "[LFeatureStore$Row;", .fieldLink RX2 76 "FeatureStore$Row" "event" "I", .methodLink RX2 83 yX2_placeOf, .static yX2_placeOf, .code yX2_placeOf cX2_placeOf 2 (some .int)] ++ wsX20 ++ wsX00 ++ (vx_atS RX2 146 "java/lang/IllegalArgumentException" ["java/lang/RuntimeException", "java/lang/Exception"]).filter goodWord)
def wsX2_lag : List Cond := .code yX2_lag cX2_lag 1 (some .int) :: ([.fieldLink RX2 44 "FeatureStore" "rowCount" "I", .fieldLink RX2 102 "FeatureStore" "taken" "I"] ++ wsX20)
def wsX2_tell : List Cond := .code yX2_tell cX2_tell 3 (some .int) :: ([.fieldLink RX2 22 "FeatureStore" "onlineCopy" "[LFeatureStore$Row;", .fieldLink RX2 35 "FeatureStore" "now" "I", .methodLink RX2 83 yX2_placeOf, .static yX2_placeOf, .initialized RX2, .code yX2_placeOf cX2_placeOf 2 (some .int), .methodLink RX2 156 yX2_numberUnlessExpired, .instanceMethod yX2_numberUnlessExpired, .selects RX2 yX2_numberUnlessExpired yX2_numberUnlessExpired, .code yX2_numberUnlessExpired cX2_numberUnlessExpired 3 (some .int), .fieldLink RX2 76 "FeatureStore$Row" "event" "I", .fieldLink RX2 9 "FeatureStore" "lifetimes" "[I", .fieldLink RX2 154 "FeatureStore$Row" "feature" "I", .fieldLink RX2 61 "FeatureStore$Row" "number" "I"] ++ wsX20 ++ wsX00)
def wsX2_online_r1 : List Cond := [Cond.methodLink RX2 31 yX2_requirePair, Cond.static yX2_requirePair, Cond.initialized RX2, Cond.code yX2_requirePair cX2_requirePair 2 none, Cond.methodLink RX2 39 yX2_requireRange, Cond.static yX2_requireRange, Cond.code yX2_requireRange cX2_requireRange 3 none, Cond.classLink RX2 142 "java/lang/IllegalArgumentException", Cond.initialized "java/lang/IllegalArgumentException", Cond.methodLink RX2 111 yX2_tell, Cond.instanceMethod yX2_tell, Cond.selects RX2 yX2_tell yX2_tell, Cond.code yX2_tell cX2_tell 3 (some .int), Cond.fieldLink RX2 22 "FeatureStore" "onlineCopy" "[LFeatureStore$Row;", Cond.fieldLink RX2 35 "FeatureStore" "now" "I", Cond.methodLink RX2 83 yX2_placeOf, Cond.static yX2_placeOf, Cond.code yX2_placeOf cX2_placeOf 2 (some .int), Cond.methodLink RX2 156 yX2_numberUnlessExpired, Cond.instanceMethod yX2_numberUnlessExpired, Cond.selects RX2 yX2_numberUnlessExpired yX2_numberUnlessExpired, Cond.code yX2_numberUnlessExpired cX2_numberUnlessExpired 3 (some .int), Cond.fieldLink RX2 76 "FeatureStore$Row" "event" "I", Cond.fieldLink RX2 9 "FeatureStore" "lifetimes" "[I"]
def wsX2_online_r2 : List Cond := [Cond.fieldLink RX2 154 "FeatureStore$Row" "feature" "I", Cond.fieldLink RX2 61 "FeatureStore$Row" "number" "I"]
def wsX2_online : List Cond := .code yX2_online cX2_online 3 (some .int) :: ((wsX2_online_r1 ++ wsX2_online_r2) ++ wsX20 ++ wsX00 ++ (vx_atS RX2 146 "java/lang/IllegalArgumentException" ["java/lang/RuntimeException", "java/lang/Exception"]).filter goodWord)
def wsX2_skew_r1 : List Cond := [Cond.fieldLink RX2 35 "FeatureStore" "now" "I", Cond.methodLink RX2 111 yX2_tell, Cond.instanceMethod yX2_tell, Cond.selects RX2 yX2_tell yX2_tell, Cond.initialized RX2, Cond.code yX2_tell cX2_tell 3 (some .int), Cond.fieldLink RX2 22 "FeatureStore" "onlineCopy" "[LFeatureStore$Row;", Cond.methodLink RX2 83 yX2_placeOf, Cond.static yX2_placeOf, Cond.code yX2_placeOf cX2_placeOf 2 (some .int), Cond.methodLink RX2 156 yX2_numberUnlessExpired, Cond.instanceMethod yX2_numberUnlessExpired, Cond.selects RX2 yX2_numberUnlessExpired yX2_numberUnlessExpired, Cond.code yX2_numberUnlessExpired cX2_numberUnlessExpired 3 (some .int), Cond.fieldLink RX2 76 "FeatureStore$Row" "event" "I", Cond.fieldLink RX2 9 "FeatureStore" "lifetimes" "[I", Cond.fieldLink RX2 154 "FeatureStore$Row" "feature" "I", Cond.fieldLink RX2 61 "FeatureStore$Row" "number" "I", Cond.methodLink RX2 79 yX2_find, Cond.instanceMethod yX2_find, Cond.selects RX2 yX2_find yX2_find, Cond.code yX2_find cX2_find 6 (some .int), Cond.fieldLink RX2 19 "FeatureStore" "latest" "[LFeatureStore$Row;", Cond.fieldLink RX2 73 "FeatureStore$Row" "arrival" "I"]
def wsX2_skew_r2 : List Cond := [Cond.fieldLink RX2 87 "FeatureStore$Row" "older" "LFeatureStore$Row;"]
def wsX2_skew : List Cond := .code yX2_skew cX2_skew 4 (some .int) :: ((wsX2_skew_r1 ++ wsX2_skew_r2) ++ wsX20 ++ wsX00)
def wsX2_serve_r1 : List Cond := [Cond.classLink RX2 47 "java/lang/IllegalStateException", Cond.initialized "java/lang/IllegalStateException", Cond.fieldLink RX2 114 "FeatureStore" "servingCount" "I", Cond.fieldLink RX2 27 "FeatureStore" "servings" "[LFeatureStore$Serving;", Cond.classLink RX2 25 RX1, Cond.instantiable RX1 4, Cond.initialized RX1, Cond.fieldLink RX2 35 "FeatureStore" "now" "I", Cond.methodLink RX2 31 yX2_requirePair, Cond.static yX2_requirePair, Cond.initialized RX2, Cond.code yX2_requirePair cX2_requirePair 2 none, Cond.methodLink RX2 39 yX2_requireRange, Cond.static yX2_requireRange, Cond.code yX2_requireRange cX2_requireRange 3 none, Cond.classLink RX2 142 "java/lang/IllegalArgumentException", Cond.initialized "java/lang/IllegalArgumentException", Cond.methodLink RX2 111 yX2_tell, Cond.instanceMethod yX2_tell, Cond.selects RX2 yX2_tell yX2_tell, Cond.code yX2_tell cX2_tell 3 (some .int), Cond.fieldLink RX2 22 "FeatureStore" "onlineCopy" "[LFeatureStore$Row;", Cond.methodLink RX2 83 yX2_placeOf, Cond.static yX2_placeOf]
def wsX2_serve_r2 : List Cond := [Cond.code yX2_placeOf cX2_placeOf 2 (some .int), Cond.methodLink RX2 156 yX2_numberUnlessExpired, Cond.instanceMethod yX2_numberUnlessExpired, Cond.selects RX2 yX2_numberUnlessExpired yX2_numberUnlessExpired, Cond.code yX2_numberUnlessExpired cX2_numberUnlessExpired 3 (some .int), Cond.fieldLink RX2 76 "FeatureStore$Row" "event" "I", Cond.fieldLink RX2 9 "FeatureStore" "lifetimes" "[I", Cond.fieldLink RX2 154 "FeatureStore$Row" "feature" "I", Cond.fieldLink RX2 61 "FeatureStore$Row" "number" "I", Cond.methodLink RX2 119 yX1_init, Cond.instanceMethod yX1_init, Cond.code yX1_init cX1_init 5 none, Cond.methodLink RX1 1 objectInit, Cond.instanceMethod objectInit, Cond.code objectInit ⟨#[0xb1]⟩ 1 none, Cond.fieldLink RX1 7 "FeatureStore$Serving" "feature" "I", Cond.fieldLink RX1 13 "FeatureStore$Serving" "entity" "I", Cond.fieldLink RX1 16 "FeatureStore$Serving" "time" "I", Cond.fieldLink RX1 19 "FeatureStore$Serving" "row" "I"]
def wsX2_serve : List Cond := .code yX2_serve cX2_serve 4 (some .int) :: ((wsX2_serve_r1 ++ wsX2_serve_r2) ++ wsX20 ++ wsX10 ++ wsX00 ++ (vx_atS RX2 51 "java/lang/IllegalStateException" ["java/lang/RuntimeException", "java/lang/Exception"]).filter goodWord ++ (vx_atS RX2 146 "java/lang/IllegalArgumentException" ["java/lang/RuntimeException", "java/lang/Exception"]).filter goodWord)
def wsX2_servings : List Cond := .code yX2_servings cX2_servings 1 (some .int) :: ([.fieldLink RX2 114 "FeatureStore" "servingCount" "I"] ++ wsX20)
def wsX2_requireServing : List Cond := .code yX2_requireServing cX2_requireServing 2 (some (.object "FeatureStore$Serving")) :: ([.classLink RX2 147 "java/lang/IndexOutOfBoundsException", .initialized "java/lang/IndexOutOfBoundsException", .fieldLink RX2 114 "FeatureStore" "servingCount" "I", .fieldLink RX2 27 "FeatureStore" "servings" "[LFeatureStore$Serving;"] ++ wsX20 ++ (vx_atS RX2 151 "java/lang/IndexOutOfBoundsException" ["java/lang/RuntimeException", "java/lang/Exception"]).filter goodWord)
def wsX2_served : List Cond := .code yX2_served cX2_served 2 (some .int) :: ([.fieldLink RX2 126 "FeatureStore$Serving" "row" "I", .methodLink RX2 122 yX2_requireServing, .instanceMethod yX2_requireServing, .selects RX2 yX2_requireServing yX2_requireServing, .initialized RX2, .code yX2_requireServing cX2_requireServing 2 (some (.object "FeatureStore$Serving")), .classLink RX2 147 "java/lang/IndexOutOfBoundsException", .initialized "java/lang/IndexOutOfBoundsException", .fieldLink RX2 114 "FeatureStore" "servingCount" "I", .fieldLink RX2 27 "FeatureStore" "servings" "[LFeatureStore$Serving;"] ++ wsX10 ++ wsX20 ++ (vx_atS RX2 151 "java/lang/IndexOutOfBoundsException" ["java/lang/RuntimeException", "java/lang/Exception"]).filter goodWord)
def wsX2_isSound_r1 : List Cond := [Cond.fieldLink RX2 126 "FeatureStore$Serving" "row" "I", Cond.fieldLink RX2 129 "FeatureStore$Serving" "feature" "I", Cond.fieldLink RX2 132 "FeatureStore$Serving" "entity" "I", Cond.fieldLink RX2 135 "FeatureStore$Serving" "time" "I", Cond.methodLink RX2 122 yX2_requireServing, Cond.instanceMethod yX2_requireServing, Cond.selects RX2 yX2_requireServing yX2_requireServing, Cond.initialized RX2, Cond.code yX2_requireServing cX2_requireServing 2 (some (.object "FeatureStore$Serving")), Cond.classLink RX2 147 "java/lang/IndexOutOfBoundsException", Cond.initialized "java/lang/IndexOutOfBoundsException", Cond.fieldLink RX2 114 "FeatureStore" "servingCount" "I", Cond.fieldLink RX2 27 "FeatureStore" "servings" "[LFeatureStore$Serving;", Cond.methodLink RX2 79 yX2_find, Cond.instanceMethod yX2_find, Cond.selects RX2 yX2_find yX2_find, Cond.code yX2_find cX2_find 6 (some .int), Cond.fieldLink RX2 19 "FeatureStore" "latest" "[LFeatureStore$Row;", Cond.fieldLink RX2 76 "FeatureStore$Row" "event" "I", Cond.fieldLink RX2 73 "FeatureStore$Row" "arrival" "I", Cond.fieldLink RX2 87 "FeatureStore$Row" "older" "LFeatureStore$Row;", Cond.methodLink RX2 83 yX2_placeOf, Cond.static yX2_placeOf, Cond.code yX2_placeOf cX2_placeOf 2 (some .int)]
def wsX2_isSound_r2 : List Cond := [Cond.methodLink RX2 156 yX2_numberUnlessExpired, Cond.instanceMethod yX2_numberUnlessExpired, Cond.selects RX2 yX2_numberUnlessExpired yX2_numberUnlessExpired, Cond.code yX2_numberUnlessExpired cX2_numberUnlessExpired 3 (some .int), Cond.fieldLink RX2 9 "FeatureStore" "lifetimes" "[I", Cond.fieldLink RX2 154 "FeatureStore$Row" "feature" "I", Cond.fieldLink RX2 61 "FeatureStore$Row" "number" "I"]
def wsX2_isSound : List Cond := .code yX2_isSound cX2_isSound 3 (some .boolean) :: ((wsX2_isSound_r1 ++ wsX2_isSound_r2) ++ wsX10 ++ wsX20 ++ wsX00 ++ (vx_atS RX2 151 "java/lang/IndexOutOfBoundsException" ["java/lang/RuntimeException", "java/lang/Exception"]).filter goodWord)
def wsX2_unsound_r1 : List Cond := [Cond.fieldLink RX2 114 "FeatureStore" "servingCount" "I", Cond.methodLink RX2 138 yX2_isSound, Cond.instanceMethod yX2_isSound, Cond.selects RX2 yX2_isSound yX2_isSound, Cond.initialized RX2, Cond.code yX2_isSound cX2_isSound 3 (some .boolean), Cond.fieldLink RX2 126 "FeatureStore$Serving" "row" "I", Cond.fieldLink RX2 129 "FeatureStore$Serving" "feature" "I", Cond.fieldLink RX2 132 "FeatureStore$Serving" "entity" "I", Cond.fieldLink RX2 135 "FeatureStore$Serving" "time" "I", Cond.methodLink RX2 122 yX2_requireServing, Cond.instanceMethod yX2_requireServing, Cond.selects RX2 yX2_requireServing yX2_requireServing, Cond.code yX2_requireServing cX2_requireServing 2 (some (.object "FeatureStore$Serving")), Cond.classLink RX2 147 "java/lang/IndexOutOfBoundsException", Cond.initialized "java/lang/IndexOutOfBoundsException", Cond.fieldLink RX2 27 "FeatureStore" "servings" "[LFeatureStore$Serving;", Cond.methodLink RX2 79 yX2_find, Cond.instanceMethod yX2_find, Cond.selects RX2 yX2_find yX2_find, Cond.code yX2_find cX2_find 6 (some .int), Cond.fieldLink RX2 19 "FeatureStore" "latest" "[LFeatureStore$Row;", Cond.fieldLink RX2 76 "FeatureStore$Row" "event" "I", Cond.fieldLink RX2 73 "FeatureStore$Row" "arrival" "I"]
def wsX2_unsound_r2 : List Cond := [Cond.fieldLink RX2 87 "FeatureStore$Row" "older" "LFeatureStore$Row;", Cond.methodLink RX2 83 yX2_placeOf, Cond.static yX2_placeOf, Cond.code yX2_placeOf cX2_placeOf 2 (some .int), Cond.methodLink RX2 156 yX2_numberUnlessExpired, Cond.instanceMethod yX2_numberUnlessExpired, Cond.selects RX2 yX2_numberUnlessExpired yX2_numberUnlessExpired, Cond.code yX2_numberUnlessExpired cX2_numberUnlessExpired 3 (some .int), Cond.fieldLink RX2 9 "FeatureStore" "lifetimes" "[I", Cond.fieldLink RX2 154 "FeatureStore$Row" "feature" "I", Cond.fieldLink RX2 61 "FeatureStore$Row" "number" "I"]
def wsX2_unsound : List Cond := .code yX2_unsound cX2_unsound 3 (some .int) :: ((wsX2_unsound_r1 ++ wsX2_unsound_r2) ++ wsX20 ++ wsX10 ++ wsX00 ++ (vx_atS RX2 151 "java/lang/IndexOutOfBoundsException" ["java/lang/RuntimeException", "java/lang/Exception"]).filter goodWord)
def wsJ9_max_7cf53 : List Cond := .code yJ9_max_7cf53 cJ9_max_7cf53 2 (some .int) :: ([])
def wsJ9_min_7cf53 : List Cond := .code yJ9_min_7cf53 cJ9_min_7cf53 2 (some .int) :: ([])
def wsL_cell : List Cond := .code yL_cell cL_cell 2 (some .int) :: ([.constant RL 7 (1237309411)])
def wsL_low : List Cond := .code yL_low cL_low 2 (some .int) :: ([])
def wsL_arrive_r1 : List Cond := [Cond.classLink RL 14 "java/lang/IllegalArgumentException", Cond.methodLink RL 8 yX2_arrive, Cond.instanceMethod yX2_arrive, Cond.selects RX2 yX2_arrive yX2_arrive, Cond.initialized RX2, Cond.code yX2_arrive cX2_arrive 6 (some .int), Cond.classLink RX2 47 "java/lang/IllegalStateException", Cond.initialized "java/lang/IllegalStateException", Cond.fieldLink RX2 35 "FeatureStore" "now" "I", Cond.constant RX2 43 (100000), Cond.fieldLink RX2 44 "FeatureStore" "rowCount" "I", Cond.classLink RX2 13 RX0, Cond.instantiable RX0 7, Cond.initialized RX0, Cond.fieldLink RX2 15 "FeatureStore" "rows" "[LFeatureStore$Row;", Cond.fieldLink RX2 61 "FeatureStore$Row" "number" "I", Cond.methodLink RX2 31 yX2_requirePair, Cond.static yX2_requirePair, Cond.code yX2_requirePair cX2_requirePair 2 none, Cond.methodLink RX2 39 yX2_requireRange, Cond.static yX2_requireRange, Cond.code yX2_requireRange cX2_requireRange 3 none, Cond.classLink RX2 142 "java/lang/IllegalArgumentException", Cond.initialized "java/lang/IllegalArgumentException"]
def wsL_arrive_r2 : List Cond := [Cond.methodLink RX2 54 yX0_init, Cond.instanceMethod yX0_init, Cond.code yX0_init cX0_init 7 none, Cond.methodLink RX0 1 objectInit, Cond.instanceMethod objectInit, Cond.code objectInit ⟨#[0xb1]⟩ 1 none, Cond.fieldLink RX0 7 "FeatureStore$Row" "number" "I", Cond.fieldLink RX0 13 "FeatureStore$Row" "feature" "I", Cond.fieldLink RX0 16 "FeatureStore$Row" "entity" "I", Cond.fieldLink RX0 19 "FeatureStore$Row" "event" "I", Cond.fieldLink RX0 22 "FeatureStore$Row" "arrival" "I", Cond.fieldLink RX0 25 "FeatureStore$Row" "value" "I", Cond.methodLink RX2 57 yX2_putInChain, Cond.instanceMethod yX2_putInChain, Cond.selects RX2 yX2_putInChain yX2_putInChain, Cond.code yX2_putInChain cX2_putInChain 5 none, Cond.fieldLink RX2 154 "FeatureStore$Row" "feature" "I", Cond.fieldLink RX2 155 "FeatureStore$Row" "entity" "I", Cond.fieldLink RX2 19 "FeatureStore" "latest" "[LFeatureStore$Row;", Cond.fieldLink RX2 76 "FeatureStore$Row" "event" "I", Cond.fieldLink RX2 87 "FeatureStore$Row" "older" "LFeatureStore$Row;", Cond.methodLink RX2 83 yX2_placeOf, Cond.static yX2_placeOf, Cond.code yX2_placeOf cX2_placeOf 2 (some .int)]
def wsL_arrive : List Cond := .codeWith yL_arrive cL_arrive 7 (some .int) [(0, 11, 14, 14)] :: ((wsL_arrive_r1 ++ wsL_arrive_r2) ++ wsX20 ++ wsX00 ++ (vx_atS RX2 51 "java/lang/IllegalStateException" ["java/lang/RuntimeException", "java/lang/Exception"]).filter goodWord ++ (vx_atS RX2 146 "java/lang/IllegalArgumentException" ["java/lang/RuntimeException", "java/lang/Exception"]).filter goodWord)
def wsL_pass : List Cond := .codeWith yL_pass cL_pass 4 (some .int) [(0, 6, 9, 14), (0, 6, 13, 20)] :: ([.classLink RL 14 "java/lang/IllegalArgumentException", .classLink RL 20 "java/lang/IllegalStateException", .methodLink RL 16 yX2_pass, .instanceMethod yX2_pass, .selects RX2 yX2_pass yX2_pass, .initialized RX2, .code yX2_pass cX2_pass 2 (some .int), .classLink RX2 47 "java/lang/IllegalStateException", .initialized "java/lang/IllegalStateException", .fieldLink RX2 35 "FeatureStore" "now" "I", .methodLink RX2 39 yX2_requireRange, .static yX2_requireRange, .code yX2_requireRange cX2_requireRange 3 none, .classLink RX2 142 "java/lang/IllegalArgumentException", .initialized "java/lang/IllegalArgumentException"] ++ wsX20 ++ (vx_atS RX2 51 "java/lang/IllegalStateException" ["java/lang/RuntimeException", "java/lang/Exception"]).filter goodWord ++ (vx_atS RX2 146 "java/lang/IllegalArgumentException" ["java/lang/RuntimeException", "java/lang/Exception"]).filter goodWord)
def wsL_setLifetime : List Cond := .codeWith yL_setLifetime cL_setLifetime 5 (some .int) [(0, 7, 10, 14)] :: ([.classLink RL 14 "java/lang/IllegalArgumentException", .methodLink RL 22 yX2_setLifetime, .instanceMethod yX2_setLifetime, .selects RX2 yX2_setLifetime yX2_setLifetime, .initialized RX2, .code yX2_setLifetime cX2_setLifetime 4 (some .int), .fieldLink RX2 9 "FeatureStore" "lifetimes" "[I", .methodLink RX2 39 yX2_requireRange, .static yX2_requireRange, .code yX2_requireRange cX2_requireRange 3 none, .classLink RX2 142 "java/lang/IllegalArgumentException", .initialized "java/lang/IllegalArgumentException"] ++ wsX20 ++ (vx_atS RX2 146 "java/lang/IllegalArgumentException" ["java/lang/RuntimeException", "java/lang/Exception"]).filter goodWord)
def wsL_value : List Cond := .codeWith yL_value cL_value 4 (some .int) [(0, 6, 9, 29)] :: ([.classLink RL 29 "java/lang/IndexOutOfBoundsException", .methodLink RL 26 yX2_value, .instanceMethod yX2_value, .selects RX2 yX2_value yX2_value, .initialized RX2, .code yX2_value cX2_value 2 (some .int), .fieldLink RX2 70 "FeatureStore$Row" "value" "I", .methodLink RX2 66 yX2_requireRow, .instanceMethod yX2_requireRow, .selects RX2 yX2_requireRow yX2_requireRow, .code yX2_requireRow cX2_requireRow 3 (some (.object "FeatureStore$Row")), .classLink RX2 147 "java/lang/IndexOutOfBoundsException", .initialized "java/lang/IndexOutOfBoundsException", .methodLink RX2 105 yX2_rowOrNull, .instanceMethod yX2_rowOrNull, .selects RX2 yX2_rowOrNull yX2_rowOrNull, .code yX2_rowOrNull cX2_rowOrNull 2 (some (.object "FeatureStore$Row")), .fieldLink RX2 44 "FeatureStore" "rowCount" "I", .fieldLink RX2 15 "FeatureStore" "rows" "[LFeatureStore$Row;"] ++ wsX00 ++ wsX20 ++ (vx_atS RX2 151 "java/lang/IndexOutOfBoundsException" ["java/lang/RuntimeException", "java/lang/Exception"]).filter goodWord)
def wsL_late : List Cond := .codeWith yL_late cL_late 4 (some .int) [(0, 6, 9, 29)] :: ([.classLink RL 29 "java/lang/IndexOutOfBoundsException", .methodLink RL 31 yX2_late, .instanceMethod yX2_late, .selects RX2 yX2_late yX2_late, .initialized RX2, .code yX2_late cX2_late 3 (some .int), .fieldLink RX2 73 "FeatureStore$Row" "arrival" "I", .fieldLink RX2 76 "FeatureStore$Row" "event" "I", .methodLink RX2 66 yX2_requireRow, .instanceMethod yX2_requireRow, .selects RX2 yX2_requireRow yX2_requireRow, .code yX2_requireRow cX2_requireRow 3 (some (.object "FeatureStore$Row")), .classLink RX2 147 "java/lang/IndexOutOfBoundsException", .initialized "java/lang/IndexOutOfBoundsException", .methodLink RX2 105 yX2_rowOrNull, .instanceMethod yX2_rowOrNull, .selects RX2 yX2_rowOrNull yX2_rowOrNull, .code yX2_rowOrNull cX2_rowOrNull 2 (some (.object "FeatureStore$Row")), .fieldLink RX2 44 "FeatureStore" "rowCount" "I", .fieldLink RX2 15 "FeatureStore" "rows" "[LFeatureStore$Row;"] ++ wsX00 ++ wsX20 ++ (vx_atS RX2 151 "java/lang/IndexOutOfBoundsException" ["java/lang/RuntimeException", "java/lang/Exception"]).filter goodWord)
def wsL_join_r1 : List Cond := [Cond.classLink RL 14 "java/lang/IllegalArgumentException", Cond.methodLink RL 34 yX2_join, Cond.instanceMethod yX2_join, Cond.selects RX2 yX2_join yX2_join, Cond.initialized RX2, Cond.code yX2_join cX2_join 5 (some .int), Cond.fieldLink RX2 35 "FeatureStore" "now" "I", Cond.methodLink RX2 31 yX2_requirePair, Cond.static yX2_requirePair, Cond.code yX2_requirePair cX2_requirePair 2 none, Cond.methodLink RX2 39 yX2_requireRange, Cond.static yX2_requireRange, Cond.code yX2_requireRange cX2_requireRange 3 none, Cond.classLink RX2 142 "java/lang/IllegalArgumentException", Cond.initialized "java/lang/IllegalArgumentException", Cond.methodLink RX2 79 yX2_find, Cond.instanceMethod yX2_find, Cond.selects RX2 yX2_find yX2_find, Cond.code yX2_find cX2_find 6 (some .int), Cond.fieldLink RX2 19 "FeatureStore" "latest" "[LFeatureStore$Row;", Cond.fieldLink RX2 76 "FeatureStore$Row" "event" "I", Cond.fieldLink RX2 73 "FeatureStore$Row" "arrival" "I", Cond.fieldLink RX2 87 "FeatureStore$Row" "older" "LFeatureStore$Row;", Cond.methodLink RX2 83 yX2_placeOf]
def wsL_join_r2 : List Cond := [Cond.static yX2_placeOf, Cond.code yX2_placeOf cX2_placeOf 2 (some .int), Cond.methodLink RX2 156 yX2_numberUnlessExpired, Cond.instanceMethod yX2_numberUnlessExpired, Cond.selects RX2 yX2_numberUnlessExpired yX2_numberUnlessExpired, Cond.code yX2_numberUnlessExpired cX2_numberUnlessExpired 3 (some .int), Cond.fieldLink RX2 9 "FeatureStore" "lifetimes" "[I", Cond.fieldLink RX2 154 "FeatureStore$Row" "feature" "I", Cond.fieldLink RX2 61 "FeatureStore$Row" "number" "I"]
def wsL_join : List Cond := .codeWith yL_join cL_join 7 (some .int) [(0, 11, 14, 14)] :: ((wsL_join_r1 ++ wsL_join_r2) ++ wsX20 ++ wsX00 ++ (vx_atS RX2 146 "java/lang/IllegalArgumentException" ["java/lang/RuntimeException", "java/lang/Exception"]).filter goodWord)
def wsL_window : List Cond := .codeWith yL_window cL_window 7 (some .int) [(0, 11, 14, 14)] :: ([.classLink RL 14 "java/lang/IllegalArgumentException", .methodLink RL 37 yX2_window, .instanceMethod yX2_window, .selects RX2 yX2_window yX2_window, .initialized RX2, .code yX2_window cX2_window 7 (some .int), .fieldLink RX2 19 "FeatureStore" "latest" "[LFeatureStore$Row;", .fieldLink RX2 76 "FeatureStore$Row" "event" "I", .fieldLink RX2 70 "FeatureStore$Row" "value" "I", .fieldLink RX2 87 "FeatureStore$Row" "older" "LFeatureStore$Row;", .methodLink RX2 31 yX2_requirePair, .static yX2_requirePair, .code yX2_requirePair cX2_requirePair 2 none, .methodLink RX2 39 yX2_requireRange, .static yX2_requireRange, .code yX2_requireRange cX2_requireRange 3 none, .classLink RX2 142 "java/lang/IllegalArgumentException", .initialized "java/lang/IllegalArgumentException", .methodLink RX2 83 yX2_placeOf, .static yX2_placeOf, .code yX2_placeOf cX2_placeOf 2 (some .int)] ++ wsX20 ++ wsX00 ++ (vx_atS RX2 146 "java/lang/IllegalArgumentException" ["java/lang/RuntimeException", "java/lang/Exception"]).filter goodWord)
def wsL_greatestTile_r1 : List Cond := [Cond.classLink RL 14 "java/lang/IllegalArgumentException", Cond.methodLink RL 40 yX2_greatestTile, Cond.instanceMethod yX2_greatestTile, Cond.selects RX2 yX2_greatestTile yX2_greatestTile, Cond.initialized RX2, Cond.code yX2_greatestTile cX2_greatestTile 9 (some .int), Cond.fieldLink RX2 19 "FeatureStore" "latest" "[LFeatureStore$Row;", Cond.fieldLink RX2 76 "FeatureStore$Row" "event" "I", Cond.fieldLink RX2 70 "FeatureStore$Row" "value" "I", Cond.methodLink RX2 91 Lib.Math.max.name, Cond.static Lib.Math.max.name, Cond.initialized "java/lang/Math", Cond.code Lib.Math.max.name Lib.Math.max.code 2 (some .int), Cond.fieldLink RX2 87 "FeatureStore$Row" "older" "LFeatureStore$Row;", Cond.methodLink RX2 31 yX2_requirePair, Cond.static yX2_requirePair, Cond.code yX2_requirePair cX2_requirePair 2 none, Cond.methodLink RX2 39 yX2_requireRange, Cond.static yX2_requireRange, Cond.code yX2_requireRange cX2_requireRange 3 none, Cond.classLink RX2 142 "java/lang/IllegalArgumentException", Cond.initialized "java/lang/IllegalArgumentException", Cond.methodLink RX2 83 yX2_placeOf, Cond.static yX2_placeOf]
def wsL_greatestTile_r2 : List Cond := [Cond.code yX2_placeOf cX2_placeOf 2 (some .int)]
def wsL_greatestTile : List Cond := .codeWith yL_greatestTile cL_greatestTile 6 (some .int) [(0, 9, 12, 14)] :: ((wsL_greatestTile_r1 ++ wsL_greatestTile_r2) ++ wsX20 ++ wsX00 ++ (vx_atS RX2 146 "java/lang/IllegalArgumentException" ["java/lang/RuntimeException", "java/lang/Exception"]).filter goodWord)
def wsL_tiles : List Cond := .codeWith yL_tiles cL_tiles 6 (some .int) [(0, 9, 12, 14)] :: ([.classLink RL 14 "java/lang/IllegalArgumentException", .methodLink RL 44 yX2_tiles, .instanceMethod yX2_tiles, .selects RX2 yX2_tiles yX2_tiles, .initialized RX2, .code yX2_tiles cX2_tiles 8 (some .int), .fieldLink RX2 19 "FeatureStore" "latest" "[LFeatureStore$Row;", .fieldLink RX2 76 "FeatureStore$Row" "event" "I", .fieldLink RX2 87 "FeatureStore$Row" "older" "LFeatureStore$Row;", .methodLink RX2 31 yX2_requirePair, .static yX2_requirePair, .code yX2_requirePair cX2_requirePair 2 none, .methodLink RX2 39 yX2_requireRange, .static yX2_requireRange, .code yX2_requireRange cX2_requireRange 3 none, .classLink RX2 142 "java/lang/IllegalArgumentException", .initialized "java/lang/IllegalArgumentException", .methodLink RX2 83 yX2_placeOf, .static yX2_placeOf, .code yX2_placeOf cX2_placeOf 2 (some .int)] ++ wsX20 ++ wsX00 ++ (vx_atS RX2 146 "java/lang/IllegalArgumentException" ["java/lang/RuntimeException", "java/lang/Exception"]).filter goodWord)
def wsL_revised_r1 : List Cond := [Cond.classLink RL 14 "java/lang/IllegalArgumentException", Cond.methodLink RL 47 yX2_revised, Cond.instanceMethod yX2_revised, Cond.selects RX2 yX2_revised yX2_revised, Cond.initialized RX2, Cond.code yX2_revised cX2_revised 9 (some .int), Cond.fieldLink RX2 35 "FeatureStore" "now" "I", Cond.fieldLink RX2 19 "FeatureStore" "latest" "[LFeatureStore$Row;", Cond.fieldLink RX2 76 "FeatureStore$Row" "event" "I", Cond.fieldLink RX2 9 "FeatureStore" "lifetimes" "[I", Cond.methodLink RX2 96 Lib.Math.min.name, Cond.static Lib.Math.min.name, Cond.initialized "java/lang/Math", Cond.code Lib.Math.min.name Lib.Math.min.code 2 (some .int), Cond.fieldLink RX2 73 "FeatureStore$Row" "arrival" "I", Cond.fieldLink RX2 87 "FeatureStore$Row" "older" "LFeatureStore$Row;", Cond.methodLink RX2 31 yX2_requirePair, Cond.static yX2_requirePair, Cond.code yX2_requirePair cX2_requirePair 2 none, Cond.methodLink RX2 39 yX2_requireRange, Cond.static yX2_requireRange, Cond.code yX2_requireRange cX2_requireRange 3 none, Cond.classLink RX2 142 "java/lang/IllegalArgumentException", Cond.initialized "java/lang/IllegalArgumentException"]
def wsL_revised_r2 : List Cond := [Cond.methodLink RX2 83 yX2_placeOf, Cond.static yX2_placeOf, Cond.code yX2_placeOf cX2_placeOf 2 (some .int), Cond.methodLink RX2 99 yX2_multiplesBelow, Cond.static yX2_multiplesBelow, Cond.code yX2_multiplesBelow cX2_multiplesBelow 2 (some .int)]
def wsL_revised : List Cond := .codeWith yL_revised cL_revised 6 (some .int) [(0, 9, 12, 14)] :: ((wsL_revised_r1 ++ wsL_revised_r2) ++ wsX20 ++ wsX00 ++ (vx_atS RX2 146 "java/lang/IllegalArgumentException" ["java/lang/RuntimeException", "java/lang/Exception"]).filter goodWord)
def wsL_take_r1 : List Cond := [Cond.classLink RL 14 "java/lang/IllegalArgumentException", Cond.methodLink RL 50 yX2_take, Cond.instanceMethod yX2_take, Cond.selects RX2 yX2_take yX2_take, Cond.initialized RX2, Cond.code yX2_take cX2_take 4 (some .int), Cond.fieldLink RX2 102 "FeatureStore" "taken" "I", Cond.methodLink RX2 39 yX2_requireRange, Cond.static yX2_requireRange, Cond.code yX2_requireRange cX2_requireRange 3 none, Cond.classLink RX2 142 "java/lang/IllegalArgumentException", Cond.initialized "java/lang/IllegalArgumentException", Cond.methodLink RX2 105 yX2_rowOrNull, Cond.instanceMethod yX2_rowOrNull, Cond.selects RX2 yX2_rowOrNull yX2_rowOrNull, Cond.code yX2_rowOrNull cX2_rowOrNull 2 (some (.object "FeatureStore$Row")), Cond.fieldLink RX2 44 "FeatureStore" "rowCount" "I", Cond.fieldLink RX2 15 "FeatureStore" "rows" "[LFeatureStore$Row;", Cond.methodLink RX2 108 yX2_takeIn, Cond.instanceMethod yX2_takeIn, Cond.selects RX2 yX2_takeIn yX2_takeIn, Cond.code yX2_takeIn cX2_takeIn 4 none, Cond.fieldLink RX2 154 "FeatureStore$Row" "feature" "I", Cond.fieldLink RX2 155 "FeatureStore$Row" "entity" "I"]
def wsL_take_r2 : List Cond := [Cond.fieldLink RX2 22 "FeatureStore" "onlineCopy" "[LFeatureStore$Row;", Cond.fieldLink RX2 76 "FeatureStore$Row" "event" "I", Cond.methodLink RX2 83 yX2_placeOf, Cond.static yX2_placeOf, Cond.code yX2_placeOf cX2_placeOf 2 (some .int)]
def wsL_take : List Cond := .codeWith yL_take cL_take 4 (some .int) [(0, 6, 9, 14)] :: ((wsL_take_r1 ++ wsL_take_r2) ++ wsX20 ++ wsX00 ++ (vx_atS RX2 146 "java/lang/IllegalArgumentException" ["java/lang/RuntimeException", "java/lang/Exception"]).filter goodWord)
def wsL_online_r1 : List Cond := [Cond.classLink RL 14 "java/lang/IllegalArgumentException", Cond.methodLink RL 53 yX2_online, Cond.instanceMethod yX2_online, Cond.selects RX2 yX2_online yX2_online, Cond.initialized RX2, Cond.code yX2_online cX2_online 3 (some .int), Cond.methodLink RX2 31 yX2_requirePair, Cond.static yX2_requirePair, Cond.code yX2_requirePair cX2_requirePair 2 none, Cond.methodLink RX2 39 yX2_requireRange, Cond.static yX2_requireRange, Cond.code yX2_requireRange cX2_requireRange 3 none, Cond.classLink RX2 142 "java/lang/IllegalArgumentException", Cond.initialized "java/lang/IllegalArgumentException", Cond.methodLink RX2 111 yX2_tell, Cond.instanceMethod yX2_tell, Cond.selects RX2 yX2_tell yX2_tell, Cond.code yX2_tell cX2_tell 3 (some .int), Cond.fieldLink RX2 22 "FeatureStore" "onlineCopy" "[LFeatureStore$Row;", Cond.fieldLink RX2 35 "FeatureStore" "now" "I", Cond.methodLink RX2 83 yX2_placeOf, Cond.static yX2_placeOf, Cond.code yX2_placeOf cX2_placeOf 2 (some .int), Cond.methodLink RX2 156 yX2_numberUnlessExpired]
def wsL_online_r2 : List Cond := [Cond.instanceMethod yX2_numberUnlessExpired, Cond.selects RX2 yX2_numberUnlessExpired yX2_numberUnlessExpired, Cond.code yX2_numberUnlessExpired cX2_numberUnlessExpired 3 (some .int), Cond.fieldLink RX2 76 "FeatureStore$Row" "event" "I", Cond.fieldLink RX2 9 "FeatureStore" "lifetimes" "[I", Cond.fieldLink RX2 154 "FeatureStore$Row" "feature" "I", Cond.fieldLink RX2 61 "FeatureStore$Row" "number" "I"]
def wsL_online : List Cond := .codeWith yL_online cL_online 5 (some .int) [(0, 7, 10, 14)] :: ((wsL_online_r1 ++ wsL_online_r2) ++ wsX20 ++ wsX00 ++ (vx_atS RX2 146 "java/lang/IllegalArgumentException" ["java/lang/RuntimeException", "java/lang/Exception"]).filter goodWord)
def wsL_serve_r1 : List Cond := [Cond.classLink RL 14 "java/lang/IllegalArgumentException", Cond.methodLink RL 56 yX2_serve, Cond.instanceMethod yX2_serve, Cond.selects RX2 yX2_serve yX2_serve, Cond.initialized RX2, Cond.code yX2_serve cX2_serve 4 (some .int), Cond.classLink RX2 47 "java/lang/IllegalStateException", Cond.initialized "java/lang/IllegalStateException", Cond.fieldLink RX2 114 "FeatureStore" "servingCount" "I", Cond.fieldLink RX2 27 "FeatureStore" "servings" "[LFeatureStore$Serving;", Cond.classLink RX2 25 RX1, Cond.instantiable RX1 4, Cond.initialized RX1, Cond.fieldLink RX2 35 "FeatureStore" "now" "I", Cond.methodLink RX2 31 yX2_requirePair, Cond.static yX2_requirePair, Cond.code yX2_requirePair cX2_requirePair 2 none, Cond.methodLink RX2 39 yX2_requireRange, Cond.static yX2_requireRange, Cond.code yX2_requireRange cX2_requireRange 3 none, Cond.classLink RX2 142 "java/lang/IllegalArgumentException", Cond.initialized "java/lang/IllegalArgumentException", Cond.methodLink RX2 111 yX2_tell, Cond.instanceMethod yX2_tell]
def wsL_serve_r2 : List Cond := [Cond.selects RX2 yX2_tell yX2_tell, Cond.code yX2_tell cX2_tell 3 (some .int), Cond.fieldLink RX2 22 "FeatureStore" "onlineCopy" "[LFeatureStore$Row;", Cond.methodLink RX2 83 yX2_placeOf, Cond.static yX2_placeOf, Cond.code yX2_placeOf cX2_placeOf 2 (some .int), Cond.methodLink RX2 156 yX2_numberUnlessExpired, Cond.instanceMethod yX2_numberUnlessExpired, Cond.selects RX2 yX2_numberUnlessExpired yX2_numberUnlessExpired, Cond.code yX2_numberUnlessExpired cX2_numberUnlessExpired 3 (some .int), Cond.fieldLink RX2 76 "FeatureStore$Row" "event" "I", Cond.fieldLink RX2 9 "FeatureStore" "lifetimes" "[I", Cond.fieldLink RX2 154 "FeatureStore$Row" "feature" "I", Cond.fieldLink RX2 61 "FeatureStore$Row" "number" "I", Cond.methodLink RX2 119 yX1_init, Cond.instanceMethod yX1_init, Cond.code yX1_init cX1_init 5 none, Cond.methodLink RX1 1 objectInit, Cond.instanceMethod objectInit, Cond.code objectInit ⟨#[0xb1]⟩ 1 none, Cond.fieldLink RX1 7 "FeatureStore$Serving" "feature" "I", Cond.fieldLink RX1 13 "FeatureStore$Serving" "entity" "I", Cond.fieldLink RX1 16 "FeatureStore$Serving" "time" "I", Cond.fieldLink RX1 19 "FeatureStore$Serving" "row" "I"]
def wsL_serve : List Cond := .codeWith yL_serve cL_serve 5 (some .int) [(0, 7, 10, 14)] :: ((wsL_serve_r1 ++ wsL_serve_r2) ++ wsX20 ++ wsX10 ++ wsX00 ++ (vx_atS RX2 51 "java/lang/IllegalStateException" ["java/lang/RuntimeException", "java/lang/Exception"]).filter goodWord ++ (vx_atS RX2 146 "java/lang/IllegalArgumentException" ["java/lang/RuntimeException", "java/lang/Exception"]).filter goodWord)
def wsL_served : List Cond := .codeWith yL_served cL_served 4 (some .int) [(0, 6, 9, 29)] :: ([.classLink RL 29 "java/lang/IndexOutOfBoundsException", .methodLink RL 59 yX2_served, .instanceMethod yX2_served, .selects RX2 yX2_served yX2_served, .initialized RX2, .code yX2_served cX2_served 2 (some .int), .fieldLink RX2 126 "FeatureStore$Serving" "row" "I", .methodLink RX2 122 yX2_requireServing, .instanceMethod yX2_requireServing, .selects RX2 yX2_requireServing yX2_requireServing, .code yX2_requireServing cX2_requireServing 2 (some (.object "FeatureStore$Serving")), .classLink RX2 147 "java/lang/IndexOutOfBoundsException", .initialized "java/lang/IndexOutOfBoundsException", .fieldLink RX2 114 "FeatureStore" "servingCount" "I", .fieldLink RX2 27 "FeatureStore" "servings" "[LFeatureStore$Serving;"] ++ wsX10 ++ wsX20 ++ (vx_atS RX2 151 "java/lang/IndexOutOfBoundsException" ["java/lang/RuntimeException", "java/lang/Exception"]).filter goodWord)
def wsL_isSound_r1 : List Cond := [Cond.classLink RL 29 "java/lang/IndexOutOfBoundsException", Cond.methodLink RL 62 yX2_isSound, Cond.instanceMethod yX2_isSound, Cond.selects RX2 yX2_isSound yX2_isSound, Cond.initialized RX2, Cond.code yX2_isSound cX2_isSound 3 (some .boolean), Cond.fieldLink RX2 126 "FeatureStore$Serving" "row" "I", Cond.fieldLink RX2 129 "FeatureStore$Serving" "feature" "I", Cond.fieldLink RX2 132 "FeatureStore$Serving" "entity" "I", Cond.fieldLink RX2 135 "FeatureStore$Serving" "time" "I", Cond.methodLink RX2 122 yX2_requireServing, Cond.instanceMethod yX2_requireServing, Cond.selects RX2 yX2_requireServing yX2_requireServing, Cond.code yX2_requireServing cX2_requireServing 2 (some (.object "FeatureStore$Serving")), Cond.classLink RX2 147 "java/lang/IndexOutOfBoundsException", Cond.initialized "java/lang/IndexOutOfBoundsException", Cond.fieldLink RX2 114 "FeatureStore" "servingCount" "I", Cond.fieldLink RX2 27 "FeatureStore" "servings" "[LFeatureStore$Serving;", Cond.methodLink RX2 79 yX2_find, Cond.instanceMethod yX2_find, Cond.selects RX2 yX2_find yX2_find, Cond.code yX2_find cX2_find 6 (some .int), Cond.fieldLink RX2 19 "FeatureStore" "latest" "[LFeatureStore$Row;", Cond.fieldLink RX2 76 "FeatureStore$Row" "event" "I"]
def wsL_isSound_r2 : List Cond := [Cond.fieldLink RX2 73 "FeatureStore$Row" "arrival" "I", Cond.fieldLink RX2 87 "FeatureStore$Row" "older" "LFeatureStore$Row;", Cond.methodLink RX2 83 yX2_placeOf, Cond.static yX2_placeOf, Cond.code yX2_placeOf cX2_placeOf 2 (some .int), Cond.methodLink RX2 156 yX2_numberUnlessExpired, Cond.instanceMethod yX2_numberUnlessExpired, Cond.selects RX2 yX2_numberUnlessExpired yX2_numberUnlessExpired, Cond.code yX2_numberUnlessExpired cX2_numberUnlessExpired 3 (some .int), Cond.fieldLink RX2 9 "FeatureStore" "lifetimes" "[I", Cond.fieldLink RX2 154 "FeatureStore$Row" "feature" "I", Cond.fieldLink RX2 61 "FeatureStore$Row" "number" "I"]
def wsL_isSound : List Cond := .codeWith yL_isSound cL_isSound 4 (some .int) [(0, 6, 9, 29)] :: ((wsL_isSound_r1 ++ wsL_isSound_r2) ++ wsX10 ++ wsX20 ++ wsX00 ++ (vx_atS RX2 151 "java/lang/IndexOutOfBoundsException" ["java/lang/RuntimeException", "java/lang/Exception"]).filter goodWord)
def wsL_find : List Cond := .code yL_find cL_find 11 (some .int) :: ([])
def wsL_copied : List Cond := .code yL_copied cL_copied 6 (some .int) :: ([.methodLink RL 66 yL_find, .static yL_find, .initialized RL, .code yL_find cL_find 11 (some .int)])
def wsL_keeps_r1 : List Cond := [Cond.constant RL 75 (100001), Cond.methodLink RL 72 yL_low, Cond.static yL_low, Cond.initialized RL, Cond.code yL_low cL_low 2 (some .int), Cond.methodLink RL 76 yL_arrive, Cond.static yL_arrive, Cond.codeWith yL_arrive cL_arrive 7 (some .int) [(0, 11, 14, 14)], Cond.classLink RL 14 "java/lang/IllegalArgumentException", Cond.methodLink RL 8 yX2_arrive, Cond.instanceMethod yX2_arrive, Cond.selects RX2 yX2_arrive yX2_arrive, Cond.initialized RX2, Cond.code yX2_arrive cX2_arrive 6 (some .int), Cond.classLink RX2 47 "java/lang/IllegalStateException", Cond.initialized "java/lang/IllegalStateException", Cond.fieldLink RX2 35 "FeatureStore" "now" "I", Cond.constant RX2 43 (100000), Cond.fieldLink RX2 44 "FeatureStore" "rowCount" "I", Cond.classLink RX2 13 RX0, Cond.instantiable RX0 7, Cond.initialized RX0, Cond.fieldLink RX2 15 "FeatureStore" "rows" "[LFeatureStore$Row;", Cond.fieldLink RX2 61 "FeatureStore$Row" "number" "I"]
def wsL_keeps_r2 : List Cond := [Cond.methodLink RX2 31 yX2_requirePair, Cond.static yX2_requirePair, Cond.code yX2_requirePair cX2_requirePair 2 none, Cond.methodLink RX2 39 yX2_requireRange, Cond.static yX2_requireRange, Cond.code yX2_requireRange cX2_requireRange 3 none, Cond.classLink RX2 142 "java/lang/IllegalArgumentException", Cond.initialized "java/lang/IllegalArgumentException", Cond.methodLink RX2 54 yX0_init, Cond.instanceMethod yX0_init, Cond.code yX0_init cX0_init 7 none, Cond.methodLink RX0 1 objectInit, Cond.instanceMethod objectInit, Cond.code objectInit ⟨#[0xb1]⟩ 1 none, Cond.fieldLink RX0 7 "FeatureStore$Row" "number" "I", Cond.fieldLink RX0 13 "FeatureStore$Row" "feature" "I", Cond.fieldLink RX0 16 "FeatureStore$Row" "entity" "I", Cond.fieldLink RX0 19 "FeatureStore$Row" "event" "I", Cond.fieldLink RX0 22 "FeatureStore$Row" "arrival" "I", Cond.fieldLink RX0 25 "FeatureStore$Row" "value" "I", Cond.methodLink RX2 57 yX2_putInChain, Cond.instanceMethod yX2_putInChain, Cond.selects RX2 yX2_putInChain yX2_putInChain, Cond.code yX2_putInChain cX2_putInChain 5 none]
def wsL_keeps_r3 : List Cond := [Cond.fieldLink RX2 154 "FeatureStore$Row" "feature" "I", Cond.fieldLink RX2 155 "FeatureStore$Row" "entity" "I", Cond.fieldLink RX2 19 "FeatureStore" "latest" "[LFeatureStore$Row;", Cond.fieldLink RX2 76 "FeatureStore$Row" "event" "I", Cond.fieldLink RX2 87 "FeatureStore$Row" "older" "LFeatureStore$Row;", Cond.methodLink RX2 83 yX2_placeOf, Cond.static yX2_placeOf, Cond.code yX2_placeOf cX2_placeOf 2 (some .int), Cond.methodLink RL 79 yX2_rows, Cond.instanceMethod yX2_rows, Cond.selects RX2 yX2_rows yX2_rows, Cond.code yX2_rows cX2_rows 1 (some .int), Cond.methodLink RL 83 yL_pass, Cond.static yL_pass, Cond.codeWith yL_pass cL_pass 4 (some .int) [(0, 6, 9, 14), (0, 6, 13, 20)], Cond.classLink RL 20 "java/lang/IllegalStateException", Cond.methodLink RL 16 yX2_pass, Cond.instanceMethod yX2_pass, Cond.selects RX2 yX2_pass yX2_pass, Cond.code yX2_pass cX2_pass 2 (some .int), Cond.methodLink RL 86 yL_setLifetime, Cond.static yL_setLifetime, Cond.codeWith yL_setLifetime cL_setLifetime 5 (some .int) [(0, 7, 10, 14)], Cond.methodLink RL 22 yX2_setLifetime]
def wsL_keeps_r4 : List Cond := [Cond.instanceMethod yX2_setLifetime, Cond.selects RX2 yX2_setLifetime yX2_setLifetime, Cond.code yX2_setLifetime cX2_setLifetime 4 (some .int), Cond.fieldLink RX2 9 "FeatureStore" "lifetimes" "[I", Cond.methodLink RL 89 yL_take, Cond.static yL_take, Cond.codeWith yL_take cL_take 4 (some .int) [(0, 6, 9, 14)], Cond.methodLink RL 50 yX2_take, Cond.instanceMethod yX2_take, Cond.selects RX2 yX2_take yX2_take, Cond.code yX2_take cX2_take 4 (some .int), Cond.fieldLink RX2 102 "FeatureStore" "taken" "I", Cond.methodLink RX2 105 yX2_rowOrNull, Cond.instanceMethod yX2_rowOrNull, Cond.selects RX2 yX2_rowOrNull yX2_rowOrNull, Cond.code yX2_rowOrNull cX2_rowOrNull 2 (some (.object "FeatureStore$Row")), Cond.methodLink RX2 108 yX2_takeIn, Cond.instanceMethod yX2_takeIn, Cond.selects RX2 yX2_takeIn yX2_takeIn, Cond.code yX2_takeIn cX2_takeIn 4 none, Cond.fieldLink RX2 22 "FeatureStore" "onlineCopy" "[LFeatureStore$Row;", Cond.methodLink RL 91 yL_serve, Cond.static yL_serve, Cond.codeWith yL_serve cL_serve 5 (some .int) [(0, 7, 10, 14)]]
def wsL_keeps_r5 : List Cond := [Cond.methodLink RL 56 yX2_serve, Cond.instanceMethod yX2_serve, Cond.selects RX2 yX2_serve yX2_serve, Cond.code yX2_serve cX2_serve 4 (some .int), Cond.fieldLink RX2 114 "FeatureStore" "servingCount" "I", Cond.fieldLink RX2 27 "FeatureStore" "servings" "[LFeatureStore$Serving;", Cond.classLink RX2 25 RX1, Cond.instantiable RX1 4, Cond.initialized RX1, Cond.methodLink RX2 111 yX2_tell, Cond.instanceMethod yX2_tell, Cond.selects RX2 yX2_tell yX2_tell, Cond.code yX2_tell cX2_tell 3 (some .int), Cond.methodLink RX2 156 yX2_numberUnlessExpired, Cond.instanceMethod yX2_numberUnlessExpired, Cond.selects RX2 yX2_numberUnlessExpired yX2_numberUnlessExpired, Cond.code yX2_numberUnlessExpired cX2_numberUnlessExpired 3 (some .int), Cond.methodLink RX2 119 yX1_init, Cond.instanceMethod yX1_init, Cond.code yX1_init cX1_init 5 none, Cond.methodLink RX1 1 objectInit, Cond.fieldLink RX1 7 "FeatureStore$Serving" "feature" "I", Cond.fieldLink RX1 13 "FeatureStore$Serving" "entity" "I", Cond.fieldLink RX1 16 "FeatureStore$Serving" "time" "I"]
def wsL_keeps_r6 : List Cond := [Cond.fieldLink RX1 19 "FeatureStore$Serving" "row" "I", Cond.methodLink RL 93 yX2_servings, Cond.instanceMethod yX2_servings, Cond.selects RX2 yX2_servings yX2_servings, Cond.code yX2_servings cX2_servings 1 (some .int), Cond.methodLink RL 96 yL_copied, Cond.static yL_copied, Cond.code yL_copied cL_copied 6 (some .int), Cond.methodLink RL 66 yL_find, Cond.static yL_find, Cond.code yL_find cL_find 11 (some .int)]
def wsL_keeps : List Cond := .code yL_keeps cL_keeps 17 (some .boolean) :: ((wsL_keeps_r1 ++ (wsL_keeps_r2 ++ (wsL_keeps_r3 ++ (wsL_keeps_r4 ++ (wsL_keeps_r5 ++ wsL_keeps_r6))))) ++ wsX20 ++ wsX00 ++ wsX10 ++ (vx_atS RX2 51 "java/lang/IllegalStateException" ["java/lang/RuntimeException", "java/lang/Exception"]).filter goodWord ++ (vx_atS RX2 146 "java/lang/IllegalArgumentException" ["java/lang/RuntimeException", "java/lang/Exception"]).filter goodWord)
def wsL_areTiles_r1 : List Cond := [Cond.methodLink RL 100 yL_window, Cond.static yL_window, Cond.initialized RL, Cond.codeWith yL_window cL_window 7 (some .int) [(0, 11, 14, 14)], Cond.classLink RL 14 "java/lang/IllegalArgumentException", Cond.methodLink RL 37 yX2_window, Cond.instanceMethod yX2_window, Cond.selects RX2 yX2_window yX2_window, Cond.initialized RX2, Cond.code yX2_window cX2_window 7 (some .int), Cond.fieldLink RX2 19 "FeatureStore" "latest" "[LFeatureStore$Row;", Cond.fieldLink RX2 76 "FeatureStore$Row" "event" "I", Cond.fieldLink RX2 70 "FeatureStore$Row" "value" "I", Cond.fieldLink RX2 87 "FeatureStore$Row" "older" "LFeatureStore$Row;", Cond.methodLink RX2 31 yX2_requirePair, Cond.static yX2_requirePair, Cond.code yX2_requirePair cX2_requirePair 2 none, Cond.methodLink RX2 39 yX2_requireRange, Cond.static yX2_requireRange, Cond.code yX2_requireRange cX2_requireRange 3 none, Cond.classLink RX2 142 "java/lang/IllegalArgumentException", Cond.initialized "java/lang/IllegalArgumentException", Cond.methodLink RX2 83 yX2_placeOf, Cond.static yX2_placeOf]
def wsL_areTiles_r2 : List Cond := [Cond.code yX2_placeOf cX2_placeOf 2 (some .int), Cond.methodLink RL 102 yL_greatestTile, Cond.static yL_greatestTile, Cond.codeWith yL_greatestTile cL_greatestTile 6 (some .int) [(0, 9, 12, 14)], Cond.methodLink RL 40 yX2_greatestTile, Cond.instanceMethod yX2_greatestTile, Cond.selects RX2 yX2_greatestTile yX2_greatestTile, Cond.code yX2_greatestTile cX2_greatestTile 9 (some .int), Cond.methodLink RX2 91 Lib.Math.max.name, Cond.static Lib.Math.max.name, Cond.initialized "java/lang/Math", Cond.code Lib.Math.max.name Lib.Math.max.code 2 (some .int), Cond.methodLink RL 105 yL_tiles, Cond.static yL_tiles, Cond.codeWith yL_tiles cL_tiles 6 (some .int) [(0, 9, 12, 14)], Cond.methodLink RL 44 yX2_tiles, Cond.instanceMethod yX2_tiles, Cond.selects RX2 yX2_tiles yX2_tiles, Cond.code yX2_tiles cX2_tiles 8 (some .int)]
def wsL_areTiles : List Cond := .code yL_areTiles cL_areTiles 17 (some .boolean) :: ((wsL_areTiles_r1 ++ wsL_areTiles_r2) ++ wsX20 ++ wsX00 ++ (vx_atS RX2 146 "java/lang/IllegalArgumentException" ["java/lang/RuntimeException", "java/lang/Exception"]).filter goodWord)
def wsL_isTold_r1 : List Cond := [Cond.methodLink RL 107 yL_value, Cond.static yL_value, Cond.initialized RL, Cond.codeWith yL_value cL_value 4 (some .int) [(0, 6, 9, 29)], Cond.classLink RL 29 "java/lang/IndexOutOfBoundsException", Cond.methodLink RL 26 yX2_value, Cond.instanceMethod yX2_value, Cond.selects RX2 yX2_value yX2_value, Cond.initialized RX2, Cond.code yX2_value cX2_value 2 (some .int), Cond.fieldLink RX2 70 "FeatureStore$Row" "value" "I", Cond.methodLink RX2 66 yX2_requireRow, Cond.instanceMethod yX2_requireRow, Cond.selects RX2 yX2_requireRow yX2_requireRow, Cond.code yX2_requireRow cX2_requireRow 3 (some (.object "FeatureStore$Row")), Cond.classLink RX2 147 "java/lang/IndexOutOfBoundsException", Cond.initialized "java/lang/IndexOutOfBoundsException", Cond.methodLink RX2 105 yX2_rowOrNull, Cond.instanceMethod yX2_rowOrNull, Cond.selects RX2 yX2_rowOrNull yX2_rowOrNull, Cond.code yX2_rowOrNull cX2_rowOrNull 2 (some (.object "FeatureStore$Row")), Cond.fieldLink RX2 44 "FeatureStore" "rowCount" "I", Cond.fieldLink RX2 15 "FeatureStore" "rows" "[LFeatureStore$Row;", Cond.methodLink RL 109 yL_late]
def wsL_isTold_r2 : List Cond := [Cond.static yL_late, Cond.codeWith yL_late cL_late 4 (some .int) [(0, 6, 9, 29)], Cond.methodLink RL 31 yX2_late, Cond.instanceMethod yX2_late, Cond.selects RX2 yX2_late yX2_late, Cond.code yX2_late cX2_late 3 (some .int), Cond.fieldLink RX2 73 "FeatureStore$Row" "arrival" "I", Cond.fieldLink RX2 76 "FeatureStore$Row" "event" "I", Cond.methodLink RL 66 yL_find, Cond.static yL_find, Cond.code yL_find cL_find 11 (some .int), Cond.methodLink RL 111 yL_served, Cond.static yL_served, Cond.codeWith yL_served cL_served 4 (some .int) [(0, 6, 9, 29)], Cond.methodLink RL 59 yX2_served, Cond.instanceMethod yX2_served, Cond.selects RX2 yX2_served yX2_served, Cond.code yX2_served cX2_served 2 (some .int), Cond.fieldLink RX2 126 "FeatureStore$Serving" "row" "I", Cond.methodLink RX2 122 yX2_requireServing, Cond.instanceMethod yX2_requireServing, Cond.selects RX2 yX2_requireServing yX2_requireServing, Cond.code yX2_requireServing cX2_requireServing 2 (some (.object "FeatureStore$Serving")), Cond.fieldLink RX2 114 "FeatureStore" "servingCount" "I"]
def wsL_isTold_r3 : List Cond := [Cond.fieldLink RX2 27 "FeatureStore" "servings" "[LFeatureStore$Serving;", Cond.methodLink RL 113 yL_isSound, Cond.static yL_isSound, Cond.codeWith yL_isSound cL_isSound 4 (some .int) [(0, 6, 9, 29)], Cond.methodLink RL 62 yX2_isSound, Cond.instanceMethod yX2_isSound, Cond.selects RX2 yX2_isSound yX2_isSound, Cond.code yX2_isSound cX2_isSound 3 (some .boolean), Cond.fieldLink RX2 129 "FeatureStore$Serving" "feature" "I", Cond.fieldLink RX2 132 "FeatureStore$Serving" "entity" "I", Cond.fieldLink RX2 135 "FeatureStore$Serving" "time" "I", Cond.methodLink RX2 79 yX2_find, Cond.instanceMethod yX2_find, Cond.selects RX2 yX2_find yX2_find, Cond.code yX2_find cX2_find 6 (some .int), Cond.fieldLink RX2 19 "FeatureStore" "latest" "[LFeatureStore$Row;", Cond.fieldLink RX2 87 "FeatureStore$Row" "older" "LFeatureStore$Row;", Cond.methodLink RX2 83 yX2_placeOf, Cond.static yX2_placeOf, Cond.code yX2_placeOf cX2_placeOf 2 (some .int), Cond.methodLink RX2 156 yX2_numberUnlessExpired, Cond.instanceMethod yX2_numberUnlessExpired, Cond.selects RX2 yX2_numberUnlessExpired yX2_numberUnlessExpired, Cond.code yX2_numberUnlessExpired cX2_numberUnlessExpired 3 (some .int)]
def wsL_isTold_r4 : List Cond := [Cond.fieldLink RX2 9 "FeatureStore" "lifetimes" "[I", Cond.fieldLink RX2 154 "FeatureStore$Row" "feature" "I", Cond.fieldLink RX2 61 "FeatureStore$Row" "number" "I", Cond.methodLink RL 96 yL_copied, Cond.static yL_copied, Cond.code yL_copied cL_copied 6 (some .int), Cond.methodLink RL 115 yL_online, Cond.static yL_online, Cond.codeWith yL_online cL_online 5 (some .int) [(0, 7, 10, 14)], Cond.classLink RL 14 "java/lang/IllegalArgumentException", Cond.methodLink RL 53 yX2_online, Cond.instanceMethod yX2_online, Cond.selects RX2 yX2_online yX2_online, Cond.code yX2_online cX2_online 3 (some .int), Cond.methodLink RX2 31 yX2_requirePair, Cond.static yX2_requirePair, Cond.code yX2_requirePair cX2_requirePair 2 none, Cond.methodLink RX2 39 yX2_requireRange, Cond.static yX2_requireRange, Cond.code yX2_requireRange cX2_requireRange 3 none, Cond.classLink RX2 142 "java/lang/IllegalArgumentException", Cond.initialized "java/lang/IllegalArgumentException", Cond.methodLink RX2 111 yX2_tell, Cond.instanceMethod yX2_tell]
def wsL_isTold_r5 : List Cond := [Cond.selects RX2 yX2_tell yX2_tell, Cond.code yX2_tell cX2_tell 3 (some .int), Cond.fieldLink RX2 22 "FeatureStore" "onlineCopy" "[LFeatureStore$Row;", Cond.fieldLink RX2 35 "FeatureStore" "now" "I", Cond.methodLink RL 72 yL_low, Cond.static yL_low, Cond.code yL_low cL_low 2 (some .int), Cond.methodLink RL 117 yL_join, Cond.static yL_join, Cond.codeWith yL_join cL_join 7 (some .int) [(0, 11, 14, 14)], Cond.methodLink RL 34 yX2_join, Cond.instanceMethod yX2_join, Cond.selects RX2 yX2_join yX2_join, Cond.code yX2_join cX2_join 5 (some .int), Cond.methodLink RL 119 yL_revised, Cond.static yL_revised, Cond.codeWith yL_revised cL_revised 6 (some .int) [(0, 9, 12, 14)], Cond.methodLink RL 47 yX2_revised, Cond.instanceMethod yX2_revised, Cond.selects RX2 yX2_revised yX2_revised, Cond.code yX2_revised cX2_revised 9 (some .int), Cond.methodLink RX2 96 Lib.Math.min.name, Cond.static Lib.Math.min.name, Cond.initialized "java/lang/Math"]
def wsL_isTold_r6 : List Cond := [Cond.code Lib.Math.min.name Lib.Math.min.code 2 (some .int), Cond.methodLink RX2 99 yX2_multiplesBelow, Cond.static yX2_multiplesBelow, Cond.code yX2_multiplesBelow cX2_multiplesBelow 2 (some .int), Cond.methodLink RL 121 yL_areTiles, Cond.static yL_areTiles, Cond.code yL_areTiles cL_areTiles 17 (some .boolean), Cond.methodLink RL 100 yL_window, Cond.static yL_window, Cond.codeWith yL_window cL_window 7 (some .int) [(0, 11, 14, 14)], Cond.methodLink RL 37 yX2_window, Cond.instanceMethod yX2_window, Cond.selects RX2 yX2_window yX2_window, Cond.code yX2_window cX2_window 7 (some .int), Cond.methodLink RL 102 yL_greatestTile, Cond.static yL_greatestTile, Cond.codeWith yL_greatestTile cL_greatestTile 6 (some .int) [(0, 9, 12, 14)], Cond.methodLink RL 40 yX2_greatestTile, Cond.instanceMethod yX2_greatestTile, Cond.selects RX2 yX2_greatestTile yX2_greatestTile, Cond.code yX2_greatestTile cX2_greatestTile 9 (some .int), Cond.methodLink RX2 91 Lib.Math.max.name, Cond.static Lib.Math.max.name, Cond.code Lib.Math.max.name Lib.Math.max.code 2 (some .int)]
def wsL_isTold_r7 : List Cond := [Cond.methodLink RL 105 yL_tiles, Cond.static yL_tiles, Cond.codeWith yL_tiles cL_tiles 6 (some .int) [(0, 9, 12, 14)], Cond.methodLink RL 44 yX2_tiles, Cond.instanceMethod yX2_tiles, Cond.selects RX2 yX2_tiles yX2_tiles, Cond.code yX2_tiles cX2_tiles 8 (some .int), Cond.methodLink RL 125 yX2_now, Cond.instanceMethod yX2_now, Cond.selects RX2 yX2_now yX2_now, Cond.code yX2_now cX2_now 1 (some .int), Cond.methodLink RL 79 yX2_rows, Cond.instanceMethod yX2_rows, Cond.selects RX2 yX2_rows yX2_rows, Cond.code yX2_rows cX2_rows 1 (some .int), Cond.methodLink RL 128 yX2_lag, Cond.instanceMethod yX2_lag, Cond.selects RX2 yX2_lag yX2_lag, Cond.code yX2_lag cX2_lag 1 (some .int), Cond.fieldLink RX2 102 "FeatureStore" "taken" "I", Cond.methodLink RL 131 yX2_skew, Cond.instanceMethod yX2_skew, Cond.selects RX2 yX2_skew yX2_skew, Cond.code yX2_skew cX2_skew 4 (some .int)]
def wsL_isTold_r8 : List Cond := [Cond.methodLink RL 93 yX2_servings, Cond.instanceMethod yX2_servings, Cond.selects RX2 yX2_servings yX2_servings, Cond.code yX2_servings cX2_servings 1 (some .int), Cond.methodLink RL 134 yX2_unsound, Cond.instanceMethod yX2_unsound, Cond.selects RX2 yX2_unsound yX2_unsound, Cond.code yX2_unsound cX2_unsound 3 (some .int), Cond.methodLink RX2 138 yX2_isSound]
def wsL_isTold : List Cond := .code yL_isTold cL_isTold 21 (some .boolean) :: ((wsL_isTold_r1 ++ (wsL_isTold_r2 ++ (wsL_isTold_r3 ++ (wsL_isTold_r4 ++ (wsL_isTold_r5 ++ (wsL_isTold_r6 ++ (wsL_isTold_r7 ++ wsL_isTold_r8))))))) ++ wsX00 ++ wsX20 ++ wsX10 ++ (vx_atS RX2 151 "java/lang/IndexOutOfBoundsException" ["java/lang/RuntimeException", "java/lang/Exception"]).filter goodWord ++ (vx_atS RX2 146 "java/lang/IllegalArgumentException" ["java/lang/RuntimeException", "java/lang/Exception"]).filter goodWord)
def wsL_law0_r1_a : List Cond := [Cond.classLink RL 9 RX2, Cond.instantiable RX2 9, Cond.initialized RX2, Cond.arrayClass .int, Cond.methodLink RL 137 yX2_init, Cond.instanceMethod yX2_init, Cond.code yX2_init cX2_init 2 none, Cond.methodLink RX2 1 objectInit, Cond.instanceMethod objectInit, Cond.code objectInit ⟨#[0xb1]⟩ 1 none, Cond.fieldLink RX2 9 "FeatureStore" "lifetimes" "[I", Cond.classLink RX2 13 RX0, Cond.fieldLink RX2 15 "FeatureStore" "rows" "[LFeatureStore$Row;", Cond.fieldLink RX2 19 "FeatureStore" "latest" "[LFeatureStore$Row;", Cond.fieldLink RX2 22 "FeatureStore" "onlineCopy" "[LFeatureStore$Row;", Cond.classLink RX2 25 RX1, Cond.fieldLink RX2 27 "FeatureStore" "servings" "[LFeatureStore$Serving;", Cond.methodLink RL 138 yL_isTold, Cond.static yL_isTold, Cond.initialized RL]
def wsL_law0_r1_b : List Cond := [Cond.code yL_isTold cL_isTold 21 (some .boolean)]
def wsL_law0_r1_c : List Cond := [Cond.methodLink RL 107 yL_value, Cond.static yL_value, Cond.codeWith yL_value cL_value 4 (some .int) [(0, 6, 9, 29)]]
def wsL_law0_r1 : List Cond := wsL_law0_r1_a ++ (wsL_law0_r1_b ++ wsL_law0_r1_c)
def wsL_law0_r2 : List Cond := [Cond.classLink RL 29 "java/lang/IndexOutOfBoundsException", Cond.methodLink RL 26 yX2_value, Cond.instanceMethod yX2_value, Cond.selects RX2 yX2_value yX2_value, Cond.code yX2_value cX2_value 2 (some .int), Cond.fieldLink RX2 70 "FeatureStore$Row" "value" "I", Cond.methodLink RX2 66 yX2_requireRow, Cond.instanceMethod yX2_requireRow, Cond.selects RX2 yX2_requireRow yX2_requireRow, Cond.code yX2_requireRow cX2_requireRow 3 (some (.object "FeatureStore$Row")), Cond.classLink RX2 147 "java/lang/IndexOutOfBoundsException", Cond.initialized "java/lang/IndexOutOfBoundsException", Cond.methodLink RX2 105 yX2_rowOrNull, Cond.instanceMethod yX2_rowOrNull, Cond.selects RX2 yX2_rowOrNull yX2_rowOrNull, Cond.code yX2_rowOrNull cX2_rowOrNull 2 (some (.object "FeatureStore$Row")), Cond.fieldLink RX2 44 "FeatureStore" "rowCount" "I", Cond.methodLink RL 109 yL_late, Cond.static yL_late, Cond.codeWith yL_late cL_late 4 (some .int) [(0, 6, 9, 29)], Cond.methodLink RL 31 yX2_late, Cond.instanceMethod yX2_late, Cond.selects RX2 yX2_late yX2_late, Cond.code yX2_late cX2_late 3 (some .int)]
def wsL_law0_r3 : List Cond := [Cond.fieldLink RX2 73 "FeatureStore$Row" "arrival" "I", Cond.fieldLink RX2 76 "FeatureStore$Row" "event" "I", Cond.methodLink RL 66 yL_find, Cond.static yL_find, Cond.code yL_find cL_find 11 (some .int), Cond.methodLink RL 111 yL_served, Cond.static yL_served, Cond.codeWith yL_served cL_served 4 (some .int) [(0, 6, 9, 29)], Cond.methodLink RL 59 yX2_served, Cond.instanceMethod yX2_served, Cond.selects RX2 yX2_served yX2_served, Cond.code yX2_served cX2_served 2 (some .int), Cond.fieldLink RX2 126 "FeatureStore$Serving" "row" "I", Cond.methodLink RX2 122 yX2_requireServing, Cond.instanceMethod yX2_requireServing, Cond.selects RX2 yX2_requireServing yX2_requireServing, Cond.code yX2_requireServing cX2_requireServing 2 (some (.object "FeatureStore$Serving")), Cond.fieldLink RX2 114 "FeatureStore" "servingCount" "I", Cond.methodLink RL 113 yL_isSound, Cond.static yL_isSound, Cond.codeWith yL_isSound cL_isSound 4 (some .int) [(0, 6, 9, 29)], Cond.methodLink RL 62 yX2_isSound, Cond.instanceMethod yX2_isSound, Cond.selects RX2 yX2_isSound yX2_isSound]
def wsL_law0_r4 : List Cond := [Cond.code yX2_isSound cX2_isSound 3 (some .boolean), Cond.fieldLink RX2 129 "FeatureStore$Serving" "feature" "I", Cond.fieldLink RX2 132 "FeatureStore$Serving" "entity" "I", Cond.fieldLink RX2 135 "FeatureStore$Serving" "time" "I", Cond.methodLink RX2 79 yX2_find, Cond.instanceMethod yX2_find, Cond.selects RX2 yX2_find yX2_find, Cond.code yX2_find cX2_find 6 (some .int), Cond.fieldLink RX2 87 "FeatureStore$Row" "older" "LFeatureStore$Row;", Cond.methodLink RX2 83 yX2_placeOf, Cond.static yX2_placeOf, Cond.code yX2_placeOf cX2_placeOf 2 (some .int), Cond.methodLink RX2 156 yX2_numberUnlessExpired, Cond.instanceMethod yX2_numberUnlessExpired, Cond.selects RX2 yX2_numberUnlessExpired yX2_numberUnlessExpired, Cond.code yX2_numberUnlessExpired cX2_numberUnlessExpired 3 (some .int), Cond.fieldLink RX2 154 "FeatureStore$Row" "feature" "I", Cond.fieldLink RX2 61 "FeatureStore$Row" "number" "I", Cond.methodLink RL 96 yL_copied, Cond.static yL_copied, Cond.code yL_copied cL_copied 6 (some .int), Cond.methodLink RL 115 yL_online, Cond.static yL_online, Cond.codeWith yL_online cL_online 5 (some .int) [(0, 7, 10, 14)]]
def wsL_law0_r5 : List Cond := [Cond.classLink RL 14 "java/lang/IllegalArgumentException", Cond.methodLink RL 53 yX2_online, Cond.instanceMethod yX2_online, Cond.selects RX2 yX2_online yX2_online, Cond.code yX2_online cX2_online 3 (some .int), Cond.methodLink RX2 31 yX2_requirePair, Cond.static yX2_requirePair, Cond.code yX2_requirePair cX2_requirePair 2 none, Cond.methodLink RX2 39 yX2_requireRange, Cond.static yX2_requireRange, Cond.code yX2_requireRange cX2_requireRange 3 none, Cond.classLink RX2 142 "java/lang/IllegalArgumentException", Cond.initialized "java/lang/IllegalArgumentException", Cond.methodLink RX2 111 yX2_tell, Cond.instanceMethod yX2_tell, Cond.selects RX2 yX2_tell yX2_tell, Cond.code yX2_tell cX2_tell 3 (some .int), Cond.fieldLink RX2 35 "FeatureStore" "now" "I", Cond.methodLink RL 72 yL_low, Cond.static yL_low, Cond.code yL_low cL_low 2 (some .int), Cond.methodLink RL 117 yL_join, Cond.static yL_join, Cond.codeWith yL_join cL_join 7 (some .int) [(0, 11, 14, 14)]]
def wsL_law0_r6 : List Cond := [Cond.methodLink RL 34 yX2_join, Cond.instanceMethod yX2_join, Cond.selects RX2 yX2_join yX2_join, Cond.code yX2_join cX2_join 5 (some .int), Cond.methodLink RL 119 yL_revised, Cond.static yL_revised, Cond.codeWith yL_revised cL_revised 6 (some .int) [(0, 9, 12, 14)], Cond.methodLink RL 47 yX2_revised, Cond.instanceMethod yX2_revised, Cond.selects RX2 yX2_revised yX2_revised, Cond.code yX2_revised cX2_revised 9 (some .int), Cond.methodLink RX2 96 Lib.Math.min.name, Cond.static Lib.Math.min.name, Cond.initialized "java/lang/Math", Cond.code Lib.Math.min.name Lib.Math.min.code 2 (some .int), Cond.methodLink RX2 99 yX2_multiplesBelow, Cond.static yX2_multiplesBelow, Cond.code yX2_multiplesBelow cX2_multiplesBelow 2 (some .int), Cond.methodLink RL 121 yL_areTiles, Cond.static yL_areTiles, Cond.code yL_areTiles cL_areTiles 17 (some .boolean), Cond.methodLink RL 100 yL_window, Cond.static yL_window, Cond.codeWith yL_window cL_window 7 (some .int) [(0, 11, 14, 14)]]
def wsL_law0_r7 : List Cond := [Cond.methodLink RL 37 yX2_window, Cond.instanceMethod yX2_window, Cond.selects RX2 yX2_window yX2_window, Cond.code yX2_window cX2_window 7 (some .int), Cond.methodLink RL 102 yL_greatestTile, Cond.static yL_greatestTile, Cond.codeWith yL_greatestTile cL_greatestTile 6 (some .int) [(0, 9, 12, 14)], Cond.methodLink RL 40 yX2_greatestTile, Cond.instanceMethod yX2_greatestTile, Cond.selects RX2 yX2_greatestTile yX2_greatestTile, Cond.code yX2_greatestTile cX2_greatestTile 9 (some .int), Cond.methodLink RX2 91 Lib.Math.max.name, Cond.static Lib.Math.max.name, Cond.code Lib.Math.max.name Lib.Math.max.code 2 (some .int), Cond.methodLink RL 105 yL_tiles, Cond.static yL_tiles, Cond.codeWith yL_tiles cL_tiles 6 (some .int) [(0, 9, 12, 14)], Cond.methodLink RL 44 yX2_tiles, Cond.instanceMethod yX2_tiles, Cond.selects RX2 yX2_tiles yX2_tiles, Cond.code yX2_tiles cX2_tiles 8 (some .int), Cond.methodLink RL 125 yX2_now, Cond.instanceMethod yX2_now, Cond.selects RX2 yX2_now yX2_now]
def wsL_law0_r8 : List Cond := [Cond.code yX2_now cX2_now 1 (some .int), Cond.methodLink RL 79 yX2_rows, Cond.instanceMethod yX2_rows, Cond.selects RX2 yX2_rows yX2_rows, Cond.code yX2_rows cX2_rows 1 (some .int), Cond.methodLink RL 128 yX2_lag, Cond.instanceMethod yX2_lag, Cond.selects RX2 yX2_lag yX2_lag, Cond.code yX2_lag cX2_lag 1 (some .int), Cond.fieldLink RX2 102 "FeatureStore" "taken" "I", Cond.methodLink RL 131 yX2_skew, Cond.instanceMethod yX2_skew, Cond.selects RX2 yX2_skew yX2_skew, Cond.code yX2_skew cX2_skew 4 (some .int), Cond.methodLink RL 93 yX2_servings, Cond.instanceMethod yX2_servings, Cond.selects RX2 yX2_servings yX2_servings, Cond.code yX2_servings cX2_servings 1 (some .int), Cond.methodLink RL 134 yX2_unsound, Cond.instanceMethod yX2_unsound, Cond.selects RX2 yX2_unsound yX2_unsound, Cond.code yX2_unsound cX2_unsound 3 (some .int), Cond.methodLink RX2 138 yX2_isSound, Cond.methodLink RL 142 yL_cell]
def wsL_law0_r9_a : List Cond := [Cond.static yL_cell, Cond.code yL_cell cL_cell 2 (some .int), Cond.constant RL 7 (1237309411), Cond.methodLink RL 146 yL_keeps, Cond.static yL_keeps]
def wsL_law0_r9_b : List Cond := [Cond.code yL_keeps cL_keeps 17 (some .boolean)]
def wsL_law0_r9_c : List Cond := [Cond.constant RL 75 (100001), Cond.methodLink RL 76 yL_arrive, Cond.static yL_arrive, Cond.codeWith yL_arrive cL_arrive 7 (some .int) [(0, 11, 14, 14)], Cond.methodLink RL 8 yX2_arrive, Cond.instanceMethod yX2_arrive, Cond.selects RX2 yX2_arrive yX2_arrive, Cond.code yX2_arrive cX2_arrive 6 (some .int), Cond.classLink RX2 47 "java/lang/IllegalStateException", Cond.initialized "java/lang/IllegalStateException", Cond.constant RX2 43 (100000), Cond.instantiable RX0 7, Cond.initialized RX0, Cond.methodLink RX2 54 yX0_init, Cond.instanceMethod yX0_init, Cond.code yX0_init cX0_init 7 none, Cond.methodLink RX0 1 objectInit, Cond.fieldLink RX0 7 "FeatureStore$Row" "number" "I"]
def wsL_law0_r9 : List Cond := wsL_law0_r9_a ++ (wsL_law0_r9_b ++ wsL_law0_r9_c)
def wsL_law0_r10 : List Cond := [Cond.fieldLink RX0 13 "FeatureStore$Row" "feature" "I", Cond.fieldLink RX0 16 "FeatureStore$Row" "entity" "I", Cond.fieldLink RX0 19 "FeatureStore$Row" "event" "I", Cond.fieldLink RX0 22 "FeatureStore$Row" "arrival" "I", Cond.fieldLink RX0 25 "FeatureStore$Row" "value" "I", Cond.methodLink RX2 57 yX2_putInChain, Cond.instanceMethod yX2_putInChain, Cond.selects RX2 yX2_putInChain yX2_putInChain, Cond.code yX2_putInChain cX2_putInChain 5 none, Cond.fieldLink RX2 155 "FeatureStore$Row" "entity" "I", Cond.methodLink RL 83 yL_pass, Cond.static yL_pass, Cond.codeWith yL_pass cL_pass 4 (some .int) [(0, 6, 9, 14), (0, 6, 13, 20)], Cond.classLink RL 20 "java/lang/IllegalStateException", Cond.methodLink RL 16 yX2_pass, Cond.instanceMethod yX2_pass, Cond.selects RX2 yX2_pass yX2_pass, Cond.code yX2_pass cX2_pass 2 (some .int), Cond.methodLink RL 86 yL_setLifetime, Cond.static yL_setLifetime, Cond.codeWith yL_setLifetime cL_setLifetime 5 (some .int) [(0, 7, 10, 14)], Cond.methodLink RL 22 yX2_setLifetime, Cond.instanceMethod yX2_setLifetime, Cond.selects RX2 yX2_setLifetime yX2_setLifetime]
def wsL_law0_r11 : List Cond := [Cond.code yX2_setLifetime cX2_setLifetime 4 (some .int), Cond.methodLink RL 89 yL_take, Cond.static yL_take, Cond.codeWith yL_take cL_take 4 (some .int) [(0, 6, 9, 14)], Cond.methodLink RL 50 yX2_take, Cond.instanceMethod yX2_take, Cond.selects RX2 yX2_take yX2_take, Cond.code yX2_take cX2_take 4 (some .int), Cond.methodLink RX2 108 yX2_takeIn, Cond.instanceMethod yX2_takeIn, Cond.selects RX2 yX2_takeIn yX2_takeIn, Cond.code yX2_takeIn cX2_takeIn 4 none, Cond.methodLink RL 91 yL_serve, Cond.static yL_serve, Cond.codeWith yL_serve cL_serve 5 (some .int) [(0, 7, 10, 14)], Cond.methodLink RL 56 yX2_serve, Cond.instanceMethod yX2_serve, Cond.selects RX2 yX2_serve yX2_serve, Cond.code yX2_serve cX2_serve 4 (some .int), Cond.instantiable RX1 4, Cond.initialized RX1, Cond.methodLink RX2 119 yX1_init, Cond.instanceMethod yX1_init, Cond.code yX1_init cX1_init 5 none]
def wsL_law0_r12 : List Cond := [Cond.methodLink RX1 1 objectInit, Cond.fieldLink RX1 7 "FeatureStore$Serving" "feature" "I", Cond.fieldLink RX1 13 "FeatureStore$Serving" "entity" "I", Cond.fieldLink RX1 16 "FeatureStore$Serving" "time" "I", Cond.fieldLink RX1 19 "FeatureStore$Serving" "row" "I"]
def wsL_law0 : List Cond := (wsL_law0_r1 ++ (wsL_law0_r2 ++ (wsL_law0_r3 ++ (wsL_law0_r4 ++ (wsL_law0_r5 ++ (wsL_law0_r6 ++ (wsL_law0_r7 ++ (wsL_law0_r8 ++ (wsL_law0_r9 ++ (wsL_law0_r10 ++ (wsL_law0_r11 ++ wsL_law0_r12))))))))))) ++ wsX20 ++ wsX00 ++ wsX10 ++ ([] : List Cond)
def wsL_law : List Cond := wsL_law0 ++ (vx_atS RX2 151 "java/lang/IndexOutOfBoundsException" ["java/lang/RuntimeException", "java/lang/Exception"]).filter goodWord ++ (vx_atS RX2 146 "java/lang/IllegalArgumentException" ["java/lang/RuntimeException", "java/lang/Exception"]).filter goodWord ++ (vx_atS RX2 51 "java/lang/IllegalStateException" ["java/lang/RuntimeException", "java/lang/Exception"]).filter goodWord
theorem inX3 : ∀ w ∈ wsX30, w ∈ lw_tbl := by decide +kernel
theorem inJ9 : ∀ w ∈ wsJ90, w ∈ lw_tbl := by decide +kernel
theorem inJ0 : ∀ w ∈ wsJ00, w ∈ lw_tbl := by decide +kernel
theorem dX0_init_0 : decode cX0_init 0 = .ok (.aload_n 0, 1) := by decide +kernel
theorem dX0_init_1 : decode cX0_init 1 = .ok (.invokespecial 1, 3) := by decide +kernel
theorem dX0_init_4 : decode cX0_init 4 = .ok (.aload_n 0, 1) := by decide +kernel
theorem dX0_init_5 : decode cX0_init 5 = .ok (.iload_n 1, 1) := by decide +kernel
theorem dX0_init_6 : decode cX0_init 6 = .ok (.putfield 7, 3) := by decide +kernel
theorem dX0_init_9 : decode cX0_init 9 = .ok (.aload_n 0, 1) := by decide +kernel
theorem dX0_init_10 : decode cX0_init 10 = .ok (.iload_n 2, 1) := by decide +kernel
theorem dX0_init_11 : decode cX0_init 11 = .ok (.putfield 13, 3) := by decide +kernel
theorem dX0_init_14 : decode cX0_init 14 = .ok (.aload_n 0, 1) := by decide +kernel
theorem dX0_init_15 : decode cX0_init 15 = .ok (.iload_n 3, 1) := by decide +kernel
theorem dX0_init_16 : decode cX0_init 16 = .ok (.putfield 16, 3) := by decide +kernel
theorem dX0_init_19 : decode cX0_init 19 = .ok (.aload_n 0, 1) := by decide +kernel
theorem dX0_init_20 : decode cX0_init 20 = .ok (.iload 4, 2) := by decide +kernel
theorem dX0_init_22 : decode cX0_init 22 = .ok (.putfield 19, 3) := by decide +kernel
theorem dX0_init_25 : decode cX0_init 25 = .ok (.aload_n 0, 1) := by decide +kernel
theorem dX0_init_26 : decode cX0_init 26 = .ok (.iload 5, 2) := by decide +kernel
theorem dX0_init_28 : decode cX0_init 28 = .ok (.putfield 22, 3) := by decide +kernel
theorem dX0_init_31 : decode cX0_init 31 = .ok (.aload_n 0, 1) := by decide +kernel
theorem dX0_init_32 : decode cX0_init 32 = .ok (.iload 6, 2) := by decide +kernel
theorem dX0_init_34 : decode cX0_init 34 = .ok (.putfield 25, 3) := by decide +kernel
theorem dX0_init_37 : decode cX0_init 37 = .ok (.return_, 1) := by decide +kernel
theorem dX1_init_0 : decode cX1_init 0 = .ok (.aload_n 0, 1) := by decide +kernel
theorem dX1_init_1 : decode cX1_init 1 = .ok (.invokespecial 1, 3) := by decide +kernel
theorem dX1_init_4 : decode cX1_init 4 = .ok (.aload_n 0, 1) := by decide +kernel
theorem dX1_init_5 : decode cX1_init 5 = .ok (.iload_n 1, 1) := by decide +kernel
theorem dX1_init_6 : decode cX1_init 6 = .ok (.putfield 7, 3) := by decide +kernel
theorem dX1_init_9 : decode cX1_init 9 = .ok (.aload_n 0, 1) := by decide +kernel
theorem dX1_init_10 : decode cX1_init 10 = .ok (.iload_n 2, 1) := by decide +kernel
theorem dX1_init_11 : decode cX1_init 11 = .ok (.putfield 13, 3) := by decide +kernel
theorem dX1_init_14 : decode cX1_init 14 = .ok (.aload_n 0, 1) := by decide +kernel
theorem dX1_init_15 : decode cX1_init 15 = .ok (.iload_n 3, 1) := by decide +kernel
theorem dX1_init_16 : decode cX1_init 16 = .ok (.putfield 16, 3) := by decide +kernel
theorem dX1_init_19 : decode cX1_init 19 = .ok (.aload_n 0, 1) := by decide +kernel
theorem dX1_init_20 : decode cX1_init 20 = .ok (.iload 4, 2) := by decide +kernel
theorem dX1_init_22 : decode cX1_init 22 = .ok (.putfield 19, 3) := by decide +kernel
theorem dX1_init_25 : decode cX1_init 25 = .ok (.return_, 1) := by decide +kernel
theorem dX2_init_0 : decode cX2_init 0 = .ok (.aload_n 0, 1) := by decide +kernel
theorem dX2_init_1 : decode cX2_init 1 = .ok (.invokespecial 1, 3) := by decide +kernel
theorem dX2_init_4 : decode cX2_init 4 = .ok (.aload_n 0, 1) := by decide +kernel
theorem dX2_init_5 : decode cX2_init 5 = .ok (.bipush 6, 2) := by decide +kernel
theorem dX2_init_7 : decode cX2_init 7 = .ok (.newarray .int, 2) := by decide +kernel
theorem dX2_init_9 : decode cX2_init 9 = .ok (.putfield 9, 3) := by decide +kernel
theorem dX2_init_12 : decode cX2_init 12 = .ok (.iconst 0, 1) := by decide +kernel
theorem dX2_init_13 : decode cX2_init 13 = .ok (.istore_n 1, 1) := by decide +kernel
theorem dX2_init_14 : decode cX2_init 14 = .ok (.iload_n 1, 1) := by decide +kernel
theorem dX2_init_15 : decode cX2_init 15 = .ok (.bipush 6, 2) := by decide +kernel
theorem dX2_init_17 : decode cX2_init 17 = .ok (.if_icmp .ge 18, 3) := by decide +kernel
theorem dX2_init_20 : decode cX2_init 20 = .ok (.aload_n 0, 1) := by decide +kernel
theorem dX2_init_21 : decode cX2_init 21 = .ok (.getfield 9, 3) := by decide +kernel
theorem dX2_init_24 : decode cX2_init 24 = .ok (.iload_n 1, 1) := by decide +kernel
theorem dX2_init_25 : decode cX2_init 25 = .ok (.sipush 10000, 3) := by decide +kernel
theorem dX2_init_28 : decode cX2_init 28 = .ok (.iastore, 1) := by decide +kernel
theorem dX2_init_29 : decode cX2_init 29 = .ok (.iinc 1 1, 3) := by decide +kernel
theorem dX2_init_32 : decode cX2_init 32 = .ok (.goto (-18), 3) := by decide +kernel
theorem dX2_init_35 : decode cX2_init 35 = .ok (.aload_n 0, 1) := by decide +kernel
theorem dX2_init_36 : decode cX2_init 36 = .ok (.sipush 200, 3) := by decide +kernel
theorem dX2_init_39 : decode cX2_init 39 = .ok (.anewarray 13, 3) := by decide +kernel
theorem dX2_init_42 : decode cX2_init 42 = .ok (.putfield 15, 3) := by decide +kernel
theorem dX2_init_45 : decode cX2_init 45 = .ok (.aload_n 0, 1) := by decide +kernel
theorem dX2_init_46 : decode cX2_init 46 = .ok (.bipush 60, 2) := by decide +kernel
theorem dX2_init_48 : decode cX2_init 48 = .ok (.anewarray 13, 3) := by decide +kernel
theorem dX2_init_51 : decode cX2_init 51 = .ok (.putfield 19, 3) := by decide +kernel
theorem dX2_init_54 : decode cX2_init 54 = .ok (.aload_n 0, 1) := by decide +kernel
theorem dX2_init_55 : decode cX2_init 55 = .ok (.bipush 60, 2) := by decide +kernel
theorem dX2_init_57 : decode cX2_init 57 = .ok (.anewarray 13, 3) := by decide +kernel
theorem dX2_init_60 : decode cX2_init 60 = .ok (.putfield 22, 3) := by decide +kernel
theorem dX2_init_63 : decode cX2_init 63 = .ok (.aload_n 0, 1) := by decide +kernel
theorem dX2_init_64 : decode cX2_init 64 = .ok (.sipush 200, 3) := by decide +kernel
theorem dX2_init_67 : decode cX2_init 67 = .ok (.anewarray 25, 3) := by decide +kernel
theorem dX2_init_70 : decode cX2_init 70 = .ok (.putfield 27, 3) := by decide +kernel
theorem dX2_init_73 : decode cX2_init 73 = .ok (.return_, 1) := by decide +kernel
set_option maxRecDepth 20000 in
theorem ggX2_arrive_X2_requirePair : GoodIn wsX2_arrive wsX2_requirePair := goodIn_ca (goodIn_r _ [14, 15, 16, 13, 17, 18, 19] (by decide +kernel) (by decide +kernel)) (goodIn_sub (fun _ h => List.mem_cons_of_mem _ (List.mem_append_right _ h)) (by decide +kernel))
set_option maxRecDepth 20000 in
theorem gX2_arrive_X2_requirePair : GoodIn wsX2_arrive (va_wsS RX2 31 yX2_requirePair wsX2_requirePair) := goodIn_app (goodIn_of _ (by decide +kernel)) ggX2_arrive_X2_requirePair
set_option maxRecDepth 20000 in
theorem ggX2_arrive_X2_requireRange : GoodIn wsX2_arrive wsX2_requireRange := goodIn_ca (goodIn_r _ [17, 18, 19] (by decide +kernel) (by decide +kernel)) (goodIn_sub (fun _ h => List.mem_cons_of_mem _ (List.mem_append_right _ h)) (by decide +kernel))
set_option maxRecDepth 20000 in
theorem gX2_arrive_X2_requireRange : GoodIn wsX2_arrive (va_wsS RX2 39 yX2_requireRange wsX2_requireRange) := goodIn_app (goodIn_of _ (by decide +kernel)) ggX2_arrive_X2_requireRange
set_option maxRecDepth 20000 in
theorem ggX2_arrive_X0_init : GoodIn wsX2_arrive wsX0_init := goodIn_r _ [22, 23, 24, 25, 26, 27, 28, 29, 30, 31, 53, 54, 55, 56, 57, 58, 59] (by decide +kernel) (by decide +kernel)
set_option maxRecDepth 20000 in
theorem gX2_arrive_X0_init : GoodIn wsX2_arrive (wsX0_init) := ggX2_arrive_X0_init
set_option maxRecDepth 20000 in
theorem ggX2_arrive_X2_putInChain : GoodIn wsX2_arrive wsX2_putInChain := goodIn_r _ [35, 36, 37, 38, 39, 40, 41, 42, 13, 43, 53, 54, 55, 56, 57, 58, 59, 44, 45, 46, 47, 48, 49, 50, 51, 52] (by decide +kernel) (by decide +kernel)
set_option maxRecDepth 20000 in
theorem gX2_arrive_X2_putInChain : GoodIn wsX2_arrive (wsV RX2 57 RX2 yX2_putInChain wsX2_putInChain) := goodIn_app (goodIn_of _ (by decide +kernel)) ggX2_arrive_X2_putInChain
theorem dX2_arrive_0 : decode cX2_arrive 0 = .ok (.iload_n 1, 1) := by decide +kernel
theorem dX2_arrive_1 : decode cX2_arrive 1 = .ok (.iload_n 2, 1) := by decide +kernel
theorem dX2_arrive_2 : decode cX2_arrive 2 = .ok (.invokestatic 31, 3) := by decide +kernel
theorem dX2_arrive_5 : decode cX2_arrive 5 = .ok (.iload_n 3, 1) := by decide +kernel
theorem dX2_arrive_6 : decode cX2_arrive 6 = .ok (.iconst 0, 1) := by decide +kernel
theorem dX2_arrive_7 : decode cX2_arrive 7 = .ok (.aload_n 0, 1) := by decide +kernel
theorem dX2_arrive_8 : decode cX2_arrive 8 = .ok (.getfield 35, 3) := by decide +kernel
theorem dX2_arrive_11 : decode cX2_arrive 11 = .ok (.invokestatic 39, 3) := by decide +kernel
theorem dX2_arrive_14 : decode cX2_arrive 14 = .ok (.iload 4, 2) := by decide +kernel
theorem dX2_arrive_16 : decode cX2_arrive 16 = .ok (.iconst 0, 1) := by decide +kernel
theorem dX2_arrive_17 : decode cX2_arrive 17 = .ok (.ldc 43, 2) := by decide +kernel
theorem dX2_arrive_19 : decode cX2_arrive 19 = .ok (.invokestatic 39, 3) := by decide +kernel
theorem dX2_arrive_22 : decode cX2_arrive 22 = .ok (.aload_n 0, 1) := by decide +kernel
theorem dX2_arrive_23 : decode cX2_arrive 23 = .ok (.getfield 44, 3) := by decide +kernel
theorem dX2_arrive_26 : decode cX2_arrive 26 = .ok (.sipush 200, 3) := by decide +kernel
theorem dX2_arrive_29 : decode cX2_arrive 29 = .ok (.if_icmp .lt 13, 3) := by decide +kernel
theorem dX2_arrive_32 : decode cX2_arrive 32 = .ok (.new 47, 3) := by decide +kernel
theorem dX2_arrive_35 : decode cX2_arrive 35 = .ok (.dup, 1) := by decide +kernel
theorem dX2_arrive_36 : decode cX2_arrive 36 = .ok (.ldc 49, 2) := by decide +kernel
theorem dX2_arrive_38 : decode cX2_arrive 38 = .ok (.invokespecial 51, 3) := by decide +kernel
theorem dX2_arrive_41 : decode cX2_arrive 41 = .ok (.athrow, 1) := by decide +kernel
theorem dX2_arrive_42 : decode cX2_arrive 42 = .ok (.new 13, 3) := by decide +kernel
theorem dX2_arrive_45 : decode cX2_arrive 45 = .ok (.dup, 1) := by decide +kernel
theorem dX2_arrive_46 : decode cX2_arrive 46 = .ok (.aload_n 0, 1) := by decide +kernel
theorem dX2_arrive_47 : decode cX2_arrive 47 = .ok (.getfield 44, 3) := by decide +kernel
theorem dX2_arrive_50 : decode cX2_arrive 50 = .ok (.iload_n 1, 1) := by decide +kernel
theorem dX2_arrive_51 : decode cX2_arrive 51 = .ok (.iload_n 2, 1) := by decide +kernel
theorem dX2_arrive_52 : decode cX2_arrive 52 = .ok (.iload_n 3, 1) := by decide +kernel
theorem dX2_arrive_53 : decode cX2_arrive 53 = .ok (.aload_n 0, 1) := by decide +kernel
theorem dX2_arrive_54 : decode cX2_arrive 54 = .ok (.getfield 35, 3) := by decide +kernel
theorem dX2_arrive_57 : decode cX2_arrive 57 = .ok (.iload 4, 2) := by decide +kernel
theorem dX2_arrive_59 : decode cX2_arrive 59 = .ok (.invokespecial 54, 3) := by decide +kernel
theorem dX2_arrive_62 : decode cX2_arrive 62 = .ok (.astore 5, 2) := by decide +kernel
theorem dX2_arrive_64 : decode cX2_arrive 64 = .ok (.aload_n 0, 1) := by decide +kernel
theorem dX2_arrive_65 : decode cX2_arrive 65 = .ok (.getfield 15, 3) := by decide +kernel
theorem dX2_arrive_68 : decode cX2_arrive 68 = .ok (.aload_n 0, 1) := by decide +kernel
theorem dX2_arrive_69 : decode cX2_arrive 69 = .ok (.getfield 44, 3) := by decide +kernel
theorem dX2_arrive_72 : decode cX2_arrive 72 = .ok (.aload 5, 2) := by decide +kernel
theorem dX2_arrive_74 : decode cX2_arrive 74 = .ok (.aastore, 1) := by decide +kernel
theorem dX2_arrive_75 : decode cX2_arrive 75 = .ok (.aload_n 0, 1) := by decide +kernel
theorem dX2_arrive_76 : decode cX2_arrive 76 = .ok (.dup, 1) := by decide +kernel
theorem dX2_arrive_77 : decode cX2_arrive 77 = .ok (.getfield 44, 3) := by decide +kernel
theorem dX2_arrive_80 : decode cX2_arrive 80 = .ok (.iconst 1, 1) := by decide +kernel
theorem dX2_arrive_81 : decode cX2_arrive 81 = .ok (.iadd, 1) := by decide +kernel
theorem dX2_arrive_82 : decode cX2_arrive 82 = .ok (.putfield 44, 3) := by decide +kernel
theorem dX2_arrive_85 : decode cX2_arrive 85 = .ok (.aload_n 0, 1) := by decide +kernel
theorem dX2_arrive_86 : decode cX2_arrive 86 = .ok (.aload 5, 2) := by decide +kernel
theorem dX2_arrive_88 : decode cX2_arrive 88 = .ok (.invokevirtual 57, 3) := by decide +kernel
theorem dX2_arrive_91 : decode cX2_arrive 91 = .ok (.aload 5, 2) := by decide +kernel
theorem dX2_arrive_93 : decode cX2_arrive 93 = .ok (.getfield 61, 3) := by decide +kernel
theorem dX2_arrive_96 : decode cX2_arrive 96 = .ok (.ireturn, 1) := by decide +kernel
set_option maxRecDepth 20000 in
theorem ggX2_pass_X2_requireRange : GoodIn wsX2_pass wsX2_requireRange := goodIn_ca (goodIn_r _ [7, 8, 9] (by decide +kernel) (by decide +kernel)) (goodIn_sub (fun _ h => List.mem_cons_of_mem _ (List.mem_append_right _ h)) (by decide +kernel))
set_option maxRecDepth 20000 in
theorem gX2_pass_X2_requireRange : GoodIn wsX2_pass (va_wsS RX2 39 yX2_requireRange wsX2_requireRange) := goodIn_app (goodIn_of _ (by decide +kernel)) ggX2_pass_X2_requireRange
theorem dX2_pass_0 : decode cX2_pass 0 = .ok (.iload_n 1, 1) := by decide +kernel
theorem dX2_pass_1 : decode cX2_pass 1 = .ok (.iconst 1, 1) := by decide +kernel
theorem dX2_pass_2 : decode cX2_pass 2 = .ok (.sipush 10000, 3) := by decide +kernel
theorem dX2_pass_5 : decode cX2_pass 5 = .ok (.invokestatic 39, 3) := by decide +kernel
theorem dX2_pass_8 : decode cX2_pass 8 = .ok (.iload_n 1, 1) := by decide +kernel
theorem dX2_pass_9 : decode cX2_pass 9 = .ok (.sipush 10000, 3) := by decide +kernel
theorem dX2_pass_12 : decode cX2_pass 12 = .ok (.aload_n 0, 1) := by decide +kernel
theorem dX2_pass_13 : decode cX2_pass 13 = .ok (.getfield 35, 3) := by decide +kernel
theorem dX2_pass_16 : decode cX2_pass 16 = .ok (.isub, 1) := by decide +kernel
theorem dX2_pass_17 : decode cX2_pass 17 = .ok (.if_icmp .le 13, 3) := by decide +kernel
theorem dX2_pass_20 : decode cX2_pass 20 = .ok (.new 47, 3) := by decide +kernel
theorem dX2_pass_23 : decode cX2_pass 23 = .ok (.dup, 1) := by decide +kernel
theorem dX2_pass_24 : decode cX2_pass 24 = .ok (.ldc 64, 2) := by decide +kernel
theorem dX2_pass_26 : decode cX2_pass 26 = .ok (.invokespecial 51, 3) := by decide +kernel
theorem dX2_pass_29 : decode cX2_pass 29 = .ok (.athrow, 1) := by decide +kernel
theorem dX2_pass_30 : decode cX2_pass 30 = .ok (.aload_n 0, 1) := by decide +kernel
theorem dX2_pass_31 : decode cX2_pass 31 = .ok (.dup, 1) := by decide +kernel
theorem dX2_pass_32 : decode cX2_pass 32 = .ok (.getfield 35, 3) := by decide +kernel
theorem dX2_pass_35 : decode cX2_pass 35 = .ok (.iload_n 1, 1) := by decide +kernel
theorem dX2_pass_36 : decode cX2_pass 36 = .ok (.iadd, 1) := by decide +kernel
theorem dX2_pass_37 : decode cX2_pass 37 = .ok (.putfield 35, 3) := by decide +kernel
theorem dX2_pass_40 : decode cX2_pass 40 = .ok (.aload_n 0, 1) := by decide +kernel
theorem dX2_pass_41 : decode cX2_pass 41 = .ok (.getfield 35, 3) := by decide +kernel
theorem dX2_pass_44 : decode cX2_pass 44 = .ok (.ireturn, 1) := by decide +kernel
set_option maxRecDepth 20000 in
theorem ggX2_setLifetime_X2_requireRange : GoodIn wsX2_setLifetime wsX2_requireRange := goodIn_ca (goodIn_r _ [5, 6, 7] (by decide +kernel) (by decide +kernel)) (goodIn_sub (fun _ h => List.mem_cons_of_mem _ (List.mem_append_right _ h)) (by decide +kernel))
set_option maxRecDepth 20000 in
theorem gX2_setLifetime_X2_requireRange : GoodIn wsX2_setLifetime (va_wsS RX2 39 yX2_requireRange wsX2_requireRange) := goodIn_app (goodIn_of _ (by decide +kernel)) ggX2_setLifetime_X2_requireRange
theorem dX2_setLifetime_0 : decode cX2_setLifetime 0 = .ok (.iload_n 1, 1) := by decide +kernel
theorem dX2_setLifetime_1 : decode cX2_setLifetime 1 = .ok (.iconst 0, 1) := by decide +kernel
theorem dX2_setLifetime_2 : decode cX2_setLifetime 2 = .ok (.iconst 5, 1) := by decide +kernel
theorem dX2_setLifetime_3 : decode cX2_setLifetime 3 = .ok (.invokestatic 39, 3) := by decide +kernel
theorem dX2_setLifetime_6 : decode cX2_setLifetime 6 = .ok (.iload_n 2, 1) := by decide +kernel
theorem dX2_setLifetime_7 : decode cX2_setLifetime 7 = .ok (.iconst 0, 1) := by decide +kernel
theorem dX2_setLifetime_8 : decode cX2_setLifetime 8 = .ok (.sipush 10000, 3) := by decide +kernel
theorem dX2_setLifetime_11 : decode cX2_setLifetime 11 = .ok (.invokestatic 39, 3) := by decide +kernel
theorem dX2_setLifetime_14 : decode cX2_setLifetime 14 = .ok (.aload_n 0, 1) := by decide +kernel
theorem dX2_setLifetime_15 : decode cX2_setLifetime 15 = .ok (.getfield 9, 3) := by decide +kernel
theorem dX2_setLifetime_18 : decode cX2_setLifetime 18 = .ok (.iload_n 1, 1) := by decide +kernel
theorem dX2_setLifetime_19 : decode cX2_setLifetime 19 = .ok (.iaload, 1) := by decide +kernel
theorem dX2_setLifetime_20 : decode cX2_setLifetime 20 = .ok (.istore_n 3, 1) := by decide +kernel
theorem dX2_setLifetime_21 : decode cX2_setLifetime 21 = .ok (.aload_n 0, 1) := by decide +kernel
theorem dX2_setLifetime_22 : decode cX2_setLifetime 22 = .ok (.getfield 9, 3) := by decide +kernel
theorem dX2_setLifetime_25 : decode cX2_setLifetime 25 = .ok (.iload_n 1, 1) := by decide +kernel
theorem dX2_setLifetime_26 : decode cX2_setLifetime 26 = .ok (.iload_n 2, 1) := by decide +kernel
theorem dX2_setLifetime_27 : decode cX2_setLifetime 27 = .ok (.iastore, 1) := by decide +kernel
theorem dX2_setLifetime_28 : decode cX2_setLifetime 28 = .ok (.iload_n 3, 1) := by decide +kernel
theorem dX2_setLifetime_29 : decode cX2_setLifetime 29 = .ok (.ireturn, 1) := by decide +kernel
theorem dX2_now_0 : decode cX2_now 0 = .ok (.aload_n 0, 1) := by decide +kernel
theorem dX2_now_1 : decode cX2_now 1 = .ok (.getfield 35, 3) := by decide +kernel
theorem dX2_now_4 : decode cX2_now 4 = .ok (.ireturn, 1) := by decide +kernel
theorem dX2_rows_0 : decode cX2_rows 0 = .ok (.aload_n 0, 1) := by decide +kernel
theorem dX2_rows_1 : decode cX2_rows 1 = .ok (.getfield 44, 3) := by decide +kernel
theorem dX2_rows_4 : decode cX2_rows 4 = .ok (.ireturn, 1) := by decide +kernel
set_option maxRecDepth 20000 in
theorem ggX2_value_X2_requireRow : GoodIn wsX2_value wsX2_requireRow := goodIn_ca (goodIn_r _ [6, 7, 8, 9, 10, 11, 5, 12, 13, 14, 22, 23, 24, 25, 26, 27, 28, 29, 30] (by decide +kernel) (by decide +kernel)) (goodIn_sub (fun _ h => List.mem_cons_of_mem _ (List.mem_append_right _ h)) (by decide +kernel))
set_option maxRecDepth 20000 in
theorem gX2_value_X2_requireRow : GoodIn wsX2_value (wsV RX2 66 RX2 yX2_requireRow wsX2_requireRow) := goodIn_app (goodIn_of _ (by decide +kernel)) ggX2_value_X2_requireRow
theorem dX2_value_0 : decode cX2_value 0 = .ok (.aload_n 0, 1) := by decide +kernel
theorem dX2_value_1 : decode cX2_value 1 = .ok (.iload_n 1, 1) := by decide +kernel
theorem dX2_value_2 : decode cX2_value 2 = .ok (.invokevirtual 66, 3) := by decide +kernel
theorem dX2_value_5 : decode cX2_value 5 = .ok (.getfield 70, 3) := by decide +kernel
theorem dX2_value_8 : decode cX2_value 8 = .ok (.ireturn, 1) := by decide +kernel
set_option maxRecDepth 20000 in
theorem ggX2_late_X2_requireRow : GoodIn wsX2_late wsX2_requireRow := goodIn_ca (goodIn_r _ [7, 8, 9, 10, 11, 12, 6, 13, 14, 15, 23, 24, 25, 26, 27, 28, 29, 30, 31] (by decide +kernel) (by decide +kernel)) (goodIn_sub (fun _ h => List.mem_cons_of_mem _ (List.mem_append_right _ h)) (by decide +kernel))
set_option maxRecDepth 20000 in
theorem gX2_late_X2_requireRow : GoodIn wsX2_late (wsV RX2 66 RX2 yX2_requireRow wsX2_requireRow) := goodIn_app (goodIn_of _ (by decide +kernel)) ggX2_late_X2_requireRow
theorem dX2_late_0 : decode cX2_late 0 = .ok (.aload_n 0, 1) := by decide +kernel
theorem dX2_late_1 : decode cX2_late 1 = .ok (.iload_n 1, 1) := by decide +kernel
theorem dX2_late_2 : decode cX2_late 2 = .ok (.invokevirtual 66, 3) := by decide +kernel
theorem dX2_late_5 : decode cX2_late 5 = .ok (.astore_n 2, 1) := by decide +kernel
theorem dX2_late_6 : decode cX2_late 6 = .ok (.aload_n 2, 1) := by decide +kernel
theorem dX2_late_7 : decode cX2_late 7 = .ok (.getfield 73, 3) := by decide +kernel
theorem dX2_late_10 : decode cX2_late 10 = .ok (.aload_n 2, 1) := by decide +kernel
theorem dX2_late_11 : decode cX2_late 11 = .ok (.getfield 76, 3) := by decide +kernel
theorem dX2_late_14 : decode cX2_late 14 = .ok (.isub, 1) := by decide +kernel
theorem dX2_late_15 : decode cX2_late 15 = .ok (.ireturn, 1) := by decide +kernel
set_option maxRecDepth 20000 in
theorem ggX2_join_X2_requirePair : GoodIn wsX2_join wsX2_requirePair := goodIn_ca (goodIn_r _ [5, 6, 7, 4, 8, 9, 10] (by decide +kernel) (by decide +kernel)) (goodIn_sub (fun _ h => List.mem_cons_of_mem _ (List.mem_append_right _ h)) (by decide +kernel))
set_option maxRecDepth 20000 in
theorem gX2_join_X2_requirePair : GoodIn wsX2_join (va_wsS RX2 31 yX2_requirePair wsX2_requirePair) := goodIn_app (goodIn_of _ (by decide +kernel)) ggX2_join_X2_requirePair
set_option maxRecDepth 20000 in
theorem ggX2_join_X2_requireRange : GoodIn wsX2_join wsX2_requireRange := goodIn_ca (goodIn_r _ [8, 9, 10] (by decide +kernel) (by decide +kernel)) (goodIn_sub (fun _ h => List.mem_cons_of_mem _ (List.mem_append_right _ h)) (by decide +kernel))
set_option maxRecDepth 20000 in
theorem gX2_join_X2_requireRange : GoodIn wsX2_join (va_wsS RX2 39 yX2_requireRange wsX2_requireRange) := goodIn_app (goodIn_of _ (by decide +kernel)) ggX2_join_X2_requireRange
set_option maxRecDepth 20000 in
theorem ggX2_join_X2_find : GoodIn wsX2_join wsX2_find := goodIn_r _ [14, 15, 16, 17, 18, 19, 20, 4, 21, 22, 23, 24, 25, 26, 27, 28, 29, 30, 31, 32, 33, 34, 35, 36, 37, 38, 39, 40, 41, 42, 43, 44] (by decide +kernel) (by decide +kernel)
set_option maxRecDepth 20000 in
theorem gX2_join_X2_find : GoodIn wsX2_join (wsV RX2 79 RX2 yX2_find wsX2_find) := goodIn_app (goodIn_of _ (by decide +kernel)) ggX2_join_X2_find
theorem dX2_join_0 : decode cX2_join 0 = .ok (.iload_n 1, 1) := by decide +kernel
theorem dX2_join_1 : decode cX2_join 1 = .ok (.iload_n 2, 1) := by decide +kernel
theorem dX2_join_2 : decode cX2_join 2 = .ok (.invokestatic 31, 3) := by decide +kernel
theorem dX2_join_5 : decode cX2_join 5 = .ok (.iload_n 3, 1) := by decide +kernel
theorem dX2_join_6 : decode cX2_join 6 = .ok (.iconst 0, 1) := by decide +kernel
theorem dX2_join_7 : decode cX2_join 7 = .ok (.sipush 10000, 3) := by decide +kernel
theorem dX2_join_10 : decode cX2_join 10 = .ok (.invokestatic 39, 3) := by decide +kernel
theorem dX2_join_13 : decode cX2_join 13 = .ok (.iload 4, 2) := by decide +kernel
theorem dX2_join_15 : decode cX2_join 15 = .ok (.iconst 0, 1) := by decide +kernel
theorem dX2_join_16 : decode cX2_join 16 = .ok (.aload_n 0, 1) := by decide +kernel
theorem dX2_join_17 : decode cX2_join 17 = .ok (.getfield 35, 3) := by decide +kernel
theorem dX2_join_20 : decode cX2_join 20 = .ok (.invokestatic 39, 3) := by decide +kernel
theorem dX2_join_23 : decode cX2_join 23 = .ok (.aload_n 0, 1) := by decide +kernel
theorem dX2_join_24 : decode cX2_join 24 = .ok (.iload_n 1, 1) := by decide +kernel
theorem dX2_join_25 : decode cX2_join 25 = .ok (.iload_n 2, 1) := by decide +kernel
theorem dX2_join_26 : decode cX2_join 26 = .ok (.iload_n 3, 1) := by decide +kernel
theorem dX2_join_27 : decode cX2_join 27 = .ok (.iload 4, 2) := by decide +kernel
theorem dX2_join_29 : decode cX2_join 29 = .ok (.invokevirtual 79, 3) := by decide +kernel
theorem dX2_join_32 : decode cX2_join 32 = .ok (.ireturn, 1) := by decide +kernel
set_option maxRecDepth 20000 in
theorem ggX2_window_X2_requirePair : GoodIn wsX2_window wsX2_requirePair := goodIn_ca (goodIn_r _ [8, 9, 10, 7, 11, 12, 13] (by decide +kernel) (by decide +kernel)) (goodIn_sub (fun _ h => List.mem_cons_of_mem _ (List.mem_append_right _ h)) (by decide +kernel))
set_option maxRecDepth 20000 in
theorem gX2_window_X2_requirePair : GoodIn wsX2_window (va_wsS RX2 31 yX2_requirePair wsX2_requirePair) := goodIn_app (goodIn_of _ (by decide +kernel)) ggX2_window_X2_requirePair
set_option maxRecDepth 20000 in
theorem ggX2_window_X2_requireRange : GoodIn wsX2_window wsX2_requireRange := goodIn_ca (goodIn_r _ [11, 12, 13] (by decide +kernel) (by decide +kernel)) (goodIn_sub (fun _ h => List.mem_cons_of_mem _ (List.mem_append_right _ h)) (by decide +kernel))
set_option maxRecDepth 20000 in
theorem gX2_window_X2_requireRange : GoodIn wsX2_window (va_wsS RX2 39 yX2_requireRange wsX2_requireRange) := goodIn_app (goodIn_of _ (by decide +kernel)) ggX2_window_X2_requireRange
set_option maxRecDepth 20000 in
theorem ggX2_window_X2_placeOf : GoodIn wsX2_window wsX2_placeOf := goodIn_r _ [16] (by decide +kernel) (by decide +kernel)
set_option maxRecDepth 20000 in
theorem gX2_window_X2_placeOf : GoodIn wsX2_window (va_wsS RX2 83 yX2_placeOf wsX2_placeOf) := goodIn_app (goodIn_of _ (by decide +kernel)) ggX2_window_X2_placeOf
theorem dX2_window_0 : decode cX2_window 0 = .ok (.iload_n 1, 1) := by decide +kernel
theorem dX2_window_1 : decode cX2_window 1 = .ok (.iload_n 2, 1) := by decide +kernel
theorem dX2_window_2 : decode cX2_window 2 = .ok (.invokestatic 31, 3) := by decide +kernel
theorem dX2_window_5 : decode cX2_window 5 = .ok (.iload_n 3, 1) := by decide +kernel
theorem dX2_window_6 : decode cX2_window 6 = .ok (.iconst 0, 1) := by decide +kernel
theorem dX2_window_7 : decode cX2_window 7 = .ok (.sipush 10000, 3) := by decide +kernel
theorem dX2_window_10 : decode cX2_window 10 = .ok (.invokestatic 39, 3) := by decide +kernel
theorem dX2_window_13 : decode cX2_window 13 = .ok (.iload 4, 2) := by decide +kernel
theorem dX2_window_15 : decode cX2_window 15 = .ok (.iload_n 3, 1) := by decide +kernel
theorem dX2_window_16 : decode cX2_window 16 = .ok (.sipush 10000, 3) := by decide +kernel
theorem dX2_window_19 : decode cX2_window 19 = .ok (.invokestatic 39, 3) := by decide +kernel
theorem dX2_window_22 : decode cX2_window 22 = .ok (.iconst 0, 1) := by decide +kernel
theorem dX2_window_23 : decode cX2_window 23 = .ok (.istore 5, 2) := by decide +kernel
theorem dX2_window_25 : decode cX2_window 25 = .ok (.aload_n 0, 1) := by decide +kernel
theorem dX2_window_26 : decode cX2_window 26 = .ok (.getfield 19, 3) := by decide +kernel
theorem dX2_window_29 : decode cX2_window 29 = .ok (.iload_n 1, 1) := by decide +kernel
theorem dX2_window_30 : decode cX2_window 30 = .ok (.iload_n 2, 1) := by decide +kernel
theorem dX2_window_31 : decode cX2_window 31 = .ok (.invokestatic 83, 3) := by decide +kernel
theorem dX2_window_34 : decode cX2_window 34 = .ok (.aaload, 1) := by decide +kernel
theorem dX2_window_35 : decode cX2_window 35 = .ok (.astore 6, 2) := by decide +kernel
theorem dX2_window_37 : decode cX2_window 37 = .ok (.aload 6, 2) := by decide +kernel
theorem dX2_window_39 : decode cX2_window 39 = .ok (.ifnull 42, 3) := by decide +kernel
theorem dX2_window_42 : decode cX2_window 42 = .ok (.aload 6, 2) := by decide +kernel
theorem dX2_window_44 : decode cX2_window 44 = .ok (.getfield 76, 3) := by decide +kernel
theorem dX2_window_47 : decode cX2_window 47 = .ok (.iload_n 3, 1) := by decide +kernel
theorem dX2_window_48 : decode cX2_window 48 = .ok (.if_icmp .lt 23, 3) := by decide +kernel
theorem dX2_window_51 : decode cX2_window 51 = .ok (.aload 6, 2) := by decide +kernel
theorem dX2_window_53 : decode cX2_window 53 = .ok (.getfield 76, 3) := by decide +kernel
theorem dX2_window_56 : decode cX2_window 56 = .ok (.iload 4, 2) := by decide +kernel
theorem dX2_window_58 : decode cX2_window 58 = .ok (.if_icmp .gt 13, 3) := by decide +kernel
theorem dX2_window_61 : decode cX2_window 61 = .ok (.iload 5, 2) := by decide +kernel
theorem dX2_window_63 : decode cX2_window 63 = .ok (.aload 6, 2) := by decide +kernel
theorem dX2_window_65 : decode cX2_window 65 = .ok (.getfield 70, 3) := by decide +kernel
theorem dX2_window_68 : decode cX2_window 68 = .ok (.iadd, 1) := by decide +kernel
theorem dX2_window_69 : decode cX2_window 69 = .ok (.istore 5, 2) := by decide +kernel
theorem dX2_window_71 : decode cX2_window 71 = .ok (.aload 6, 2) := by decide +kernel
theorem dX2_window_73 : decode cX2_window 73 = .ok (.getfield 87, 3) := by decide +kernel
theorem dX2_window_76 : decode cX2_window 76 = .ok (.astore 6, 2) := by decide +kernel
theorem dX2_window_78 : decode cX2_window 78 = .ok (.goto (-41), 3) := by decide +kernel
theorem dX2_window_81 : decode cX2_window 81 = .ok (.iload 5, 2) := by decide +kernel
theorem dX2_window_83 : decode cX2_window 83 = .ok (.ireturn, 1) := by decide +kernel
set_option maxRecDepth 20000 in
theorem ggX2_greatestTile_X2_requirePair : GoodIn wsX2_greatestTile wsX2_requirePair := goodIn_ca (goodIn_r _ [12, 13, 14, 11, 15, 16, 17] (by decide +kernel) (by decide +kernel)) (goodIn_sub (fun _ h => List.mem_cons_of_mem _ (List.mem_append_right _ h)) (by decide +kernel))
set_option maxRecDepth 20000 in
theorem gX2_greatestTile_X2_requirePair : GoodIn wsX2_greatestTile (va_wsS RX2 31 yX2_requirePair wsX2_requirePair) := goodIn_app (goodIn_of _ (by decide +kernel)) ggX2_greatestTile_X2_requirePair
set_option maxRecDepth 20000 in
theorem ggX2_greatestTile_X2_requireRange : GoodIn wsX2_greatestTile wsX2_requireRange := goodIn_ca (goodIn_r _ [15, 16, 17] (by decide +kernel) (by decide +kernel)) (goodIn_sub (fun _ h => List.mem_cons_of_mem _ (List.mem_append_right _ h)) (by decide +kernel))
set_option maxRecDepth 20000 in
theorem gX2_greatestTile_X2_requireRange : GoodIn wsX2_greatestTile (va_wsS RX2 39 yX2_requireRange wsX2_requireRange) := goodIn_app (goodIn_of _ (by decide +kernel)) ggX2_greatestTile_X2_requireRange
set_option maxRecDepth 20000 in
theorem ggX2_greatestTile_X2_placeOf : GoodIn wsX2_greatestTile wsX2_placeOf := goodIn_r _ [20] (by decide +kernel) (by decide +kernel)
set_option maxRecDepth 20000 in
theorem gX2_greatestTile_X2_placeOf : GoodIn wsX2_greatestTile (va_wsS RX2 83 yX2_placeOf wsX2_placeOf) := goodIn_app (goodIn_of _ (by decide +kernel)) ggX2_greatestTile_X2_placeOf
theorem dX2_greatestTile_0 : decode cX2_greatestTile 0 = .ok (.iload_n 1, 1) := by decide +kernel
theorem dX2_greatestTile_1 : decode cX2_greatestTile 1 = .ok (.iload_n 2, 1) := by decide +kernel
theorem dX2_greatestTile_2 : decode cX2_greatestTile 2 = .ok (.invokestatic 31, 3) := by decide +kernel
theorem dX2_greatestTile_5 : decode cX2_greatestTile 5 = .ok (.iload_n 3, 1) := by decide +kernel
theorem dX2_greatestTile_6 : decode cX2_greatestTile 6 = .ok (.iconst 1, 1) := by decide +kernel
theorem dX2_greatestTile_7 : decode cX2_greatestTile 7 = .ok (.sipush 10000, 3) := by decide +kernel
theorem dX2_greatestTile_10 : decode cX2_greatestTile 10 = .ok (.invokestatic 39, 3) := by decide +kernel
theorem dX2_greatestTile_13 : decode cX2_greatestTile 13 = .ok (.iconst 0, 1) := by decide +kernel
theorem dX2_greatestTile_14 : decode cX2_greatestTile 14 = .ok (.istore 4, 2) := by decide +kernel
theorem dX2_greatestTile_16 : decode cX2_greatestTile 16 = .ok (.iconst 0, 1) := by decide +kernel
theorem dX2_greatestTile_17 : decode cX2_greatestTile 17 = .ok (.istore 5, 2) := by decide +kernel
theorem dX2_greatestTile_19 : decode cX2_greatestTile 19 = .ok (.iconst (-1), 1) := by decide +kernel
theorem dX2_greatestTile_20 : decode cX2_greatestTile 20 = .ok (.istore 6, 2) := by decide +kernel
theorem dX2_greatestTile_22 : decode cX2_greatestTile 22 = .ok (.aload_n 0, 1) := by decide +kernel
theorem dX2_greatestTile_23 : decode cX2_greatestTile 23 = .ok (.getfield 19, 3) := by decide +kernel
theorem dX2_greatestTile_26 : decode cX2_greatestTile 26 = .ok (.iload_n 1, 1) := by decide +kernel
theorem dX2_greatestTile_27 : decode cX2_greatestTile 27 = .ok (.iload_n 2, 1) := by decide +kernel
theorem dX2_greatestTile_28 : decode cX2_greatestTile 28 = .ok (.invokestatic 83, 3) := by decide +kernel
theorem dX2_greatestTile_31 : decode cX2_greatestTile 31 = .ok (.aaload, 1) := by decide +kernel
theorem dX2_greatestTile_32 : decode cX2_greatestTile 32 = .ok (.astore 7, 2) := by decide +kernel
theorem dX2_greatestTile_34 : decode cX2_greatestTile 34 = .ok (.aload 7, 2) := by decide +kernel
theorem dX2_greatestTile_36 : decode cX2_greatestTile 36 = .ok (.ifnull 55, 3) := by decide +kernel
theorem dX2_greatestTile_39 : decode cX2_greatestTile 39 = .ok (.aload 7, 2) := by decide +kernel
theorem dX2_greatestTile_41 : decode cX2_greatestTile 41 = .ok (.getfield 76, 3) := by decide +kernel
theorem dX2_greatestTile_44 : decode cX2_greatestTile 44 = .ok (.iload_n 3, 1) := by decide +kernel
theorem dX2_greatestTile_45 : decode cX2_greatestTile 45 = .ok (.idiv, 1) := by decide +kernel
theorem dX2_greatestTile_46 : decode cX2_greatestTile 46 = .ok (.istore 8, 2) := by decide +kernel
theorem dX2_greatestTile_48 : decode cX2_greatestTile 48 = .ok (.iload 8, 2) := by decide +kernel
theorem dX2_greatestTile_50 : decode cX2_greatestTile 50 = .ok (.iload 6, 2) := by decide +kernel
theorem dX2_greatestTile_52 : decode cX2_greatestTile 52 = .ok (.if_icmp .eq 10, 3) := by decide +kernel
theorem dX2_greatestTile_55 : decode cX2_greatestTile 55 = .ok (.iload 8, 2) := by decide +kernel
theorem dX2_greatestTile_57 : decode cX2_greatestTile 57 = .ok (.istore 6, 2) := by decide +kernel
theorem dX2_greatestTile_59 : decode cX2_greatestTile 59 = .ok (.iconst 0, 1) := by decide +kernel
theorem dX2_greatestTile_60 : decode cX2_greatestTile 60 = .ok (.istore 5, 2) := by decide +kernel
theorem dX2_greatestTile_62 : decode cX2_greatestTile 62 = .ok (.iload 5, 2) := by decide +kernel
theorem dX2_greatestTile_64 : decode cX2_greatestTile 64 = .ok (.aload 7, 2) := by decide +kernel
theorem dX2_greatestTile_66 : decode cX2_greatestTile 66 = .ok (.getfield 70, 3) := by decide +kernel
theorem dX2_greatestTile_69 : decode cX2_greatestTile 69 = .ok (.iadd, 1) := by decide +kernel
theorem dX2_greatestTile_70 : decode cX2_greatestTile 70 = .ok (.istore 5, 2) := by decide +kernel
theorem dX2_greatestTile_72 : decode cX2_greatestTile 72 = .ok (.iload 4, 2) := by decide +kernel
theorem dX2_greatestTile_74 : decode cX2_greatestTile 74 = .ok (.iload 5, 2) := by decide +kernel
theorem dX2_greatestTile_76 : decode cX2_greatestTile 76 = .ok (.invokestatic 91, 3) := by decide +kernel
theorem dX2_greatestTile_79 : decode cX2_greatestTile 79 = .ok (.istore 4, 2) := by decide +kernel
theorem dX2_greatestTile_81 : decode cX2_greatestTile 81 = .ok (.aload 7, 2) := by decide +kernel
theorem dX2_greatestTile_83 : decode cX2_greatestTile 83 = .ok (.getfield 87, 3) := by decide +kernel
theorem dX2_greatestTile_86 : decode cX2_greatestTile 86 = .ok (.astore 7, 2) := by decide +kernel
theorem dX2_greatestTile_88 : decode cX2_greatestTile 88 = .ok (.goto (-54), 3) := by decide +kernel
theorem dX2_greatestTile_91 : decode cX2_greatestTile 91 = .ok (.iload 4, 2) := by decide +kernel
theorem dX2_greatestTile_93 : decode cX2_greatestTile 93 = .ok (.ireturn, 1) := by decide +kernel
set_option maxRecDepth 20000 in
theorem ggX2_tiles_X2_requirePair : GoodIn wsX2_tiles wsX2_requirePair := goodIn_ca (goodIn_r _ [7, 8, 9, 6, 10, 11, 12] (by decide +kernel) (by decide +kernel)) (goodIn_sub (fun _ h => List.mem_cons_of_mem _ (List.mem_append_right _ h)) (by decide +kernel))
set_option maxRecDepth 20000 in
theorem gX2_tiles_X2_requirePair : GoodIn wsX2_tiles (va_wsS RX2 31 yX2_requirePair wsX2_requirePair) := goodIn_app (goodIn_of _ (by decide +kernel)) ggX2_tiles_X2_requirePair
set_option maxRecDepth 20000 in
theorem ggX2_tiles_X2_requireRange : GoodIn wsX2_tiles wsX2_requireRange := goodIn_ca (goodIn_r _ [10, 11, 12] (by decide +kernel) (by decide +kernel)) (goodIn_sub (fun _ h => List.mem_cons_of_mem _ (List.mem_append_right _ h)) (by decide +kernel))
set_option maxRecDepth 20000 in
theorem gX2_tiles_X2_requireRange : GoodIn wsX2_tiles (va_wsS RX2 39 yX2_requireRange wsX2_requireRange) := goodIn_app (goodIn_of _ (by decide +kernel)) ggX2_tiles_X2_requireRange
set_option maxRecDepth 20000 in
theorem ggX2_tiles_X2_placeOf : GoodIn wsX2_tiles wsX2_placeOf := goodIn_r _ [15] (by decide +kernel) (by decide +kernel)
set_option maxRecDepth 20000 in
theorem gX2_tiles_X2_placeOf : GoodIn wsX2_tiles (va_wsS RX2 83 yX2_placeOf wsX2_placeOf) := goodIn_app (goodIn_of _ (by decide +kernel)) ggX2_tiles_X2_placeOf
theorem dX2_tiles_0 : decode cX2_tiles 0 = .ok (.iload_n 1, 1) := by decide +kernel
theorem dX2_tiles_1 : decode cX2_tiles 1 = .ok (.iload_n 2, 1) := by decide +kernel
theorem dX2_tiles_2 : decode cX2_tiles 2 = .ok (.invokestatic 31, 3) := by decide +kernel
theorem dX2_tiles_5 : decode cX2_tiles 5 = .ok (.iload_n 3, 1) := by decide +kernel
theorem dX2_tiles_6 : decode cX2_tiles 6 = .ok (.iconst 1, 1) := by decide +kernel
theorem dX2_tiles_7 : decode cX2_tiles 7 = .ok (.sipush 10000, 3) := by decide +kernel
theorem dX2_tiles_10 : decode cX2_tiles 10 = .ok (.invokestatic 39, 3) := by decide +kernel
theorem dX2_tiles_13 : decode cX2_tiles 13 = .ok (.iconst 0, 1) := by decide +kernel
theorem dX2_tiles_14 : decode cX2_tiles 14 = .ok (.istore 4, 2) := by decide +kernel
theorem dX2_tiles_16 : decode cX2_tiles 16 = .ok (.iconst (-1), 1) := by decide +kernel
theorem dX2_tiles_17 : decode cX2_tiles 17 = .ok (.istore 5, 2) := by decide +kernel
theorem dX2_tiles_19 : decode cX2_tiles 19 = .ok (.aload_n 0, 1) := by decide +kernel
theorem dX2_tiles_20 : decode cX2_tiles 20 = .ok (.getfield 19, 3) := by decide +kernel
theorem dX2_tiles_23 : decode cX2_tiles 23 = .ok (.iload_n 1, 1) := by decide +kernel
theorem dX2_tiles_24 : decode cX2_tiles 24 = .ok (.iload_n 2, 1) := by decide +kernel
theorem dX2_tiles_25 : decode cX2_tiles 25 = .ok (.invokestatic 83, 3) := by decide +kernel
theorem dX2_tiles_28 : decode cX2_tiles 28 = .ok (.aaload, 1) := by decide +kernel
theorem dX2_tiles_29 : decode cX2_tiles 29 = .ok (.astore 6, 2) := by decide +kernel
theorem dX2_tiles_31 : decode cX2_tiles 31 = .ok (.aload 6, 2) := by decide +kernel
theorem dX2_tiles_33 : decode cX2_tiles 33 = .ok (.ifnull 36, 3) := by decide +kernel
theorem dX2_tiles_36 : decode cX2_tiles 36 = .ok (.aload 6, 2) := by decide +kernel
theorem dX2_tiles_38 : decode cX2_tiles 38 = .ok (.getfield 76, 3) := by decide +kernel
theorem dX2_tiles_41 : decode cX2_tiles 41 = .ok (.iload_n 3, 1) := by decide +kernel
theorem dX2_tiles_42 : decode cX2_tiles 42 = .ok (.idiv, 1) := by decide +kernel
theorem dX2_tiles_43 : decode cX2_tiles 43 = .ok (.istore 7, 2) := by decide +kernel
theorem dX2_tiles_45 : decode cX2_tiles 45 = .ok (.iload 7, 2) := by decide +kernel
theorem dX2_tiles_47 : decode cX2_tiles 47 = .ok (.iload 5, 2) := by decide +kernel
theorem dX2_tiles_49 : decode cX2_tiles 49 = .ok (.if_icmp .eq 10, 3) := by decide +kernel
theorem dX2_tiles_52 : decode cX2_tiles 52 = .ok (.iload 7, 2) := by decide +kernel
theorem dX2_tiles_54 : decode cX2_tiles 54 = .ok (.istore 5, 2) := by decide +kernel
theorem dX2_tiles_56 : decode cX2_tiles 56 = .ok (.iinc 4 1, 3) := by decide +kernel
theorem dX2_tiles_59 : decode cX2_tiles 59 = .ok (.aload 6, 2) := by decide +kernel
theorem dX2_tiles_61 : decode cX2_tiles 61 = .ok (.getfield 87, 3) := by decide +kernel
theorem dX2_tiles_64 : decode cX2_tiles 64 = .ok (.astore 6, 2) := by decide +kernel
theorem dX2_tiles_66 : decode cX2_tiles 66 = .ok (.goto (-35), 3) := by decide +kernel
theorem dX2_tiles_69 : decode cX2_tiles 69 = .ok (.iload 4, 2) := by decide +kernel
theorem dX2_tiles_71 : decode cX2_tiles 71 = .ok (.ireturn, 1) := by decide +kernel
set_option maxRecDepth 20000 in
theorem ggX2_revised_X2_requirePair : GoodIn wsX2_revised wsX2_requirePair := goodIn_ca (goodIn_r _ [14, 15, 16, 13, 17, 18, 19] (by decide +kernel) (by decide +kernel)) (goodIn_sub (fun _ h => List.mem_cons_of_mem _ (List.mem_append_right _ h)) (by decide +kernel))
set_option maxRecDepth 20000 in
theorem gX2_revised_X2_requirePair : GoodIn wsX2_revised (va_wsS RX2 31 yX2_requirePair wsX2_requirePair) := goodIn_app (goodIn_of _ (by decide +kernel)) ggX2_revised_X2_requirePair
set_option maxRecDepth 20000 in
theorem ggX2_revised_X2_requireRange : GoodIn wsX2_revised wsX2_requireRange := goodIn_ca (goodIn_r _ [17, 18, 19] (by decide +kernel) (by decide +kernel)) (goodIn_sub (fun _ h => List.mem_cons_of_mem _ (List.mem_append_right _ h)) (by decide +kernel))
set_option maxRecDepth 20000 in
theorem gX2_revised_X2_requireRange : GoodIn wsX2_revised (va_wsS RX2 39 yX2_requireRange wsX2_requireRange) := goodIn_app (goodIn_of _ (by decide +kernel)) ggX2_revised_X2_requireRange
set_option maxRecDepth 20000 in
theorem ggX2_revised_X2_placeOf : GoodIn wsX2_revised wsX2_placeOf := goodIn_r _ [22] (by decide +kernel) (by decide +kernel)
set_option maxRecDepth 20000 in
theorem gX2_revised_X2_placeOf : GoodIn wsX2_revised (va_wsS RX2 83 yX2_placeOf wsX2_placeOf) := goodIn_app (goodIn_of _ (by decide +kernel)) ggX2_revised_X2_placeOf
set_option maxRecDepth 20000 in
theorem ggX2_revised_X2_multiplesBelow : GoodIn wsX2_revised wsX2_multiplesBelow := goodIn_r _ [25] (by decide +kernel) (by decide +kernel)
set_option maxRecDepth 20000 in
theorem gX2_revised_X2_multiplesBelow : GoodIn wsX2_revised (va_wsS RX2 99 yX2_multiplesBelow wsX2_multiplesBelow) := goodIn_app (goodIn_of _ (by decide +kernel)) ggX2_revised_X2_multiplesBelow
theorem dX2_revised_0 : decode cX2_revised 0 = .ok (.iload_n 1, 1) := by decide +kernel
theorem dX2_revised_1 : decode cX2_revised 1 = .ok (.iload_n 2, 1) := by decide +kernel
theorem dX2_revised_2 : decode cX2_revised 2 = .ok (.invokestatic 31, 3) := by decide +kernel
theorem dX2_revised_5 : decode cX2_revised 5 = .ok (.iload_n 3, 1) := by decide +kernel
theorem dX2_revised_6 : decode cX2_revised 6 = .ok (.iconst 1, 1) := by decide +kernel
theorem dX2_revised_7 : decode cX2_revised 7 = .ok (.sipush 10000, 3) := by decide +kernel
theorem dX2_revised_10 : decode cX2_revised 10 = .ok (.invokestatic 39, 3) := by decide +kernel
theorem dX2_revised_13 : decode cX2_revised 13 = .ok (.iconst 0, 1) := by decide +kernel
theorem dX2_revised_14 : decode cX2_revised 14 = .ok (.istore 4, 2) := by decide +kernel
theorem dX2_revised_16 : decode cX2_revised 16 = .ok (.aload_n 0, 1) := by decide +kernel
theorem dX2_revised_17 : decode cX2_revised 17 = .ok (.getfield 35, 3) := by decide +kernel
theorem dX2_revised_20 : decode cX2_revised 20 = .ok (.iconst 1, 1) := by decide +kernel
theorem dX2_revised_21 : decode cX2_revised 21 = .ok (.iadd, 1) := by decide +kernel
theorem dX2_revised_22 : decode cX2_revised 22 = .ok (.istore 5, 2) := by decide +kernel
theorem dX2_revised_24 : decode cX2_revised 24 = .ok (.aload_n 0, 1) := by decide +kernel
theorem dX2_revised_25 : decode cX2_revised 25 = .ok (.getfield 19, 3) := by decide +kernel
theorem dX2_revised_28 : decode cX2_revised 28 = .ok (.iload_n 1, 1) := by decide +kernel
theorem dX2_revised_29 : decode cX2_revised 29 = .ok (.iload_n 2, 1) := by decide +kernel
theorem dX2_revised_30 : decode cX2_revised 30 = .ok (.invokestatic 83, 3) := by decide +kernel
theorem dX2_revised_33 : decode cX2_revised 33 = .ok (.aaload, 1) := by decide +kernel
theorem dX2_revised_34 : decode cX2_revised 34 = .ok (.astore 6, 2) := by decide +kernel
theorem dX2_revised_36 : decode cX2_revised 36 = .ok (.aload 6, 2) := by decide +kernel
theorem dX2_revised_38 : decode cX2_revised 38 = .ok (.ifnull 84, 3) := by decide +kernel
theorem dX2_revised_41 : decode cX2_revised 41 = .ok (.iload 5, 2) := by decide +kernel
theorem dX2_revised_43 : decode cX2_revised 43 = .ok (.aload 6, 2) := by decide +kernel
theorem dX2_revised_45 : decode cX2_revised 45 = .ok (.getfield 76, 3) := by decide +kernel
theorem dX2_revised_48 : decode cX2_revised 48 = .ok (.aload_n 0, 1) := by decide +kernel
theorem dX2_revised_49 : decode cX2_revised 49 = .ok (.getfield 9, 3) := by decide +kernel
theorem dX2_revised_52 : decode cX2_revised 52 = .ok (.iload_n 1, 1) := by decide +kernel
theorem dX2_revised_53 : decode cX2_revised 53 = .ok (.iaload, 1) := by decide +kernel
theorem dX2_revised_54 : decode cX2_revised 54 = .ok (.iadd, 1) := by decide +kernel
theorem dX2_revised_55 : decode cX2_revised 55 = .ok (.iconst 1, 1) := by decide +kernel
theorem dX2_revised_56 : decode cX2_revised 56 = .ok (.iadd, 1) := by decide +kernel
theorem dX2_revised_57 : decode cX2_revised 57 = .ok (.invokestatic 96, 3) := by decide +kernel
theorem dX2_revised_60 : decode cX2_revised 60 = .ok (.istore 7, 2) := by decide +kernel
theorem dX2_revised_62 : decode cX2_revised 62 = .ok (.iload 7, 2) := by decide +kernel
theorem dX2_revised_64 : decode cX2_revised 64 = .ok (.aload 6, 2) := by decide +kernel
theorem dX2_revised_66 : decode cX2_revised 66 = .ok (.getfield 73, 3) := by decide +kernel
theorem dX2_revised_69 : decode cX2_revised 69 = .ok (.invokestatic 96, 3) := by decide +kernel
theorem dX2_revised_72 : decode cX2_revised 72 = .ok (.istore 8, 2) := by decide +kernel
theorem dX2_revised_74 : decode cX2_revised 74 = .ok (.iload 8, 2) := by decide +kernel
theorem dX2_revised_76 : decode cX2_revised 76 = .ok (.aload 6, 2) := by decide +kernel
theorem dX2_revised_78 : decode cX2_revised 78 = .ok (.getfield 76, 3) := by decide +kernel
theorem dX2_revised_81 : decode cX2_revised 81 = .ok (.if_icmp .le 24, 3) := by decide +kernel
theorem dX2_revised_84 : decode cX2_revised 84 = .ok (.iload 4, 2) := by decide +kernel
theorem dX2_revised_86 : decode cX2_revised 86 = .ok (.iload 8, 2) := by decide +kernel
theorem dX2_revised_88 : decode cX2_revised 88 = .ok (.iload_n 3, 1) := by decide +kernel
theorem dX2_revised_89 : decode cX2_revised 89 = .ok (.invokestatic 99, 3) := by decide +kernel
theorem dX2_revised_92 : decode cX2_revised 92 = .ok (.aload 6, 2) := by decide +kernel
theorem dX2_revised_94 : decode cX2_revised 94 = .ok (.getfield 76, 3) := by decide +kernel
theorem dX2_revised_97 : decode cX2_revised 97 = .ok (.iload_n 3, 1) := by decide +kernel
theorem dX2_revised_98 : decode cX2_revised 98 = .ok (.invokestatic 99, 3) := by decide +kernel
theorem dX2_revised_101 : decode cX2_revised 101 = .ok (.isub, 1) := by decide +kernel
theorem dX2_revised_102 : decode cX2_revised 102 = .ok (.iadd, 1) := by decide +kernel
theorem dX2_revised_103 : decode cX2_revised 103 = .ok (.istore 4, 2) := by decide +kernel
theorem dX2_revised_105 : decode cX2_revised 105 = .ok (.aload 6, 2) := by decide +kernel
theorem dX2_revised_107 : decode cX2_revised 107 = .ok (.getfield 76, 3) := by decide +kernel
theorem dX2_revised_110 : decode cX2_revised 110 = .ok (.istore 5, 2) := by decide +kernel
theorem dX2_revised_112 : decode cX2_revised 112 = .ok (.aload 6, 2) := by decide +kernel
theorem dX2_revised_114 : decode cX2_revised 114 = .ok (.getfield 87, 3) := by decide +kernel
theorem dX2_revised_117 : decode cX2_revised 117 = .ok (.astore 6, 2) := by decide +kernel
theorem dX2_revised_119 : decode cX2_revised 119 = .ok (.goto (-83), 3) := by decide +kernel
theorem dX2_revised_122 : decode cX2_revised 122 = .ok (.iload 4, 2) := by decide +kernel
theorem dX2_revised_124 : decode cX2_revised 124 = .ok (.ireturn, 1) := by decide +kernel
set_option maxRecDepth 20000 in
theorem ggX2_take_X2_requireRange : GoodIn wsX2_take wsX2_requireRange := goodIn_ca (goodIn_r _ [5, 6, 7] (by decide +kernel) (by decide +kernel)) (goodIn_sub (fun _ h => List.mem_cons_of_mem _ (List.mem_append_right _ h)) (by decide +kernel))
set_option maxRecDepth 20000 in
theorem gX2_take_X2_requireRange : GoodIn wsX2_take (va_wsS RX2 39 yX2_requireRange wsX2_requireRange) := goodIn_app (goodIn_of _ (by decide +kernel)) ggX2_take_X2_requireRange
set_option maxRecDepth 20000 in
theorem ggX2_take_X2_rowOrNull : GoodIn wsX2_take wsX2_rowOrNull := goodIn_r _ [11, 12, 13, 25, 26, 27, 28, 29, 30, 31, 32, 33] (by decide +kernel) (by decide +kernel)
set_option maxRecDepth 20000 in
theorem gX2_take_X2_rowOrNull : GoodIn wsX2_take (wsV RX2 105 RX2 yX2_rowOrNull wsX2_rowOrNull) := goodIn_app (goodIn_of _ (by decide +kernel)) ggX2_take_X2_rowOrNull
set_option maxRecDepth 20000 in
theorem ggX2_take_X2_takeIn : GoodIn wsX2_take wsX2_takeIn := goodIn_r _ [17, 18, 19, 20, 21, 22, 23, 4, 24, 34, 35, 36, 37, 38, 39, 40, 25, 26, 27, 28, 29, 30, 31, 32, 33] (by decide +kernel) (by decide +kernel)
set_option maxRecDepth 20000 in
theorem gX2_take_X2_takeIn : GoodIn wsX2_take (wsV RX2 108 RX2 yX2_takeIn wsX2_takeIn) := goodIn_app (goodIn_of _ (by decide +kernel)) ggX2_take_X2_takeIn
theorem dX2_take_0 : decode cX2_take 0 = .ok (.iload_n 1, 1) := by decide +kernel
theorem dX2_take_1 : decode cX2_take 1 = .ok (.iconst 1, 1) := by decide +kernel
theorem dX2_take_2 : decode cX2_take 2 = .ok (.sipush 200, 3) := by decide +kernel
theorem dX2_take_5 : decode cX2_take 5 = .ok (.invokestatic 39, 3) := by decide +kernel
theorem dX2_take_8 : decode cX2_take 8 = .ok (.iconst 0, 1) := by decide +kernel
theorem dX2_take_9 : decode cX2_take 9 = .ok (.istore_n 2, 1) := by decide +kernel
theorem dX2_take_10 : decode cX2_take 10 = .ok (.aload_n 0, 1) := by decide +kernel
theorem dX2_take_11 : decode cX2_take 11 = .ok (.aload_n 0, 1) := by decide +kernel
theorem dX2_take_12 : decode cX2_take 12 = .ok (.getfield 102, 3) := by decide +kernel
theorem dX2_take_15 : decode cX2_take 15 = .ok (.invokevirtual 105, 3) := by decide +kernel
theorem dX2_take_18 : decode cX2_take 18 = .ok (.astore_n 3, 1) := by decide +kernel
theorem dX2_take_19 : decode cX2_take 19 = .ok (.iload_n 2, 1) := by decide +kernel
theorem dX2_take_20 : decode cX2_take 20 = .ok (.iload_n 1, 1) := by decide +kernel
theorem dX2_take_21 : decode cX2_take 21 = .ok (.if_icmp .ge 37, 3) := by decide +kernel
theorem dX2_take_24 : decode cX2_take 24 = .ok (.aload_n 3, 1) := by decide +kernel
theorem dX2_take_25 : decode cX2_take 25 = .ok (.ifnull 33, 3) := by decide +kernel
theorem dX2_take_28 : decode cX2_take 28 = .ok (.aload_n 0, 1) := by decide +kernel
theorem dX2_take_29 : decode cX2_take 29 = .ok (.aload_n 3, 1) := by decide +kernel
theorem dX2_take_30 : decode cX2_take 30 = .ok (.invokevirtual 108, 3) := by decide +kernel
theorem dX2_take_33 : decode cX2_take 33 = .ok (.aload_n 0, 1) := by decide +kernel
theorem dX2_take_34 : decode cX2_take 34 = .ok (.dup, 1) := by decide +kernel
theorem dX2_take_35 : decode cX2_take 35 = .ok (.getfield 102, 3) := by decide +kernel
theorem dX2_take_38 : decode cX2_take 38 = .ok (.iconst 1, 1) := by decide +kernel
theorem dX2_take_39 : decode cX2_take 39 = .ok (.iadd, 1) := by decide +kernel
theorem dX2_take_40 : decode cX2_take 40 = .ok (.putfield 102, 3) := by decide +kernel
theorem dX2_take_43 : decode cX2_take 43 = .ok (.iinc 2 1, 3) := by decide +kernel
theorem dX2_take_46 : decode cX2_take 46 = .ok (.aload_n 0, 1) := by decide +kernel
theorem dX2_take_47 : decode cX2_take 47 = .ok (.aload_n 0, 1) := by decide +kernel
theorem dX2_take_48 : decode cX2_take 48 = .ok (.getfield 102, 3) := by decide +kernel
theorem dX2_take_51 : decode cX2_take 51 = .ok (.invokevirtual 105, 3) := by decide +kernel
theorem dX2_take_54 : decode cX2_take 54 = .ok (.astore_n 3, 1) := by decide +kernel
theorem dX2_take_55 : decode cX2_take 55 = .ok (.goto (-36), 3) := by decide +kernel
theorem dX2_take_58 : decode cX2_take 58 = .ok (.iload_n 2, 1) := by decide +kernel
theorem dX2_take_59 : decode cX2_take 59 = .ok (.ireturn, 1) := by decide +kernel
theorem dX2_lag_0 : decode cX2_lag 0 = .ok (.aload_n 0, 1) := by decide +kernel
theorem dX2_lag_1 : decode cX2_lag 1 = .ok (.getfield 44, 3) := by decide +kernel
theorem dX2_lag_4 : decode cX2_lag 4 = .ok (.aload_n 0, 1) := by decide +kernel
theorem dX2_lag_5 : decode cX2_lag 5 = .ok (.getfield 102, 3) := by decide +kernel
theorem dX2_lag_8 : decode cX2_lag 8 = .ok (.isub, 1) := by decide +kernel
theorem dX2_lag_9 : decode cX2_lag 9 = .ok (.ireturn, 1) := by decide +kernel
set_option maxRecDepth 20000 in
theorem ggX2_online_X2_requirePair : GoodIn wsX2_online wsX2_requirePair := goodIn_ca (goodIn_r _ [4, 5, 6, 3, 7, 8, 9] (by decide +kernel) (by decide +kernel)) (goodIn_sub (fun _ h => List.mem_cons_of_mem _ (List.mem_append_right _ h)) (by decide +kernel))
set_option maxRecDepth 20000 in
theorem gX2_online_X2_requirePair : GoodIn wsX2_online (va_wsS RX2 31 yX2_requirePair wsX2_requirePair) := goodIn_app (goodIn_of _ (by decide +kernel)) ggX2_online_X2_requirePair
set_option maxRecDepth 20000 in
theorem ggX2_online_X2_tell : GoodIn wsX2_online wsX2_tell := goodIn_r _ [13, 14, 15, 16, 17, 3, 18, 19, 20, 21, 22, 23, 24, 25, 26, 27, 28, 29, 30, 31, 32, 33, 34, 35, 36, 37, 38, 39, 40, 41, 42] (by decide +kernel) (by decide +kernel)
set_option maxRecDepth 20000 in
theorem gX2_online_X2_tell : GoodIn wsX2_online (wsV RX2 111 RX2 yX2_tell wsX2_tell) := goodIn_app (goodIn_of _ (by decide +kernel)) ggX2_online_X2_tell
theorem dX2_online_0 : decode cX2_online 0 = .ok (.iload_n 1, 1) := by decide +kernel
theorem dX2_online_1 : decode cX2_online 1 = .ok (.iload_n 2, 1) := by decide +kernel
theorem dX2_online_2 : decode cX2_online 2 = .ok (.invokestatic 31, 3) := by decide +kernel
theorem dX2_online_5 : decode cX2_online 5 = .ok (.aload_n 0, 1) := by decide +kernel
theorem dX2_online_6 : decode cX2_online 6 = .ok (.iload_n 1, 1) := by decide +kernel
theorem dX2_online_7 : decode cX2_online 7 = .ok (.iload_n 2, 1) := by decide +kernel
theorem dX2_online_8 : decode cX2_online 8 = .ok (.invokevirtual 111, 3) := by decide +kernel
theorem dX2_online_11 : decode cX2_online 11 = .ok (.ireturn, 1) := by decide +kernel
set_option maxRecDepth 20000 in
theorem ggX2_skew_X2_tell : GoodIn wsX2_skew wsX2_tell := goodIn_r _ [6, 7, 1, 8, 9, 5, 10, 11, 12, 13, 14, 15, 16, 17, 18, 26, 27, 28, 29, 30, 31, 32, 33, 34, 35, 36, 37, 38, 39, 40, 41] (by decide +kernel) (by decide +kernel)
set_option maxRecDepth 20000 in
theorem gX2_skew_X2_tell : GoodIn wsX2_skew (wsV RX2 111 RX2 yX2_tell wsX2_tell) := goodIn_app (goodIn_of _ (by decide +kernel)) ggX2_skew_X2_tell
set_option maxRecDepth 20000 in
theorem ggX2_skew_X2_find : GoodIn wsX2_skew wsX2_find := goodIn_r _ [22, 23, 15, 24, 25, 8, 9, 5, 10, 11, 12, 13, 14, 16, 17, 18, 26, 27, 28, 29, 30, 31, 32, 33, 34, 35, 36, 37, 38, 39, 40, 41] (by decide +kernel) (by decide +kernel)
set_option maxRecDepth 20000 in
theorem gX2_skew_X2_find : GoodIn wsX2_skew (wsV RX2 79 RX2 yX2_find wsX2_find) := goodIn_app (goodIn_of _ (by decide +kernel)) ggX2_skew_X2_find
theorem dX2_skew_0 : decode cX2_skew 0 = .ok (.iconst 0, 1) := by decide +kernel
theorem dX2_skew_1 : decode cX2_skew 1 = .ok (.istore_n 1, 1) := by decide +kernel
theorem dX2_skew_2 : decode cX2_skew 2 = .ok (.iconst 0, 1) := by decide +kernel
theorem dX2_skew_3 : decode cX2_skew 3 = .ok (.istore_n 2, 1) := by decide +kernel
theorem dX2_skew_4 : decode cX2_skew 4 = .ok (.iload_n 2, 1) := by decide +kernel
theorem dX2_skew_5 : decode cX2_skew 5 = .ok (.bipush 6, 2) := by decide +kernel
theorem dX2_skew_7 : decode cX2_skew 7 = .ok (.if_icmp .ge 49, 3) := by decide +kernel
theorem dX2_skew_10 : decode cX2_skew 10 = .ok (.iconst 0, 1) := by decide +kernel
theorem dX2_skew_11 : decode cX2_skew 11 = .ok (.istore_n 3, 1) := by decide +kernel
theorem dX2_skew_12 : decode cX2_skew 12 = .ok (.iload_n 3, 1) := by decide +kernel
theorem dX2_skew_13 : decode cX2_skew 13 = .ok (.bipush 10, 2) := by decide +kernel
theorem dX2_skew_15 : decode cX2_skew 15 = .ok (.if_icmp .ge 35, 3) := by decide +kernel
theorem dX2_skew_18 : decode cX2_skew 18 = .ok (.aload_n 0, 1) := by decide +kernel
theorem dX2_skew_19 : decode cX2_skew 19 = .ok (.iload_n 2, 1) := by decide +kernel
theorem dX2_skew_20 : decode cX2_skew 20 = .ok (.iload_n 3, 1) := by decide +kernel
theorem dX2_skew_21 : decode cX2_skew 21 = .ok (.invokevirtual 111, 3) := by decide +kernel
theorem dX2_skew_24 : decode cX2_skew 24 = .ok (.aload_n 0, 1) := by decide +kernel
theorem dX2_skew_25 : decode cX2_skew 25 = .ok (.iload_n 2, 1) := by decide +kernel
theorem dX2_skew_26 : decode cX2_skew 26 = .ok (.iload_n 3, 1) := by decide +kernel
theorem dX2_skew_27 : decode cX2_skew 27 = .ok (.aload_n 0, 1) := by decide +kernel
theorem dX2_skew_28 : decode cX2_skew 28 = .ok (.getfield 35, 3) := by decide +kernel
theorem dX2_skew_31 : decode cX2_skew 31 = .ok (.aload_n 0, 1) := by decide +kernel
theorem dX2_skew_32 : decode cX2_skew 32 = .ok (.getfield 35, 3) := by decide +kernel
theorem dX2_skew_35 : decode cX2_skew 35 = .ok (.invokevirtual 79, 3) := by decide +kernel
theorem dX2_skew_38 : decode cX2_skew 38 = .ok (.if_icmp .eq 6, 3) := by decide +kernel
theorem dX2_skew_41 : decode cX2_skew 41 = .ok (.iinc 1 1, 3) := by decide +kernel
theorem dX2_skew_44 : decode cX2_skew 44 = .ok (.iinc 3 1, 3) := by decide +kernel
theorem dX2_skew_47 : decode cX2_skew 47 = .ok (.goto (-35), 3) := by decide +kernel
theorem dX2_skew_50 : decode cX2_skew 50 = .ok (.iinc 2 1, 3) := by decide +kernel
theorem dX2_skew_53 : decode cX2_skew 53 = .ok (.goto (-49), 3) := by decide +kernel
theorem dX2_skew_56 : decode cX2_skew 56 = .ok (.iload_n 1, 1) := by decide +kernel
theorem dX2_skew_57 : decode cX2_skew 57 = .ok (.ireturn, 1) := by decide +kernel
set_option maxRecDepth 20000 in
theorem ggX2_serve_X2_requirePair : GoodIn wsX2_serve wsX2_requirePair := goodIn_ca (goodIn_r _ [12, 13, 14, 11, 15, 16, 17] (by decide +kernel) (by decide +kernel)) (goodIn_sub (fun _ h => List.mem_cons_of_mem _ (List.mem_append_right _ h)) (by decide +kernel))
set_option maxRecDepth 20000 in
theorem gX2_serve_X2_requirePair : GoodIn wsX2_serve (va_wsS RX2 31 yX2_requirePair wsX2_requirePair) := goodIn_app (goodIn_of _ (by decide +kernel)) ggX2_serve_X2_requirePair
set_option maxRecDepth 20000 in
theorem ggX2_serve_X2_tell : GoodIn wsX2_serve wsX2_tell := goodIn_r _ [21, 22, 8, 23, 24, 11, 25, 26, 27, 28, 29, 30, 31, 32, 33, 44, 45, 46, 47, 48, 49, 50, 51, 52, 57, 58, 59, 60, 61, 62, 63] (by decide +kernel) (by decide +kernel)
set_option maxRecDepth 20000 in
theorem gX2_serve_X2_tell : GoodIn wsX2_serve (wsV RX2 111 RX2 yX2_tell wsX2_tell) := goodIn_app (goodIn_of _ (by decide +kernel)) ggX2_serve_X2_tell
set_option maxRecDepth 20000 in
theorem ggX2_serve_X1_init : GoodIn wsX2_serve wsX1_init := goodIn_r _ [36, 37, 38, 39, 40, 41, 42, 43, 53, 54, 55, 56] (by decide +kernel) (by decide +kernel)
set_option maxRecDepth 20000 in
theorem gX2_serve_X1_init : GoodIn wsX2_serve (wsX1_init) := ggX2_serve_X1_init
theorem dX2_serve_0 : decode cX2_serve 0 = .ok (.iload_n 1, 1) := by decide +kernel
theorem dX2_serve_1 : decode cX2_serve 1 = .ok (.iload_n 2, 1) := by decide +kernel
theorem dX2_serve_2 : decode cX2_serve 2 = .ok (.invokestatic 31, 3) := by decide +kernel
theorem dX2_serve_5 : decode cX2_serve 5 = .ok (.aload_n 0, 1) := by decide +kernel
theorem dX2_serve_6 : decode cX2_serve 6 = .ok (.getfield 114, 3) := by decide +kernel
theorem dX2_serve_9 : decode cX2_serve 9 = .ok (.sipush 200, 3) := by decide +kernel
theorem dX2_serve_12 : decode cX2_serve 12 = .ok (.if_icmp .lt 13, 3) := by decide +kernel
theorem dX2_serve_15 : decode cX2_serve 15 = .ok (.new 47, 3) := by decide +kernel
theorem dX2_serve_18 : decode cX2_serve 18 = .ok (.dup, 1) := by decide +kernel
theorem dX2_serve_19 : decode cX2_serve 19 = .ok (.ldc 117, 2) := by decide +kernel
theorem dX2_serve_21 : decode cX2_serve 21 = .ok (.invokespecial 51, 3) := by decide +kernel
theorem dX2_serve_24 : decode cX2_serve 24 = .ok (.athrow, 1) := by decide +kernel
theorem dX2_serve_25 : decode cX2_serve 25 = .ok (.aload_n 0, 1) := by decide +kernel
theorem dX2_serve_26 : decode cX2_serve 26 = .ok (.iload_n 1, 1) := by decide +kernel
theorem dX2_serve_27 : decode cX2_serve 27 = .ok (.iload_n 2, 1) := by decide +kernel
theorem dX2_serve_28 : decode cX2_serve 28 = .ok (.invokevirtual 111, 3) := by decide +kernel
theorem dX2_serve_31 : decode cX2_serve 31 = .ok (.istore_n 3, 1) := by decide +kernel
theorem dX2_serve_32 : decode cX2_serve 32 = .ok (.aload_n 0, 1) := by decide +kernel
theorem dX2_serve_33 : decode cX2_serve 33 = .ok (.getfield 27, 3) := by decide +kernel
theorem dX2_serve_36 : decode cX2_serve 36 = .ok (.aload_n 0, 1) := by decide +kernel
theorem dX2_serve_37 : decode cX2_serve 37 = .ok (.getfield 114, 3) := by decide +kernel
theorem dX2_serve_40 : decode cX2_serve 40 = .ok (.new 25, 3) := by decide +kernel
theorem dX2_serve_43 : decode cX2_serve 43 = .ok (.dup, 1) := by decide +kernel
theorem dX2_serve_44 : decode cX2_serve 44 = .ok (.iload_n 1, 1) := by decide +kernel
theorem dX2_serve_45 : decode cX2_serve 45 = .ok (.iload_n 2, 1) := by decide +kernel
theorem dX2_serve_46 : decode cX2_serve 46 = .ok (.aload_n 0, 1) := by decide +kernel
theorem dX2_serve_47 : decode cX2_serve 47 = .ok (.getfield 35, 3) := by decide +kernel
theorem dX2_serve_50 : decode cX2_serve 50 = .ok (.iload_n 3, 1) := by decide +kernel
theorem dX2_serve_51 : decode cX2_serve 51 = .ok (.invokespecial 119, 3) := by decide +kernel
theorem dX2_serve_54 : decode cX2_serve 54 = .ok (.aastore, 1) := by decide +kernel
theorem dX2_serve_55 : decode cX2_serve 55 = .ok (.aload_n 0, 1) := by decide +kernel
theorem dX2_serve_56 : decode cX2_serve 56 = .ok (.dup, 1) := by decide +kernel
theorem dX2_serve_57 : decode cX2_serve 57 = .ok (.getfield 114, 3) := by decide +kernel
theorem dX2_serve_60 : decode cX2_serve 60 = .ok (.iconst 1, 1) := by decide +kernel
theorem dX2_serve_61 : decode cX2_serve 61 = .ok (.iadd, 1) := by decide +kernel
theorem dX2_serve_62 : decode cX2_serve 62 = .ok (.putfield 114, 3) := by decide +kernel
theorem dX2_serve_65 : decode cX2_serve 65 = .ok (.iload_n 3, 1) := by decide +kernel
theorem dX2_serve_66 : decode cX2_serve 66 = .ok (.ireturn, 1) := by decide +kernel
theorem dX2_servings_0 : decode cX2_servings 0 = .ok (.aload_n 0, 1) := by decide +kernel
theorem dX2_servings_1 : decode cX2_servings 1 = .ok (.getfield 114, 3) := by decide +kernel
theorem dX2_servings_4 : decode cX2_servings 4 = .ok (.ireturn, 1) := by decide +kernel
set_option maxRecDepth 20000 in
theorem ggX2_served_X2_requireServing : GoodIn wsX2_served wsX2_requireServing := goodIn_ca (goodIn_r _ [6, 7, 8, 9, 10, 15, 16, 17, 18, 19, 20, 21, 22, 23] (by decide +kernel) (by decide +kernel)) (goodIn_sub (fun _ h => List.mem_cons_of_mem _ (List.mem_append_right _ h)) (by decide +kernel))
set_option maxRecDepth 20000 in
theorem gX2_served_X2_requireServing : GoodIn wsX2_served (wsV RX2 122 RX2 yX2_requireServing wsX2_requireServing) := goodIn_app (goodIn_of _ (by decide +kernel)) ggX2_served_X2_requireServing
theorem dX2_served_0 : decode cX2_served 0 = .ok (.aload_n 0, 1) := by decide +kernel
theorem dX2_served_1 : decode cX2_served 1 = .ok (.iload_n 1, 1) := by decide +kernel
theorem dX2_served_2 : decode cX2_served 2 = .ok (.invokevirtual 122, 3) := by decide +kernel
theorem dX2_served_5 : decode cX2_served 5 = .ok (.getfield 126, 3) := by decide +kernel
theorem dX2_served_8 : decode cX2_served 8 = .ok (.ireturn, 1) := by decide +kernel
set_option maxRecDepth 20000 in
theorem ggX2_isSound_X2_requireServing : GoodIn wsX2_isSound wsX2_requireServing := goodIn_ca (goodIn_r _ [9, 10, 11, 12, 13, 36, 37, 38, 39, 40, 41, 42, 43, 44] (by decide +kernel) (by decide +kernel)) (goodIn_sub (fun _ h => List.mem_cons_of_mem _ (List.mem_append_right _ h)) (by decide +kernel))
set_option maxRecDepth 20000 in
theorem gX2_isSound_X2_requireServing : GoodIn wsX2_isSound (wsV RX2 122 RX2 yX2_requireServing wsX2_requireServing) := goodIn_app (goodIn_of _ (by decide +kernel)) ggX2_isSound_X2_requireServing
set_option maxRecDepth 20000 in
theorem ggX2_isSound_X2_find : GoodIn wsX2_isSound wsX2_find := goodIn_r _ [17, 18, 19, 20, 21, 22, 23, 8, 24, 25, 26, 27, 28, 29, 30, 31, 36, 37, 38, 39, 40, 41, 42, 43, 44, 45, 46, 47, 48, 49, 50, 51] (by decide +kernel) (by decide +kernel)
set_option maxRecDepth 20000 in
theorem gX2_isSound_X2_find : GoodIn wsX2_isSound (wsV RX2 79 RX2 yX2_find wsX2_find) := goodIn_app (goodIn_of _ (by decide +kernel)) ggX2_isSound_X2_find
theorem dX2_isSound_0 : decode cX2_isSound 0 = .ok (.aload_n 0, 1) := by decide +kernel
theorem dX2_isSound_1 : decode cX2_isSound 1 = .ok (.iload_n 1, 1) := by decide +kernel
theorem dX2_isSound_2 : decode cX2_isSound 2 = .ok (.invokevirtual 122, 3) := by decide +kernel
theorem dX2_isSound_5 : decode cX2_isSound 5 = .ok (.astore_n 2, 1) := by decide +kernel
theorem dX2_isSound_6 : decode cX2_isSound 6 = .ok (.aload_n 2, 1) := by decide +kernel
theorem dX2_isSound_7 : decode cX2_isSound 7 = .ok (.getfield 126, 3) := by decide +kernel
theorem dX2_isSound_10 : decode cX2_isSound 10 = .ok (.aload_n 0, 1) := by decide +kernel
theorem dX2_isSound_11 : decode cX2_isSound 11 = .ok (.aload_n 2, 1) := by decide +kernel
theorem dX2_isSound_12 : decode cX2_isSound 12 = .ok (.getfield 129, 3) := by decide +kernel
theorem dX2_isSound_15 : decode cX2_isSound 15 = .ok (.aload_n 2, 1) := by decide +kernel
theorem dX2_isSound_16 : decode cX2_isSound 16 = .ok (.getfield 132, 3) := by decide +kernel
theorem dX2_isSound_19 : decode cX2_isSound 19 = .ok (.aload_n 2, 1) := by decide +kernel
theorem dX2_isSound_20 : decode cX2_isSound 20 = .ok (.getfield 135, 3) := by decide +kernel
theorem dX2_isSound_23 : decode cX2_isSound 23 = .ok (.aload_n 2, 1) := by decide +kernel
theorem dX2_isSound_24 : decode cX2_isSound 24 = .ok (.getfield 135, 3) := by decide +kernel
theorem dX2_isSound_27 : decode cX2_isSound 27 = .ok (.invokevirtual 79, 3) := by decide +kernel
theorem dX2_isSound_30 : decode cX2_isSound 30 = .ok (.if_icmp .ne 7, 3) := by decide +kernel
theorem dX2_isSound_33 : decode cX2_isSound 33 = .ok (.iconst 1, 1) := by decide +kernel
theorem dX2_isSound_34 : decode cX2_isSound 34 = .ok (.goto 4, 3) := by decide +kernel
theorem dX2_isSound_37 : decode cX2_isSound 37 = .ok (.iconst 0, 1) := by decide +kernel
theorem dX2_isSound_38 : decode cX2_isSound 38 = .ok (.ireturn, 1) := by decide +kernel
set_option maxRecDepth 20000 in
theorem ggX2_unsound_X2_isSound : GoodIn wsX2_unsound wsX2_isSound := goodIn_ca (goodIn_r _ [6, 7, 8, 9, 10, 11, 12, 13, 5, 14, 15, 16, 1, 17, 18, 19, 20, 21, 22, 23, 24, 25, 26, 27, 28, 29, 30, 31, 32, 33, 34, 35, 45, 46, 47, 48, 36, 37, 38, 39, 40, 41, 42, 43, 44, 49, 50, 51, 52, 53, 54, 55] (by decide +kernel) (by decide +kernel)) (goodIn_sub (fun _ h => List.mem_cons_of_mem _ (List.mem_append_right _ h)) (by decide +kernel))
set_option maxRecDepth 20000 in
theorem gX2_unsound_X2_isSound : GoodIn wsX2_unsound (wsV RX2 138 RX2 yX2_isSound wsX2_isSound) := goodIn_app (goodIn_of _ (by decide +kernel)) ggX2_unsound_X2_isSound
theorem dX2_unsound_0 : decode cX2_unsound 0 = .ok (.iconst 0, 1) := by decide +kernel
theorem dX2_unsound_1 : decode cX2_unsound 1 = .ok (.istore_n 1, 1) := by decide +kernel
theorem dX2_unsound_2 : decode cX2_unsound 2 = .ok (.iconst 0, 1) := by decide +kernel
theorem dX2_unsound_3 : decode cX2_unsound 3 = .ok (.istore_n 2, 1) := by decide +kernel
theorem dX2_unsound_4 : decode cX2_unsound 4 = .ok (.iload_n 2, 1) := by decide +kernel
theorem dX2_unsound_5 : decode cX2_unsound 5 = .ok (.aload_n 0, 1) := by decide +kernel
theorem dX2_unsound_6 : decode cX2_unsound 6 = .ok (.getfield 114, 3) := by decide +kernel
theorem dX2_unsound_9 : decode cX2_unsound 9 = .ok (.if_icmp .ge 20, 3) := by decide +kernel
theorem dX2_unsound_12 : decode cX2_unsound 12 = .ok (.aload_n 0, 1) := by decide +kernel
theorem dX2_unsound_13 : decode cX2_unsound 13 = .ok (.iload_n 2, 1) := by decide +kernel
theorem dX2_unsound_14 : decode cX2_unsound 14 = .ok (.invokevirtual 138, 3) := by decide +kernel
theorem dX2_unsound_17 : decode cX2_unsound 17 = .ok (.ifCond .ne 6, 3) := by decide +kernel
theorem dX2_unsound_20 : decode cX2_unsound 20 = .ok (.iinc 1 1, 3) := by decide +kernel
theorem dX2_unsound_23 : decode cX2_unsound 23 = .ok (.iinc 2 1, 3) := by decide +kernel
theorem dX2_unsound_26 : decode cX2_unsound 26 = .ok (.goto (-22), 3) := by decide +kernel
theorem dX2_unsound_29 : decode cX2_unsound 29 = .ok (.iload_n 1, 1) := by decide +kernel
theorem dX2_unsound_30 : decode cX2_unsound 30 = .ok (.ireturn, 1) := by decide +kernel
theorem dX2_requireRange_0 : decode cX2_requireRange 0 = .ok (.iload_n 0, 1) := by decide +kernel
theorem dX2_requireRange_1 : decode cX2_requireRange 1 = .ok (.iload_n 1, 1) := by decide +kernel
theorem dX2_requireRange_2 : decode cX2_requireRange 2 = .ok (.if_icmp .lt 8, 3) := by decide +kernel
theorem dX2_requireRange_5 : decode cX2_requireRange 5 = .ok (.iload_n 0, 1) := by decide +kernel
theorem dX2_requireRange_6 : decode cX2_requireRange 6 = .ok (.iload_n 2, 1) := by decide +kernel
theorem dX2_requireRange_7 : decode cX2_requireRange 7 = .ok (.if_icmp .le 13, 3) := by decide +kernel
theorem dX2_requireRange_10 : decode cX2_requireRange 10 = .ok (.new 142, 3) := by decide +kernel
theorem dX2_requireRange_13 : decode cX2_requireRange 13 = .ok (.dup, 1) := by decide +kernel
theorem dX2_requireRange_14 : decode cX2_requireRange 14 = .ok (.ldc 144, 2) := by decide +kernel
theorem dX2_requireRange_16 : decode cX2_requireRange 16 = .ok (.invokespecial 146, 3) := by decide +kernel
theorem dX2_requireRange_19 : decode cX2_requireRange 19 = .ok (.athrow, 1) := by decide +kernel
theorem dX2_requireRange_20 : decode cX2_requireRange 20 = .ok (.return_, 1) := by decide +kernel
set_option maxRecDepth 20000 in
theorem ggX2_requirePair_X2_requireRange : GoodIn wsX2_requirePair wsX2_requireRange := goodIn_ca (goodIn_r _ [4, 5, 6] (by decide +kernel) (by decide +kernel)) (goodIn_sub (fun _ h => List.mem_cons_of_mem _ (List.mem_append_right _ h)) (by decide +kernel))
set_option maxRecDepth 20000 in
theorem gX2_requirePair_X2_requireRange : GoodIn wsX2_requirePair (va_wsS RX2 39 yX2_requireRange wsX2_requireRange) := goodIn_app (goodIn_of _ (by decide +kernel)) ggX2_requirePair_X2_requireRange
theorem dX2_requirePair_0 : decode cX2_requirePair 0 = .ok (.iload_n 0, 1) := by decide +kernel
theorem dX2_requirePair_1 : decode cX2_requirePair 1 = .ok (.iconst 0, 1) := by decide +kernel
theorem dX2_requirePair_2 : decode cX2_requirePair 2 = .ok (.iconst 5, 1) := by decide +kernel
theorem dX2_requirePair_3 : decode cX2_requirePair 3 = .ok (.invokestatic 39, 3) := by decide +kernel
theorem dX2_requirePair_6 : decode cX2_requirePair 6 = .ok (.iload_n 1, 1) := by decide +kernel
theorem dX2_requirePair_7 : decode cX2_requirePair 7 = .ok (.iconst 0, 1) := by decide +kernel
theorem dX2_requirePair_8 : decode cX2_requirePair 8 = .ok (.bipush 9, 2) := by decide +kernel
theorem dX2_requirePair_10 : decode cX2_requirePair 10 = .ok (.invokestatic 39, 3) := by decide +kernel
theorem dX2_requirePair_13 : decode cX2_requirePair 13 = .ok (.return_, 1) := by decide +kernel
set_option maxRecDepth 20000 in
theorem ggX2_requireRow_X2_rowOrNull : GoodIn wsX2_requireRow wsX2_rowOrNull := goodIn_r _ [7, 8, 9, 10, 11, 12, 13, 14, 15, 16, 17, 18] (by decide +kernel) (by decide +kernel)
set_option maxRecDepth 20000 in
theorem gX2_requireRow_X2_rowOrNull : GoodIn wsX2_requireRow (wsV RX2 105 RX2 yX2_rowOrNull wsX2_rowOrNull) := goodIn_app (goodIn_of _ (by decide +kernel)) ggX2_requireRow_X2_rowOrNull
theorem dX2_requireRow_0 : decode cX2_requireRow 0 = .ok (.aload_n 0, 1) := by decide +kernel
theorem dX2_requireRow_1 : decode cX2_requireRow 1 = .ok (.iload_n 1, 1) := by decide +kernel
theorem dX2_requireRow_2 : decode cX2_requireRow 2 = .ok (.invokevirtual 105, 3) := by decide +kernel
theorem dX2_requireRow_5 : decode cX2_requireRow 5 = .ok (.astore_n 2, 1) := by decide +kernel
theorem dX2_requireRow_6 : decode cX2_requireRow 6 = .ok (.aload_n 2, 1) := by decide +kernel
theorem dX2_requireRow_7 : decode cX2_requireRow 7 = .ok (.ifnonnull 13, 3) := by decide +kernel
theorem dX2_requireRow_10 : decode cX2_requireRow 10 = .ok (.new 147, 3) := by decide +kernel
theorem dX2_requireRow_13 : decode cX2_requireRow 13 = .ok (.dup, 1) := by decide +kernel
theorem dX2_requireRow_14 : decode cX2_requireRow 14 = .ok (.ldc 149, 2) := by decide +kernel
theorem dX2_requireRow_16 : decode cX2_requireRow 16 = .ok (.invokespecial 151, 3) := by decide +kernel
theorem dX2_requireRow_19 : decode cX2_requireRow 19 = .ok (.athrow, 1) := by decide +kernel
theorem dX2_requireRow_20 : decode cX2_requireRow 20 = .ok (.aload_n 2, 1) := by decide +kernel
theorem dX2_requireRow_21 : decode cX2_requireRow 21 = .ok (.areturn, 1) := by decide +kernel
theorem dX2_requireServing_0 : decode cX2_requireServing 0 = .ok (.iload_n 1, 1) := by decide +kernel
theorem dX2_requireServing_1 : decode cX2_requireServing 1 = .ok (.ifCond .lt 20, 3) := by decide +kernel
theorem dX2_requireServing_4 : decode cX2_requireServing 4 = .ok (.iload_n 1, 1) := by decide +kernel
theorem dX2_requireServing_5 : decode cX2_requireServing 5 = .ok (.aload_n 0, 1) := by decide +kernel
theorem dX2_requireServing_6 : decode cX2_requireServing 6 = .ok (.getfield 114, 3) := by decide +kernel
theorem dX2_requireServing_9 : decode cX2_requireServing 9 = .ok (.if_icmp .ge 12, 3) := by decide +kernel
theorem dX2_requireServing_12 : decode cX2_requireServing 12 = .ok (.aload_n 0, 1) := by decide +kernel
theorem dX2_requireServing_13 : decode cX2_requireServing 13 = .ok (.getfield 27, 3) := by decide +kernel
theorem dX2_requireServing_16 : decode cX2_requireServing 16 = .ok (.iload_n 1, 1) := by decide +kernel
theorem dX2_requireServing_17 : decode cX2_requireServing 17 = .ok (.aaload, 1) := by decide +kernel
theorem dX2_requireServing_18 : decode cX2_requireServing 18 = .ok (.ifnonnull 13, 3) := by decide +kernel
theorem dX2_requireServing_21 : decode cX2_requireServing 21 = .ok (.new 147, 3) := by decide +kernel
theorem dX2_requireServing_24 : decode cX2_requireServing 24 = .ok (.dup, 1) := by decide +kernel
theorem dX2_requireServing_25 : decode cX2_requireServing 25 = .ok (.ldc 152, 2) := by decide +kernel
theorem dX2_requireServing_27 : decode cX2_requireServing 27 = .ok (.invokespecial 151, 3) := by decide +kernel
theorem dX2_requireServing_30 : decode cX2_requireServing 30 = .ok (.athrow, 1) := by decide +kernel
theorem dX2_requireServing_31 : decode cX2_requireServing 31 = .ok (.aload_n 0, 1) := by decide +kernel
theorem dX2_requireServing_32 : decode cX2_requireServing 32 = .ok (.getfield 27, 3) := by decide +kernel
theorem dX2_requireServing_35 : decode cX2_requireServing 35 = .ok (.iload_n 1, 1) := by decide +kernel
theorem dX2_requireServing_36 : decode cX2_requireServing 36 = .ok (.aaload, 1) := by decide +kernel
theorem dX2_requireServing_37 : decode cX2_requireServing 37 = .ok (.areturn, 1) := by decide +kernel
theorem dX2_rowOrNull_0 : decode cX2_rowOrNull 0 = .ok (.iload_n 1, 1) := by decide +kernel
theorem dX2_rowOrNull_1 : decode cX2_rowOrNull 1 = .ok (.ifCond .lt 20, 3) := by decide +kernel
theorem dX2_rowOrNull_4 : decode cX2_rowOrNull 4 = .ok (.iload_n 1, 1) := by decide +kernel
theorem dX2_rowOrNull_5 : decode cX2_rowOrNull 5 = .ok (.aload_n 0, 1) := by decide +kernel
theorem dX2_rowOrNull_6 : decode cX2_rowOrNull 6 = .ok (.getfield 44, 3) := by decide +kernel
theorem dX2_rowOrNull_9 : decode cX2_rowOrNull 9 = .ok (.if_icmp .ge 12, 3) := by decide +kernel
theorem dX2_rowOrNull_12 : decode cX2_rowOrNull 12 = .ok (.aload_n 0, 1) := by decide +kernel
theorem dX2_rowOrNull_13 : decode cX2_rowOrNull 13 = .ok (.getfield 15, 3) := by decide +kernel
theorem dX2_rowOrNull_16 : decode cX2_rowOrNull 16 = .ok (.iload_n 1, 1) := by decide +kernel
theorem dX2_rowOrNull_17 : decode cX2_rowOrNull 17 = .ok (.aaload, 1) := by decide +kernel
theorem dX2_rowOrNull_18 : decode cX2_rowOrNull 18 = .ok (.goto 4, 3) := by decide +kernel
theorem dX2_rowOrNull_21 : decode cX2_rowOrNull 21 = .ok (.aconst_null, 1) := by decide +kernel
theorem dX2_rowOrNull_22 : decode cX2_rowOrNull 22 = .ok (.areturn, 1) := by decide +kernel
theorem dX2_placeOf_0 : decode cX2_placeOf 0 = .ok (.iload_n 0, 1) := by decide +kernel
theorem dX2_placeOf_1 : decode cX2_placeOf 1 = .ok (.bipush 10, 2) := by decide +kernel
theorem dX2_placeOf_3 : decode cX2_placeOf 3 = .ok (.imul, 1) := by decide +kernel
theorem dX2_placeOf_4 : decode cX2_placeOf 4 = .ok (.iload_n 1, 1) := by decide +kernel
theorem dX2_placeOf_5 : decode cX2_placeOf 5 = .ok (.iadd, 1) := by decide +kernel
theorem dX2_placeOf_6 : decode cX2_placeOf 6 = .ok (.ireturn, 1) := by decide +kernel
set_option maxRecDepth 20000 in
theorem ggX2_putInChain_X2_placeOf : GoodIn wsX2_putInChain wsX2_placeOf := goodIn_r _ [9] (by decide +kernel) (by decide +kernel)
set_option maxRecDepth 20000 in
theorem gX2_putInChain_X2_placeOf : GoodIn wsX2_putInChain (va_wsS RX2 83 yX2_placeOf wsX2_placeOf) := goodIn_app (goodIn_of _ (by decide +kernel)) ggX2_putInChain_X2_placeOf
theorem dX2_putInChain_0 : decode cX2_putInChain 0 = .ok (.aload_n 1, 1) := by decide +kernel
theorem dX2_putInChain_1 : decode cX2_putInChain 1 = .ok (.getfield 154, 3) := by decide +kernel
theorem dX2_putInChain_4 : decode cX2_putInChain 4 = .ok (.aload_n 1, 1) := by decide +kernel
theorem dX2_putInChain_5 : decode cX2_putInChain 5 = .ok (.getfield 155, 3) := by decide +kernel
theorem dX2_putInChain_8 : decode cX2_putInChain 8 = .ok (.invokestatic 83, 3) := by decide +kernel
theorem dX2_putInChain_11 : decode cX2_putInChain 11 = .ok (.istore_n 2, 1) := by decide +kernel
theorem dX2_putInChain_12 : decode cX2_putInChain 12 = .ok (.aconst_null, 1) := by decide +kernel
theorem dX2_putInChain_13 : decode cX2_putInChain 13 = .ok (.astore_n 3, 1) := by decide +kernel
theorem dX2_putInChain_14 : decode cX2_putInChain 14 = .ok (.aload_n 0, 1) := by decide +kernel
theorem dX2_putInChain_15 : decode cX2_putInChain 15 = .ok (.getfield 19, 3) := by decide +kernel
theorem dX2_putInChain_18 : decode cX2_putInChain 18 = .ok (.iload_n 2, 1) := by decide +kernel
theorem dX2_putInChain_19 : decode cX2_putInChain 19 = .ok (.aaload, 1) := by decide +kernel
theorem dX2_putInChain_20 : decode cX2_putInChain 20 = .ok (.astore 4, 2) := by decide +kernel
theorem dX2_putInChain_22 : decode cX2_putInChain 22 = .ok (.aload 4, 2) := by decide +kernel
theorem dX2_putInChain_24 : decode cX2_putInChain 24 = .ok (.ifnull 28, 3) := by decide +kernel
theorem dX2_putInChain_27 : decode cX2_putInChain 27 = .ok (.aload 4, 2) := by decide +kernel
theorem dX2_putInChain_29 : decode cX2_putInChain 29 = .ok (.getfield 76, 3) := by decide +kernel
theorem dX2_putInChain_32 : decode cX2_putInChain 32 = .ok (.aload_n 1, 1) := by decide +kernel
theorem dX2_putInChain_33 : decode cX2_putInChain 33 = .ok (.getfield 76, 3) := by decide +kernel
theorem dX2_putInChain_36 : decode cX2_putInChain 36 = .ok (.if_icmp .le 16, 3) := by decide +kernel
theorem dX2_putInChain_39 : decode cX2_putInChain 39 = .ok (.aload 4, 2) := by decide +kernel
theorem dX2_putInChain_41 : decode cX2_putInChain 41 = .ok (.astore_n 3, 1) := by decide +kernel
theorem dX2_putInChain_42 : decode cX2_putInChain 42 = .ok (.aload 4, 2) := by decide +kernel
theorem dX2_putInChain_44 : decode cX2_putInChain 44 = .ok (.getfield 87, 3) := by decide +kernel
theorem dX2_putInChain_47 : decode cX2_putInChain 47 = .ok (.astore 4, 2) := by decide +kernel
theorem dX2_putInChain_49 : decode cX2_putInChain 49 = .ok (.goto (-27), 3) := by decide +kernel
theorem dX2_putInChain_52 : decode cX2_putInChain 52 = .ok (.aload_n 1, 1) := by decide +kernel
theorem dX2_putInChain_53 : decode cX2_putInChain 53 = .ok (.aload 4, 2) := by decide +kernel
theorem dX2_putInChain_55 : decode cX2_putInChain 55 = .ok (.putfield 87, 3) := by decide +kernel
theorem dX2_putInChain_58 : decode cX2_putInChain 58 = .ok (.aload_n 3, 1) := by decide +kernel
theorem dX2_putInChain_59 : decode cX2_putInChain 59 = .ok (.ifnonnull 13, 3) := by decide +kernel
theorem dX2_putInChain_62 : decode cX2_putInChain 62 = .ok (.aload_n 0, 1) := by decide +kernel
theorem dX2_putInChain_63 : decode cX2_putInChain 63 = .ok (.getfield 19, 3) := by decide +kernel
theorem dX2_putInChain_66 : decode cX2_putInChain 66 = .ok (.iload_n 2, 1) := by decide +kernel
theorem dX2_putInChain_67 : decode cX2_putInChain 67 = .ok (.aload_n 1, 1) := by decide +kernel
theorem dX2_putInChain_68 : decode cX2_putInChain 68 = .ok (.aastore, 1) := by decide +kernel
theorem dX2_putInChain_69 : decode cX2_putInChain 69 = .ok (.goto 8, 3) := by decide +kernel
theorem dX2_putInChain_72 : decode cX2_putInChain 72 = .ok (.aload_n 3, 1) := by decide +kernel
theorem dX2_putInChain_73 : decode cX2_putInChain 73 = .ok (.aload_n 1, 1) := by decide +kernel
theorem dX2_putInChain_74 : decode cX2_putInChain 74 = .ok (.putfield 87, 3) := by decide +kernel
theorem dX2_putInChain_77 : decode cX2_putInChain 77 = .ok (.return_, 1) := by decide +kernel
set_option maxRecDepth 20000 in
theorem ggX2_find_X2_placeOf : GoodIn wsX2_find wsX2_placeOf := goodIn_r _ [8] (by decide +kernel) (by decide +kernel)
set_option maxRecDepth 20000 in
theorem gX2_find_X2_placeOf : GoodIn wsX2_find (va_wsS RX2 83 yX2_placeOf wsX2_placeOf) := goodIn_app (goodIn_of _ (by decide +kernel)) ggX2_find_X2_placeOf
set_option maxRecDepth 20000 in
theorem ggX2_find_X2_numberUnlessExpired : GoodIn wsX2_find wsX2_numberUnlessExpired := goodIn_r _ [12, 2, 13, 14, 15, 25, 26, 27, 28, 29, 30, 31, 16, 17, 18, 19, 20, 21, 22, 23, 24] (by decide +kernel) (by decide +kernel)
set_option maxRecDepth 20000 in
theorem gX2_find_X2_numberUnlessExpired : GoodIn wsX2_find (wsV RX2 156 RX2 yX2_numberUnlessExpired wsX2_numberUnlessExpired) := goodIn_app (goodIn_of _ (by decide +kernel)) ggX2_find_X2_numberUnlessExpired
theorem dX2_find_0 : decode cX2_find 0 = .ok (.aload_n 0, 1) := by decide +kernel
theorem dX2_find_1 : decode cX2_find 1 = .ok (.getfield 19, 3) := by decide +kernel
theorem dX2_find_4 : decode cX2_find 4 = .ok (.iload_n 1, 1) := by decide +kernel
theorem dX2_find_5 : decode cX2_find 5 = .ok (.iload_n 2, 1) := by decide +kernel
theorem dX2_find_6 : decode cX2_find 6 = .ok (.invokestatic 83, 3) := by decide +kernel
theorem dX2_find_9 : decode cX2_find 9 = .ok (.aaload, 1) := by decide +kernel
theorem dX2_find_10 : decode cX2_find 10 = .ok (.astore 5, 2) := by decide +kernel
theorem dX2_find_12 : decode cX2_find 12 = .ok (.aload 5, 2) := by decide +kernel
theorem dX2_find_14 : decode cX2_find 14 = .ok (.ifnull 32, 3) := by decide +kernel
theorem dX2_find_17 : decode cX2_find 17 = .ok (.aload 5, 2) := by decide +kernel
theorem dX2_find_19 : decode cX2_find 19 = .ok (.getfield 76, 3) := by decide +kernel
theorem dX2_find_22 : decode cX2_find 22 = .ok (.iload_n 3, 1) := by decide +kernel
theorem dX2_find_23 : decode cX2_find 23 = .ok (.if_icmp .gt 13, 3) := by decide +kernel
theorem dX2_find_26 : decode cX2_find 26 = .ok (.aload 5, 2) := by decide +kernel
theorem dX2_find_28 : decode cX2_find 28 = .ok (.getfield 73, 3) := by decide +kernel
theorem dX2_find_31 : decode cX2_find 31 = .ok (.iload 4, 2) := by decide +kernel
theorem dX2_find_33 : decode cX2_find 33 = .ok (.if_icmp .le 13, 3) := by decide +kernel
theorem dX2_find_36 : decode cX2_find 36 = .ok (.aload 5, 2) := by decide +kernel
theorem dX2_find_38 : decode cX2_find 38 = .ok (.getfield 87, 3) := by decide +kernel
theorem dX2_find_41 : decode cX2_find 41 = .ok (.astore 5, 2) := by decide +kernel
theorem dX2_find_43 : decode cX2_find 43 = .ok (.goto (-31), 3) := by decide +kernel
theorem dX2_find_46 : decode cX2_find 46 = .ok (.aload_n 0, 1) := by decide +kernel
theorem dX2_find_47 : decode cX2_find 47 = .ok (.aload 5, 2) := by decide +kernel
theorem dX2_find_49 : decode cX2_find 49 = .ok (.iload_n 3, 1) := by decide +kernel
theorem dX2_find_50 : decode cX2_find 50 = .ok (.invokevirtual 156, 3) := by decide +kernel
theorem dX2_find_53 : decode cX2_find 53 = .ok (.ireturn, 1) := by decide +kernel
set_option maxRecDepth 20000 in
theorem ggX2_tell_X2_placeOf : GoodIn wsX2_tell wsX2_placeOf := goodIn_r _ [6] (by decide +kernel) (by decide +kernel)
set_option maxRecDepth 20000 in
theorem gX2_tell_X2_placeOf : GoodIn wsX2_tell (va_wsS RX2 83 yX2_placeOf wsX2_placeOf) := goodIn_app (goodIn_of _ (by decide +kernel)) ggX2_tell_X2_placeOf
set_option maxRecDepth 20000 in
theorem ggX2_tell_X2_numberUnlessExpired : GoodIn wsX2_tell wsX2_numberUnlessExpired := goodIn_r _ [10, 11, 12, 13, 14, 24, 25, 26, 27, 28, 29, 30, 15, 16, 17, 18, 19, 20, 21, 22, 23] (by decide +kernel) (by decide +kernel)
set_option maxRecDepth 20000 in
theorem gX2_tell_X2_numberUnlessExpired : GoodIn wsX2_tell (wsV RX2 156 RX2 yX2_numberUnlessExpired wsX2_numberUnlessExpired) := goodIn_app (goodIn_of _ (by decide +kernel)) ggX2_tell_X2_numberUnlessExpired
theorem dX2_tell_0 : decode cX2_tell 0 = .ok (.aload_n 0, 1) := by decide +kernel
theorem dX2_tell_1 : decode cX2_tell 1 = .ok (.aload_n 0, 1) := by decide +kernel
theorem dX2_tell_2 : decode cX2_tell 2 = .ok (.getfield 22, 3) := by decide +kernel
theorem dX2_tell_5 : decode cX2_tell 5 = .ok (.iload_n 1, 1) := by decide +kernel
theorem dX2_tell_6 : decode cX2_tell 6 = .ok (.iload_n 2, 1) := by decide +kernel
theorem dX2_tell_7 : decode cX2_tell 7 = .ok (.invokestatic 83, 3) := by decide +kernel
theorem dX2_tell_10 : decode cX2_tell 10 = .ok (.aaload, 1) := by decide +kernel
theorem dX2_tell_11 : decode cX2_tell 11 = .ok (.aload_n 0, 1) := by decide +kernel
theorem dX2_tell_12 : decode cX2_tell 12 = .ok (.getfield 35, 3) := by decide +kernel
theorem dX2_tell_15 : decode cX2_tell 15 = .ok (.invokevirtual 156, 3) := by decide +kernel
theorem dX2_tell_18 : decode cX2_tell 18 = .ok (.ireturn, 1) := by decide +kernel
theorem dX2_numberUnlessExpired_0 : decode cX2_numberUnlessExpired 0 = .ok (.aload_n 1, 1) := by decide +kernel
theorem dX2_numberUnlessExpired_1 : decode cX2_numberUnlessExpired 1 = .ok (.ifnull 21, 3) := by decide +kernel
theorem dX2_numberUnlessExpired_4 : decode cX2_numberUnlessExpired 4 = .ok (.iload_n 2, 1) := by decide +kernel
theorem dX2_numberUnlessExpired_5 : decode cX2_numberUnlessExpired 5 = .ok (.aload_n 1, 1) := by decide +kernel
theorem dX2_numberUnlessExpired_6 : decode cX2_numberUnlessExpired 6 = .ok (.getfield 76, 3) := by decide +kernel
theorem dX2_numberUnlessExpired_9 : decode cX2_numberUnlessExpired 9 = .ok (.isub, 1) := by decide +kernel
theorem dX2_numberUnlessExpired_10 : decode cX2_numberUnlessExpired 10 = .ok (.aload_n 0, 1) := by decide +kernel
theorem dX2_numberUnlessExpired_11 : decode cX2_numberUnlessExpired 11 = .ok (.getfield 9, 3) := by decide +kernel
theorem dX2_numberUnlessExpired_14 : decode cX2_numberUnlessExpired 14 = .ok (.aload_n 1, 1) := by decide +kernel
theorem dX2_numberUnlessExpired_15 : decode cX2_numberUnlessExpired 15 = .ok (.getfield 154, 3) := by decide +kernel
theorem dX2_numberUnlessExpired_18 : decode cX2_numberUnlessExpired 18 = .ok (.iaload, 1) := by decide +kernel
theorem dX2_numberUnlessExpired_19 : decode cX2_numberUnlessExpired 19 = .ok (.if_icmp .le 5, 3) := by decide +kernel
theorem dX2_numberUnlessExpired_22 : decode cX2_numberUnlessExpired 22 = .ok (.iconst (-1), 1) := by decide +kernel
theorem dX2_numberUnlessExpired_23 : decode cX2_numberUnlessExpired 23 = .ok (.ireturn, 1) := by decide +kernel
theorem dX2_numberUnlessExpired_24 : decode cX2_numberUnlessExpired 24 = .ok (.aload_n 1, 1) := by decide +kernel
theorem dX2_numberUnlessExpired_25 : decode cX2_numberUnlessExpired 25 = .ok (.getfield 61, 3) := by decide +kernel
theorem dX2_numberUnlessExpired_28 : decode cX2_numberUnlessExpired 28 = .ok (.ireturn, 1) := by decide +kernel
set_option maxRecDepth 20000 in
theorem ggX2_takeIn_X2_placeOf : GoodIn wsX2_takeIn wsX2_placeOf := goodIn_r _ [8] (by decide +kernel) (by decide +kernel)
set_option maxRecDepth 20000 in
theorem gX2_takeIn_X2_placeOf : GoodIn wsX2_takeIn (va_wsS RX2 83 yX2_placeOf wsX2_placeOf) := goodIn_app (goodIn_of _ (by decide +kernel)) ggX2_takeIn_X2_placeOf
theorem dX2_takeIn_0 : decode cX2_takeIn 0 = .ok (.aload_n 1, 1) := by decide +kernel
theorem dX2_takeIn_1 : decode cX2_takeIn 1 = .ok (.getfield 154, 3) := by decide +kernel
theorem dX2_takeIn_4 : decode cX2_takeIn 4 = .ok (.aload_n 1, 1) := by decide +kernel
theorem dX2_takeIn_5 : decode cX2_takeIn 5 = .ok (.getfield 155, 3) := by decide +kernel
theorem dX2_takeIn_8 : decode cX2_takeIn 8 = .ok (.invokestatic 83, 3) := by decide +kernel
theorem dX2_takeIn_11 : decode cX2_takeIn 11 = .ok (.istore_n 2, 1) := by decide +kernel
theorem dX2_takeIn_12 : decode cX2_takeIn 12 = .ok (.aload_n 0, 1) := by decide +kernel
theorem dX2_takeIn_13 : decode cX2_takeIn 13 = .ok (.getfield 22, 3) := by decide +kernel
theorem dX2_takeIn_16 : decode cX2_takeIn 16 = .ok (.iload_n 2, 1) := by decide +kernel
theorem dX2_takeIn_17 : decode cX2_takeIn 17 = .ok (.aaload, 1) := by decide +kernel
theorem dX2_takeIn_18 : decode cX2_takeIn 18 = .ok (.astore_n 3, 1) := by decide +kernel
theorem dX2_takeIn_19 : decode cX2_takeIn 19 = .ok (.aload_n 3, 1) := by decide +kernel
theorem dX2_takeIn_20 : decode cX2_takeIn 20 = .ok (.ifnull 14, 3) := by decide +kernel
theorem dX2_takeIn_23 : decode cX2_takeIn 23 = .ok (.aload_n 3, 1) := by decide +kernel
theorem dX2_takeIn_24 : decode cX2_takeIn 24 = .ok (.getfield 76, 3) := by decide +kernel
theorem dX2_takeIn_27 : decode cX2_takeIn 27 = .ok (.aload_n 1, 1) := by decide +kernel
theorem dX2_takeIn_28 : decode cX2_takeIn 28 = .ok (.getfield 76, 3) := by decide +kernel
theorem dX2_takeIn_31 : decode cX2_takeIn 31 = .ok (.if_icmp .gt 10, 3) := by decide +kernel
theorem dX2_takeIn_34 : decode cX2_takeIn 34 = .ok (.aload_n 0, 1) := by decide +kernel
theorem dX2_takeIn_35 : decode cX2_takeIn 35 = .ok (.getfield 22, 3) := by decide +kernel
theorem dX2_takeIn_38 : decode cX2_takeIn 38 = .ok (.iload_n 2, 1) := by decide +kernel
theorem dX2_takeIn_39 : decode cX2_takeIn 39 = .ok (.aload_n 1, 1) := by decide +kernel
theorem dX2_takeIn_40 : decode cX2_takeIn 40 = .ok (.aastore, 1) := by decide +kernel
theorem dX2_takeIn_41 : decode cX2_takeIn 41 = .ok (.return_, 1) := by decide +kernel
theorem dX2_multiplesBelow_0 : decode cX2_multiplesBelow 0 = .ok (.iload_n 0, 1) := by decide +kernel
theorem dX2_multiplesBelow_1 : decode cX2_multiplesBelow 1 = .ok (.iload_n 1, 1) := by decide +kernel
theorem dX2_multiplesBelow_2 : decode cX2_multiplesBelow 2 = .ok (.iadd, 1) := by decide +kernel
theorem dX2_multiplesBelow_3 : decode cX2_multiplesBelow 3 = .ok (.iconst 1, 1) := by decide +kernel
theorem dX2_multiplesBelow_4 : decode cX2_multiplesBelow 4 = .ok (.isub, 1) := by decide +kernel
theorem dX2_multiplesBelow_5 : decode cX2_multiplesBelow 5 = .ok (.iload_n 1, 1) := by decide +kernel
theorem dX2_multiplesBelow_6 : decode cX2_multiplesBelow 6 = .ok (.idiv, 1) := by decide +kernel
theorem dX2_multiplesBelow_7 : decode cX2_multiplesBelow 7 = .ok (.ireturn, 1) := by decide +kernel
theorem dJ9_max_7cf53_0 : decode cJ9_max_7cf53 0 = .ok (.iload_n 0, 1) := by decide +kernel
theorem dJ9_max_7cf53_1 : decode cJ9_max_7cf53 1 = .ok (.iload_n 1, 1) := by decide +kernel
theorem dJ9_max_7cf53_2 : decode cJ9_max_7cf53 2 = .ok (.if_icmp .lt 7, 3) := by decide +kernel
theorem dJ9_max_7cf53_5 : decode cJ9_max_7cf53 5 = .ok (.iload_n 0, 1) := by decide +kernel
theorem dJ9_max_7cf53_6 : decode cJ9_max_7cf53 6 = .ok (.goto 4, 3) := by decide +kernel
theorem dJ9_max_7cf53_9 : decode cJ9_max_7cf53 9 = .ok (.iload_n 1, 1) := by decide +kernel
theorem dJ9_max_7cf53_10 : decode cJ9_max_7cf53 10 = .ok (.ireturn, 1) := by decide +kernel
theorem dJ9_min_7cf53_0 : decode cJ9_min_7cf53 0 = .ok (.iload_n 0, 1) := by decide +kernel
theorem dJ9_min_7cf53_1 : decode cJ9_min_7cf53 1 = .ok (.iload_n 1, 1) := by decide +kernel
theorem dJ9_min_7cf53_2 : decode cJ9_min_7cf53 2 = .ok (.if_icmp .gt 7, 3) := by decide +kernel
theorem dJ9_min_7cf53_5 : decode cJ9_min_7cf53 5 = .ok (.iload_n 0, 1) := by decide +kernel
theorem dJ9_min_7cf53_6 : decode cJ9_min_7cf53 6 = .ok (.goto 4, 3) := by decide +kernel
theorem dJ9_min_7cf53_9 : decode cJ9_min_7cf53 9 = .ok (.iload_n 1, 1) := by decide +kernel
theorem dJ9_min_7cf53_10 : decode cJ9_min_7cf53 10 = .ok (.ireturn, 1) := by decide +kernel
theorem dL_cell_0 : decode cL_cell 0 = .ok (.iload_n 1, 1) := by decide +kernel
theorem dL_cell_1 : decode cL_cell 1 = .ok (.aload_n 0, 1) := by decide +kernel
theorem dL_cell_2 : decode cL_cell 2 = .ok (.arraylength, 1) := by decide +kernel
theorem dL_cell_3 : decode cL_cell 3 = .ok (.if_icmp .ge 9, 3) := by decide +kernel
theorem dL_cell_6 : decode cL_cell 6 = .ok (.aload_n 0, 1) := by decide +kernel
theorem dL_cell_7 : decode cL_cell 7 = .ok (.iload_n 1, 1) := by decide +kernel
theorem dL_cell_8 : decode cL_cell 8 = .ok (.iaload, 1) := by decide +kernel
theorem dL_cell_9 : decode cL_cell 9 = .ok (.goto 9, 3) := by decide +kernel
theorem dL_cell_12 : decode cL_cell 12 = .ok (.ldc 7, 2) := by decide +kernel
theorem dL_cell_14 : decode cL_cell 14 = .ok (.iload_n 1, 1) := by decide +kernel
theorem dL_cell_15 : decode cL_cell 15 = .ok (.iconst 5, 1) := by decide +kernel
theorem dL_cell_16 : decode cL_cell 16 = .ok (.iadd, 1) := by decide +kernel
theorem dL_cell_17 : decode cL_cell 17 = .ok (.imul, 1) := by decide +kernel
theorem dL_cell_18 : decode cL_cell 18 = .ok (.ireturn, 1) := by decide +kernel
theorem dL_low_0 : decode cL_low 0 = .ok (.iload_n 0, 1) := by decide +kernel
theorem dL_low_1 : decode cL_low 1 = .ok (.iconst 1, 1) := by decide +kernel
theorem dL_low_2 : decode cL_low 2 = .ok (.iushr, 1) := by decide +kernel
theorem dL_low_3 : decode cL_low 3 = .ok (.iload_n 1, 1) := by decide +kernel
theorem dL_low_4 : decode cL_low 4 = .ok (.irem, 1) := by decide +kernel
theorem dL_low_5 : decode cL_low 5 = .ok (.ireturn, 1) := by decide +kernel
set_option maxRecDepth 20000 in
theorem ggL_arrive_X2_arrive : GoodIn wsL_arrive wsX2_arrive := goodIn_ca (goodIn_ca (goodIn_r _ [6, 7, 8, 9, 10, 11, 12, 13, 14, 15, 16, 17, 18, 5, 19, 20, 21, 22, 23, 24, 25, 26, 27, 28, 29, 30, 31, 32, 33, 34, 35, 36, 37, 38, 39, 40, 41, 42, 43, 44, 45, 46, 47, 48, 49, 50, 51, 52, 53, 54, 55, 56, 57, 58, 59, 60, 61, 62, 63, 64] (by decide +kernel) (by decide +kernel)) (goodIn_sub (fun _ h => List.mem_cons_of_mem _ (List.mem_append_left _ (List.mem_append_right _ h))) (by decide +kernel))) (goodIn_sub (fun _ h => List.mem_cons_of_mem _ (List.mem_append_right _ h)) (by decide +kernel))
set_option maxRecDepth 20000 in
theorem gL_arrive_X2_arrive : GoodIn wsL_arrive (wsV RL 8 RX2 yX2_arrive wsX2_arrive) := goodIn_app (goodIn_of _ (by decide +kernel)) ggL_arrive_X2_arrive
theorem dL_arrive_0 : decode cL_arrive 0 = .ok (.aload_n 0, 1) := by decide +kernel
theorem dL_arrive_1 : decode cL_arrive 1 = .ok (.iload_n 1, 1) := by decide +kernel
theorem dL_arrive_2 : decode cL_arrive 2 = .ok (.iload_n 2, 1) := by decide +kernel
theorem dL_arrive_3 : decode cL_arrive 3 = .ok (.iload_n 3, 1) := by decide +kernel
theorem dL_arrive_4 : decode cL_arrive 4 = .ok (.iload 4, 2) := by decide +kernel
theorem dL_arrive_6 : decode cL_arrive 6 = .ok (.invokevirtual 8, 3) := by decide +kernel
theorem dL_arrive_9 : decode cL_arrive 9 = .ok (.istore 5, 2) := by decide +kernel
theorem dL_arrive_11 : decode cL_arrive 11 = .ok (.goto 8, 3) := by decide +kernel
theorem dL_arrive_14 : decode cL_arrive 14 = .ok (.astore 6, 2) := by decide +kernel
theorem dL_arrive_16 : decode cL_arrive 16 = .ok (.bipush (-72), 2) := by decide +kernel
theorem dL_arrive_18 : decode cL_arrive 18 = .ok (.ireturn, 1) := by decide +kernel
theorem dL_arrive_19 : decode cL_arrive 19 = .ok (.iload 5, 2) := by decide +kernel
theorem dL_arrive_21 : decode cL_arrive 21 = .ok (.ireturn, 1) := by decide +kernel
set_option maxRecDepth 20000 in
theorem ggL_pass_X2_pass : GoodIn wsL_pass wsX2_pass := goodIn_ca (goodIn_ca (goodIn_r _ [7, 8, 9, 10, 11, 12, 6, 13, 14, 15, 16, 17, 18, 19, 20, 21, 22, 23, 24] (by decide +kernel) (by decide +kernel)) (goodIn_sub (fun _ h => List.mem_cons_of_mem _ (List.mem_append_left _ (List.mem_append_right _ h))) (by decide +kernel))) (goodIn_sub (fun _ h => List.mem_cons_of_mem _ (List.mem_append_right _ h)) (by decide +kernel))
set_option maxRecDepth 20000 in
theorem gL_pass_X2_pass : GoodIn wsL_pass (wsV RL 16 RX2 yX2_pass wsX2_pass) := goodIn_app (goodIn_of _ (by decide +kernel)) ggL_pass_X2_pass
theorem dL_pass_0 : decode cL_pass 0 = .ok (.aload_n 0, 1) := by decide +kernel
theorem dL_pass_1 : decode cL_pass 1 = .ok (.iload_n 1, 1) := by decide +kernel
theorem dL_pass_2 : decode cL_pass 2 = .ok (.invokevirtual 16, 3) := by decide +kernel
theorem dL_pass_5 : decode cL_pass 5 = .ok (.istore_n 2, 1) := by decide +kernel
theorem dL_pass_6 : decode cL_pass 6 = .ok (.goto 11, 3) := by decide +kernel
theorem dL_pass_9 : decode cL_pass 9 = .ok (.astore_n 3, 1) := by decide +kernel
theorem dL_pass_10 : decode cL_pass 10 = .ok (.bipush (-72), 2) := by decide +kernel
theorem dL_pass_12 : decode cL_pass 12 = .ok (.ireturn, 1) := by decide +kernel
theorem dL_pass_13 : decode cL_pass 13 = .ok (.astore_n 3, 1) := by decide +kernel
theorem dL_pass_14 : decode cL_pass 14 = .ok (.bipush (-73), 2) := by decide +kernel
theorem dL_pass_16 : decode cL_pass 16 = .ok (.ireturn, 1) := by decide +kernel
theorem dL_pass_17 : decode cL_pass 17 = .ok (.iload_n 2, 1) := by decide +kernel
theorem dL_pass_18 : decode cL_pass 18 = .ok (.ireturn, 1) := by decide +kernel
set_option maxRecDepth 20000 in
theorem ggL_setLifetime_X2_setLifetime : GoodIn wsL_setLifetime wsX2_setLifetime := goodIn_ca (goodIn_r _ [6, 7, 8, 9, 5, 10, 11, 12, 13, 14, 15, 16, 17, 18, 19, 20, 21] (by decide +kernel) (by decide +kernel)) (goodIn_sub (fun _ h => List.mem_cons_of_mem _ (List.mem_append_right _ h)) (by decide +kernel))
set_option maxRecDepth 20000 in
theorem gL_setLifetime_X2_setLifetime : GoodIn wsL_setLifetime (wsV RL 22 RX2 yX2_setLifetime wsX2_setLifetime) := goodIn_app (goodIn_of _ (by decide +kernel)) ggL_setLifetime_X2_setLifetime
theorem dL_setLifetime_0 : decode cL_setLifetime 0 = .ok (.aload_n 0, 1) := by decide +kernel
theorem dL_setLifetime_1 : decode cL_setLifetime 1 = .ok (.iload_n 1, 1) := by decide +kernel
theorem dL_setLifetime_2 : decode cL_setLifetime 2 = .ok (.iload_n 2, 1) := by decide +kernel
theorem dL_setLifetime_3 : decode cL_setLifetime 3 = .ok (.invokevirtual 22, 3) := by decide +kernel
theorem dL_setLifetime_6 : decode cL_setLifetime 6 = .ok (.istore_n 3, 1) := by decide +kernel
theorem dL_setLifetime_7 : decode cL_setLifetime 7 = .ok (.goto 8, 3) := by decide +kernel
theorem dL_setLifetime_10 : decode cL_setLifetime 10 = .ok (.astore 4, 2) := by decide +kernel
theorem dL_setLifetime_12 : decode cL_setLifetime 12 = .ok (.bipush (-72), 2) := by decide +kernel
theorem dL_setLifetime_14 : decode cL_setLifetime 14 = .ok (.ireturn, 1) := by decide +kernel
theorem dL_setLifetime_15 : decode cL_setLifetime 15 = .ok (.iload_n 3, 1) := by decide +kernel
theorem dL_setLifetime_16 : decode cL_setLifetime 16 = .ok (.ireturn, 1) := by decide +kernel
set_option maxRecDepth 20000 in
theorem ggL_value_X2_value : GoodIn wsL_value wsX2_value := goodIn_ca (goodIn_r _ [6, 7, 8, 9, 10, 5, 11, 12, 13, 14, 15, 16, 17, 18, 19, 20, 21, 22, 23, 24, 25, 26, 27, 28, 29, 30, 31, 32, 33, 34, 35] (by decide +kernel) (by decide +kernel)) (goodIn_sub (fun _ h => List.mem_cons_of_mem _ (List.mem_append_right _ h)) (by decide +kernel))
set_option maxRecDepth 20000 in
theorem gL_value_X2_value : GoodIn wsL_value (wsV RL 26 RX2 yX2_value wsX2_value) := goodIn_app (goodIn_of _ (by decide +kernel)) ggL_value_X2_value
theorem dL_value_0 : decode cL_value 0 = .ok (.aload_n 0, 1) := by decide +kernel
theorem dL_value_1 : decode cL_value 1 = .ok (.iload_n 1, 1) := by decide +kernel
theorem dL_value_2 : decode cL_value 2 = .ok (.invokevirtual 26, 3) := by decide +kernel
theorem dL_value_5 : decode cL_value 5 = .ok (.istore_n 2, 1) := by decide +kernel
theorem dL_value_6 : decode cL_value 6 = .ok (.goto 7, 3) := by decide +kernel
theorem dL_value_9 : decode cL_value 9 = .ok (.astore_n 3, 1) := by decide +kernel
theorem dL_value_10 : decode cL_value 10 = .ok (.bipush (-71), 2) := by decide +kernel
theorem dL_value_12 : decode cL_value 12 = .ok (.ireturn, 1) := by decide +kernel
theorem dL_value_13 : decode cL_value 13 = .ok (.iload_n 2, 1) := by decide +kernel
theorem dL_value_14 : decode cL_value 14 = .ok (.ireturn, 1) := by decide +kernel
set_option maxRecDepth 20000 in
theorem ggL_late_X2_late : GoodIn wsL_late wsX2_late := goodIn_ca (goodIn_r _ [6, 7, 8, 9, 10, 11, 5, 12, 13, 14, 15, 16, 17, 18, 19, 20, 21, 22, 23, 24, 25, 26, 27, 28, 29, 30, 31, 32, 33, 34, 35, 36] (by decide +kernel) (by decide +kernel)) (goodIn_sub (fun _ h => List.mem_cons_of_mem _ (List.mem_append_right _ h)) (by decide +kernel))
set_option maxRecDepth 20000 in
theorem gL_late_X2_late : GoodIn wsL_late (wsV RL 31 RX2 yX2_late wsX2_late) := goodIn_app (goodIn_of _ (by decide +kernel)) ggL_late_X2_late
theorem dL_late_0 : decode cL_late 0 = .ok (.aload_n 0, 1) := by decide +kernel
theorem dL_late_1 : decode cL_late 1 = .ok (.iload_n 1, 1) := by decide +kernel
theorem dL_late_2 : decode cL_late 2 = .ok (.invokevirtual 31, 3) := by decide +kernel
theorem dL_late_5 : decode cL_late 5 = .ok (.istore_n 2, 1) := by decide +kernel
theorem dL_late_6 : decode cL_late 6 = .ok (.goto 7, 3) := by decide +kernel
theorem dL_late_9 : decode cL_late 9 = .ok (.astore_n 3, 1) := by decide +kernel
theorem dL_late_10 : decode cL_late 10 = .ok (.bipush (-71), 2) := by decide +kernel
theorem dL_late_12 : decode cL_late 12 = .ok (.ireturn, 1) := by decide +kernel
theorem dL_late_13 : decode cL_late 13 = .ok (.iload_n 2, 1) := by decide +kernel
theorem dL_late_14 : decode cL_late 14 = .ok (.ireturn, 1) := by decide +kernel
set_option maxRecDepth 20000 in
theorem ggL_join_X2_join : GoodIn wsL_join wsX2_join := goodIn_ca (goodIn_r _ [6, 7, 8, 9, 5, 10, 11, 12, 13, 14, 15, 16, 17, 18, 19, 20, 21, 22, 23, 24, 25, 26, 27, 28, 29, 30, 31, 32, 33, 34, 35, 36, 37, 38, 39, 40, 41, 42, 43, 44, 45, 46, 47, 48, 49] (by decide +kernel) (by decide +kernel)) (goodIn_sub (fun _ h => List.mem_cons_of_mem _ (List.mem_append_right _ h)) (by decide +kernel))
set_option maxRecDepth 20000 in
theorem gL_join_X2_join : GoodIn wsL_join (wsV RL 34 RX2 yX2_join wsX2_join) := goodIn_app (goodIn_of _ (by decide +kernel)) ggL_join_X2_join
theorem dL_join_0 : decode cL_join 0 = .ok (.aload_n 0, 1) := by decide +kernel
theorem dL_join_1 : decode cL_join 1 = .ok (.iload_n 1, 1) := by decide +kernel
theorem dL_join_2 : decode cL_join 2 = .ok (.iload_n 2, 1) := by decide +kernel
theorem dL_join_3 : decode cL_join 3 = .ok (.iload_n 3, 1) := by decide +kernel
theorem dL_join_4 : decode cL_join 4 = .ok (.iload 4, 2) := by decide +kernel
theorem dL_join_6 : decode cL_join 6 = .ok (.invokevirtual 34, 3) := by decide +kernel
theorem dL_join_9 : decode cL_join 9 = .ok (.istore 5, 2) := by decide +kernel
theorem dL_join_11 : decode cL_join 11 = .ok (.goto 8, 3) := by decide +kernel
theorem dL_join_14 : decode cL_join 14 = .ok (.astore 6, 2) := by decide +kernel
theorem dL_join_16 : decode cL_join 16 = .ok (.bipush (-72), 2) := by decide +kernel
theorem dL_join_18 : decode cL_join 18 = .ok (.ireturn, 1) := by decide +kernel
theorem dL_join_19 : decode cL_join 19 = .ok (.iload 5, 2) := by decide +kernel
theorem dL_join_21 : decode cL_join 21 = .ok (.ireturn, 1) := by decide +kernel
set_option maxRecDepth 20000 in
theorem ggL_window_X2_window : GoodIn wsL_window wsX2_window := goodIn_ca (goodIn_r _ [6, 7, 8, 9, 10, 11, 12, 5, 13, 14, 15, 16, 17, 18, 19, 20, 21, 22, 23, 24, 25, 26, 27, 28, 29, 30, 31, 32, 33, 34, 35, 36, 37] (by decide +kernel) (by decide +kernel)) (goodIn_sub (fun _ h => List.mem_cons_of_mem _ (List.mem_append_right _ h)) (by decide +kernel))
set_option maxRecDepth 20000 in
theorem gL_window_X2_window : GoodIn wsL_window (wsV RL 37 RX2 yX2_window wsX2_window) := goodIn_app (goodIn_of _ (by decide +kernel)) ggL_window_X2_window
theorem dL_window_0 : decode cL_window 0 = .ok (.aload_n 0, 1) := by decide +kernel
theorem dL_window_1 : decode cL_window 1 = .ok (.iload_n 1, 1) := by decide +kernel
theorem dL_window_2 : decode cL_window 2 = .ok (.iload_n 2, 1) := by decide +kernel
theorem dL_window_3 : decode cL_window 3 = .ok (.iload_n 3, 1) := by decide +kernel
theorem dL_window_4 : decode cL_window 4 = .ok (.iload 4, 2) := by decide +kernel
theorem dL_window_6 : decode cL_window 6 = .ok (.invokevirtual 37, 3) := by decide +kernel
theorem dL_window_9 : decode cL_window 9 = .ok (.istore 5, 2) := by decide +kernel
theorem dL_window_11 : decode cL_window 11 = .ok (.goto 8, 3) := by decide +kernel
theorem dL_window_14 : decode cL_window 14 = .ok (.astore 6, 2) := by decide +kernel
theorem dL_window_16 : decode cL_window 16 = .ok (.bipush (-72), 2) := by decide +kernel
theorem dL_window_18 : decode cL_window 18 = .ok (.ireturn, 1) := by decide +kernel
theorem dL_window_19 : decode cL_window 19 = .ok (.iload 5, 2) := by decide +kernel
theorem dL_window_21 : decode cL_window 21 = .ok (.ireturn, 1) := by decide +kernel
set_option maxRecDepth 20000 in
theorem ggL_greatestTile_X2_greatestTile : GoodIn wsL_greatestTile wsX2_greatestTile := goodIn_ca (goodIn_r _ [6, 7, 8, 9, 10, 11, 12, 13, 14, 15, 16, 5, 17, 18, 19, 20, 21, 22, 23, 24, 25, 26, 27, 28, 29, 30, 31, 32, 33, 34, 35, 36, 37, 38, 39, 40, 41] (by decide +kernel) (by decide +kernel)) (goodIn_sub (fun _ h => List.mem_cons_of_mem _ (List.mem_append_right _ h)) (by decide +kernel))
set_option maxRecDepth 20000 in
theorem gL_greatestTile_X2_greatestTile : GoodIn wsL_greatestTile (wsV RL 40 RX2 yX2_greatestTile wsX2_greatestTile) := goodIn_app (goodIn_of _ (by decide +kernel)) ggL_greatestTile_X2_greatestTile
theorem dL_greatestTile_0 : decode cL_greatestTile 0 = .ok (.aload_n 0, 1) := by decide +kernel
theorem dL_greatestTile_1 : decode cL_greatestTile 1 = .ok (.iload_n 1, 1) := by decide +kernel
theorem dL_greatestTile_2 : decode cL_greatestTile 2 = .ok (.iload_n 2, 1) := by decide +kernel
theorem dL_greatestTile_3 : decode cL_greatestTile 3 = .ok (.iload_n 3, 1) := by decide +kernel
theorem dL_greatestTile_4 : decode cL_greatestTile 4 = .ok (.invokevirtual 40, 3) := by decide +kernel
theorem dL_greatestTile_7 : decode cL_greatestTile 7 = .ok (.istore 4, 2) := by decide +kernel
theorem dL_greatestTile_9 : decode cL_greatestTile 9 = .ok (.goto 8, 3) := by decide +kernel
theorem dL_greatestTile_12 : decode cL_greatestTile 12 = .ok (.astore 5, 2) := by decide +kernel
theorem dL_greatestTile_14 : decode cL_greatestTile 14 = .ok (.bipush (-72), 2) := by decide +kernel
theorem dL_greatestTile_16 : decode cL_greatestTile 16 = .ok (.ireturn, 1) := by decide +kernel
theorem dL_greatestTile_17 : decode cL_greatestTile 17 = .ok (.iload 4, 2) := by decide +kernel
theorem dL_greatestTile_19 : decode cL_greatestTile 19 = .ok (.ireturn, 1) := by decide +kernel
set_option maxRecDepth 20000 in
theorem ggL_tiles_X2_tiles : GoodIn wsL_tiles wsX2_tiles := goodIn_ca (goodIn_r _ [6, 7, 8, 9, 10, 11, 5, 12, 13, 14, 15, 16, 17, 18, 19, 20, 21, 22, 23, 24, 25, 26, 27, 28, 29, 30, 31, 32, 33, 34, 35, 36] (by decide +kernel) (by decide +kernel)) (goodIn_sub (fun _ h => List.mem_cons_of_mem _ (List.mem_append_right _ h)) (by decide +kernel))
set_option maxRecDepth 20000 in
theorem gL_tiles_X2_tiles : GoodIn wsL_tiles (wsV RL 44 RX2 yX2_tiles wsX2_tiles) := goodIn_app (goodIn_of _ (by decide +kernel)) ggL_tiles_X2_tiles
theorem dL_tiles_0 : decode cL_tiles 0 = .ok (.aload_n 0, 1) := by decide +kernel
theorem dL_tiles_1 : decode cL_tiles 1 = .ok (.iload_n 1, 1) := by decide +kernel
theorem dL_tiles_2 : decode cL_tiles 2 = .ok (.iload_n 2, 1) := by decide +kernel
theorem dL_tiles_3 : decode cL_tiles 3 = .ok (.iload_n 3, 1) := by decide +kernel
theorem dL_tiles_4 : decode cL_tiles 4 = .ok (.invokevirtual 44, 3) := by decide +kernel
theorem dL_tiles_7 : decode cL_tiles 7 = .ok (.istore 4, 2) := by decide +kernel
theorem dL_tiles_9 : decode cL_tiles 9 = .ok (.goto 8, 3) := by decide +kernel
theorem dL_tiles_12 : decode cL_tiles 12 = .ok (.astore 5, 2) := by decide +kernel
theorem dL_tiles_14 : decode cL_tiles 14 = .ok (.bipush (-72), 2) := by decide +kernel
theorem dL_tiles_16 : decode cL_tiles 16 = .ok (.ireturn, 1) := by decide +kernel
theorem dL_tiles_17 : decode cL_tiles 17 = .ok (.iload 4, 2) := by decide +kernel
theorem dL_tiles_19 : decode cL_tiles 19 = .ok (.ireturn, 1) := by decide +kernel
set_option maxRecDepth 20000 in
theorem ggL_revised_X2_revised : GoodIn wsL_revised wsX2_revised := goodIn_ca (goodIn_r _ [6, 7, 8, 9, 10, 11, 12, 13, 14, 15, 16, 17, 18, 5, 19, 20, 21, 22, 23, 24, 25, 26, 27, 28, 29, 30, 31, 32, 33, 34, 35, 36, 37, 38, 39, 40, 41, 42, 43, 44, 45, 46] (by decide +kernel) (by decide +kernel)) (goodIn_sub (fun _ h => List.mem_cons_of_mem _ (List.mem_append_right _ h)) (by decide +kernel))
set_option maxRecDepth 20000 in
theorem gL_revised_X2_revised : GoodIn wsL_revised (wsV RL 47 RX2 yX2_revised wsX2_revised) := goodIn_app (goodIn_of _ (by decide +kernel)) ggL_revised_X2_revised
theorem dL_revised_0 : decode cL_revised 0 = .ok (.aload_n 0, 1) := by decide +kernel
theorem dL_revised_1 : decode cL_revised 1 = .ok (.iload_n 1, 1) := by decide +kernel
theorem dL_revised_2 : decode cL_revised 2 = .ok (.iload_n 2, 1) := by decide +kernel
theorem dL_revised_3 : decode cL_revised 3 = .ok (.iload_n 3, 1) := by decide +kernel
theorem dL_revised_4 : decode cL_revised 4 = .ok (.invokevirtual 47, 3) := by decide +kernel
theorem dL_revised_7 : decode cL_revised 7 = .ok (.istore 4, 2) := by decide +kernel
theorem dL_revised_9 : decode cL_revised 9 = .ok (.goto 8, 3) := by decide +kernel
theorem dL_revised_12 : decode cL_revised 12 = .ok (.astore 5, 2) := by decide +kernel
theorem dL_revised_14 : decode cL_revised 14 = .ok (.bipush (-72), 2) := by decide +kernel
theorem dL_revised_16 : decode cL_revised 16 = .ok (.ireturn, 1) := by decide +kernel
theorem dL_revised_17 : decode cL_revised 17 = .ok (.iload 4, 2) := by decide +kernel
theorem dL_revised_19 : decode cL_revised 19 = .ok (.ireturn, 1) := by decide +kernel
set_option maxRecDepth 20000 in
theorem ggL_take_X2_take : GoodIn wsL_take wsX2_take := goodIn_ca (goodIn_r _ [6, 7, 8, 9, 5, 10, 11, 12, 13, 14, 15, 16, 17, 18, 19, 20, 21, 22, 23, 24, 25, 26, 27, 28, 29, 30, 31, 32, 33, 34, 35, 36, 37, 38, 39, 40, 41, 42, 43, 44, 45] (by decide +kernel) (by decide +kernel)) (goodIn_sub (fun _ h => List.mem_cons_of_mem _ (List.mem_append_right _ h)) (by decide +kernel))
set_option maxRecDepth 20000 in
theorem gL_take_X2_take : GoodIn wsL_take (wsV RL 50 RX2 yX2_take wsX2_take) := goodIn_app (goodIn_of _ (by decide +kernel)) ggL_take_X2_take
theorem dL_take_0 : decode cL_take 0 = .ok (.aload_n 0, 1) := by decide +kernel
theorem dL_take_1 : decode cL_take 1 = .ok (.iload_n 1, 1) := by decide +kernel
theorem dL_take_2 : decode cL_take 2 = .ok (.invokevirtual 50, 3) := by decide +kernel
theorem dL_take_5 : decode cL_take 5 = .ok (.istore_n 2, 1) := by decide +kernel
theorem dL_take_6 : decode cL_take 6 = .ok (.goto 7, 3) := by decide +kernel
theorem dL_take_9 : decode cL_take 9 = .ok (.astore_n 3, 1) := by decide +kernel
theorem dL_take_10 : decode cL_take 10 = .ok (.bipush (-72), 2) := by decide +kernel
theorem dL_take_12 : decode cL_take 12 = .ok (.ireturn, 1) := by decide +kernel
theorem dL_take_13 : decode cL_take 13 = .ok (.iload_n 2, 1) := by decide +kernel
theorem dL_take_14 : decode cL_take 14 = .ok (.ireturn, 1) := by decide +kernel
set_option maxRecDepth 20000 in
theorem ggL_online_X2_online : GoodIn wsL_online wsX2_online := goodIn_ca (goodIn_r _ [6, 7, 8, 5, 9, 10, 11, 12, 13, 14, 15, 16, 17, 18, 19, 20, 21, 22, 23, 24, 25, 26, 27, 28, 29, 30, 31, 32, 33, 34, 35, 36, 37, 38, 39, 40, 41, 42, 43, 44, 45, 46, 47] (by decide +kernel) (by decide +kernel)) (goodIn_sub (fun _ h => List.mem_cons_of_mem _ (List.mem_append_right _ h)) (by decide +kernel))
set_option maxRecDepth 20000 in
theorem gL_online_X2_online : GoodIn wsL_online (wsV RL 53 RX2 yX2_online wsX2_online) := goodIn_app (goodIn_of _ (by decide +kernel)) ggL_online_X2_online
theorem dL_online_0 : decode cL_online 0 = .ok (.aload_n 0, 1) := by decide +kernel
theorem dL_online_1 : decode cL_online 1 = .ok (.iload_n 1, 1) := by decide +kernel
theorem dL_online_2 : decode cL_online 2 = .ok (.iload_n 2, 1) := by decide +kernel
theorem dL_online_3 : decode cL_online 3 = .ok (.invokevirtual 53, 3) := by decide +kernel
theorem dL_online_6 : decode cL_online 6 = .ok (.istore_n 3, 1) := by decide +kernel
theorem dL_online_7 : decode cL_online 7 = .ok (.goto 8, 3) := by decide +kernel
theorem dL_online_10 : decode cL_online 10 = .ok (.astore 4, 2) := by decide +kernel
theorem dL_online_12 : decode cL_online 12 = .ok (.bipush (-72), 2) := by decide +kernel
theorem dL_online_14 : decode cL_online 14 = .ok (.ireturn, 1) := by decide +kernel
theorem dL_online_15 : decode cL_online 15 = .ok (.iload_n 3, 1) := by decide +kernel
theorem dL_online_16 : decode cL_online 16 = .ok (.ireturn, 1) := by decide +kernel
set_option maxRecDepth 20000 in
theorem ggL_serve_X2_serve : GoodIn wsL_serve wsX2_serve := goodIn_ca (goodIn_ca (goodIn_r _ [6, 7, 8, 9, 10, 11, 12, 13, 14, 15, 16, 5, 17, 18, 19, 20, 21, 22, 23, 24, 25, 26, 27, 28, 29, 30, 31, 32, 33, 34, 35, 36, 37, 38, 39, 40, 41, 42, 43, 44, 45, 46, 47, 48, 49, 50, 51, 52, 53, 54, 55, 56, 57, 58, 59, 60, 61, 62, 63, 64, 65, 66, 67, 68] (by decide +kernel) (by decide +kernel)) (goodIn_sub (fun _ h => List.mem_cons_of_mem _ (List.mem_append_left _ (List.mem_append_right _ h))) (by decide +kernel))) (goodIn_sub (fun _ h => List.mem_cons_of_mem _ (List.mem_append_right _ h)) (by decide +kernel))
set_option maxRecDepth 20000 in
theorem gL_serve_X2_serve : GoodIn wsL_serve (wsV RL 56 RX2 yX2_serve wsX2_serve) := goodIn_app (goodIn_of _ (by decide +kernel)) ggL_serve_X2_serve
theorem dL_serve_0 : decode cL_serve 0 = .ok (.aload_n 0, 1) := by decide +kernel
theorem dL_serve_1 : decode cL_serve 1 = .ok (.iload_n 1, 1) := by decide +kernel
theorem dL_serve_2 : decode cL_serve 2 = .ok (.iload_n 2, 1) := by decide +kernel
theorem dL_serve_3 : decode cL_serve 3 = .ok (.invokevirtual 56, 3) := by decide +kernel
theorem dL_serve_6 : decode cL_serve 6 = .ok (.istore_n 3, 1) := by decide +kernel
theorem dL_serve_7 : decode cL_serve 7 = .ok (.goto 8, 3) := by decide +kernel
theorem dL_serve_10 : decode cL_serve 10 = .ok (.astore 4, 2) := by decide +kernel
theorem dL_serve_12 : decode cL_serve 12 = .ok (.bipush (-72), 2) := by decide +kernel
theorem dL_serve_14 : decode cL_serve 14 = .ok (.ireturn, 1) := by decide +kernel
theorem dL_serve_15 : decode cL_serve 15 = .ok (.iload_n 3, 1) := by decide +kernel
theorem dL_serve_16 : decode cL_serve 16 = .ok (.ireturn, 1) := by decide +kernel
set_option maxRecDepth 20000 in
theorem ggL_served_X2_served : GoodIn wsL_served wsX2_served := goodIn_ca (goodIn_r _ [6, 7, 8, 9, 10, 5, 11, 12, 13, 14, 15, 16, 17, 18, 19, 20, 21, 22, 23, 24, 25, 26, 27, 28] (by decide +kernel) (by decide +kernel)) (goodIn_sub (fun _ h => List.mem_cons_of_mem _ (List.mem_append_right _ h)) (by decide +kernel))
set_option maxRecDepth 20000 in
theorem gL_served_X2_served : GoodIn wsL_served (wsV RL 59 RX2 yX2_served wsX2_served) := goodIn_app (goodIn_of _ (by decide +kernel)) ggL_served_X2_served
theorem dL_served_0 : decode cL_served 0 = .ok (.aload_n 0, 1) := by decide +kernel
theorem dL_served_1 : decode cL_served 1 = .ok (.iload_n 1, 1) := by decide +kernel
theorem dL_served_2 : decode cL_served 2 = .ok (.invokevirtual 59, 3) := by decide +kernel
theorem dL_served_5 : decode cL_served 5 = .ok (.istore_n 2, 1) := by decide +kernel
theorem dL_served_6 : decode cL_served 6 = .ok (.goto 7, 3) := by decide +kernel
theorem dL_served_9 : decode cL_served 9 = .ok (.astore_n 3, 1) := by decide +kernel
theorem dL_served_10 : decode cL_served 10 = .ok (.bipush (-71), 2) := by decide +kernel
theorem dL_served_12 : decode cL_served 12 = .ok (.ireturn, 1) := by decide +kernel
theorem dL_served_13 : decode cL_served 13 = .ok (.iload_n 2, 1) := by decide +kernel
theorem dL_served_14 : decode cL_served 14 = .ok (.ireturn, 1) := by decide +kernel
set_option maxRecDepth 20000 in
theorem ggL_isSound_X2_isSound : GoodIn wsL_isSound wsX2_isSound := goodIn_ca (goodIn_r _ [6, 7, 8, 9, 10, 11, 12, 13, 5, 14, 15, 16, 17, 18, 19, 20, 21, 22, 23, 24, 25, 26, 27, 28, 29, 30, 31, 32, 33, 34, 35, 36, 37, 38, 39, 40, 41, 42, 43, 44, 45, 46, 47, 48, 49, 50, 51, 52, 53, 54, 55, 56] (by decide +kernel) (by decide +kernel)) (goodIn_sub (fun _ h => List.mem_cons_of_mem _ (List.mem_append_right _ h)) (by decide +kernel))
set_option maxRecDepth 20000 in
theorem gL_isSound_X2_isSound : GoodIn wsL_isSound (wsV RL 62 RX2 yX2_isSound wsX2_isSound) := goodIn_app (goodIn_of _ (by decide +kernel)) ggL_isSound_X2_isSound
theorem dL_isSound_0 : decode cL_isSound 0 = .ok (.aload_n 0, 1) := by decide +kernel
theorem dL_isSound_1 : decode cL_isSound 1 = .ok (.iload_n 1, 1) := by decide +kernel
theorem dL_isSound_2 : decode cL_isSound 2 = .ok (.invokevirtual 62, 3) := by decide +kernel
theorem dL_isSound_5 : decode cL_isSound 5 = .ok (.istore_n 2, 1) := by decide +kernel
theorem dL_isSound_6 : decode cL_isSound 6 = .ok (.goto 7, 3) := by decide +kernel
theorem dL_isSound_9 : decode cL_isSound 9 = .ok (.astore_n 3, 1) := by decide +kernel
theorem dL_isSound_10 : decode cL_isSound 10 = .ok (.bipush (-71), 2) := by decide +kernel
theorem dL_isSound_12 : decode cL_isSound 12 = .ok (.ireturn, 1) := by decide +kernel
theorem dL_isSound_13 : decode cL_isSound 13 = .ok (.iload_n 2, 1) := by decide +kernel
theorem dL_isSound_14 : decode cL_isSound 14 = .ok (.ifCond .eq 7, 3) := by decide +kernel
theorem dL_isSound_17 : decode cL_isSound 17 = .ok (.iconst 1, 1) := by decide +kernel
theorem dL_isSound_18 : decode cL_isSound 18 = .ok (.goto 4, 3) := by decide +kernel
theorem dL_isSound_21 : decode cL_isSound 21 = .ok (.iconst 0, 1) := by decide +kernel
theorem dL_isSound_22 : decode cL_isSound 22 = .ok (.ireturn, 1) := by decide +kernel
theorem dL_find_0 : decode cL_find 0 = .ok (.iconst (-1), 1) := by decide +kernel
theorem dL_find_1 : decode cL_find 1 = .ok (.istore 8, 2) := by decide +kernel
theorem dL_find_3 : decode cL_find 3 = .ok (.iconst (-1), 1) := by decide +kernel
theorem dL_find_4 : decode cL_find 4 = .ok (.istore 9, 2) := by decide +kernel
theorem dL_find_6 : decode cL_find 6 = .ok (.iconst 0, 1) := by decide +kernel
theorem dL_find_7 : decode cL_find 7 = .ok (.istore 10, 2) := by decide +kernel
theorem dL_find_9 : decode cL_find 9 = .ok (.iload 10, 2) := by decide +kernel
theorem dL_find_11 : decode cL_find 11 = .ok (.iload 7, 2) := by decide +kernel
theorem dL_find_13 : decode cL_find 13 = .ok (.if_icmp .ge 70, 3) := by decide +kernel
theorem dL_find_16 : decode cL_find 16 = .ok (.aload_n 0, 1) := by decide +kernel
theorem dL_find_17 : decode cL_find 17 = .ok (.iload 10, 2) := by decide +kernel
theorem dL_find_19 : decode cL_find 19 = .ok (.iaload, 1) := by decide +kernel
theorem dL_find_20 : decode cL_find 20 = .ok (.iload 4, 2) := by decide +kernel
theorem dL_find_22 : decode cL_find 22 = .ok (.if_icmp .ne 55, 3) := by decide +kernel
theorem dL_find_25 : decode cL_find 25 = .ok (.aload_n 1, 1) := by decide +kernel
theorem dL_find_26 : decode cL_find 26 = .ok (.iload 10, 2) := by decide +kernel
theorem dL_find_28 : decode cL_find 28 = .ok (.iaload, 1) := by decide +kernel
theorem dL_find_29 : decode cL_find 29 = .ok (.iload 5, 2) := by decide +kernel
theorem dL_find_31 : decode cL_find 31 = .ok (.if_icmp .gt 46, 3) := by decide +kernel
theorem dL_find_34 : decode cL_find 34 = .ok (.aload_n 2, 1) := by decide +kernel
theorem dL_find_35 : decode cL_find 35 = .ok (.iload 10, 2) := by decide +kernel
theorem dL_find_37 : decode cL_find 37 = .ok (.iaload, 1) := by decide +kernel
theorem dL_find_38 : decode cL_find 38 = .ok (.iload 6, 2) := by decide +kernel
theorem dL_find_40 : decode cL_find 40 = .ok (.if_icmp .gt 37, 3) := by decide +kernel
theorem dL_find_43 : decode cL_find 43 = .ok (.bipush 64, 2) := by decide +kernel
theorem dL_find_45 : decode cL_find 45 = .ok (.aload_n 1, 1) := by decide +kernel
theorem dL_find_46 : decode cL_find 46 = .ok (.iload 10, 2) := by decide +kernel
theorem dL_find_48 : decode cL_find 48 = .ok (.iaload, 1) := by decide +kernel
theorem dL_find_49 : decode cL_find 49 = .ok (.imul, 1) := by decide +kernel
theorem dL_find_50 : decode cL_find 50 = .ok (.iload 10, 2) := by decide +kernel
theorem dL_find_52 : decode cL_find 52 = .ok (.iadd, 1) := by decide +kernel
theorem dL_find_53 : decode cL_find 53 = .ok (.iload 9, 2) := by decide +kernel
theorem dL_find_55 : decode cL_find 55 = .ok (.if_icmp .ge 6, 3) := by decide +kernel
theorem dL_find_58 : decode cL_find 58 = .ok (.goto 19, 3) := by decide +kernel
theorem dL_find_61 : decode cL_find 61 = .ok (.bipush 64, 2) := by decide +kernel
theorem dL_find_63 : decode cL_find 63 = .ok (.aload_n 1, 1) := by decide +kernel
theorem dL_find_64 : decode cL_find 64 = .ok (.iload 10, 2) := by decide +kernel
theorem dL_find_66 : decode cL_find 66 = .ok (.iaload, 1) := by decide +kernel
theorem dL_find_67 : decode cL_find 67 = .ok (.imul, 1) := by decide +kernel
theorem dL_find_68 : decode cL_find 68 = .ok (.iload 10, 2) := by decide +kernel
theorem dL_find_70 : decode cL_find 70 = .ok (.iadd, 1) := by decide +kernel
theorem dL_find_71 : decode cL_find 71 = .ok (.istore 9, 2) := by decide +kernel
theorem dL_find_73 : decode cL_find 73 = .ok (.iload 10, 2) := by decide +kernel
theorem dL_find_75 : decode cL_find 75 = .ok (.istore 8, 2) := by decide +kernel
theorem dL_find_77 : decode cL_find 77 = .ok (.iinc 10 1, 3) := by decide +kernel
theorem dL_find_80 : decode cL_find 80 = .ok (.goto (-71), 3) := by decide +kernel
theorem dL_find_83 : decode cL_find 83 = .ok (.iload 8, 2) := by decide +kernel
theorem dL_find_85 : decode cL_find 85 = .ok (.ifCond .lt 25, 3) := by decide +kernel
theorem dL_find_88 : decode cL_find 88 = .ok (.iload 5, 2) := by decide +kernel
theorem dL_find_90 : decode cL_find 90 = .ok (.aload_n 1, 1) := by decide +kernel
theorem dL_find_91 : decode cL_find 91 = .ok (.iload 8, 2) := by decide +kernel
theorem dL_find_93 : decode cL_find 93 = .ok (.iaload, 1) := by decide +kernel
theorem dL_find_94 : decode cL_find 94 = .ok (.isub, 1) := by decide +kernel
theorem dL_find_95 : decode cL_find 95 = .ok (.aload_n 3, 1) := by decide +kernel
theorem dL_find_96 : decode cL_find 96 = .ok (.iload 4, 2) := by decide +kernel
theorem dL_find_98 : decode cL_find 98 = .ok (.bipush 8, 2) := by decide +kernel
theorem dL_find_100 : decode cL_find 100 = .ok (.irem, 1) := by decide +kernel
theorem dL_find_101 : decode cL_find 101 = .ok (.iaload, 1) := by decide +kernel
theorem dL_find_102 : decode cL_find 102 = .ok (.if_icmp .gt 8, 3) := by decide +kernel
theorem dL_find_105 : decode cL_find 105 = .ok (.iload 8, 2) := by decide +kernel
theorem dL_find_107 : decode cL_find 107 = .ok (.goto 4, 3) := by decide +kernel
theorem dL_find_110 : decode cL_find 110 = .ok (.iconst (-1), 1) := by decide +kernel
theorem dL_find_111 : decode cL_find 111 = .ok (.ireturn, 1) := by decide +kernel
set_option maxRecDepth 20000 in
theorem ggL_copied_L_find : GoodIn wsL_copied wsL_find := goodIn_r _ [4] (by decide +kernel) (by decide +kernel)
set_option maxRecDepth 20000 in
theorem gL_copied_L_find : GoodIn wsL_copied (va_wsS RL 66 yL_find wsL_find) := goodIn_app (goodIn_of _ (by decide +kernel)) ggL_copied_L_find
theorem dL_copied_0 : decode cL_copied 0 = .ok (.aload_n 0, 1) := by decide +kernel
theorem dL_copied_1 : decode cL_copied 1 = .ok (.aload_n 1, 1) := by decide +kernel
theorem dL_copied_2 : decode cL_copied 2 = .ok (.aload_n 2, 1) := by decide +kernel
theorem dL_copied_3 : decode cL_copied 3 = .ok (.aload_n 3, 1) := by decide +kernel
theorem dL_copied_4 : decode cL_copied 4 = .ok (.iload 5, 2) := by decide +kernel
theorem dL_copied_6 : decode cL_copied 6 = .ok (.aload 4, 2) := by decide +kernel
theorem dL_copied_8 : decode cL_copied 8 = .ok (.iconst 0, 1) := by decide +kernel
theorem dL_copied_9 : decode cL_copied 9 = .ok (.iaload, 1) := by decide +kernel
theorem dL_copied_10 : decode cL_copied 10 = .ok (.aload 4, 2) := by decide +kernel
theorem dL_copied_12 : decode cL_copied 12 = .ok (.iconst 0, 1) := by decide +kernel
theorem dL_copied_13 : decode cL_copied 13 = .ok (.iaload, 1) := by decide +kernel
theorem dL_copied_14 : decode cL_copied 14 = .ok (.aload 4, 2) := by decide +kernel
theorem dL_copied_16 : decode cL_copied 16 = .ok (.iconst 2, 1) := by decide +kernel
theorem dL_copied_17 : decode cL_copied 17 = .ok (.iaload, 1) := by decide +kernel
theorem dL_copied_18 : decode cL_copied 18 = .ok (.invokestatic 66, 3) := by decide +kernel
theorem dL_copied_21 : decode cL_copied 21 = .ok (.ireturn, 1) := by decide +kernel
set_option maxRecDepth 20000 in
theorem ggL_keeps_L_low : GoodIn wsL_keeps wsL_low := goodIn_r _ [5] (by decide +kernel) (by decide +kernel)
set_option maxRecDepth 20000 in
theorem gL_keeps_L_low : GoodIn wsL_keeps (va_wsS RL 72 yL_low wsL_low) := goodIn_app (goodIn_of _ (by decide +kernel)) ggL_keeps_L_low
set_option maxRecDepth 20000 in
theorem ggL_keeps_L_arrive : GoodIn wsL_keeps wsL_arrive := goodIn_ca (goodIn_ca (goodIn_r _ [8, 9, 10, 11, 12, 13, 14, 15, 16, 17, 18, 19, 20, 21, 22, 23, 24, 25, 26, 27, 28, 29, 30, 31, 32, 33, 34, 35, 36, 37, 38, 39, 40, 41, 42, 43, 44, 45, 46, 47, 48, 49, 50, 51, 52, 53, 54, 55, 56, 132, 133, 134, 135, 136, 137, 138, 139, 140, 141, 142, 143, 144, 145, 146, 147] (by decide +kernel) (by decide +kernel)) (goodIn_sub (fun _ h => List.mem_cons_of_mem _ (List.mem_append_left _ (List.mem_append_right _ h))) (by decide +kernel))) (goodIn_sub (fun _ h => List.mem_cons_of_mem _ (List.mem_append_right _ h)) (by decide +kernel))
set_option maxRecDepth 20000 in
theorem gL_keeps_L_arrive : GoodIn wsL_keeps (va_wsS RL 76 yL_arrive wsL_arrive) := goodIn_app (goodIn_of _ (by decide +kernel)) ggL_keeps_L_arrive
set_option maxRecDepth 20000 in
theorem ggL_keeps_X2_rows : GoodIn wsL_keeps wsX2_rows := goodIn_r _ [60, 19, 132, 133, 134, 135, 136, 137, 138, 139, 140] (by decide +kernel) (by decide +kernel)
set_option maxRecDepth 20000 in
theorem gL_keeps_X2_rows : GoodIn wsL_keeps (wsV RL 79 RX2 yX2_rows wsX2_rows) := goodIn_app (goodIn_of _ (by decide +kernel)) ggL_keeps_X2_rows
set_option maxRecDepth 20000 in
theorem ggL_keeps_L_pass : GoodIn wsL_keeps wsL_pass := goodIn_ca (goodIn_ca (goodIn_r _ [63, 9, 64, 65, 66, 67, 13, 68, 15, 16, 17, 28, 29, 30, 31, 32, 132, 133, 134, 135, 136, 137, 138, 139, 140] (by decide +kernel) (by decide +kernel)) (goodIn_sub (fun _ h => List.mem_cons_of_mem _ (List.mem_append_left _ (List.mem_append_right _ h))) (by decide +kernel))) (goodIn_sub (fun _ h => List.mem_cons_of_mem _ (List.mem_append_right _ h)) (by decide +kernel))
set_option maxRecDepth 20000 in
theorem gL_keeps_L_pass : GoodIn wsL_keeps (va_wsS RL 83 yL_pass wsL_pass) := goodIn_app (goodIn_of _ (by decide +kernel)) ggL_keeps_L_pass
set_option maxRecDepth 20000 in
theorem ggL_keeps_L_setLifetime : GoodIn wsL_keeps wsL_setLifetime := goodIn_ca (goodIn_r _ [71, 9, 72, 73, 74, 13, 75, 76, 28, 29, 30, 31, 32, 132, 133, 134, 135, 136, 137, 138, 139, 140] (by decide +kernel) (by decide +kernel)) (goodIn_sub (fun _ h => List.mem_cons_of_mem _ (List.mem_append_right _ h)) (by decide +kernel))
set_option maxRecDepth 20000 in
theorem gL_keeps_L_setLifetime : GoodIn wsL_keeps (va_wsS RL 86 yL_setLifetime wsL_setLifetime) := goodIn_app (goodIn_of _ (by decide +kernel)) ggL_keeps_L_setLifetime
set_option maxRecDepth 20000 in
theorem ggL_keeps_L_take : GoodIn wsL_keeps wsL_take := goodIn_ca (goodIn_r _ [79, 9, 80, 81, 82, 13, 83, 84, 28, 29, 30, 31, 32, 85, 86, 87, 88, 19, 23, 89, 90, 91, 92, 49, 50, 93, 52, 54, 55, 56, 132, 133, 134, 135, 136, 137, 138, 139, 140, 141, 142, 143, 144, 145, 146, 147] (by decide +kernel) (by decide +kernel)) (goodIn_sub (fun _ h => List.mem_cons_of_mem _ (List.mem_append_right _ h)) (by decide +kernel))
set_option maxRecDepth 20000 in
theorem gL_keeps_L_take : GoodIn wsL_keeps (va_wsS RL 89 yL_take wsL_take) := goodIn_app (goodIn_of _ (by decide +kernel)) ggL_keeps_L_take
set_option maxRecDepth 20000 in
theorem ggL_keeps_L_serve : GoodIn wsL_keeps wsL_serve := goodIn_ca (goodIn_ca (goodIn_r _ [96, 9, 97, 98, 99, 13, 100, 15, 16, 101, 102, 103, 104, 105, 17, 25, 26, 27, 28, 29, 30, 31, 32, 106, 107, 108, 109, 93, 54, 55, 56, 110, 111, 112, 113, 52, 76, 49, 24, 114, 115, 116, 117, 37, 38, 118, 119, 120, 121, 132, 133, 134, 135, 136, 137, 138, 139, 140, 148, 149, 150, 151, 141, 142, 143, 144, 145, 146, 147] (by decide +kernel) (by decide +kernel)) (goodIn_sub (fun _ h => List.mem_cons_of_mem _ (List.mem_append_left _ (List.mem_append_right _ h))) (by decide +kernel))) (goodIn_sub (fun _ h => List.mem_cons_of_mem _ (List.mem_append_right _ h)) (by decide +kernel))
set_option maxRecDepth 20000 in
theorem gL_keeps_L_serve : GoodIn wsL_keeps (va_wsS RL 91 yL_serve wsL_serve) := goodIn_app (goodIn_of _ (by decide +kernel)) ggL_keeps_L_serve
set_option maxRecDepth 20000 in
theorem ggL_keeps_X2_servings : GoodIn wsL_keeps wsX2_servings := goodIn_r _ [125, 101, 132, 133, 134, 135, 136, 137, 138, 139, 140] (by decide +kernel) (by decide +kernel)
set_option maxRecDepth 20000 in
theorem gL_keeps_X2_servings : GoodIn wsL_keeps (wsV RL 93 RX2 yX2_servings wsX2_servings) := goodIn_app (goodIn_of _ (by decide +kernel)) ggL_keeps_X2_servings
set_option maxRecDepth 20000 in
theorem ggL_keeps_L_copied : GoodIn wsL_keeps wsL_copied := goodIn_r _ [128, 129, 130, 4, 131] (by decide +kernel) (by decide +kernel)
set_option maxRecDepth 20000 in
theorem gL_keeps_L_copied : GoodIn wsL_keeps (va_wsS RL 96 yL_copied wsL_copied) := goodIn_app (goodIn_of _ (by decide +kernel)) ggL_keeps_L_copied
theorem dL_keeps_0 : decode cL_keeps 0 = .ok (.iload_n 2, 1) := by decide +kernel
theorem dL_keeps_1 : decode cL_keeps 1 = .ok (.bipush 24, 2) := by decide +kernel
theorem dL_keeps_3 : decode cL_keeps 3 = .ok (.iand, 1) := by decide +kernel
theorem dL_keeps_4 : decode cL_keeps 4 = .ok (.ifCond .ne 14, 3) := by decide +kernel
theorem dL_keeps_7 : decode cL_keeps 7 = .ok (.iload_n 2, 1) := by decide +kernel
theorem dL_keeps_8 : decode cL_keeps 8 = .ok (.iconst 5, 1) := by decide +kernel
theorem dL_keeps_9 : decode cL_keeps 9 = .ok (.ishr, 1) := by decide +kernel
theorem dL_keeps_10 : decode cL_keeps 10 = .ok (.bipush 6, 2) := by decide +kernel
theorem dL_keeps_12 : decode cL_keeps 12 = .ok (.invokestatic 72, 3) := by decide +kernel
theorem dL_keeps_15 : decode cL_keeps 15 = .ok (.goto 10, 3) := by decide +kernel
theorem dL_keeps_18 : decode cL_keeps 18 = .ok (.iload_n 2, 1) := by decide +kernel
theorem dL_keeps_19 : decode cL_keeps 19 = .ok (.iconst 5, 1) := by decide +kernel
theorem dL_keeps_20 : decode cL_keeps 20 = .ok (.ishr, 1) := by decide +kernel
theorem dL_keeps_21 : decode cL_keeps 21 = .ok (.iconst 2, 1) := by decide +kernel
theorem dL_keeps_22 : decode cL_keeps 22 = .ok (.invokestatic 72, 3) := by decide +kernel
theorem dL_keeps_25 : decode cL_keeps 25 = .ok (.istore 12, 2) := by decide +kernel
theorem dL_keeps_27 : decode cL_keeps 27 = .ok (.iload_n 2, 1) := by decide +kernel
theorem dL_keeps_28 : decode cL_keeps 28 = .ok (.sipush 768, 3) := by decide +kernel
theorem dL_keeps_31 : decode cL_keeps 31 = .ok (.iand, 1) := by decide +kernel
theorem dL_keeps_32 : decode cL_keeps 32 = .ok (.ifCond .ne 15, 3) := by decide +kernel
theorem dL_keeps_35 : decode cL_keeps 35 = .ok (.iload_n 2, 1) := by decide +kernel
theorem dL_keeps_36 : decode cL_keeps 36 = .ok (.bipush 10, 2) := by decide +kernel
theorem dL_keeps_38 : decode cL_keeps 38 = .ok (.ishr, 1) := by decide +kernel
theorem dL_keeps_39 : decode cL_keeps 39 = .ok (.bipush 10, 2) := by decide +kernel
theorem dL_keeps_41 : decode cL_keeps 41 = .ok (.invokestatic 72, 3) := by decide +kernel
theorem dL_keeps_44 : decode cL_keeps 44 = .ok (.goto 11, 3) := by decide +kernel
theorem dL_keeps_47 : decode cL_keeps 47 = .ok (.iload_n 2, 1) := by decide +kernel
theorem dL_keeps_48 : decode cL_keeps 48 = .ok (.bipush 10, 2) := by decide +kernel
theorem dL_keeps_50 : decode cL_keeps 50 = .ok (.ishr, 1) := by decide +kernel
theorem dL_keeps_51 : decode cL_keeps 51 = .ok (.iconst 2, 1) := by decide +kernel
theorem dL_keeps_52 : decode cL_keeps 52 = .ok (.invokestatic 72, 3) := by decide +kernel
theorem dL_keeps_55 : decode cL_keeps 55 = .ok (.istore 13, 2) := by decide +kernel
theorem dL_keeps_57 : decode cL_keeps 57 = .ok (.iload 12, 2) := by decide +kernel
theorem dL_keeps_59 : decode cL_keeps 59 = .ok (.bipush 8, 2) := by decide +kernel
theorem dL_keeps_61 : decode cL_keeps 61 = .ok (.iload 13, 2) := by decide +kernel
theorem dL_keeps_63 : decode cL_keeps 63 = .ok (.imul, 1) := by decide +kernel
theorem dL_keeps_64 : decode cL_keeps 64 = .ok (.iadd, 1) := by decide +kernel
theorem dL_keeps_65 : decode cL_keeps 65 = .ok (.istore 14, 2) := by decide +kernel
theorem dL_keeps_67 : decode cL_keeps 67 = .ok (.iload_n 1, 1) := by decide +kernel
theorem dL_keeps_68 : decode cL_keeps 68 = .ok (.bipush 8, 2) := by decide +kernel
theorem dL_keeps_70 : decode cL_keeps 70 = .ok (.if_icmp .ge 318, 3) := by decide +kernel
theorem dL_keeps_73 : decode cL_keeps 73 = .ok (.iload_n 3, 1) := by decide +kernel
theorem dL_keeps_74 : decode cL_keeps 74 = .ok (.bipush 6, 2) := by decide +kernel
theorem dL_keeps_76 : decode cL_keeps 76 = .ok (.iand, 1) := by decide +kernel
theorem dL_keeps_77 : decode cL_keeps 77 = .ok (.ifCond .ne 10, 3) := by decide +kernel
theorem dL_keeps_80 : decode cL_keeps 80 = .ok (.aload 11, 2) := by decide +kernel
theorem dL_keeps_82 : decode cL_keeps 82 = .ok (.iconst 0, 1) := by decide +kernel
theorem dL_keeps_83 : decode cL_keeps 83 = .ok (.iaload, 1) := by decide +kernel
theorem dL_keeps_84 : decode cL_keeps 84 = .ok (.goto 39, 3) := by decide +kernel
theorem dL_keeps_87 : decode cL_keeps 87 = .ok (.iload_n 3, 1) := by decide +kernel
theorem dL_keeps_88 : decode cL_keeps 88 = .ok (.bipush 6, 2) := by decide +kernel
theorem dL_keeps_90 : decode cL_keeps 90 = .ok (.iand, 1) := by decide +kernel
theorem dL_keeps_91 : decode cL_keeps 91 = .ok (.iconst 2, 1) := by decide +kernel
theorem dL_keeps_92 : decode cL_keeps 92 = .ok (.if_icmp .ne 18, 3) := by decide +kernel
theorem dL_keeps_95 : decode cL_keeps 95 = .ok (.iload_n 3, 1) := by decide +kernel
theorem dL_keeps_96 : decode cL_keeps 96 = .ok (.iconst 3, 1) := by decide +kernel
theorem dL_keeps_97 : decode cL_keeps 97 = .ok (.ishr, 1) := by decide +kernel
theorem dL_keeps_98 : decode cL_keeps 98 = .ok (.aload 11, 2) := by decide +kernel
theorem dL_keeps_100 : decode cL_keeps 100 = .ok (.iconst 0, 1) := by decide +kernel
theorem dL_keeps_101 : decode cL_keeps 101 = .ok (.iaload, 1) := by decide +kernel
theorem dL_keeps_102 : decode cL_keeps 102 = .ok (.iconst 1, 1) := by decide +kernel
theorem dL_keeps_103 : decode cL_keeps 103 = .ok (.iadd, 1) := by decide +kernel
theorem dL_keeps_104 : decode cL_keeps 104 = .ok (.invokestatic 72, 3) := by decide +kernel
theorem dL_keeps_107 : decode cL_keeps 107 = .ok (.goto 16, 3) := by decide +kernel
theorem dL_keeps_110 : decode cL_keeps 110 = .ok (.aload 11, 2) := by decide +kernel
theorem dL_keeps_112 : decode cL_keeps 112 = .ok (.iconst 0, 1) := by decide +kernel
theorem dL_keeps_113 : decode cL_keeps 113 = .ok (.iaload, 1) := by decide +kernel
theorem dL_keeps_114 : decode cL_keeps 114 = .ok (.iload_n 3, 1) := by decide +kernel
theorem dL_keeps_115 : decode cL_keeps 115 = .ok (.iconst 3, 1) := by decide +kernel
theorem dL_keeps_116 : decode cL_keeps 116 = .ok (.ishr, 1) := by decide +kernel
theorem dL_keeps_117 : decode cL_keeps 117 = .ok (.bipush 30, 2) := by decide +kernel
theorem dL_keeps_119 : decode cL_keeps 119 = .ok (.invokestatic 72, 3) := by decide +kernel
theorem dL_keeps_122 : decode cL_keeps 122 = .ok (.isub, 1) := by decide +kernel
theorem dL_keeps_123 : decode cL_keeps 123 = .ok (.istore 15, 2) := by decide +kernel
theorem dL_keeps_125 : decode cL_keeps 125 = .ok (.iload 15, 2) := by decide +kernel
theorem dL_keeps_127 : decode cL_keeps 127 = .ok (.ifCond .ge 7, 3) := by decide +kernel
theorem dL_keeps_130 : decode cL_keeps 130 = .ok (.iconst 0, 1) := by decide +kernel
theorem dL_keeps_131 : decode cL_keeps 131 = .ok (.goto 5, 3) := by decide +kernel
theorem dL_keeps_134 : decode cL_keeps 134 = .ok (.iload 15, 2) := by decide +kernel
theorem dL_keeps_136 : decode cL_keeps 136 = .ok (.istore 15, 2) := by decide +kernel
theorem dL_keeps_138 : decode cL_keeps 138 = .ok (.iload_n 3, 1) := by decide +kernel
theorem dL_keeps_139 : decode cL_keeps 139 = .ok (.sipush 24576, 3) := by decide +kernel
theorem dL_keeps_142 : decode cL_keeps 142 = .ok (.iand, 1) := by decide +kernel
theorem dL_keeps_143 : decode cL_keeps 143 = .ok (.ifCond .ne 15, 3) := by decide +kernel
theorem dL_keeps_146 : decode cL_keeps 146 = .ok (.iload_n 3, 1) := by decide +kernel
theorem dL_keeps_147 : decode cL_keeps 147 = .ok (.bipush 15, 2) := by decide +kernel
theorem dL_keeps_149 : decode cL_keeps 149 = .ok (.ishr, 1) := by decide +kernel
theorem dL_keeps_150 : decode cL_keeps 150 = .ok (.ldc 75, 2) := by decide +kernel
theorem dL_keeps_152 : decode cL_keeps 152 = .ok (.invokestatic 72, 3) := by decide +kernel
theorem dL_keeps_155 : decode cL_keeps 155 = .ok (.goto 12, 3) := by decide +kernel
theorem dL_keeps_158 : decode cL_keeps 158 = .ok (.iload_n 3, 1) := by decide +kernel
theorem dL_keeps_159 : decode cL_keeps 159 = .ok (.bipush 15, 2) := by decide +kernel
theorem dL_keeps_161 : decode cL_keeps 161 = .ok (.ishr, 1) := by decide +kernel
theorem dL_keeps_162 : decode cL_keeps 162 = .ok (.bipush 50, 2) := by decide +kernel
theorem dL_keeps_164 : decode cL_keeps 164 = .ok (.invokestatic 72, 3) := by decide +kernel
theorem dL_keeps_167 : decode cL_keeps 167 = .ok (.istore 16, 2) := by decide +kernel
theorem dL_keeps_169 : decode cL_keeps 169 = .ok (.aload_n 0, 1) := by decide +kernel
theorem dL_keeps_170 : decode cL_keeps 170 = .ok (.bipush 6, 2) := by decide +kernel
theorem dL_keeps_172 : decode cL_keeps 172 = .ok (.iload 13, 2) := by decide +kernel
theorem dL_keeps_174 : decode cL_keeps 174 = .ok (.iload 15, 2) := by decide +kernel
theorem dL_keeps_176 : decode cL_keeps 176 = .ok (.iload 16, 2) := by decide +kernel
theorem dL_keeps_178 : decode cL_keeps 178 = .ok (.invokestatic 76, 3) := by decide +kernel
theorem dL_keeps_181 : decode cL_keeps 181 = .ok (.bipush (-72), 2) := by decide +kernel
theorem dL_keeps_183 : decode cL_keeps 183 = .ok (.if_icmp .ne 106, 3) := by decide +kernel
theorem dL_keeps_186 : decode cL_keeps 186 = .ok (.aload_n 0, 1) := by decide +kernel
theorem dL_keeps_187 : decode cL_keeps 187 = .ok (.iload 12, 2) := by decide +kernel
theorem dL_keeps_189 : decode cL_keeps 189 = .ok (.bipush 10, 2) := by decide +kernel
theorem dL_keeps_191 : decode cL_keeps 191 = .ok (.iload 15, 2) := by decide +kernel
theorem dL_keeps_193 : decode cL_keeps 193 = .ok (.iload 16, 2) := by decide +kernel
theorem dL_keeps_195 : decode cL_keeps 195 = .ok (.invokestatic 76, 3) := by decide +kernel
theorem dL_keeps_198 : decode cL_keeps 198 = .ok (.bipush (-72), 2) := by decide +kernel
theorem dL_keeps_200 : decode cL_keeps 200 = .ok (.if_icmp .ne 89, 3) := by decide +kernel
theorem dL_keeps_203 : decode cL_keeps 203 = .ok (.aload_n 0, 1) := by decide +kernel
theorem dL_keeps_204 : decode cL_keeps 204 = .ok (.iload 12, 2) := by decide +kernel
theorem dL_keeps_206 : decode cL_keeps 206 = .ok (.iload 13, 2) := by decide +kernel
theorem dL_keeps_208 : decode cL_keeps 208 = .ok (.aload 11, 2) := by decide +kernel
theorem dL_keeps_210 : decode cL_keeps 210 = .ok (.iconst 0, 1) := by decide +kernel
theorem dL_keeps_211 : decode cL_keeps 211 = .ok (.iaload, 1) := by decide +kernel
theorem dL_keeps_212 : decode cL_keeps 212 = .ok (.iconst 1, 1) := by decide +kernel
theorem dL_keeps_213 : decode cL_keeps 213 = .ok (.iadd, 1) := by decide +kernel
theorem dL_keeps_214 : decode cL_keeps 214 = .ok (.iload 16, 2) := by decide +kernel
theorem dL_keeps_216 : decode cL_keeps 216 = .ok (.invokestatic 76, 3) := by decide +kernel
theorem dL_keeps_219 : decode cL_keeps 219 = .ok (.bipush (-72), 2) := by decide +kernel
theorem dL_keeps_221 : decode cL_keeps 221 = .ok (.if_icmp .ne 68, 3) := by decide +kernel
theorem dL_keeps_224 : decode cL_keeps 224 = .ok (.aload_n 0, 1) := by decide +kernel
theorem dL_keeps_225 : decode cL_keeps 225 = .ok (.iload 12, 2) := by decide +kernel
theorem dL_keeps_227 : decode cL_keeps 227 = .ok (.iload 13, 2) := by decide +kernel
theorem dL_keeps_229 : decode cL_keeps 229 = .ok (.iconst (-1), 1) := by decide +kernel
theorem dL_keeps_230 : decode cL_keeps 230 = .ok (.iload 16, 2) := by decide +kernel
theorem dL_keeps_232 : decode cL_keeps 232 = .ok (.invokestatic 76, 3) := by decide +kernel
theorem dL_keeps_235 : decode cL_keeps 235 = .ok (.bipush (-72), 2) := by decide +kernel
theorem dL_keeps_237 : decode cL_keeps 237 = .ok (.if_icmp .ne 52, 3) := by decide +kernel
theorem dL_keeps_240 : decode cL_keeps 240 = .ok (.aload_n 0, 1) := by decide +kernel
theorem dL_keeps_241 : decode cL_keeps 241 = .ok (.iload 12, 2) := by decide +kernel
theorem dL_keeps_243 : decode cL_keeps 243 = .ok (.iload 13, 2) := by decide +kernel
theorem dL_keeps_245 : decode cL_keeps 245 = .ok (.iload 15, 2) := by decide +kernel
theorem dL_keeps_247 : decode cL_keeps 247 = .ok (.ldc 75, 2) := by decide +kernel
theorem dL_keeps_249 : decode cL_keeps 249 = .ok (.invokestatic 76, 3) := by decide +kernel
theorem dL_keeps_252 : decode cL_keeps 252 = .ok (.bipush (-72), 2) := by decide +kernel
theorem dL_keeps_254 : decode cL_keeps 254 = .ok (.if_icmp .ne 35, 3) := by decide +kernel
theorem dL_keeps_257 : decode cL_keeps 257 = .ok (.aload_n 0, 1) := by decide +kernel
theorem dL_keeps_258 : decode cL_keeps 258 = .ok (.iload 12, 2) := by decide +kernel
theorem dL_keeps_260 : decode cL_keeps 260 = .ok (.iload 13, 2) := by decide +kernel
theorem dL_keeps_262 : decode cL_keeps 262 = .ok (.iload 15, 2) := by decide +kernel
theorem dL_keeps_264 : decode cL_keeps 264 = .ok (.iconst (-1), 1) := by decide +kernel
theorem dL_keeps_265 : decode cL_keeps 265 = .ok (.invokestatic 76, 3) := by decide +kernel
theorem dL_keeps_268 : decode cL_keeps 268 = .ok (.bipush (-72), 2) := by decide +kernel
theorem dL_keeps_270 : decode cL_keeps 270 = .ok (.if_icmp .ne 19, 3) := by decide +kernel
theorem dL_keeps_273 : decode cL_keeps 273 = .ok (.aload_n 0, 1) := by decide +kernel
theorem dL_keeps_274 : decode cL_keeps 274 = .ok (.iconst (-1), 1) := by decide +kernel
theorem dL_keeps_275 : decode cL_keeps 275 = .ok (.iload 13, 2) := by decide +kernel
theorem dL_keeps_277 : decode cL_keeps 277 = .ok (.iload 15, 2) := by decide +kernel
theorem dL_keeps_279 : decode cL_keeps 279 = .ok (.iload 16, 2) := by decide +kernel
theorem dL_keeps_281 : decode cL_keeps 281 = .ok (.invokestatic 76, 3) := by decide +kernel
theorem dL_keeps_284 : decode cL_keeps 284 = .ok (.bipush (-72), 2) := by decide +kernel
theorem dL_keeps_286 : decode cL_keeps 286 = .ok (.if_icmp .eq 5, 3) := by decide +kernel
theorem dL_keeps_289 : decode cL_keeps 289 = .ok (.iconst 0, 1) := by decide +kernel
theorem dL_keeps_290 : decode cL_keeps 290 = .ok (.ireturn, 1) := by decide +kernel
theorem dL_keeps_291 : decode cL_keeps 291 = .ok (.aload 11, 2) := by decide +kernel
theorem dL_keeps_293 : decode cL_keeps 293 = .ok (.iconst 1, 1) := by decide +kernel
theorem dL_keeps_294 : decode cL_keeps 294 = .ok (.iaload, 1) := by decide +kernel
theorem dL_keeps_295 : decode cL_keeps 295 = .ok (.bipush 60, 2) := by decide +kernel
theorem dL_keeps_297 : decode cL_keeps 297 = .ok (.if_icmp .ne 18, 3) := by decide +kernel
theorem dL_keeps_300 : decode cL_keeps 300 = .ok (.aload_n 0, 1) := by decide +kernel
theorem dL_keeps_301 : decode cL_keeps 301 = .ok (.invokevirtual 79, 3) := by decide +kernel
theorem dL_keeps_304 : decode cL_keeps 304 = .ok (.bipush 60, 2) := by decide +kernel
theorem dL_keeps_306 : decode cL_keeps 306 = .ok (.if_icmp .ne 7, 3) := by decide +kernel
theorem dL_keeps_309 : decode cL_keeps 309 = .ok (.iconst 1, 1) := by decide +kernel
theorem dL_keeps_310 : decode cL_keeps 310 = .ok (.goto 4, 3) := by decide +kernel
theorem dL_keeps_313 : decode cL_keeps 313 = .ok (.iconst 0, 1) := by decide +kernel
theorem dL_keeps_314 : decode cL_keeps 314 = .ok (.ireturn, 1) := by decide +kernel
theorem dL_keeps_315 : decode cL_keeps 315 = .ok (.aload 4, 2) := by decide +kernel
theorem dL_keeps_317 : decode cL_keeps 317 = .ok (.aload 11, 2) := by decide +kernel
theorem dL_keeps_319 : decode cL_keeps 319 = .ok (.iconst 1, 1) := by decide +kernel
theorem dL_keeps_320 : decode cL_keeps 320 = .ok (.iaload, 1) := by decide +kernel
theorem dL_keeps_321 : decode cL_keeps 321 = .ok (.iload 14, 2) := by decide +kernel
theorem dL_keeps_323 : decode cL_keeps 323 = .ok (.iastore, 1) := by decide +kernel
theorem dL_keeps_324 : decode cL_keeps 324 = .ok (.aload 5, 2) := by decide +kernel
theorem dL_keeps_326 : decode cL_keeps 326 = .ok (.aload 11, 2) := by decide +kernel
theorem dL_keeps_328 : decode cL_keeps 328 = .ok (.iconst 1, 1) := by decide +kernel
theorem dL_keeps_329 : decode cL_keeps 329 = .ok (.iaload, 1) := by decide +kernel
theorem dL_keeps_330 : decode cL_keeps 330 = .ok (.iload 15, 2) := by decide +kernel
theorem dL_keeps_332 : decode cL_keeps 332 = .ok (.iastore, 1) := by decide +kernel
theorem dL_keeps_333 : decode cL_keeps 333 = .ok (.aload 6, 2) := by decide +kernel
theorem dL_keeps_335 : decode cL_keeps 335 = .ok (.aload 11, 2) := by decide +kernel
theorem dL_keeps_337 : decode cL_keeps 337 = .ok (.iconst 1, 1) := by decide +kernel
theorem dL_keeps_338 : decode cL_keeps 338 = .ok (.iaload, 1) := by decide +kernel
theorem dL_keeps_339 : decode cL_keeps 339 = .ok (.aload 11, 2) := by decide +kernel
theorem dL_keeps_341 : decode cL_keeps 341 = .ok (.iconst 0, 1) := by decide +kernel
theorem dL_keeps_342 : decode cL_keeps 342 = .ok (.iaload, 1) := by decide +kernel
theorem dL_keeps_343 : decode cL_keeps 343 = .ok (.iastore, 1) := by decide +kernel
theorem dL_keeps_344 : decode cL_keeps 344 = .ok (.aload 7, 2) := by decide +kernel
theorem dL_keeps_346 : decode cL_keeps 346 = .ok (.aload 11, 2) := by decide +kernel
theorem dL_keeps_348 : decode cL_keeps 348 = .ok (.iconst 1, 1) := by decide +kernel
theorem dL_keeps_349 : decode cL_keeps 349 = .ok (.iaload, 1) := by decide +kernel
theorem dL_keeps_350 : decode cL_keeps 350 = .ok (.iload 16, 2) := by decide +kernel
theorem dL_keeps_352 : decode cL_keeps 352 = .ok (.iastore, 1) := by decide +kernel
theorem dL_keeps_353 : decode cL_keeps 353 = .ok (.aload 11, 2) := by decide +kernel
theorem dL_keeps_355 : decode cL_keeps 355 = .ok (.iconst 1, 1) := by decide +kernel
theorem dL_keeps_356 : decode cL_keeps 356 = .ok (.dup2, 1) := by decide +kernel
theorem dL_keeps_357 : decode cL_keeps 357 = .ok (.iaload, 1) := by decide +kernel
theorem dL_keeps_358 : decode cL_keeps 358 = .ok (.iconst 1, 1) := by decide +kernel
theorem dL_keeps_359 : decode cL_keeps 359 = .ok (.iadd, 1) := by decide +kernel
theorem dL_keeps_360 : decode cL_keeps 360 = .ok (.iastore, 1) := by decide +kernel
theorem dL_keeps_361 : decode cL_keeps 361 = .ok (.aload_n 0, 1) := by decide +kernel
theorem dL_keeps_362 : decode cL_keeps 362 = .ok (.iload 12, 2) := by decide +kernel
theorem dL_keeps_364 : decode cL_keeps 364 = .ok (.iload 13, 2) := by decide +kernel
theorem dL_keeps_366 : decode cL_keeps 366 = .ok (.iload 15, 2) := by decide +kernel
theorem dL_keeps_368 : decode cL_keeps 368 = .ok (.iload 16, 2) := by decide +kernel
theorem dL_keeps_370 : decode cL_keeps 370 = .ok (.invokestatic 76, 3) := by decide +kernel
theorem dL_keeps_373 : decode cL_keeps 373 = .ok (.aload 11, 2) := by decide +kernel
theorem dL_keeps_375 : decode cL_keeps 375 = .ok (.iconst 1, 1) := by decide +kernel
theorem dL_keeps_376 : decode cL_keeps 376 = .ok (.iaload, 1) := by decide +kernel
theorem dL_keeps_377 : decode cL_keeps 377 = .ok (.iconst 1, 1) := by decide +kernel
theorem dL_keeps_378 : decode cL_keeps 378 = .ok (.isub, 1) := by decide +kernel
theorem dL_keeps_379 : decode cL_keeps 379 = .ok (.if_icmp .ne 7, 3) := by decide +kernel
theorem dL_keeps_382 : decode cL_keeps 382 = .ok (.iconst 1, 1) := by decide +kernel
theorem dL_keeps_383 : decode cL_keeps 383 = .ok (.goto 4, 3) := by decide +kernel
theorem dL_keeps_386 : decode cL_keeps 386 = .ok (.iconst 0, 1) := by decide +kernel
theorem dL_keeps_387 : decode cL_keeps 387 = .ok (.ireturn, 1) := by decide +kernel
theorem dL_keeps_388 : decode cL_keeps 388 = .ok (.iload_n 1, 1) := by decide +kernel
theorem dL_keeps_389 : decode cL_keeps 389 = .ok (.bipush 11, 2) := by decide +kernel
theorem dL_keeps_391 : decode cL_keeps 391 = .ok (.if_icmp .ge 138, 3) := by decide +kernel
theorem dL_keeps_394 : decode cL_keeps 394 = .ok (.iconst 1, 1) := by decide +kernel
theorem dL_keeps_395 : decode cL_keeps 395 = .ok (.iload_n 3, 1) := by decide +kernel
theorem dL_keeps_396 : decode cL_keeps 396 = .ok (.iload_n 3, 1) := by decide +kernel
theorem dL_keeps_397 : decode cL_keeps 397 = .ok (.sipush 192, 3) := by decide +kernel
theorem dL_keeps_400 : decode cL_keeps 400 = .ok (.iand, 1) := by decide +kernel
theorem dL_keeps_401 : decode cL_keeps 401 = .ok (.ifCond .ne 9, 3) := by decide +kernel
theorem dL_keeps_404 : decode cL_keeps 404 = .ok (.sipush 400, 3) := by decide +kernel
theorem dL_keeps_407 : decode cL_keeps 407 = .ok (.goto 5, 3) := by decide +kernel
theorem dL_keeps_410 : decode cL_keeps 410 = .ok (.bipush 20, 2) := by decide +kernel
theorem dL_keeps_412 : decode cL_keeps 412 = .ok (.invokestatic 72, 3) := by decide +kernel
theorem dL_keeps_415 : decode cL_keeps 415 = .ok (.iadd, 1) := by decide +kernel
theorem dL_keeps_416 : decode cL_keeps 416 = .ok (.istore 15, 2) := by decide +kernel
theorem dL_keeps_418 : decode cL_keeps 418 = .ok (.aload_n 0, 1) := by decide +kernel
theorem dL_keeps_419 : decode cL_keeps 419 = .ok (.iconst 0, 1) := by decide +kernel
theorem dL_keeps_420 : decode cL_keeps 420 = .ok (.invokestatic 83, 3) := by decide +kernel
theorem dL_keeps_423 : decode cL_keeps 423 = .ok (.bipush (-72), 2) := by decide +kernel
theorem dL_keeps_425 : decode cL_keeps 425 = .ok (.if_icmp .ne 44, 3) := by decide +kernel
theorem dL_keeps_428 : decode cL_keeps 428 = .ok (.aload_n 0, 1) := by decide +kernel
theorem dL_keeps_429 : decode cL_keeps 429 = .ok (.sipush 10001, 3) := by decide +kernel
theorem dL_keeps_432 : decode cL_keeps 432 = .ok (.invokestatic 83, 3) := by decide +kernel
theorem dL_keeps_435 : decode cL_keeps 435 = .ok (.bipush (-72), 2) := by decide +kernel
theorem dL_keeps_437 : decode cL_keeps 437 = .ok (.if_icmp .ne 32, 3) := by decide +kernel
theorem dL_keeps_440 : decode cL_keeps 440 = .ok (.aload_n 0, 1) := by decide +kernel
theorem dL_keeps_441 : decode cL_keeps 441 = .ok (.sipush 10001, 3) := by decide +kernel
theorem dL_keeps_444 : decode cL_keeps 444 = .ok (.aload 11, 2) := by decide +kernel
theorem dL_keeps_446 : decode cL_keeps 446 = .ok (.iconst 0, 1) := by decide +kernel
theorem dL_keeps_447 : decode cL_keeps 447 = .ok (.iaload, 1) := by decide +kernel
theorem dL_keeps_448 : decode cL_keeps 448 = .ok (.isub, 1) := by decide +kernel
theorem dL_keeps_449 : decode cL_keeps 449 = .ok (.invokestatic 83, 3) := by decide +kernel
theorem dL_keeps_452 : decode cL_keeps 452 = .ok (.aload 11, 2) := by decide +kernel
theorem dL_keeps_454 : decode cL_keeps 454 = .ok (.iconst 0, 1) := by decide +kernel
theorem dL_keeps_455 : decode cL_keeps 455 = .ok (.iaload, 1) := by decide +kernel
theorem dL_keeps_456 : decode cL_keeps 456 = .ok (.ifCond .ne 8, 3) := by decide +kernel
theorem dL_keeps_459 : decode cL_keeps 459 = .ok (.bipush (-72), 2) := by decide +kernel
theorem dL_keeps_461 : decode cL_keeps 461 = .ok (.goto 5, 3) := by decide +kernel
theorem dL_keeps_464 : decode cL_keeps 464 = .ok (.bipush (-73), 2) := by decide +kernel
theorem dL_keeps_466 : decode cL_keeps 466 = .ok (.if_icmp .eq 5, 3) := by decide +kernel
theorem dL_keeps_469 : decode cL_keeps 469 = .ok (.iconst 0, 1) := by decide +kernel
theorem dL_keeps_470 : decode cL_keeps 470 = .ok (.ireturn, 1) := by decide +kernel
theorem dL_keeps_471 : decode cL_keeps 471 = .ok (.aload 11, 2) := by decide +kernel
theorem dL_keeps_473 : decode cL_keeps 473 = .ok (.iconst 0, 1) := by decide +kernel
theorem dL_keeps_474 : decode cL_keeps 474 = .ok (.iaload, 1) := by decide +kernel
theorem dL_keeps_475 : decode cL_keeps 475 = .ok (.iload 15, 2) := by decide +kernel
theorem dL_keeps_477 : decode cL_keeps 477 = .ok (.iadd, 1) := by decide +kernel
theorem dL_keeps_478 : decode cL_keeps 478 = .ok (.sipush 10000, 3) := by decide +kernel
theorem dL_keeps_481 : decode cL_keeps 481 = .ok (.if_icmp .le 20, 3) := by decide +kernel
theorem dL_keeps_484 : decode cL_keeps 484 = .ok (.aload_n 0, 1) := by decide +kernel
theorem dL_keeps_485 : decode cL_keeps 485 = .ok (.iload 15, 2) := by decide +kernel
theorem dL_keeps_487 : decode cL_keeps 487 = .ok (.invokestatic 83, 3) := by decide +kernel
theorem dL_keeps_490 : decode cL_keeps 490 = .ok (.bipush (-73), 2) := by decide +kernel
theorem dL_keeps_492 : decode cL_keeps 492 = .ok (.if_icmp .ne 7, 3) := by decide +kernel
theorem dL_keeps_495 : decode cL_keeps 495 = .ok (.iconst 1, 1) := by decide +kernel
theorem dL_keeps_496 : decode cL_keeps 496 = .ok (.goto 4, 3) := by decide +kernel
theorem dL_keeps_499 : decode cL_keeps 499 = .ok (.iconst 0, 1) := by decide +kernel
theorem dL_keeps_500 : decode cL_keeps 500 = .ok (.ireturn, 1) := by decide +kernel
theorem dL_keeps_501 : decode cL_keeps 501 = .ok (.aload 11, 2) := by decide +kernel
theorem dL_keeps_503 : decode cL_keeps 503 = .ok (.iconst 0, 1) := by decide +kernel
theorem dL_keeps_504 : decode cL_keeps 504 = .ok (.dup2, 1) := by decide +kernel
theorem dL_keeps_505 : decode cL_keeps 505 = .ok (.iaload, 1) := by decide +kernel
theorem dL_keeps_506 : decode cL_keeps 506 = .ok (.iload 15, 2) := by decide +kernel
theorem dL_keeps_508 : decode cL_keeps 508 = .ok (.iadd, 1) := by decide +kernel
theorem dL_keeps_509 : decode cL_keeps 509 = .ok (.iastore, 1) := by decide +kernel
theorem dL_keeps_510 : decode cL_keeps 510 = .ok (.aload_n 0, 1) := by decide +kernel
theorem dL_keeps_511 : decode cL_keeps 511 = .ok (.iload 15, 2) := by decide +kernel
theorem dL_keeps_513 : decode cL_keeps 513 = .ok (.invokestatic 83, 3) := by decide +kernel
theorem dL_keeps_516 : decode cL_keeps 516 = .ok (.aload 11, 2) := by decide +kernel
theorem dL_keeps_518 : decode cL_keeps 518 = .ok (.iconst 0, 1) := by decide +kernel
theorem dL_keeps_519 : decode cL_keeps 519 = .ok (.iaload, 1) := by decide +kernel
theorem dL_keeps_520 : decode cL_keeps 520 = .ok (.if_icmp .ne 7, 3) := by decide +kernel
theorem dL_keeps_523 : decode cL_keeps 523 = .ok (.iconst 1, 1) := by decide +kernel
theorem dL_keeps_524 : decode cL_keeps 524 = .ok (.goto 4, 3) := by decide +kernel
theorem dL_keeps_527 : decode cL_keeps 527 = .ok (.iconst 0, 1) := by decide +kernel
theorem dL_keeps_528 : decode cL_keeps 528 = .ok (.ireturn, 1) := by decide +kernel
theorem dL_keeps_529 : decode cL_keeps 529 = .ok (.iload_n 1, 1) := by decide +kernel
theorem dL_keeps_530 : decode cL_keeps 530 = .ok (.bipush 11, 2) := by decide +kernel
theorem dL_keeps_532 : decode cL_keeps 532 = .ok (.if_icmp .ne 104, 3) := by decide +kernel
theorem dL_keeps_535 : decode cL_keeps 535 = .ok (.iload_n 3, 1) := by decide +kernel
theorem dL_keeps_536 : decode cL_keeps 536 = .ok (.bipush 6, 2) := by decide +kernel
theorem dL_keeps_538 : decode cL_keeps 538 = .ok (.iand, 1) := by decide +kernel
theorem dL_keeps_539 : decode cL_keeps 539 = .ok (.ifCond .ne 15, 3) := by decide +kernel
theorem dL_keeps_542 : decode cL_keeps 542 = .ok (.iload_n 3, 1) := by decide +kernel
theorem dL_keeps_543 : decode cL_keeps 543 = .ok (.iconst 3, 1) := by decide +kernel
theorem dL_keeps_544 : decode cL_keeps 544 = .ok (.ishr, 1) := by decide +kernel
theorem dL_keeps_545 : decode cL_keeps 545 = .ok (.sipush 10001, 3) := by decide +kernel
theorem dL_keeps_548 : decode cL_keeps 548 = .ok (.invokestatic 72, 3) := by decide +kernel
theorem dL_keeps_551 : decode cL_keeps 551 = .ok (.goto 11, 3) := by decide +kernel
theorem dL_keeps_554 : decode cL_keeps 554 = .ok (.iload_n 3, 1) := by decide +kernel
theorem dL_keeps_555 : decode cL_keeps 555 = .ok (.iconst 3, 1) := by decide +kernel
theorem dL_keeps_556 : decode cL_keeps 556 = .ok (.ishr, 1) := by decide +kernel
theorem dL_keeps_557 : decode cL_keeps 557 = .ok (.bipush 60, 2) := by decide +kernel
theorem dL_keeps_559 : decode cL_keeps 559 = .ok (.invokestatic 72, 3) := by decide +kernel
theorem dL_keeps_562 : decode cL_keeps 562 = .ok (.istore 15, 2) := by decide +kernel
theorem dL_keeps_564 : decode cL_keeps 564 = .ok (.aload 8, 2) := by decide +kernel
theorem dL_keeps_566 : decode cL_keeps 566 = .ok (.iload 12, 2) := by decide +kernel
theorem dL_keeps_568 : decode cL_keeps 568 = .ok (.iaload, 1) := by decide +kernel
theorem dL_keeps_569 : decode cL_keeps 569 = .ok (.istore 16, 2) := by decide +kernel
theorem dL_keeps_571 : decode cL_keeps 571 = .ok (.aload 8, 2) := by decide +kernel
theorem dL_keeps_573 : decode cL_keeps 573 = .ok (.iload 12, 2) := by decide +kernel
theorem dL_keeps_575 : decode cL_keeps 575 = .ok (.iload 15, 2) := by decide +kernel
theorem dL_keeps_577 : decode cL_keeps 577 = .ok (.iastore, 1) := by decide +kernel
theorem dL_keeps_578 : decode cL_keeps 578 = .ok (.aload_n 0, 1) := by decide +kernel
theorem dL_keeps_579 : decode cL_keeps 579 = .ok (.bipush 6, 2) := by decide +kernel
theorem dL_keeps_581 : decode cL_keeps 581 = .ok (.iload 15, 2) := by decide +kernel
theorem dL_keeps_583 : decode cL_keeps 583 = .ok (.invokestatic 86, 3) := by decide +kernel
theorem dL_keeps_586 : decode cL_keeps 586 = .ok (.bipush (-72), 2) := by decide +kernel
theorem dL_keeps_588 : decode cL_keeps 588 = .ok (.if_icmp .ne 46, 3) := by decide +kernel
theorem dL_keeps_591 : decode cL_keeps 591 = .ok (.aload_n 0, 1) := by decide +kernel
theorem dL_keeps_592 : decode cL_keeps 592 = .ok (.iload 12, 2) := by decide +kernel
theorem dL_keeps_594 : decode cL_keeps 594 = .ok (.sipush 10001, 3) := by decide +kernel
theorem dL_keeps_597 : decode cL_keeps 597 = .ok (.invokestatic 86, 3) := by decide +kernel
theorem dL_keeps_600 : decode cL_keeps 600 = .ok (.bipush (-72), 2) := by decide +kernel
theorem dL_keeps_602 : decode cL_keeps 602 = .ok (.if_icmp .ne 32, 3) := by decide +kernel
theorem dL_keeps_605 : decode cL_keeps 605 = .ok (.aload_n 0, 1) := by decide +kernel
theorem dL_keeps_606 : decode cL_keeps 606 = .ok (.iload 12, 2) := by decide +kernel
theorem dL_keeps_608 : decode cL_keeps 608 = .ok (.iconst (-1), 1) := by decide +kernel
theorem dL_keeps_609 : decode cL_keeps 609 = .ok (.invokestatic 86, 3) := by decide +kernel
theorem dL_keeps_612 : decode cL_keeps 612 = .ok (.bipush (-72), 2) := by decide +kernel
theorem dL_keeps_614 : decode cL_keeps 614 = .ok (.if_icmp .ne 20, 3) := by decide +kernel
theorem dL_keeps_617 : decode cL_keeps 617 = .ok (.aload_n 0, 1) := by decide +kernel
theorem dL_keeps_618 : decode cL_keeps 618 = .ok (.iload 12, 2) := by decide +kernel
theorem dL_keeps_620 : decode cL_keeps 620 = .ok (.iload 15, 2) := by decide +kernel
theorem dL_keeps_622 : decode cL_keeps 622 = .ok (.invokestatic 86, 3) := by decide +kernel
theorem dL_keeps_625 : decode cL_keeps 625 = .ok (.iload 16, 2) := by decide +kernel
theorem dL_keeps_627 : decode cL_keeps 627 = .ok (.if_icmp .ne 7, 3) := by decide +kernel
theorem dL_keeps_630 : decode cL_keeps 630 = .ok (.iconst 1, 1) := by decide +kernel
theorem dL_keeps_631 : decode cL_keeps 631 = .ok (.goto 4, 3) := by decide +kernel
theorem dL_keeps_634 : decode cL_keeps 634 = .ok (.iconst 0, 1) := by decide +kernel
theorem dL_keeps_635 : decode cL_keeps 635 = .ok (.ireturn, 1) := by decide +kernel
theorem dL_keeps_636 : decode cL_keeps 636 = .ok (.iload_n 1, 1) := by decide +kernel
theorem dL_keeps_637 : decode cL_keeps 637 = .ok (.bipush 15, 2) := by decide +kernel
theorem dL_keeps_639 : decode cL_keeps 639 = .ok (.if_icmp .ge 103, 3) := by decide +kernel
theorem dL_keeps_642 : decode cL_keeps 642 = .ok (.iconst 1, 1) := by decide +kernel
theorem dL_keeps_643 : decode cL_keeps 643 = .ok (.iload_n 3, 1) := by decide +kernel
theorem dL_keeps_644 : decode cL_keeps 644 = .ok (.iload_n 3, 1) := by decide +kernel
theorem dL_keeps_645 : decode cL_keeps 645 = .ok (.bipush 24, 2) := by decide +kernel
theorem dL_keeps_647 : decode cL_keeps 647 = .ok (.iand, 1) := by decide +kernel
theorem dL_keeps_648 : decode cL_keeps 648 = .ok (.ifCond .ne 9, 3) := by decide +kernel
theorem dL_keeps_651 : decode cL_keeps 651 = .ok (.sipush 200, 3) := by decide +kernel
theorem dL_keeps_654 : decode cL_keeps 654 = .ok (.goto 4, 3) := by decide +kernel
theorem dL_keeps_657 : decode cL_keeps 657 = .ok (.iconst 4, 1) := by decide +kernel
theorem dL_keeps_658 : decode cL_keeps 658 = .ok (.invokestatic 72, 3) := by decide +kernel
theorem dL_keeps_661 : decode cL_keeps 661 = .ok (.iadd, 1) := by decide +kernel
theorem dL_keeps_662 : decode cL_keeps 662 = .ok (.istore 15, 2) := by decide +kernel
theorem dL_keeps_664 : decode cL_keeps 664 = .ok (.aload 11, 2) := by decide +kernel
theorem dL_keeps_666 : decode cL_keeps 666 = .ok (.iconst 1, 1) := by decide +kernel
theorem dL_keeps_667 : decode cL_keeps 667 = .ok (.iaload, 1) := by decide +kernel
theorem dL_keeps_668 : decode cL_keeps 668 = .ok (.aload 11, 2) := by decide +kernel
theorem dL_keeps_670 : decode cL_keeps 670 = .ok (.iconst 2, 1) := by decide +kernel
theorem dL_keeps_671 : decode cL_keeps 671 = .ok (.iaload, 1) := by decide +kernel
theorem dL_keeps_672 : decode cL_keeps 672 = .ok (.isub, 1) := by decide +kernel
theorem dL_keeps_673 : decode cL_keeps 673 = .ok (.iload 15, 2) := by decide +kernel
theorem dL_keeps_675 : decode cL_keeps 675 = .ok (.if_icmp .ge 15, 3) := by decide +kernel
theorem dL_keeps_678 : decode cL_keeps 678 = .ok (.aload 11, 2) := by decide +kernel
theorem dL_keeps_680 : decode cL_keeps 680 = .ok (.iconst 1, 1) := by decide +kernel
theorem dL_keeps_681 : decode cL_keeps 681 = .ok (.iaload, 1) := by decide +kernel
theorem dL_keeps_682 : decode cL_keeps 682 = .ok (.aload 11, 2) := by decide +kernel
theorem dL_keeps_684 : decode cL_keeps 684 = .ok (.iconst 2, 1) := by decide +kernel
theorem dL_keeps_685 : decode cL_keeps 685 = .ok (.iaload, 1) := by decide +kernel
theorem dL_keeps_686 : decode cL_keeps 686 = .ok (.isub, 1) := by decide +kernel
theorem dL_keeps_687 : decode cL_keeps 687 = .ok (.goto 5, 3) := by decide +kernel
theorem dL_keeps_690 : decode cL_keeps 690 = .ok (.iload 15, 2) := by decide +kernel
theorem dL_keeps_692 : decode cL_keeps 692 = .ok (.istore 16, 2) := by decide +kernel
theorem dL_keeps_694 : decode cL_keeps 694 = .ok (.aload 11, 2) := by decide +kernel
theorem dL_keeps_696 : decode cL_keeps 696 = .ok (.iconst 2, 1) := by decide +kernel
theorem dL_keeps_697 : decode cL_keeps 697 = .ok (.dup2, 1) := by decide +kernel
theorem dL_keeps_698 : decode cL_keeps 698 = .ok (.iaload, 1) := by decide +kernel
theorem dL_keeps_699 : decode cL_keeps 699 = .ok (.iload 16, 2) := by decide +kernel
theorem dL_keeps_701 : decode cL_keeps 701 = .ok (.iadd, 1) := by decide +kernel
theorem dL_keeps_702 : decode cL_keeps 702 = .ok (.iastore, 1) := by decide +kernel
theorem dL_keeps_703 : decode cL_keeps 703 = .ok (.aload_n 0, 1) := by decide +kernel
theorem dL_keeps_704 : decode cL_keeps 704 = .ok (.iconst 0, 1) := by decide +kernel
theorem dL_keeps_705 : decode cL_keeps 705 = .ok (.invokestatic 89, 3) := by decide +kernel
theorem dL_keeps_708 : decode cL_keeps 708 = .ok (.bipush (-72), 2) := by decide +kernel
theorem dL_keeps_710 : decode cL_keeps 710 = .ok (.if_icmp .ne 30, 3) := by decide +kernel
theorem dL_keeps_713 : decode cL_keeps 713 = .ok (.aload_n 0, 1) := by decide +kernel
theorem dL_keeps_714 : decode cL_keeps 714 = .ok (.sipush 201, 3) := by decide +kernel
theorem dL_keeps_717 : decode cL_keeps 717 = .ok (.invokestatic 89, 3) := by decide +kernel
theorem dL_keeps_720 : decode cL_keeps 720 = .ok (.bipush (-72), 2) := by decide +kernel
theorem dL_keeps_722 : decode cL_keeps 722 = .ok (.if_icmp .ne 18, 3) := by decide +kernel
theorem dL_keeps_725 : decode cL_keeps 725 = .ok (.aload_n 0, 1) := by decide +kernel
theorem dL_keeps_726 : decode cL_keeps 726 = .ok (.iload 15, 2) := by decide +kernel
theorem dL_keeps_728 : decode cL_keeps 728 = .ok (.invokestatic 89, 3) := by decide +kernel
theorem dL_keeps_731 : decode cL_keeps 731 = .ok (.iload 16, 2) := by decide +kernel
theorem dL_keeps_733 : decode cL_keeps 733 = .ok (.if_icmp .ne 7, 3) := by decide +kernel
theorem dL_keeps_736 : decode cL_keeps 736 = .ok (.iconst 1, 1) := by decide +kernel
theorem dL_keeps_737 : decode cL_keeps 737 = .ok (.goto 4, 3) := by decide +kernel
theorem dL_keeps_740 : decode cL_keeps 740 = .ok (.iconst 0, 1) := by decide +kernel
theorem dL_keeps_741 : decode cL_keeps 741 = .ok (.ireturn, 1) := by decide +kernel
theorem dL_keeps_742 : decode cL_keeps 742 = .ok (.aload_n 0, 1) := by decide +kernel
theorem dL_keeps_743 : decode cL_keeps 743 = .ok (.iload 12, 2) := by decide +kernel
theorem dL_keeps_745 : decode cL_keeps 745 = .ok (.bipush 10, 2) := by decide +kernel
theorem dL_keeps_747 : decode cL_keeps 747 = .ok (.invokestatic 91, 3) := by decide +kernel
theorem dL_keeps_750 : decode cL_keeps 750 = .ok (.bipush (-72), 2) := by decide +kernel
theorem dL_keeps_752 : decode cL_keeps 752 = .ok (.if_icmp .ne 15, 3) := by decide +kernel
theorem dL_keeps_755 : decode cL_keeps 755 = .ok (.aload_n 0, 1) := by decide +kernel
theorem dL_keeps_756 : decode cL_keeps 756 = .ok (.iconst (-1), 1) := by decide +kernel
theorem dL_keeps_757 : decode cL_keeps 757 = .ok (.iload 13, 2) := by decide +kernel
theorem dL_keeps_759 : decode cL_keeps 759 = .ok (.invokestatic 91, 3) := by decide +kernel
theorem dL_keeps_762 : decode cL_keeps 762 = .ok (.bipush (-72), 2) := by decide +kernel
theorem dL_keeps_764 : decode cL_keeps 764 = .ok (.if_icmp .eq 5, 3) := by decide +kernel
theorem dL_keeps_767 : decode cL_keeps 767 = .ok (.iconst 0, 1) := by decide +kernel
theorem dL_keeps_768 : decode cL_keeps 768 = .ok (.ireturn, 1) := by decide +kernel
theorem dL_keeps_769 : decode cL_keeps 769 = .ok (.aload 11, 2) := by decide +kernel
theorem dL_keeps_771 : decode cL_keeps 771 = .ok (.iconst 3, 1) := by decide +kernel
theorem dL_keeps_772 : decode cL_keeps 772 = .ok (.iaload, 1) := by decide +kernel
theorem dL_keeps_773 : decode cL_keeps 773 = .ok (.bipush 60, 2) := by decide +kernel
theorem dL_keeps_775 : decode cL_keeps 775 = .ok (.if_icmp .ne 18, 3) := by decide +kernel
theorem dL_keeps_778 : decode cL_keeps 778 = .ok (.aload_n 0, 1) := by decide +kernel
theorem dL_keeps_779 : decode cL_keeps 779 = .ok (.invokevirtual 93, 3) := by decide +kernel
theorem dL_keeps_782 : decode cL_keeps 782 = .ok (.bipush 60, 2) := by decide +kernel
theorem dL_keeps_784 : decode cL_keeps 784 = .ok (.if_icmp .ne 7, 3) := by decide +kernel
theorem dL_keeps_787 : decode cL_keeps 787 = .ok (.iconst 1, 1) := by decide +kernel
theorem dL_keeps_788 : decode cL_keeps 788 = .ok (.goto 4, 3) := by decide +kernel
theorem dL_keeps_791 : decode cL_keeps 791 = .ok (.iconst 0, 1) := by decide +kernel
theorem dL_keeps_792 : decode cL_keeps 792 = .ok (.ireturn, 1) := by decide +kernel
theorem dL_keeps_793 : decode cL_keeps 793 = .ok (.aload 9, 2) := by decide +kernel
theorem dL_keeps_795 : decode cL_keeps 795 = .ok (.aload 11, 2) := by decide +kernel
theorem dL_keeps_797 : decode cL_keeps 797 = .ok (.iconst 3, 1) := by decide +kernel
theorem dL_keeps_798 : decode cL_keeps 798 = .ok (.iaload, 1) := by decide +kernel
theorem dL_keeps_799 : decode cL_keeps 799 = .ok (.iload 14, 2) := by decide +kernel
theorem dL_keeps_801 : decode cL_keeps 801 = .ok (.sipush 128, 3) := by decide +kernel
theorem dL_keeps_804 : decode cL_keeps 804 = .ok (.aload 11, 2) := by decide +kernel
theorem dL_keeps_806 : decode cL_keeps 806 = .ok (.iconst 0, 1) := by decide +kernel
theorem dL_keeps_807 : decode cL_keeps 807 = .ok (.iaload, 1) := by decide +kernel
theorem dL_keeps_808 : decode cL_keeps 808 = .ok (.imul, 1) := by decide +kernel
theorem dL_keeps_809 : decode cL_keeps 809 = .ok (.iadd, 1) := by decide +kernel
theorem dL_keeps_810 : decode cL_keeps 810 = .ok (.iastore, 1) := by decide +kernel
theorem dL_keeps_811 : decode cL_keeps 811 = .ok (.aload 10, 2) := by decide +kernel
theorem dL_keeps_813 : decode cL_keeps 813 = .ok (.aload 11, 2) := by decide +kernel
theorem dL_keeps_815 : decode cL_keeps 815 = .ok (.iconst 3, 1) := by decide +kernel
theorem dL_keeps_816 : decode cL_keeps 816 = .ok (.iaload, 1) := by decide +kernel
theorem dL_keeps_817 : decode cL_keeps 817 = .ok (.aload 4, 2) := by decide +kernel
theorem dL_keeps_819 : decode cL_keeps 819 = .ok (.aload 5, 2) := by decide +kernel
theorem dL_keeps_821 : decode cL_keeps 821 = .ok (.aload 6, 2) := by decide +kernel
theorem dL_keeps_823 : decode cL_keeps 823 = .ok (.aload 8, 2) := by decide +kernel
theorem dL_keeps_825 : decode cL_keeps 825 = .ok (.aload 11, 2) := by decide +kernel
theorem dL_keeps_827 : decode cL_keeps 827 = .ok (.iload 14, 2) := by decide +kernel
theorem dL_keeps_829 : decode cL_keeps 829 = .ok (.invokestatic 96, 3) := by decide +kernel
theorem dL_keeps_832 : decode cL_keeps 832 = .ok (.iastore, 1) := by decide +kernel
theorem dL_keeps_833 : decode cL_keeps 833 = .ok (.aload 11, 2) := by decide +kernel
theorem dL_keeps_835 : decode cL_keeps 835 = .ok (.iconst 3, 1) := by decide +kernel
theorem dL_keeps_836 : decode cL_keeps 836 = .ok (.dup2, 1) := by decide +kernel
theorem dL_keeps_837 : decode cL_keeps 837 = .ok (.iaload, 1) := by decide +kernel
theorem dL_keeps_838 : decode cL_keeps 838 = .ok (.iconst 1, 1) := by decide +kernel
theorem dL_keeps_839 : decode cL_keeps 839 = .ok (.iadd, 1) := by decide +kernel
theorem dL_keeps_840 : decode cL_keeps 840 = .ok (.iastore, 1) := by decide +kernel
theorem dL_keeps_841 : decode cL_keeps 841 = .ok (.aload_n 0, 1) := by decide +kernel
theorem dL_keeps_842 : decode cL_keeps 842 = .ok (.iload 12, 2) := by decide +kernel
theorem dL_keeps_844 : decode cL_keeps 844 = .ok (.iload 13, 2) := by decide +kernel
theorem dL_keeps_846 : decode cL_keeps 846 = .ok (.invokestatic 91, 3) := by decide +kernel
theorem dL_keeps_849 : decode cL_keeps 849 = .ok (.aload 10, 2) := by decide +kernel
theorem dL_keeps_851 : decode cL_keeps 851 = .ok (.aload 11, 2) := by decide +kernel
theorem dL_keeps_853 : decode cL_keeps 853 = .ok (.iconst 3, 1) := by decide +kernel
theorem dL_keeps_854 : decode cL_keeps 854 = .ok (.iaload, 1) := by decide +kernel
theorem dL_keeps_855 : decode cL_keeps 855 = .ok (.iconst 1, 1) := by decide +kernel
theorem dL_keeps_856 : decode cL_keeps 856 = .ok (.isub, 1) := by decide +kernel
theorem dL_keeps_857 : decode cL_keeps 857 = .ok (.iaload, 1) := by decide +kernel
theorem dL_keeps_858 : decode cL_keeps 858 = .ok (.if_icmp .ne 7, 3) := by decide +kernel
theorem dL_keeps_861 : decode cL_keeps 861 = .ok (.iconst 1, 1) := by decide +kernel
theorem dL_keeps_862 : decode cL_keeps 862 = .ok (.goto 4, 3) := by decide +kernel
theorem dL_keeps_865 : decode cL_keeps 865 = .ok (.iconst 0, 1) := by decide +kernel
theorem dL_keeps_866 : decode cL_keeps 866 = .ok (.ireturn, 1) := by decide +kernel
set_option maxRecDepth 20000 in
theorem ggL_areTiles_L_window : GoodIn wsL_areTiles wsL_window := goodIn_ca (goodIn_r _ [4, 5, 6, 7, 8, 9, 10, 11, 12, 13, 14, 15, 16, 17, 18, 19, 20, 21, 22, 23, 24, 25, 44, 45, 46, 47, 48, 49, 50, 51, 52, 53, 54, 55, 56, 57, 58, 59] (by decide +kernel) (by decide +kernel)) (goodIn_sub (fun _ h => List.mem_cons_of_mem _ (List.mem_append_right _ h)) (by decide +kernel))
set_option maxRecDepth 20000 in
theorem gL_areTiles_L_window : GoodIn wsL_areTiles (va_wsS RL 100 yL_window wsL_window) := goodIn_app (goodIn_of _ (by decide +kernel)) ggL_areTiles_L_window
set_option maxRecDepth 20000 in
theorem ggL_areTiles_L_greatestTile : GoodIn wsL_areTiles wsL_greatestTile := goodIn_ca (goodIn_r _ [28, 5, 29, 30, 31, 9, 32, 11, 12, 13, 33, 34, 35, 36, 14, 15, 16, 17, 18, 19, 20, 21, 22, 23, 24, 25, 44, 45, 46, 47, 48, 49, 50, 51, 52, 53, 54, 55, 56, 57, 58, 59] (by decide +kernel) (by decide +kernel)) (goodIn_sub (fun _ h => List.mem_cons_of_mem _ (List.mem_append_right _ h)) (by decide +kernel))
set_option maxRecDepth 20000 in
theorem gL_areTiles_L_greatestTile : GoodIn wsL_areTiles (va_wsS RL 102 yL_greatestTile wsL_greatestTile) := goodIn_app (goodIn_of _ (by decide +kernel)) ggL_areTiles_L_greatestTile
set_option maxRecDepth 20000 in
theorem ggL_areTiles_L_tiles : GoodIn wsL_areTiles wsL_tiles := goodIn_ca (goodIn_r _ [39, 5, 40, 41, 42, 9, 43, 11, 12, 14, 15, 16, 17, 18, 19, 20, 21, 22, 23, 24, 25, 44, 45, 46, 47, 48, 49, 50, 51, 52, 53, 54, 55, 56, 57, 58, 59] (by decide +kernel) (by decide +kernel)) (goodIn_sub (fun _ h => List.mem_cons_of_mem _ (List.mem_append_right _ h)) (by decide +kernel))
set_option maxRecDepth 20000 in
theorem gL_areTiles_L_tiles : GoodIn wsL_areTiles (va_wsS RL 105 yL_tiles wsL_tiles) := goodIn_app (goodIn_of _ (by decide +kernel)) ggL_areTiles_L_tiles
theorem dL_areTiles_0 : decode cL_areTiles 0 = .ok (.iconst 0, 1) := by decide +kernel
theorem dL_areTiles_1 : decode cL_areTiles 1 = .ok (.istore 10, 2) := by decide +kernel
theorem dL_areTiles_3 : decode cL_areTiles 3 = .ok (.iconst 0, 1) := by decide +kernel
theorem dL_areTiles_4 : decode cL_areTiles 4 = .ok (.istore 11, 2) := by decide +kernel
theorem dL_areTiles_6 : decode cL_areTiles 6 = .ok (.iconst 0, 1) := by decide +kernel
theorem dL_areTiles_7 : decode cL_areTiles 7 = .ok (.istore 12, 2) := by decide +kernel
theorem dL_areTiles_9 : decode cL_areTiles 9 = .ok (.iconst 0, 1) := by decide +kernel
theorem dL_areTiles_10 : decode cL_areTiles 10 = .ok (.istore 13, 2) := by decide +kernel
theorem dL_areTiles_12 : decode cL_areTiles 12 = .ok (.iload 13, 2) := by decide +kernel
theorem dL_areTiles_14 : decode cL_areTiles 14 = .ok (.aload 9, 2) := by decide +kernel
theorem dL_areTiles_16 : decode cL_areTiles 16 = .ok (.iconst 1, 1) := by decide +kernel
theorem dL_areTiles_17 : decode cL_areTiles 17 = .ok (.iaload, 1) := by decide +kernel
theorem dL_areTiles_18 : decode cL_areTiles 18 = .ok (.if_icmp .ge 175, 3) := by decide +kernel
theorem dL_areTiles_21 : decode cL_areTiles 21 = .ok (.aload 6, 2) := by decide +kernel
theorem dL_areTiles_23 : decode cL_areTiles 23 = .ok (.iload 13, 2) := by decide +kernel
theorem dL_areTiles_25 : decode cL_areTiles 25 = .ok (.iaload, 1) := by decide +kernel
theorem dL_areTiles_26 : decode cL_areTiles 26 = .ok (.iload_n 1, 1) := by decide +kernel
theorem dL_areTiles_27 : decode cL_areTiles 27 = .ok (.bipush 8, 2) := by decide +kernel
theorem dL_areTiles_29 : decode cL_areTiles 29 = .ok (.iload_n 2, 1) := by decide +kernel
theorem dL_areTiles_30 : decode cL_areTiles 30 = .ok (.imul, 1) := by decide +kernel
theorem dL_areTiles_31 : decode cL_areTiles 31 = .ok (.iadd, 1) := by decide +kernel
theorem dL_areTiles_32 : decode cL_areTiles 32 = .ok (.if_icmp .eq 6, 3) := by decide +kernel
theorem dL_areTiles_35 : decode cL_areTiles 35 = .ok (.goto 152, 3) := by decide +kernel
theorem dL_areTiles_38 : decode cL_areTiles 38 = .ok (.iload 10, 2) := by decide +kernel
theorem dL_areTiles_40 : decode cL_areTiles 40 = .ok (.aload 7, 2) := by decide +kernel
theorem dL_areTiles_42 : decode cL_areTiles 42 = .ok (.iload 13, 2) := by decide +kernel
theorem dL_areTiles_44 : decode cL_areTiles 44 = .ok (.iaload, 1) := by decide +kernel
theorem dL_areTiles_45 : decode cL_areTiles 45 = .ok (.iload 4, 2) := by decide +kernel
theorem dL_areTiles_47 : decode cL_areTiles 47 = .ok (.if_icmp .lt 21, 3) := by decide +kernel
theorem dL_areTiles_50 : decode cL_areTiles 50 = .ok (.aload 7, 2) := by decide +kernel
theorem dL_areTiles_52 : decode cL_areTiles 52 = .ok (.iload 13, 2) := by decide +kernel
theorem dL_areTiles_54 : decode cL_areTiles 54 = .ok (.iaload, 1) := by decide +kernel
theorem dL_areTiles_55 : decode cL_areTiles 55 = .ok (.iload 5, 2) := by decide +kernel
theorem dL_areTiles_57 : decode cL_areTiles 57 = .ok (.if_icmp .gt 11, 3) := by decide +kernel
theorem dL_areTiles_60 : decode cL_areTiles 60 = .ok (.aload 8, 2) := by decide +kernel
theorem dL_areTiles_62 : decode cL_areTiles 62 = .ok (.iload 13, 2) := by decide +kernel
theorem dL_areTiles_64 : decode cL_areTiles 64 = .ok (.iaload, 1) := by decide +kernel
theorem dL_areTiles_65 : decode cL_areTiles 65 = .ok (.goto 4, 3) := by decide +kernel
theorem dL_areTiles_68 : decode cL_areTiles 68 = .ok (.iconst 0, 1) := by decide +kernel
theorem dL_areTiles_69 : decode cL_areTiles 69 = .ok (.iadd, 1) := by decide +kernel
theorem dL_areTiles_70 : decode cL_areTiles 70 = .ok (.istore 10, 2) := by decide +kernel
theorem dL_areTiles_72 : decode cL_areTiles 72 = .ok (.iconst 0, 1) := by decide +kernel
theorem dL_areTiles_73 : decode cL_areTiles 73 = .ok (.istore 14, 2) := by decide +kernel
theorem dL_areTiles_75 : decode cL_areTiles 75 = .ok (.iconst 1, 1) := by decide +kernel
theorem dL_areTiles_76 : decode cL_areTiles 76 = .ok (.istore 15, 2) := by decide +kernel
theorem dL_areTiles_78 : decode cL_areTiles 78 = .ok (.iconst 0, 1) := by decide +kernel
theorem dL_areTiles_79 : decode cL_areTiles 79 = .ok (.istore 16, 2) := by decide +kernel
theorem dL_areTiles_81 : decode cL_areTiles 81 = .ok (.iload 16, 2) := by decide +kernel
theorem dL_areTiles_83 : decode cL_areTiles 83 = .ok (.aload 9, 2) := by decide +kernel
theorem dL_areTiles_85 : decode cL_areTiles 85 = .ok (.iconst 1, 1) := by decide +kernel
theorem dL_areTiles_86 : decode cL_areTiles 86 = .ok (.iaload, 1) := by decide +kernel
theorem dL_areTiles_87 : decode cL_areTiles 87 = .ok (.if_icmp .ge 69, 3) := by decide +kernel
theorem dL_areTiles_90 : decode cL_areTiles 90 = .ok (.aload 6, 2) := by decide +kernel
theorem dL_areTiles_92 : decode cL_areTiles 92 = .ok (.iload 16, 2) := by decide +kernel
theorem dL_areTiles_94 : decode cL_areTiles 94 = .ok (.iaload, 1) := by decide +kernel
theorem dL_areTiles_95 : decode cL_areTiles 95 = .ok (.aload 6, 2) := by decide +kernel
theorem dL_areTiles_97 : decode cL_areTiles 97 = .ok (.iload 13, 2) := by decide +kernel
theorem dL_areTiles_99 : decode cL_areTiles 99 = .ok (.iaload, 1) := by decide +kernel
theorem dL_areTiles_100 : decode cL_areTiles 100 = .ok (.if_icmp .ne 50, 3) := by decide +kernel
theorem dL_areTiles_103 : decode cL_areTiles 103 = .ok (.aload 7, 2) := by decide +kernel
theorem dL_areTiles_105 : decode cL_areTiles 105 = .ok (.iload 16, 2) := by decide +kernel
theorem dL_areTiles_107 : decode cL_areTiles 107 = .ok (.iaload, 1) := by decide +kernel
theorem dL_areTiles_108 : decode cL_areTiles 108 = .ok (.iload_n 3, 1) := by decide +kernel
theorem dL_areTiles_109 : decode cL_areTiles 109 = .ok (.idiv, 1) := by decide +kernel
theorem dL_areTiles_110 : decode cL_areTiles 110 = .ok (.aload 7, 2) := by decide +kernel
theorem dL_areTiles_112 : decode cL_areTiles 112 = .ok (.iload 13, 2) := by decide +kernel
theorem dL_areTiles_114 : decode cL_areTiles 114 = .ok (.iaload, 1) := by decide +kernel
theorem dL_areTiles_115 : decode cL_areTiles 115 = .ok (.iload_n 3, 1) := by decide +kernel
theorem dL_areTiles_116 : decode cL_areTiles 116 = .ok (.idiv, 1) := by decide +kernel
theorem dL_areTiles_117 : decode cL_areTiles 117 = .ok (.if_icmp .eq 6, 3) := by decide +kernel
theorem dL_areTiles_120 : decode cL_areTiles 120 = .ok (.goto 30, 3) := by decide +kernel
theorem dL_areTiles_123 : decode cL_areTiles 123 = .ok (.iload 14, 2) := by decide +kernel
theorem dL_areTiles_125 : decode cL_areTiles 125 = .ok (.aload 8, 2) := by decide +kernel
theorem dL_areTiles_127 : decode cL_areTiles 127 = .ok (.iload 16, 2) := by decide +kernel
theorem dL_areTiles_129 : decode cL_areTiles 129 = .ok (.iaload, 1) := by decide +kernel
theorem dL_areTiles_130 : decode cL_areTiles 130 = .ok (.iadd, 1) := by decide +kernel
theorem dL_areTiles_131 : decode cL_areTiles 131 = .ok (.istore 14, 2) := by decide +kernel
theorem dL_areTiles_133 : decode cL_areTiles 133 = .ok (.iload 15, 2) := by decide +kernel
theorem dL_areTiles_135 : decode cL_areTiles 135 = .ok (.iload 16, 2) := by decide +kernel
theorem dL_areTiles_137 : decode cL_areTiles 137 = .ok (.iload 13, 2) := by decide +kernel
theorem dL_areTiles_139 : decode cL_areTiles 139 = .ok (.if_icmp .gt 7, 3) := by decide +kernel
theorem dL_areTiles_142 : decode cL_areTiles 142 = .ok (.iconst 1, 1) := by decide +kernel
theorem dL_areTiles_143 : decode cL_areTiles 143 = .ok (.goto 4, 3) := by decide +kernel
theorem dL_areTiles_146 : decode cL_areTiles 146 = .ok (.iconst 0, 1) := by decide +kernel
theorem dL_areTiles_147 : decode cL_areTiles 147 = .ok (.iand, 1) := by decide +kernel
theorem dL_areTiles_148 : decode cL_areTiles 148 = .ok (.istore 15, 2) := by decide +kernel
theorem dL_areTiles_150 : decode cL_areTiles 150 = .ok (.iinc 16 1, 3) := by decide +kernel
theorem dL_areTiles_153 : decode cL_areTiles 153 = .ok (.goto (-72), 3) := by decide +kernel
theorem dL_areTiles_156 : decode cL_areTiles 156 = .ok (.iload 14, 2) := by decide +kernel
theorem dL_areTiles_158 : decode cL_areTiles 158 = .ok (.iload 11, 2) := by decide +kernel
theorem dL_areTiles_160 : decode cL_areTiles 160 = .ok (.if_icmp .le 8, 3) := by decide +kernel
theorem dL_areTiles_163 : decode cL_areTiles 163 = .ok (.iload 14, 2) := by decide +kernel
theorem dL_areTiles_165 : decode cL_areTiles 165 = .ok (.goto 5, 3) := by decide +kernel
theorem dL_areTiles_168 : decode cL_areTiles 168 = .ok (.iload 11, 2) := by decide +kernel
theorem dL_areTiles_170 : decode cL_areTiles 170 = .ok (.istore 11, 2) := by decide +kernel
theorem dL_areTiles_172 : decode cL_areTiles 172 = .ok (.iload 12, 2) := by decide +kernel
theorem dL_areTiles_174 : decode cL_areTiles 174 = .ok (.iload 15, 2) := by decide +kernel
theorem dL_areTiles_176 : decode cL_areTiles 176 = .ok (.ifCond .eq 7, 3) := by decide +kernel
theorem dL_areTiles_179 : decode cL_areTiles 179 = .ok (.iconst 1, 1) := by decide +kernel
theorem dL_areTiles_180 : decode cL_areTiles 180 = .ok (.goto 4, 3) := by decide +kernel
theorem dL_areTiles_183 : decode cL_areTiles 183 = .ok (.iconst 0, 1) := by decide +kernel
theorem dL_areTiles_184 : decode cL_areTiles 184 = .ok (.iadd, 1) := by decide +kernel
theorem dL_areTiles_185 : decode cL_areTiles 185 = .ok (.istore 12, 2) := by decide +kernel
theorem dL_areTiles_187 : decode cL_areTiles 187 = .ok (.iinc 13 1, 3) := by decide +kernel
theorem dL_areTiles_190 : decode cL_areTiles 190 = .ok (.goto (-178), 3) := by decide +kernel
theorem dL_areTiles_193 : decode cL_areTiles 193 = .ok (.aload_n 0, 1) := by decide +kernel
theorem dL_areTiles_194 : decode cL_areTiles 194 = .ok (.iload_n 1, 1) := by decide +kernel
theorem dL_areTiles_195 : decode cL_areTiles 195 = .ok (.iload_n 2, 1) := by decide +kernel
theorem dL_areTiles_196 : decode cL_areTiles 196 = .ok (.iload 4, 2) := by decide +kernel
theorem dL_areTiles_198 : decode cL_areTiles 198 = .ok (.iload 5, 2) := by decide +kernel
theorem dL_areTiles_200 : decode cL_areTiles 200 = .ok (.invokestatic 100, 3) := by decide +kernel
theorem dL_areTiles_203 : decode cL_areTiles 203 = .ok (.iload 10, 2) := by decide +kernel
theorem dL_areTiles_205 : decode cL_areTiles 205 = .ok (.if_icmp .ne 31, 3) := by decide +kernel
theorem dL_areTiles_208 : decode cL_areTiles 208 = .ok (.aload_n 0, 1) := by decide +kernel
theorem dL_areTiles_209 : decode cL_areTiles 209 = .ok (.iload_n 1, 1) := by decide +kernel
theorem dL_areTiles_210 : decode cL_areTiles 210 = .ok (.iload_n 2, 1) := by decide +kernel
theorem dL_areTiles_211 : decode cL_areTiles 211 = .ok (.iload_n 3, 1) := by decide +kernel
theorem dL_areTiles_212 : decode cL_areTiles 212 = .ok (.invokestatic 102, 3) := by decide +kernel
theorem dL_areTiles_215 : decode cL_areTiles 215 = .ok (.iload 11, 2) := by decide +kernel
theorem dL_areTiles_217 : decode cL_areTiles 217 = .ok (.if_icmp .ne 19, 3) := by decide +kernel
theorem dL_areTiles_220 : decode cL_areTiles 220 = .ok (.aload_n 0, 1) := by decide +kernel
theorem dL_areTiles_221 : decode cL_areTiles 221 = .ok (.iload_n 1, 1) := by decide +kernel
theorem dL_areTiles_222 : decode cL_areTiles 222 = .ok (.iload_n 2, 1) := by decide +kernel
theorem dL_areTiles_223 : decode cL_areTiles 223 = .ok (.iload_n 3, 1) := by decide +kernel
theorem dL_areTiles_224 : decode cL_areTiles 224 = .ok (.invokestatic 105, 3) := by decide +kernel
theorem dL_areTiles_227 : decode cL_areTiles 227 = .ok (.iload 12, 2) := by decide +kernel
theorem dL_areTiles_229 : decode cL_areTiles 229 = .ok (.if_icmp .ne 7, 3) := by decide +kernel
theorem dL_areTiles_232 : decode cL_areTiles 232 = .ok (.iconst 1, 1) := by decide +kernel
theorem dL_areTiles_233 : decode cL_areTiles 233 = .ok (.goto 4, 3) := by decide +kernel
theorem dL_areTiles_236 : decode cL_areTiles 236 = .ok (.iconst 0, 1) := by decide +kernel
theorem dL_areTiles_237 : decode cL_areTiles 237 = .ok (.ireturn, 1) := by decide +kernel
set_option maxRecDepth 20000 in
theorem ggL_isTold_L_value : GoodIn wsL_isTold wsL_value := goodIn_ca (goodIn_r _ [4, 5, 6, 7, 8, 9, 10, 11, 12, 13, 14, 15, 16, 17, 18, 19, 20, 21, 22, 23, 178, 179, 180, 181, 182, 183, 184, 185, 186, 187, 188, 189, 190, 191, 192, 193] (by decide +kernel) (by decide +kernel)) (goodIn_sub (fun _ h => List.mem_cons_of_mem _ (List.mem_append_left _ (List.mem_append_right _ h))) (by decide +kernel))
set_option maxRecDepth 20000 in
theorem gL_isTold_L_value : GoodIn wsL_isTold (va_wsS RL 107 yL_value wsL_value) := goodIn_app (goodIn_of _ (by decide +kernel)) ggL_isTold_L_value
set_option maxRecDepth 20000 in
theorem ggL_isTold_L_late : GoodIn wsL_isTold wsL_late := goodIn_ca (goodIn_r _ [26, 5, 27, 28, 29, 9, 30, 31, 32, 12, 13, 14, 15, 16, 17, 18, 19, 20, 21, 22, 23, 178, 179, 180, 181, 182, 183, 184, 185, 186, 187, 188, 189, 190, 191, 192, 193] (by decide +kernel) (by decide +kernel)) (goodIn_sub (fun _ h => List.mem_cons_of_mem _ (List.mem_append_left _ (List.mem_append_right _ h))) (by decide +kernel))
set_option maxRecDepth 20000 in
theorem gL_isTold_L_late : GoodIn wsL_isTold (va_wsS RL 109 yL_late wsL_late) := goodIn_app (goodIn_of _ (by decide +kernel)) ggL_isTold_L_late
set_option maxRecDepth 20000 in
theorem ggL_isTold_L_find : GoodIn wsL_isTold wsL_find := goodIn_r _ [35] (by decide +kernel) (by decide +kernel)
set_option maxRecDepth 20000 in
theorem gL_isTold_L_find : GoodIn wsL_isTold (va_wsS RL 66 yL_find wsL_find) := goodIn_app (goodIn_of _ (by decide +kernel)) ggL_isTold_L_find
set_option maxRecDepth 20000 in
theorem ggL_isTold_L_served : GoodIn wsL_isTold wsL_served := goodIn_ca (goodIn_r _ [38, 5, 39, 40, 41, 9, 42, 43, 44, 45, 46, 47, 16, 17, 48, 49, 194, 195, 196, 197, 185, 186, 187, 188, 189, 190, 191, 192, 193] (by decide +kernel) (by decide +kernel)) (goodIn_sub (fun _ h => List.mem_cons_of_mem _ (List.mem_append_left _ (List.mem_append_right _ h))) (by decide +kernel))
set_option maxRecDepth 20000 in
theorem gL_isTold_L_served : GoodIn wsL_isTold (va_wsS RL 111 yL_served wsL_served) := goodIn_app (goodIn_of _ (by decide +kernel)) ggL_isTold_L_served
set_option maxRecDepth 20000 in
theorem ggL_isTold_L_isSound : GoodIn wsL_isTold wsL_isSound := goodIn_ca (goodIn_r _ [52, 5, 53, 54, 55, 9, 56, 43, 57, 58, 59, 44, 45, 46, 47, 16, 17, 48, 49, 60, 61, 62, 63, 64, 32, 31, 65, 66, 67, 68, 69, 70, 71, 72, 73, 74, 75, 194, 195, 196, 197, 185, 186, 187, 188, 189, 190, 191, 192, 193, 178, 179, 180, 181, 182, 183, 184] (by decide +kernel) (by decide +kernel)) (goodIn_sub (fun _ h => List.mem_cons_of_mem _ (List.mem_append_left _ (List.mem_append_right _ h))) (by decide +kernel))
set_option maxRecDepth 20000 in
theorem gL_isTold_L_isSound : GoodIn wsL_isTold (va_wsS RL 113 yL_isSound wsL_isSound) := goodIn_app (goodIn_of _ (by decide +kernel)) ggL_isTold_L_isSound
set_option maxRecDepth 20000 in
theorem ggL_isTold_L_copied : GoodIn wsL_isTold wsL_copied := goodIn_r _ [78, 33, 34, 3, 35] (by decide +kernel) (by decide +kernel)
set_option maxRecDepth 20000 in
theorem gL_isTold_L_copied : GoodIn wsL_isTold (va_wsS RL 96 yL_copied wsL_copied) := goodIn_app (goodIn_of _ (by decide +kernel)) ggL_isTold_L_copied
set_option maxRecDepth 20000 in
theorem ggL_isTold_L_online : GoodIn wsL_isTold wsL_online := goodIn_ca (goodIn_r _ [81, 82, 83, 84, 85, 9, 86, 87, 88, 89, 90, 91, 92, 93, 94, 95, 96, 97, 98, 99, 100, 66, 67, 68, 69, 70, 71, 72, 32, 73, 74, 75, 185, 186, 187, 188, 189, 190, 191, 192, 193, 178, 179, 180, 181, 182, 183, 184] (by decide +kernel) (by decide +kernel)) (goodIn_sub (fun _ h => List.mem_cons_of_mem _ (List.mem_append_right _ h)) (by decide +kernel))
set_option maxRecDepth 20000 in
theorem gL_isTold_L_online : GoodIn wsL_isTold (va_wsS RL 115 yL_online wsL_online) := goodIn_app (goodIn_of _ (by decide +kernel)) ggL_isTold_L_online
set_option maxRecDepth 20000 in
theorem ggL_isTold_L_low : GoodIn wsL_isTold wsL_low := goodIn_r _ [103] (by decide +kernel) (by decide +kernel)
set_option maxRecDepth 20000 in
theorem gL_isTold_L_low : GoodIn wsL_isTold (va_wsS RL 72 yL_low wsL_low) := goodIn_app (goodIn_of _ (by decide +kernel)) ggL_isTold_L_low
set_option maxRecDepth 20000 in
theorem ggL_isTold_L_join : GoodIn wsL_isTold wsL_join := goodIn_ca (goodIn_r _ [106, 82, 107, 108, 109, 9, 110, 100, 87, 88, 89, 90, 91, 92, 93, 94, 60, 61, 62, 63, 64, 32, 31, 65, 66, 67, 68, 69, 70, 71, 72, 73, 74, 75, 185, 186, 187, 188, 189, 190, 191, 192, 193, 178, 179, 180, 181, 182, 183, 184] (by decide +kernel) (by decide +kernel)) (goodIn_sub (fun _ h => List.mem_cons_of_mem _ (List.mem_append_right _ h)) (by decide +kernel))
set_option maxRecDepth 20000 in
theorem gL_isTold_L_join : GoodIn wsL_isTold (va_wsS RL 117 yL_join wsL_join) := goodIn_app (goodIn_of _ (by decide +kernel)) ggL_isTold_L_join
set_option maxRecDepth 20000 in
theorem ggL_isTold_L_revised : GoodIn wsL_isTold wsL_revised := goodIn_ca (goodIn_r _ [113, 82, 114, 115, 116, 9, 117, 100, 64, 32, 73, 118, 119, 120, 121, 31, 65, 87, 88, 89, 90, 91, 92, 93, 94, 66, 67, 68, 122, 123, 124, 185, 186, 187, 188, 189, 190, 191, 192, 193, 178, 179, 180, 181, 182, 183, 184] (by decide +kernel) (by decide +kernel)) (goodIn_sub (fun _ h => List.mem_cons_of_mem _ (List.mem_append_right _ h)) (by decide +kernel))
set_option maxRecDepth 20000 in
theorem gL_isTold_L_revised : GoodIn wsL_isTold (va_wsS RL 119 yL_revised wsL_revised) := goodIn_app (goodIn_of _ (by decide +kernel)) ggL_isTold_L_revised
set_option maxRecDepth 20000 in
theorem ggL_isTold_L_areTiles : GoodIn wsL_isTold wsL_areTiles := goodIn_ca (goodIn_r _ [127, 128, 129, 3, 130, 82, 131, 132, 133, 9, 134, 64, 32, 11, 65, 87, 88, 89, 90, 91, 92, 93, 94, 66, 67, 68, 135, 136, 137, 138, 139, 140, 141, 142, 143, 120, 144, 145, 146, 147, 148, 149, 150, 151, 185, 186, 187, 188, 189, 190, 191, 192, 193, 178, 179, 180, 181, 182, 183, 184] (by decide +kernel) (by decide +kernel)) (goodIn_sub (fun _ h => List.mem_cons_of_mem _ (List.mem_append_right _ h)) (by decide +kernel))
set_option maxRecDepth 20000 in
theorem gL_isTold_L_areTiles : GoodIn wsL_isTold (va_wsS RL 121 yL_areTiles wsL_areTiles) := goodIn_app (goodIn_of _ (by decide +kernel)) ggL_isTold_L_areTiles
set_option maxRecDepth 20000 in
theorem ggL_isTold_X2_now : GoodIn wsL_isTold wsX2_now := goodIn_r _ [155, 100, 185, 186, 187, 188, 189, 190, 191, 192, 193] (by decide +kernel) (by decide +kernel)
set_option maxRecDepth 20000 in
theorem gL_isTold_X2_now : GoodIn wsL_isTold (wsV RL 125 RX2 yX2_now wsX2_now) := goodIn_app (goodIn_of _ (by decide +kernel)) ggL_isTold_X2_now
set_option maxRecDepth 20000 in
theorem ggL_isTold_X2_rows : GoodIn wsL_isTold wsX2_rows := goodIn_r _ [159, 22, 185, 186, 187, 188, 189, 190, 191, 192, 193] (by decide +kernel) (by decide +kernel)
set_option maxRecDepth 20000 in
theorem gL_isTold_X2_rows : GoodIn wsL_isTold (wsV RL 79 RX2 yX2_rows wsX2_rows) := goodIn_app (goodIn_of _ (by decide +kernel)) ggL_isTold_X2_rows
set_option maxRecDepth 20000 in
theorem ggL_isTold_X2_lag : GoodIn wsL_isTold wsX2_lag := goodIn_r _ [163, 22, 164, 185, 186, 187, 188, 189, 190, 191, 192, 193] (by decide +kernel) (by decide +kernel)
set_option maxRecDepth 20000 in
theorem gL_isTold_X2_lag : GoodIn wsL_isTold (wsV RL 128 RX2 yX2_lag wsX2_lag) := goodIn_app (goodIn_of _ (by decide +kernel)) ggL_isTold_X2_lag
set_option maxRecDepth 20000 in
theorem ggL_isTold_X2_skew : GoodIn wsL_isTold wsX2_skew := goodIn_r _ [168, 100, 95, 96, 97, 9, 98, 99, 66, 67, 68, 69, 70, 71, 72, 32, 73, 74, 75, 60, 61, 62, 63, 64, 31, 65, 185, 186, 187, 188, 189, 190, 191, 192, 193, 178, 179, 180, 181, 182, 183, 184] (by decide +kernel) (by decide +kernel)
set_option maxRecDepth 20000 in
theorem gL_isTold_X2_skew : GoodIn wsL_isTold (wsV RL 131 RX2 yX2_skew wsX2_skew) := goodIn_app (goodIn_of _ (by decide +kernel)) ggL_isTold_X2_skew
set_option maxRecDepth 20000 in
theorem ggL_isTold_X2_servings : GoodIn wsL_isTold wsX2_servings := goodIn_r _ [172, 48, 185, 186, 187, 188, 189, 190, 191, 192, 193] (by decide +kernel) (by decide +kernel)
set_option maxRecDepth 20000 in
theorem gL_isTold_X2_servings : GoodIn wsL_isTold (wsV RL 93 RX2 yX2_servings wsX2_servings) := goodIn_app (goodIn_of _ (by decide +kernel)) ggL_isTold_X2_servings
set_option maxRecDepth 20000 in
theorem ggL_isTold_X2_unsound : GoodIn wsL_isTold wsX2_unsound := goodIn_ca (goodIn_r _ [176, 48, 177, 54, 55, 9, 56, 43, 57, 58, 59, 44, 45, 46, 47, 16, 17, 49, 60, 61, 62, 63, 64, 32, 31, 65, 66, 67, 68, 69, 70, 71, 72, 73, 74, 75, 185, 186, 187, 188, 189, 190, 191, 192, 193, 194, 195, 196, 197, 178, 179, 180, 181, 182, 183, 184] (by decide +kernel) (by decide +kernel)) (goodIn_sub (fun _ h => List.mem_cons_of_mem _ (List.mem_append_left _ (List.mem_append_right _ h))) (by decide +kernel))
set_option maxRecDepth 20000 in
theorem gL_isTold_X2_unsound : GoodIn wsL_isTold (wsV RL 134 RX2 yX2_unsound wsX2_unsound) := goodIn_app (goodIn_of _ (by decide +kernel)) ggL_isTold_X2_unsound
set_option maxRecDepth 20000 in
theorem ggL_isTold_L_window : GoodIn wsL_isTold wsL_window := goodIn_ca (goodIn_r _ [130, 82, 131, 132, 133, 9, 134, 64, 32, 11, 65, 87, 88, 89, 90, 91, 92, 93, 94, 66, 67, 68, 185, 186, 187, 188, 189, 190, 191, 192, 193, 178, 179, 180, 181, 182, 183, 184] (by decide +kernel) (by decide +kernel)) (goodIn_sub (fun _ h => List.mem_cons_of_mem _ (List.mem_append_right _ h)) (by decide +kernel))
set_option maxRecDepth 20000 in
theorem gL_isTold_L_window : GoodIn wsL_isTold (va_wsS RL 100 yL_window wsL_window) := goodIn_app (goodIn_of _ (by decide +kernel)) ggL_isTold_L_window
set_option maxRecDepth 20000 in
theorem ggL_isTold_L_greatestTile : GoodIn wsL_isTold wsL_greatestTile := goodIn_ca (goodIn_r _ [137, 82, 138, 139, 140, 9, 141, 64, 32, 11, 142, 143, 120, 144, 65, 87, 88, 89, 90, 91, 92, 93, 94, 66, 67, 68, 185, 186, 187, 188, 189, 190, 191, 192, 193, 178, 179, 180, 181, 182, 183, 184] (by decide +kernel) (by decide +kernel)) (goodIn_sub (fun _ h => List.mem_cons_of_mem _ (List.mem_append_right _ h)) (by decide +kernel))
set_option maxRecDepth 20000 in
theorem gL_isTold_L_greatestTile : GoodIn wsL_isTold (va_wsS RL 102 yL_greatestTile wsL_greatestTile) := goodIn_app (goodIn_of _ (by decide +kernel)) ggL_isTold_L_greatestTile
set_option maxRecDepth 20000 in
theorem ggL_isTold_L_tiles : GoodIn wsL_isTold wsL_tiles := goodIn_ca (goodIn_r _ [147, 82, 148, 149, 150, 9, 151, 64, 32, 65, 87, 88, 89, 90, 91, 92, 93, 94, 66, 67, 68, 185, 186, 187, 188, 189, 190, 191, 192, 193, 178, 179, 180, 181, 182, 183, 184] (by decide +kernel) (by decide +kernel)) (goodIn_sub (fun _ h => List.mem_cons_of_mem _ (List.mem_append_right _ h)) (by decide +kernel))
set_option maxRecDepth 20000 in
theorem gL_isTold_L_tiles : GoodIn wsL_isTold (va_wsS RL 105 yL_tiles wsL_tiles) := goodIn_app (goodIn_of _ (by decide +kernel)) ggL_isTold_L_tiles
theorem dL_isTold_0 : decode cL_isTold 0 = .ok (.iconst 0, 1) := by decide +kernel
theorem dL_isTold_1 : decode cL_isTold 1 = .ok (.istore 11, 2) := by decide +kernel
theorem dL_isTold_3 : decode cL_isTold 3 = .ok (.iload 11, 2) := by decide +kernel
theorem dL_isTold_5 : decode cL_isTold 5 = .ok (.aload 10, 2) := by decide +kernel
theorem dL_isTold_7 : decode cL_isTold 7 = .ok (.iconst 1, 1) := by decide +kernel
theorem dL_isTold_8 : decode cL_isTold 8 = .ok (.iaload, 1) := by decide +kernel
theorem dL_isTold_9 : decode cL_isTold 9 = .ok (.if_icmp .ge 45, 3) := by decide +kernel
theorem dL_isTold_12 : decode cL_isTold 12 = .ok (.aload_n 0, 1) := by decide +kernel
theorem dL_isTold_13 : decode cL_isTold 13 = .ok (.iload 11, 2) := by decide +kernel
theorem dL_isTold_15 : decode cL_isTold 15 = .ok (.invokestatic 107, 3) := by decide +kernel
theorem dL_isTold_18 : decode cL_isTold 18 = .ok (.aload 6, 2) := by decide +kernel
theorem dL_isTold_20 : decode cL_isTold 20 = .ok (.iload 11, 2) := by decide +kernel
theorem dL_isTold_22 : decode cL_isTold 22 = .ok (.iaload, 1) := by decide +kernel
theorem dL_isTold_23 : decode cL_isTold 23 = .ok (.if_icmp .ne 23, 3) := by decide +kernel
theorem dL_isTold_26 : decode cL_isTold 26 = .ok (.aload_n 0, 1) := by decide +kernel
theorem dL_isTold_27 : decode cL_isTold 27 = .ok (.iload 11, 2) := by decide +kernel
theorem dL_isTold_29 : decode cL_isTold 29 = .ok (.invokestatic 109, 3) := by decide +kernel
theorem dL_isTold_32 : decode cL_isTold 32 = .ok (.aload 5, 2) := by decide +kernel
theorem dL_isTold_34 : decode cL_isTold 34 = .ok (.iload 11, 2) := by decide +kernel
theorem dL_isTold_36 : decode cL_isTold 36 = .ok (.iaload, 1) := by decide +kernel
theorem dL_isTold_37 : decode cL_isTold 37 = .ok (.aload 4, 2) := by decide +kernel
theorem dL_isTold_39 : decode cL_isTold 39 = .ok (.iload 11, 2) := by decide +kernel
theorem dL_isTold_41 : decode cL_isTold 41 = .ok (.iaload, 1) := by decide +kernel
theorem dL_isTold_42 : decode cL_isTold 42 = .ok (.isub, 1) := by decide +kernel
theorem dL_isTold_43 : decode cL_isTold 43 = .ok (.if_icmp .eq 5, 3) := by decide +kernel
theorem dL_isTold_46 : decode cL_isTold 46 = .ok (.iconst 0, 1) := by decide +kernel
theorem dL_isTold_47 : decode cL_isTold 47 = .ok (.ireturn, 1) := by decide +kernel
theorem dL_isTold_48 : decode cL_isTold 48 = .ok (.iinc 11 1, 3) := by decide +kernel
theorem dL_isTold_51 : decode cL_isTold 51 = .ok (.goto (-48), 3) := by decide +kernel
theorem dL_isTold_54 : decode cL_isTold 54 = .ok (.iconst 0, 1) := by decide +kernel
theorem dL_isTold_55 : decode cL_isTold 55 = .ok (.istore 11, 2) := by decide +kernel
theorem dL_isTold_57 : decode cL_isTold 57 = .ok (.iconst 0, 1) := by decide +kernel
theorem dL_isTold_58 : decode cL_isTold 58 = .ok (.istore 12, 2) := by decide +kernel
theorem dL_isTold_60 : decode cL_isTold 60 = .ok (.iload 12, 2) := by decide +kernel
theorem dL_isTold_62 : decode cL_isTold 62 = .ok (.aload 10, 2) := by decide +kernel
theorem dL_isTold_64 : decode cL_isTold 64 = .ok (.iconst 3, 1) := by decide +kernel
theorem dL_isTold_65 : decode cL_isTold 65 = .ok (.iaload, 1) := by decide +kernel
theorem dL_isTold_66 : decode cL_isTold 66 = .ok (.if_icmp .ge 112, 3) := by decide +kernel
theorem dL_isTold_69 : decode cL_isTold 69 = .ok (.aload 8, 2) := by decide +kernel
theorem dL_isTold_71 : decode cL_isTold 71 = .ok (.iload 12, 2) := by decide +kernel
theorem dL_isTold_73 : decode cL_isTold 73 = .ok (.iaload, 1) := by decide +kernel
theorem dL_isTold_74 : decode cL_isTold 74 = .ok (.sipush 128, 3) := by decide +kernel
theorem dL_isTold_77 : decode cL_isTold 77 = .ok (.idiv, 1) := by decide +kernel
theorem dL_isTold_78 : decode cL_isTold 78 = .ok (.istore 13, 2) := by decide +kernel
theorem dL_isTold_80 : decode cL_isTold 80 = .ok (.aload 9, 2) := by decide +kernel
theorem dL_isTold_82 : decode cL_isTold 82 = .ok (.iload 12, 2) := by decide +kernel
theorem dL_isTold_84 : decode cL_isTold 84 = .ok (.iaload, 1) := by decide +kernel
theorem dL_isTold_85 : decode cL_isTold 85 = .ok (.aload_n 3, 1) := by decide +kernel
theorem dL_isTold_86 : decode cL_isTold 86 = .ok (.aload 4, 2) := by decide +kernel
theorem dL_isTold_88 : decode cL_isTold 88 = .ok (.aload 5, 2) := by decide +kernel
theorem dL_isTold_90 : decode cL_isTold 90 = .ok (.aload 7, 2) := by decide +kernel
theorem dL_isTold_92 : decode cL_isTold 92 = .ok (.aload 8, 2) := by decide +kernel
theorem dL_isTold_94 : decode cL_isTold 94 = .ok (.iload 12, 2) := by decide +kernel
theorem dL_isTold_96 : decode cL_isTold 96 = .ok (.iaload, 1) := by decide +kernel
theorem dL_isTold_97 : decode cL_isTold 97 = .ok (.sipush 128, 3) := by decide +kernel
theorem dL_isTold_100 : decode cL_isTold 100 = .ok (.irem, 1) := by decide +kernel
theorem dL_isTold_101 : decode cL_isTold 101 = .ok (.iload 13, 2) := by decide +kernel
theorem dL_isTold_103 : decode cL_isTold 103 = .ok (.iload 13, 2) := by decide +kernel
theorem dL_isTold_105 : decode cL_isTold 105 = .ok (.aload 10, 2) := by decide +kernel
theorem dL_isTold_107 : decode cL_isTold 107 = .ok (.iconst 1, 1) := by decide +kernel
theorem dL_isTold_108 : decode cL_isTold 108 = .ok (.iaload, 1) := by decide +kernel
theorem dL_isTold_109 : decode cL_isTold 109 = .ok (.invokestatic 66, 3) := by decide +kernel
theorem dL_isTold_112 : decode cL_isTold 112 = .ok (.if_icmp .ne 7, 3) := by decide +kernel
theorem dL_isTold_115 : decode cL_isTold 115 = .ok (.iconst 1, 1) := by decide +kernel
theorem dL_isTold_116 : decode cL_isTold 116 = .ok (.goto 4, 3) := by decide +kernel
theorem dL_isTold_119 : decode cL_isTold 119 = .ok (.iconst 0, 1) := by decide +kernel
theorem dL_isTold_120 : decode cL_isTold 120 = .ok (.istore 14, 2) := by decide +kernel
theorem dL_isTold_122 : decode cL_isTold 122 = .ok (.iload 11, 2) := by decide +kernel
theorem dL_isTold_124 : decode cL_isTold 124 = .ok (.iload 14, 2) := by decide +kernel
theorem dL_isTold_126 : decode cL_isTold 126 = .ok (.ifCond .eq 7, 3) := by decide +kernel
theorem dL_isTold_129 : decode cL_isTold 129 = .ok (.iconst 0, 1) := by decide +kernel
theorem dL_isTold_130 : decode cL_isTold 130 = .ok (.goto 4, 3) := by decide +kernel
theorem dL_isTold_133 : decode cL_isTold 133 = .ok (.iconst 1, 1) := by decide +kernel
theorem dL_isTold_134 : decode cL_isTold 134 = .ok (.iadd, 1) := by decide +kernel
theorem dL_isTold_135 : decode cL_isTold 135 = .ok (.istore 11, 2) := by decide +kernel
theorem dL_isTold_137 : decode cL_isTold 137 = .ok (.aload_n 0, 1) := by decide +kernel
theorem dL_isTold_138 : decode cL_isTold 138 = .ok (.iload 12, 2) := by decide +kernel
theorem dL_isTold_140 : decode cL_isTold 140 = .ok (.invokestatic 111, 3) := by decide +kernel
theorem dL_isTold_143 : decode cL_isTold 143 = .ok (.aload 9, 2) := by decide +kernel
theorem dL_isTold_145 : decode cL_isTold 145 = .ok (.iload 12, 2) := by decide +kernel
theorem dL_isTold_147 : decode cL_isTold 147 = .ok (.iaload, 1) := by decide +kernel
theorem dL_isTold_148 : decode cL_isTold 148 = .ok (.if_icmp .ne 22, 3) := by decide +kernel
theorem dL_isTold_151 : decode cL_isTold 151 = .ok (.aload_n 0, 1) := by decide +kernel
theorem dL_isTold_152 : decode cL_isTold 152 = .ok (.iload 12, 2) := by decide +kernel
theorem dL_isTold_154 : decode cL_isTold 154 = .ok (.invokestatic 113, 3) := by decide +kernel
theorem dL_isTold_157 : decode cL_isTold 157 = .ok (.iload 14, 2) := by decide +kernel
theorem dL_isTold_159 : decode cL_isTold 159 = .ok (.ifCond .eq 7, 3) := by decide +kernel
theorem dL_isTold_162 : decode cL_isTold 162 = .ok (.iconst 1, 1) := by decide +kernel
theorem dL_isTold_163 : decode cL_isTold 163 = .ok (.goto 4, 3) := by decide +kernel
theorem dL_isTold_166 : decode cL_isTold 166 = .ok (.iconst 0, 1) := by decide +kernel
theorem dL_isTold_167 : decode cL_isTold 167 = .ok (.if_icmp .eq 5, 3) := by decide +kernel
theorem dL_isTold_170 : decode cL_isTold 170 = .ok (.iconst 0, 1) := by decide +kernel
theorem dL_isTold_171 : decode cL_isTold 171 = .ok (.ireturn, 1) := by decide +kernel
theorem dL_isTold_172 : decode cL_isTold 172 = .ok (.iinc 12 1, 3) := by decide +kernel
theorem dL_isTold_175 : decode cL_isTold 175 = .ok (.goto (-115), 3) := by decide +kernel
theorem dL_isTold_178 : decode cL_isTold 178 = .ok (.iconst 0, 1) := by decide +kernel
theorem dL_isTold_179 : decode cL_isTold 179 = .ok (.istore 12, 2) := by decide +kernel
theorem dL_isTold_181 : decode cL_isTold 181 = .ok (.iconst 0, 1) := by decide +kernel
theorem dL_isTold_182 : decode cL_isTold 182 = .ok (.istore 13, 2) := by decide +kernel
theorem dL_isTold_184 : decode cL_isTold 184 = .ok (.iload 13, 2) := by decide +kernel
theorem dL_isTold_186 : decode cL_isTold 186 = .ok (.bipush 60, 2) := by decide +kernel
theorem dL_isTold_188 : decode cL_isTold 188 = .ok (.if_icmp .ge 101, 3) := by decide +kernel
theorem dL_isTold_191 : decode cL_isTold 191 = .ok (.iload 13, 2) := by decide +kernel
theorem dL_isTold_193 : decode cL_isTold 193 = .ok (.bipush 6, 2) := by decide +kernel
theorem dL_isTold_195 : decode cL_isTold 195 = .ok (.irem, 1) := by decide +kernel
theorem dL_isTold_196 : decode cL_isTold 196 = .ok (.bipush 8, 2) := by decide +kernel
theorem dL_isTold_198 : decode cL_isTold 198 = .ok (.iload 13, 2) := by decide +kernel
theorem dL_isTold_200 : decode cL_isTold 200 = .ok (.bipush 6, 2) := by decide +kernel
theorem dL_isTold_202 : decode cL_isTold 202 = .ok (.idiv, 1) := by decide +kernel
theorem dL_isTold_203 : decode cL_isTold 203 = .ok (.imul, 1) := by decide +kernel
theorem dL_isTold_204 : decode cL_isTold 204 = .ok (.iadd, 1) := by decide +kernel
theorem dL_isTold_205 : decode cL_isTold 205 = .ok (.istore 14, 2) := by decide +kernel
theorem dL_isTold_207 : decode cL_isTold 207 = .ok (.aload_n 3, 1) := by decide +kernel
theorem dL_isTold_208 : decode cL_isTold 208 = .ok (.aload 4, 2) := by decide +kernel
theorem dL_isTold_210 : decode cL_isTold 210 = .ok (.aload 5, 2) := by decide +kernel
theorem dL_isTold_212 : decode cL_isTold 212 = .ok (.aload 7, 2) := by decide +kernel
theorem dL_isTold_214 : decode cL_isTold 214 = .ok (.aload 10, 2) := by decide +kernel
theorem dL_isTold_216 : decode cL_isTold 216 = .ok (.iload 14, 2) := by decide +kernel
theorem dL_isTold_218 : decode cL_isTold 218 = .ok (.invokestatic 96, 3) := by decide +kernel
theorem dL_isTold_221 : decode cL_isTold 221 = .ok (.istore 15, 2) := by decide +kernel
theorem dL_isTold_223 : decode cL_isTold 223 = .ok (.aload_n 0, 1) := by decide +kernel
theorem dL_isTold_224 : decode cL_isTold 224 = .ok (.iload 13, 2) := by decide +kernel
theorem dL_isTold_226 : decode cL_isTold 226 = .ok (.bipush 6, 2) := by decide +kernel
theorem dL_isTold_228 : decode cL_isTold 228 = .ok (.irem, 1) := by decide +kernel
theorem dL_isTold_229 : decode cL_isTold 229 = .ok (.iload 13, 2) := by decide +kernel
theorem dL_isTold_231 : decode cL_isTold 231 = .ok (.bipush 6, 2) := by decide +kernel
theorem dL_isTold_233 : decode cL_isTold 233 = .ok (.idiv, 1) := by decide +kernel
theorem dL_isTold_234 : decode cL_isTold 234 = .ok (.invokestatic 115, 3) := by decide +kernel
theorem dL_isTold_237 : decode cL_isTold 237 = .ok (.iload 15, 2) := by decide +kernel
theorem dL_isTold_239 : decode cL_isTold 239 = .ok (.if_icmp .eq 5, 3) := by decide +kernel
theorem dL_isTold_242 : decode cL_isTold 242 = .ok (.iconst 0, 1) := by decide +kernel
theorem dL_isTold_243 : decode cL_isTold 243 = .ok (.ireturn, 1) := by decide +kernel
theorem dL_isTold_244 : decode cL_isTold 244 = .ok (.iload 12, 2) := by decide +kernel
theorem dL_isTold_246 : decode cL_isTold 246 = .ok (.iload 15, 2) := by decide +kernel
theorem dL_isTold_248 : decode cL_isTold 248 = .ok (.aload_n 3, 1) := by decide +kernel
theorem dL_isTold_249 : decode cL_isTold 249 = .ok (.aload 4, 2) := by decide +kernel
theorem dL_isTold_251 : decode cL_isTold 251 = .ok (.aload 5, 2) := by decide +kernel
theorem dL_isTold_253 : decode cL_isTold 253 = .ok (.aload 7, 2) := by decide +kernel
theorem dL_isTold_255 : decode cL_isTold 255 = .ok (.iload 14, 2) := by decide +kernel
theorem dL_isTold_257 : decode cL_isTold 257 = .ok (.aload 10, 2) := by decide +kernel
theorem dL_isTold_259 : decode cL_isTold 259 = .ok (.iconst 0, 1) := by decide +kernel
theorem dL_isTold_260 : decode cL_isTold 260 = .ok (.iaload, 1) := by decide +kernel
theorem dL_isTold_261 : decode cL_isTold 261 = .ok (.aload 10, 2) := by decide +kernel
theorem dL_isTold_263 : decode cL_isTold 263 = .ok (.iconst 0, 1) := by decide +kernel
theorem dL_isTold_264 : decode cL_isTold 264 = .ok (.iaload, 1) := by decide +kernel
theorem dL_isTold_265 : decode cL_isTold 265 = .ok (.aload 10, 2) := by decide +kernel
theorem dL_isTold_267 : decode cL_isTold 267 = .ok (.iconst 1, 1) := by decide +kernel
theorem dL_isTold_268 : decode cL_isTold 268 = .ok (.iaload, 1) := by decide +kernel
theorem dL_isTold_269 : decode cL_isTold 269 = .ok (.invokestatic 66, 3) := by decide +kernel
theorem dL_isTold_272 : decode cL_isTold 272 = .ok (.if_icmp .ne 7, 3) := by decide +kernel
theorem dL_isTold_275 : decode cL_isTold 275 = .ok (.iconst 0, 1) := by decide +kernel
theorem dL_isTold_276 : decode cL_isTold 276 = .ok (.goto 4, 3) := by decide +kernel
theorem dL_isTold_279 : decode cL_isTold 279 = .ok (.iconst 1, 1) := by decide +kernel
theorem dL_isTold_280 : decode cL_isTold 280 = .ok (.iadd, 1) := by decide +kernel
theorem dL_isTold_281 : decode cL_isTold 281 = .ok (.istore 12, 2) := by decide +kernel
theorem dL_isTold_283 : decode cL_isTold 283 = .ok (.iinc 13 1, 3) := by decide +kernel
theorem dL_isTold_286 : decode cL_isTold 286 = .ok (.goto (-102), 3) := by decide +kernel
theorem dL_isTold_289 : decode cL_isTold 289 = .ok (.iconst 0, 1) := by decide +kernel
theorem dL_isTold_290 : decode cL_isTold 290 = .ok (.istore 13, 2) := by decide +kernel
theorem dL_isTold_292 : decode cL_isTold 292 = .ok (.iload 13, 2) := by decide +kernel
theorem dL_isTold_294 : decode cL_isTold 294 = .ok (.iconst 4, 1) := by decide +kernel
theorem dL_isTold_295 : decode cL_isTold 295 = .ok (.if_icmp .ge 323, 3) := by decide +kernel
theorem dL_isTold_298 : decode cL_isTold 298 = .ok (.iload_n 1, 1) := by decide +kernel
theorem dL_isTold_299 : decode cL_isTold 299 = .ok (.iload 13, 2) := by decide +kernel
theorem dL_isTold_301 : decode cL_isTold 301 = .ok (.ishr, 1) := by decide +kernel
theorem dL_isTold_302 : decode cL_isTold 302 = .ok (.iconst 2, 1) := by decide +kernel
theorem dL_isTold_303 : decode cL_isTold 303 = .ok (.invokestatic 72, 3) := by decide +kernel
theorem dL_isTold_306 : decode cL_isTold 306 = .ok (.istore 14, 2) := by decide +kernel
theorem dL_isTold_308 : decode cL_isTold 308 = .ok (.iload_n 1, 1) := by decide +kernel
theorem dL_isTold_309 : decode cL_isTold 309 = .ok (.iconst 2, 1) := by decide +kernel
theorem dL_isTold_310 : decode cL_isTold 310 = .ok (.iload 13, 2) := by decide +kernel
theorem dL_isTold_312 : decode cL_isTold 312 = .ok (.iadd, 1) := by decide +kernel
theorem dL_isTold_313 : decode cL_isTold 313 = .ok (.ishr, 1) := by decide +kernel
theorem dL_isTold_314 : decode cL_isTold 314 = .ok (.iconst 2, 1) := by decide +kernel
theorem dL_isTold_315 : decode cL_isTold 315 = .ok (.invokestatic 72, 3) := by decide +kernel
theorem dL_isTold_318 : decode cL_isTold 318 = .ok (.istore 15, 2) := by decide +kernel
theorem dL_isTold_320 : decode cL_isTold 320 = .ok (.iload 13, 2) := by decide +kernel
theorem dL_isTold_322 : decode cL_isTold 322 = .ok (.ifCond .ne 13, 3) := by decide +kernel
theorem dL_isTold_325 : decode cL_isTold 325 = .ok (.iload_n 2, 1) := by decide +kernel
theorem dL_isTold_326 : decode cL_isTold 326 = .ok (.sipush 10001, 3) := by decide +kernel
theorem dL_isTold_329 : decode cL_isTold 329 = .ok (.invokestatic 72, 3) := by decide +kernel
theorem dL_isTold_332 : decode cL_isTold 332 = .ok (.goto 16, 3) := by decide +kernel
theorem dL_isTold_335 : decode cL_isTold 335 = .ok (.iload_n 2, 1) := by decide +kernel
theorem dL_isTold_336 : decode cL_isTold 336 = .ok (.iload 13, 2) := by decide +kernel
theorem dL_isTold_338 : decode cL_isTold 338 = .ok (.ishr, 1) := by decide +kernel
theorem dL_isTold_339 : decode cL_isTold 339 = .ok (.aload 10, 2) := by decide +kernel
theorem dL_isTold_341 : decode cL_isTold 341 = .ok (.iconst 0, 1) := by decide +kernel
theorem dL_isTold_342 : decode cL_isTold 342 = .ok (.iaload, 1) := by decide +kernel
theorem dL_isTold_343 : decode cL_isTold 343 = .ok (.iconst 1, 1) := by decide +kernel
theorem dL_isTold_344 : decode cL_isTold 344 = .ok (.iadd, 1) := by decide +kernel
theorem dL_isTold_345 : decode cL_isTold 345 = .ok (.invokestatic 72, 3) := by decide +kernel
theorem dL_isTold_348 : decode cL_isTold 348 = .ok (.istore 16, 2) := by decide +kernel
theorem dL_isTold_350 : decode cL_isTold 350 = .ok (.iload_n 2, 1) := by decide +kernel
theorem dL_isTold_351 : decode cL_isTold 351 = .ok (.iconst 5, 1) := by decide +kernel
theorem dL_isTold_352 : decode cL_isTold 352 = .ok (.iload 13, 2) := by decide +kernel
theorem dL_isTold_354 : decode cL_isTold 354 = .ok (.iadd, 1) := by decide +kernel
theorem dL_isTold_355 : decode cL_isTold 355 = .ok (.ishr, 1) := by decide +kernel
theorem dL_isTold_356 : decode cL_isTold 356 = .ok (.aload 10, 2) := by decide +kernel
theorem dL_isTold_358 : decode cL_isTold 358 = .ok (.iconst 0, 1) := by decide +kernel
theorem dL_isTold_359 : decode cL_isTold 359 = .ok (.iaload, 1) := by decide +kernel
theorem dL_isTold_360 : decode cL_isTold 360 = .ok (.iconst 1, 1) := by decide +kernel
theorem dL_isTold_361 : decode cL_isTold 361 = .ok (.iadd, 1) := by decide +kernel
theorem dL_isTold_362 : decode cL_isTold 362 = .ok (.invokestatic 72, 3) := by decide +kernel
theorem dL_isTold_365 : decode cL_isTold 365 = .ok (.istore 17, 2) := by decide +kernel
theorem dL_isTold_367 : decode cL_isTold 367 = .ok (.iconst 1, 1) := by decide +kernel
theorem dL_isTold_368 : decode cL_isTold 368 = .ok (.iload_n 2, 1) := by decide +kernel
theorem dL_isTold_369 : decode cL_isTold 369 = .ok (.bipush 8, 2) := by decide +kernel
theorem dL_isTold_371 : decode cL_isTold 371 = .ok (.ishr, 1) := by decide +kernel
theorem dL_isTold_372 : decode cL_isTold 372 = .ok (.iload 13, 2) := by decide +kernel
theorem dL_isTold_374 : decode cL_isTold 374 = .ok (.ifCond .ne 9, 3) := by decide +kernel
theorem dL_isTold_377 : decode cL_isTold 377 = .ok (.sipush 10000, 3) := by decide +kernel
theorem dL_isTold_380 : decode cL_isTold 380 = .ok (.goto 5, 3) := by decide +kernel
theorem dL_isTold_383 : decode cL_isTold 383 = .ok (.bipush 25, 2) := by decide +kernel
theorem dL_isTold_385 : decode cL_isTold 385 = .ok (.invokestatic 72, 3) := by decide +kernel
theorem dL_isTold_388 : decode cL_isTold 388 = .ok (.iadd, 1) := by decide +kernel
theorem dL_isTold_389 : decode cL_isTold 389 = .ok (.istore 18, 2) := by decide +kernel
theorem dL_isTold_391 : decode cL_isTold 391 = .ok (.iconst 0, 1) := by decide +kernel
theorem dL_isTold_392 : decode cL_isTold 392 = .ok (.istore 19, 2) := by decide +kernel
theorem dL_isTold_394 : decode cL_isTold 394 = .ok (.iconst 0, 1) := by decide +kernel
theorem dL_isTold_395 : decode cL_isTold 395 = .ok (.istore 20, 2) := by decide +kernel
theorem dL_isTold_397 : decode cL_isTold 397 = .ok (.iload 20, 2) := by decide +kernel
theorem dL_isTold_399 : decode cL_isTold 399 = .ok (.aload 10, 2) := by decide +kernel
theorem dL_isTold_401 : decode cL_isTold 401 = .ok (.iconst 0, 1) := by decide +kernel
theorem dL_isTold_402 : decode cL_isTold 402 = .ok (.iaload, 1) := by decide +kernel
theorem dL_isTold_403 : decode cL_isTold 403 = .ok (.if_icmp .gt 80, 3) := by decide +kernel
theorem dL_isTold_406 : decode cL_isTold 406 = .ok (.iload 19, 2) := by decide +kernel
theorem dL_isTold_408 : decode cL_isTold 408 = .ok (.aload_n 3, 1) := by decide +kernel
theorem dL_isTold_409 : decode cL_isTold 409 = .ok (.aload 4, 2) := by decide +kernel
theorem dL_isTold_411 : decode cL_isTold 411 = .ok (.aload 5, 2) := by decide +kernel
theorem dL_isTold_413 : decode cL_isTold 413 = .ok (.aload 7, 2) := by decide +kernel
theorem dL_isTold_415 : decode cL_isTold 415 = .ok (.iload 14, 2) := by decide +kernel
theorem dL_isTold_417 : decode cL_isTold 417 = .ok (.bipush 8, 2) := by decide +kernel
theorem dL_isTold_419 : decode cL_isTold 419 = .ok (.iload 15, 2) := by decide +kernel
theorem dL_isTold_421 : decode cL_isTold 421 = .ok (.imul, 1) := by decide +kernel
theorem dL_isTold_422 : decode cL_isTold 422 = .ok (.iadd, 1) := by decide +kernel
theorem dL_isTold_423 : decode cL_isTold 423 = .ok (.iload 20, 2) := by decide +kernel
theorem dL_isTold_425 : decode cL_isTold 425 = .ok (.iload 20, 2) := by decide +kernel
theorem dL_isTold_427 : decode cL_isTold 427 = .ok (.aload 10, 2) := by decide +kernel
theorem dL_isTold_429 : decode cL_isTold 429 = .ok (.iconst 1, 1) := by decide +kernel
theorem dL_isTold_430 : decode cL_isTold 430 = .ok (.iaload, 1) := by decide +kernel
theorem dL_isTold_431 : decode cL_isTold 431 = .ok (.invokestatic 66, 3) := by decide +kernel
theorem dL_isTold_434 : decode cL_isTold 434 = .ok (.aload_n 3, 1) := by decide +kernel
theorem dL_isTold_435 : decode cL_isTold 435 = .ok (.aload 4, 2) := by decide +kernel
theorem dL_isTold_437 : decode cL_isTold 437 = .ok (.aload 5, 2) := by decide +kernel
theorem dL_isTold_439 : decode cL_isTold 439 = .ok (.aload 7, 2) := by decide +kernel
theorem dL_isTold_441 : decode cL_isTold 441 = .ok (.iload 14, 2) := by decide +kernel
theorem dL_isTold_443 : decode cL_isTold 443 = .ok (.bipush 8, 2) := by decide +kernel
theorem dL_isTold_445 : decode cL_isTold 445 = .ok (.iload 15, 2) := by decide +kernel
theorem dL_isTold_447 : decode cL_isTold 447 = .ok (.imul, 1) := by decide +kernel
theorem dL_isTold_448 : decode cL_isTold 448 = .ok (.iadd, 1) := by decide +kernel
theorem dL_isTold_449 : decode cL_isTold 449 = .ok (.iload 20, 2) := by decide +kernel
theorem dL_isTold_451 : decode cL_isTold 451 = .ok (.aload 10, 2) := by decide +kernel
theorem dL_isTold_453 : decode cL_isTold 453 = .ok (.iconst 0, 1) := by decide +kernel
theorem dL_isTold_454 : decode cL_isTold 454 = .ok (.iaload, 1) := by decide +kernel
theorem dL_isTold_455 : decode cL_isTold 455 = .ok (.aload 10, 2) := by decide +kernel
theorem dL_isTold_457 : decode cL_isTold 457 = .ok (.iconst 1, 1) := by decide +kernel
theorem dL_isTold_458 : decode cL_isTold 458 = .ok (.iaload, 1) := by decide +kernel
theorem dL_isTold_459 : decode cL_isTold 459 = .ok (.invokestatic 66, 3) := by decide +kernel
theorem dL_isTold_462 : decode cL_isTold 462 = .ok (.if_icmp .ne 7, 3) := by decide +kernel
theorem dL_isTold_465 : decode cL_isTold 465 = .ok (.iconst 0, 1) := by decide +kernel
theorem dL_isTold_466 : decode cL_isTold 466 = .ok (.goto 4, 3) := by decide +kernel
theorem dL_isTold_469 : decode cL_isTold 469 = .ok (.iconst 1, 1) := by decide +kernel
theorem dL_isTold_470 : decode cL_isTold 470 = .ok (.iadd, 1) := by decide +kernel
theorem dL_isTold_471 : decode cL_isTold 471 = .ok (.istore 19, 2) := by decide +kernel
theorem dL_isTold_473 : decode cL_isTold 473 = .ok (.iload 20, 2) := by decide +kernel
theorem dL_isTold_475 : decode cL_isTold 475 = .ok (.iload 18, 2) := by decide +kernel
theorem dL_isTold_477 : decode cL_isTold 477 = .ok (.iadd, 1) := by decide +kernel
theorem dL_isTold_478 : decode cL_isTold 478 = .ok (.istore 20, 2) := by decide +kernel
theorem dL_isTold_480 : decode cL_isTold 480 = .ok (.goto (-83), 3) := by decide +kernel
theorem dL_isTold_483 : decode cL_isTold 483 = .ok (.aload_n 0, 1) := by decide +kernel
theorem dL_isTold_484 : decode cL_isTold 484 = .ok (.iload 14, 2) := by decide +kernel
theorem dL_isTold_486 : decode cL_isTold 486 = .ok (.iload 15, 2) := by decide +kernel
theorem dL_isTold_488 : decode cL_isTold 488 = .ok (.iload 16, 2) := by decide +kernel
theorem dL_isTold_490 : decode cL_isTold 490 = .ok (.iload 17, 2) := by decide +kernel
theorem dL_isTold_492 : decode cL_isTold 492 = .ok (.invokestatic 117, 3) := by decide +kernel
theorem dL_isTold_495 : decode cL_isTold 495 = .ok (.aload_n 3, 1) := by decide +kernel
theorem dL_isTold_496 : decode cL_isTold 496 = .ok (.aload 4, 2) := by decide +kernel
theorem dL_isTold_498 : decode cL_isTold 498 = .ok (.aload 5, 2) := by decide +kernel
theorem dL_isTold_500 : decode cL_isTold 500 = .ok (.aload 7, 2) := by decide +kernel
theorem dL_isTold_502 : decode cL_isTold 502 = .ok (.iload 14, 2) := by decide +kernel
theorem dL_isTold_504 : decode cL_isTold 504 = .ok (.bipush 8, 2) := by decide +kernel
theorem dL_isTold_506 : decode cL_isTold 506 = .ok (.iload 15, 2) := by decide +kernel
theorem dL_isTold_508 : decode cL_isTold 508 = .ok (.imul, 1) := by decide +kernel
theorem dL_isTold_509 : decode cL_isTold 509 = .ok (.iadd, 1) := by decide +kernel
theorem dL_isTold_510 : decode cL_isTold 510 = .ok (.iload 16, 2) := by decide +kernel
theorem dL_isTold_512 : decode cL_isTold 512 = .ok (.iload 17, 2) := by decide +kernel
theorem dL_isTold_514 : decode cL_isTold 514 = .ok (.aload 10, 2) := by decide +kernel
theorem dL_isTold_516 : decode cL_isTold 516 = .ok (.iconst 1, 1) := by decide +kernel
theorem dL_isTold_517 : decode cL_isTold 517 = .ok (.iaload, 1) := by decide +kernel
theorem dL_isTold_518 : decode cL_isTold 518 = .ok (.invokestatic 66, 3) := by decide +kernel
theorem dL_isTold_521 : decode cL_isTold 521 = .ok (.if_icmp .ne 18, 3) := by decide +kernel
theorem dL_isTold_524 : decode cL_isTold 524 = .ok (.aload_n 0, 1) := by decide +kernel
theorem dL_isTold_525 : decode cL_isTold 525 = .ok (.iload 14, 2) := by decide +kernel
theorem dL_isTold_527 : decode cL_isTold 527 = .ok (.iload 15, 2) := by decide +kernel
theorem dL_isTold_529 : decode cL_isTold 529 = .ok (.iload 18, 2) := by decide +kernel
theorem dL_isTold_531 : decode cL_isTold 531 = .ok (.invokestatic 119, 3) := by decide +kernel
theorem dL_isTold_534 : decode cL_isTold 534 = .ok (.iload 19, 2) := by decide +kernel
theorem dL_isTold_536 : decode cL_isTold 536 = .ok (.if_icmp .eq 5, 3) := by decide +kernel
theorem dL_isTold_539 : decode cL_isTold 539 = .ok (.iconst 0, 1) := by decide +kernel
theorem dL_isTold_540 : decode cL_isTold 540 = .ok (.ireturn, 1) := by decide +kernel
theorem dL_isTold_541 : decode cL_isTold 541 = .ok (.aload_n 0, 1) := by decide +kernel
theorem dL_isTold_542 : decode cL_isTold 542 = .ok (.iload 14, 2) := by decide +kernel
theorem dL_isTold_544 : decode cL_isTold 544 = .ok (.iload 15, 2) := by decide +kernel
theorem dL_isTold_546 : decode cL_isTold 546 = .ok (.iload 13, 2) := by decide +kernel
theorem dL_isTold_548 : decode cL_isTold 548 = .ok (.iconst 2, 1) := by decide +kernel
theorem dL_isTold_549 : decode cL_isTold 549 = .ok (.if_icmp .ge 8, 3) := by decide +kernel
theorem dL_isTold_552 : decode cL_isTold 552 = .ok (.iload 18, 2) := by decide +kernel
theorem dL_isTold_554 : decode cL_isTold 554 = .ok (.goto 15, 3) := by decide +kernel
theorem dL_isTold_557 : decode cL_isTold 557 = .ok (.iconst 1, 1) := by decide +kernel
theorem dL_isTold_558 : decode cL_isTold 558 = .ok (.iload_n 1, 1) := by decide +kernel
theorem dL_isTold_559 : decode cL_isTold 559 = .ok (.bipush 9, 2) := by decide +kernel
theorem dL_isTold_561 : decode cL_isTold 561 = .ok (.ishr, 1) := by decide +kernel
theorem dL_isTold_562 : decode cL_isTold 562 = .ok (.sipush 200, 3) := by decide +kernel
theorem dL_isTold_565 : decode cL_isTold 565 = .ok (.invokestatic 72, 3) := by decide +kernel
theorem dL_isTold_568 : decode cL_isTold 568 = .ok (.iadd, 1) := by decide +kernel
theorem dL_isTold_569 : decode cL_isTold 569 = .ok (.iload 16, 2) := by decide +kernel
theorem dL_isTold_571 : decode cL_isTold 571 = .ok (.iload 17, 2) := by decide +kernel
theorem dL_isTold_573 : decode cL_isTold 573 = .ok (.if_icmp .ge 8, 3) := by decide +kernel
theorem dL_isTold_576 : decode cL_isTold 576 = .ok (.iload 16, 2) := by decide +kernel
theorem dL_isTold_578 : decode cL_isTold 578 = .ok (.goto 5, 3) := by decide +kernel
theorem dL_isTold_581 : decode cL_isTold 581 = .ok (.iload 17, 2) := by decide +kernel
theorem dL_isTold_583 : decode cL_isTold 583 = .ok (.iload 16, 2) := by decide +kernel
theorem dL_isTold_585 : decode cL_isTold 585 = .ok (.iload 17, 2) := by decide +kernel
theorem dL_isTold_587 : decode cL_isTold 587 = .ok (.if_icmp .ge 8, 3) := by decide +kernel
theorem dL_isTold_590 : decode cL_isTold 590 = .ok (.iload 17, 2) := by decide +kernel
theorem dL_isTold_592 : decode cL_isTold 592 = .ok (.goto 5, 3) := by decide +kernel
theorem dL_isTold_595 : decode cL_isTold 595 = .ok (.iload 16, 2) := by decide +kernel
theorem dL_isTold_597 : decode cL_isTold 597 = .ok (.aload_n 3, 1) := by decide +kernel
theorem dL_isTold_598 : decode cL_isTold 598 = .ok (.aload 4, 2) := by decide +kernel
theorem dL_isTold_600 : decode cL_isTold 600 = .ok (.aload 6, 2) := by decide +kernel
theorem dL_isTold_602 : decode cL_isTold 602 = .ok (.aload 10, 2) := by decide +kernel
theorem dL_isTold_604 : decode cL_isTold 604 = .ok (.invokestatic 121, 3) := by decide +kernel
theorem dL_isTold_607 : decode cL_isTold 607 = .ok (.ifCond .ne 5, 3) := by decide +kernel
theorem dL_isTold_610 : decode cL_isTold 610 = .ok (.iconst 0, 1) := by decide +kernel
theorem dL_isTold_611 : decode cL_isTold 611 = .ok (.ireturn, 1) := by decide +kernel
theorem dL_isTold_612 : decode cL_isTold 612 = .ok (.iinc 13 1, 3) := by decide +kernel
theorem dL_isTold_615 : decode cL_isTold 615 = .ok (.goto (-323), 3) := by decide +kernel
theorem dL_isTold_618 : decode cL_isTold 618 = .ok (.aload_n 0, 1) := by decide +kernel
theorem dL_isTold_619 : decode cL_isTold 619 = .ok (.invokevirtual 125, 3) := by decide +kernel
theorem dL_isTold_622 : decode cL_isTold 622 = .ok (.aload 10, 2) := by decide +kernel
theorem dL_isTold_624 : decode cL_isTold 624 = .ok (.iconst 0, 1) := by decide +kernel
theorem dL_isTold_625 : decode cL_isTold 625 = .ok (.iaload, 1) := by decide +kernel
theorem dL_isTold_626 : decode cL_isTold 626 = .ok (.if_icmp .ne 336, 3) := by decide +kernel
theorem dL_isTold_629 : decode cL_isTold 629 = .ok (.aload_n 0, 1) := by decide +kernel
theorem dL_isTold_630 : decode cL_isTold 630 = .ok (.invokevirtual 79, 3) := by decide +kernel
theorem dL_isTold_633 : decode cL_isTold 633 = .ok (.aload 10, 2) := by decide +kernel
theorem dL_isTold_635 : decode cL_isTold 635 = .ok (.iconst 1, 1) := by decide +kernel
theorem dL_isTold_636 : decode cL_isTold 636 = .ok (.iaload, 1) := by decide +kernel
theorem dL_isTold_637 : decode cL_isTold 637 = .ok (.if_icmp .ne 325, 3) := by decide +kernel
theorem dL_isTold_640 : decode cL_isTold 640 = .ok (.aload_n 0, 1) := by decide +kernel
theorem dL_isTold_641 : decode cL_isTold 641 = .ok (.invokevirtual 128, 3) := by decide +kernel
theorem dL_isTold_644 : decode cL_isTold 644 = .ok (.aload 10, 2) := by decide +kernel
theorem dL_isTold_646 : decode cL_isTold 646 = .ok (.iconst 1, 1) := by decide +kernel
theorem dL_isTold_647 : decode cL_isTold 647 = .ok (.iaload, 1) := by decide +kernel
theorem dL_isTold_648 : decode cL_isTold 648 = .ok (.aload 10, 2) := by decide +kernel
theorem dL_isTold_650 : decode cL_isTold 650 = .ok (.iconst 2, 1) := by decide +kernel
theorem dL_isTold_651 : decode cL_isTold 651 = .ok (.iaload, 1) := by decide +kernel
theorem dL_isTold_652 : decode cL_isTold 652 = .ok (.isub, 1) := by decide +kernel
theorem dL_isTold_653 : decode cL_isTold 653 = .ok (.if_icmp .ne 309, 3) := by decide +kernel
theorem dL_isTold_656 : decode cL_isTold 656 = .ok (.aload_n 0, 1) := by decide +kernel
theorem dL_isTold_657 : decode cL_isTold 657 = .ok (.invokevirtual 131, 3) := by decide +kernel
theorem dL_isTold_660 : decode cL_isTold 660 = .ok (.iload 12, 2) := by decide +kernel
theorem dL_isTold_662 : decode cL_isTold 662 = .ok (.if_icmp .ne 300, 3) := by decide +kernel
theorem dL_isTold_665 : decode cL_isTold 665 = .ok (.aload_n 0, 1) := by decide +kernel
theorem dL_isTold_666 : decode cL_isTold 666 = .ok (.invokevirtual 93, 3) := by decide +kernel
theorem dL_isTold_669 : decode cL_isTold 669 = .ok (.aload 10, 2) := by decide +kernel
theorem dL_isTold_671 : decode cL_isTold 671 = .ok (.iconst 3, 1) := by decide +kernel
theorem dL_isTold_672 : decode cL_isTold 672 = .ok (.iaload, 1) := by decide +kernel
theorem dL_isTold_673 : decode cL_isTold 673 = .ok (.if_icmp .ne 289, 3) := by decide +kernel
theorem dL_isTold_676 : decode cL_isTold 676 = .ok (.aload_n 0, 1) := by decide +kernel
theorem dL_isTold_677 : decode cL_isTold 677 = .ok (.invokevirtual 134, 3) := by decide +kernel
theorem dL_isTold_680 : decode cL_isTold 680 = .ok (.iload 11, 2) := by decide +kernel
theorem dL_isTold_682 : decode cL_isTold 682 = .ok (.if_icmp .ne 280, 3) := by decide +kernel
theorem dL_isTold_685 : decode cL_isTold 685 = .ok (.aload_n 0, 1) := by decide +kernel
theorem dL_isTold_686 : decode cL_isTold 686 = .ok (.aload 10, 2) := by decide +kernel
theorem dL_isTold_688 : decode cL_isTold 688 = .ok (.iconst 1, 1) := by decide +kernel
theorem dL_isTold_689 : decode cL_isTold 689 = .ok (.iaload, 1) := by decide +kernel
theorem dL_isTold_690 : decode cL_isTold 690 = .ok (.invokestatic 107, 3) := by decide +kernel
theorem dL_isTold_693 : decode cL_isTold 693 = .ok (.bipush (-71), 2) := by decide +kernel
theorem dL_isTold_695 : decode cL_isTold 695 = .ok (.if_icmp .ne 267, 3) := by decide +kernel
theorem dL_isTold_698 : decode cL_isTold 698 = .ok (.aload_n 0, 1) := by decide +kernel
theorem dL_isTold_699 : decode cL_isTold 699 = .ok (.iconst (-1), 1) := by decide +kernel
theorem dL_isTold_700 : decode cL_isTold 700 = .ok (.invokestatic 109, 3) := by decide +kernel
theorem dL_isTold_703 : decode cL_isTold 703 = .ok (.bipush (-71), 2) := by decide +kernel
theorem dL_isTold_705 : decode cL_isTold 705 = .ok (.if_icmp .ne 257, 3) := by decide +kernel
theorem dL_isTold_708 : decode cL_isTold 708 = .ok (.aload_n 0, 1) := by decide +kernel
theorem dL_isTold_709 : decode cL_isTold 709 = .ok (.aload 10, 2) := by decide +kernel
theorem dL_isTold_711 : decode cL_isTold 711 = .ok (.iconst 3, 1) := by decide +kernel
theorem dL_isTold_712 : decode cL_isTold 712 = .ok (.iaload, 1) := by decide +kernel
theorem dL_isTold_713 : decode cL_isTold 713 = .ok (.invokestatic 111, 3) := by decide +kernel
theorem dL_isTold_716 : decode cL_isTold 716 = .ok (.bipush (-71), 2) := by decide +kernel
theorem dL_isTold_718 : decode cL_isTold 718 = .ok (.if_icmp .ne 244, 3) := by decide +kernel
theorem dL_isTold_721 : decode cL_isTold 721 = .ok (.aload_n 0, 1) := by decide +kernel
theorem dL_isTold_722 : decode cL_isTold 722 = .ok (.aload 10, 2) := by decide +kernel
theorem dL_isTold_724 : decode cL_isTold 724 = .ok (.iconst 3, 1) := by decide +kernel
theorem dL_isTold_725 : decode cL_isTold 725 = .ok (.iaload, 1) := by decide +kernel
theorem dL_isTold_726 : decode cL_isTold 726 = .ok (.invokestatic 113, 3) := by decide +kernel
theorem dL_isTold_729 : decode cL_isTold 729 = .ok (.bipush (-71), 2) := by decide +kernel
theorem dL_isTold_731 : decode cL_isTold 731 = .ok (.if_icmp .ne 231, 3) := by decide +kernel
theorem dL_isTold_734 : decode cL_isTold 734 = .ok (.aload_n 0, 1) := by decide +kernel
theorem dL_isTold_735 : decode cL_isTold 735 = .ok (.iconst (-1), 1) := by decide +kernel
theorem dL_isTold_736 : decode cL_isTold 736 = .ok (.invokestatic 113, 3) := by decide +kernel
theorem dL_isTold_739 : decode cL_isTold 739 = .ok (.bipush (-71), 2) := by decide +kernel
theorem dL_isTold_741 : decode cL_isTold 741 = .ok (.if_icmp .ne 221, 3) := by decide +kernel
theorem dL_isTold_744 : decode cL_isTold 744 = .ok (.aload_n 0, 1) := by decide +kernel
theorem dL_isTold_745 : decode cL_isTold 745 = .ok (.bipush 6, 2) := by decide +kernel
theorem dL_isTold_747 : decode cL_isTold 747 = .ok (.iconst 0, 1) := by decide +kernel
theorem dL_isTold_748 : decode cL_isTold 748 = .ok (.iconst 0, 1) := by decide +kernel
theorem dL_isTold_749 : decode cL_isTold 749 = .ok (.iconst 0, 1) := by decide +kernel
theorem dL_isTold_750 : decode cL_isTold 750 = .ok (.invokestatic 117, 3) := by decide +kernel
theorem dL_isTold_753 : decode cL_isTold 753 = .ok (.bipush (-72), 2) := by decide +kernel
theorem dL_isTold_755 : decode cL_isTold 755 = .ok (.if_icmp .ne 207, 3) := by decide +kernel
theorem dL_isTold_758 : decode cL_isTold 758 = .ok (.aload_n 0, 1) := by decide +kernel
theorem dL_isTold_759 : decode cL_isTold 759 = .ok (.iconst 0, 1) := by decide +kernel
theorem dL_isTold_760 : decode cL_isTold 760 = .ok (.bipush 10, 2) := by decide +kernel
theorem dL_isTold_762 : decode cL_isTold 762 = .ok (.iconst 0, 1) := by decide +kernel
theorem dL_isTold_763 : decode cL_isTold 763 = .ok (.iconst 0, 1) := by decide +kernel
theorem dL_isTold_764 : decode cL_isTold 764 = .ok (.invokestatic 117, 3) := by decide +kernel
theorem dL_isTold_767 : decode cL_isTold 767 = .ok (.bipush (-72), 2) := by decide +kernel
theorem dL_isTold_769 : decode cL_isTold 769 = .ok (.if_icmp .ne 193, 3) := by decide +kernel
theorem dL_isTold_772 : decode cL_isTold 772 = .ok (.aload_n 0, 1) := by decide +kernel
theorem dL_isTold_773 : decode cL_isTold 773 = .ok (.iconst 0, 1) := by decide +kernel
theorem dL_isTold_774 : decode cL_isTold 774 = .ok (.iconst 0, 1) := by decide +kernel
theorem dL_isTold_775 : decode cL_isTold 775 = .ok (.sipush 10001, 3) := by decide +kernel
theorem dL_isTold_778 : decode cL_isTold 778 = .ok (.iconst 0, 1) := by decide +kernel
theorem dL_isTold_779 : decode cL_isTold 779 = .ok (.invokestatic 117, 3) := by decide +kernel
theorem dL_isTold_782 : decode cL_isTold 782 = .ok (.bipush (-72), 2) := by decide +kernel
theorem dL_isTold_784 : decode cL_isTold 784 = .ok (.if_icmp .ne 178, 3) := by decide +kernel
theorem dL_isTold_787 : decode cL_isTold 787 = .ok (.aload_n 0, 1) := by decide +kernel
theorem dL_isTold_788 : decode cL_isTold 788 = .ok (.iconst 0, 1) := by decide +kernel
theorem dL_isTold_789 : decode cL_isTold 789 = .ok (.iconst 0, 1) := by decide +kernel
theorem dL_isTold_790 : decode cL_isTold 790 = .ok (.iconst 0, 1) := by decide +kernel
theorem dL_isTold_791 : decode cL_isTold 791 = .ok (.aload 10, 2) := by decide +kernel
theorem dL_isTold_793 : decode cL_isTold 793 = .ok (.iconst 0, 1) := by decide +kernel
theorem dL_isTold_794 : decode cL_isTold 794 = .ok (.iaload, 1) := by decide +kernel
theorem dL_isTold_795 : decode cL_isTold 795 = .ok (.iconst 1, 1) := by decide +kernel
theorem dL_isTold_796 : decode cL_isTold 796 = .ok (.iadd, 1) := by decide +kernel
theorem dL_isTold_797 : decode cL_isTold 797 = .ok (.invokestatic 117, 3) := by decide +kernel
theorem dL_isTold_800 : decode cL_isTold 800 = .ok (.bipush (-72), 2) := by decide +kernel
theorem dL_isTold_802 : decode cL_isTold 802 = .ok (.if_icmp .ne 160, 3) := by decide +kernel
theorem dL_isTold_805 : decode cL_isTold 805 = .ok (.aload_n 0, 1) := by decide +kernel
theorem dL_isTold_806 : decode cL_isTold 806 = .ok (.iconst 0, 1) := by decide +kernel
theorem dL_isTold_807 : decode cL_isTold 807 = .ok (.iconst 0, 1) := by decide +kernel
theorem dL_isTold_808 : decode cL_isTold 808 = .ok (.iconst (-1), 1) := by decide +kernel
theorem dL_isTold_809 : decode cL_isTold 809 = .ok (.iconst 0, 1) := by decide +kernel
theorem dL_isTold_810 : decode cL_isTold 810 = .ok (.invokestatic 117, 3) := by decide +kernel
theorem dL_isTold_813 : decode cL_isTold 813 = .ok (.bipush (-72), 2) := by decide +kernel
theorem dL_isTold_815 : decode cL_isTold 815 = .ok (.if_icmp .ne 147, 3) := by decide +kernel
theorem dL_isTold_818 : decode cL_isTold 818 = .ok (.aload_n 0, 1) := by decide +kernel
theorem dL_isTold_819 : decode cL_isTold 819 = .ok (.iconst 0, 1) := by decide +kernel
theorem dL_isTold_820 : decode cL_isTold 820 = .ok (.iconst 0, 1) := by decide +kernel
theorem dL_isTold_821 : decode cL_isTold 821 = .ok (.iconst 5, 1) := by decide +kernel
theorem dL_isTold_822 : decode cL_isTold 822 = .ok (.iconst 4, 1) := by decide +kernel
theorem dL_isTold_823 : decode cL_isTold 823 = .ok (.invokestatic 100, 3) := by decide +kernel
theorem dL_isTold_826 : decode cL_isTold 826 = .ok (.bipush (-72), 2) := by decide +kernel
theorem dL_isTold_828 : decode cL_isTold 828 = .ok (.if_icmp .ne 134, 3) := by decide +kernel
theorem dL_isTold_831 : decode cL_isTold 831 = .ok (.aload_n 0, 1) := by decide +kernel
theorem dL_isTold_832 : decode cL_isTold 832 = .ok (.iconst 0, 1) := by decide +kernel
theorem dL_isTold_833 : decode cL_isTold 833 = .ok (.iconst 0, 1) := by decide +kernel
theorem dL_isTold_834 : decode cL_isTold 834 = .ok (.iconst 0, 1) := by decide +kernel
theorem dL_isTold_835 : decode cL_isTold 835 = .ok (.sipush 10001, 3) := by decide +kernel
theorem dL_isTold_838 : decode cL_isTold 838 = .ok (.invokestatic 100, 3) := by decide +kernel
theorem dL_isTold_841 : decode cL_isTold 841 = .ok (.bipush (-72), 2) := by decide +kernel
theorem dL_isTold_843 : decode cL_isTold 843 = .ok (.if_icmp .ne 119, 3) := by decide +kernel
theorem dL_isTold_846 : decode cL_isTold 846 = .ok (.aload_n 0, 1) := by decide +kernel
theorem dL_isTold_847 : decode cL_isTold 847 = .ok (.iconst 0, 1) := by decide +kernel
theorem dL_isTold_848 : decode cL_isTold 848 = .ok (.iconst (-1), 1) := by decide +kernel
theorem dL_isTold_849 : decode cL_isTold 849 = .ok (.iconst 0, 1) := by decide +kernel
theorem dL_isTold_850 : decode cL_isTold 850 = .ok (.iconst 0, 1) := by decide +kernel
theorem dL_isTold_851 : decode cL_isTold 851 = .ok (.invokestatic 100, 3) := by decide +kernel
theorem dL_isTold_854 : decode cL_isTold 854 = .ok (.bipush (-72), 2) := by decide +kernel
theorem dL_isTold_856 : decode cL_isTold 856 = .ok (.if_icmp .ne 106, 3) := by decide +kernel
theorem dL_isTold_859 : decode cL_isTold 859 = .ok (.aload_n 0, 1) := by decide +kernel
theorem dL_isTold_860 : decode cL_isTold 860 = .ok (.iconst 0, 1) := by decide +kernel
theorem dL_isTold_861 : decode cL_isTold 861 = .ok (.iconst 0, 1) := by decide +kernel
theorem dL_isTold_862 : decode cL_isTold 862 = .ok (.iconst 0, 1) := by decide +kernel
theorem dL_isTold_863 : decode cL_isTold 863 = .ok (.invokestatic 102, 3) := by decide +kernel
theorem dL_isTold_866 : decode cL_isTold 866 = .ok (.bipush (-72), 2) := by decide +kernel
theorem dL_isTold_868 : decode cL_isTold 868 = .ok (.if_icmp .ne 94, 3) := by decide +kernel
theorem dL_isTold_871 : decode cL_isTold 871 = .ok (.aload_n 0, 1) := by decide +kernel
theorem dL_isTold_872 : decode cL_isTold 872 = .ok (.iconst 0, 1) := by decide +kernel
theorem dL_isTold_873 : decode cL_isTold 873 = .ok (.iconst 0, 1) := by decide +kernel
theorem dL_isTold_874 : decode cL_isTold 874 = .ok (.sipush 10001, 3) := by decide +kernel
theorem dL_isTold_877 : decode cL_isTold 877 = .ok (.invokestatic 102, 3) := by decide +kernel
theorem dL_isTold_880 : decode cL_isTold 880 = .ok (.bipush (-72), 2) := by decide +kernel
theorem dL_isTold_882 : decode cL_isTold 882 = .ok (.if_icmp .ne 80, 3) := by decide +kernel
theorem dL_isTold_885 : decode cL_isTold 885 = .ok (.aload_n 0, 1) := by decide +kernel
theorem dL_isTold_886 : decode cL_isTold 886 = .ok (.bipush 6, 2) := by decide +kernel
theorem dL_isTold_888 : decode cL_isTold 888 = .ok (.iconst 0, 1) := by decide +kernel
theorem dL_isTold_889 : decode cL_isTold 889 = .ok (.iconst 1, 1) := by decide +kernel
theorem dL_isTold_890 : decode cL_isTold 890 = .ok (.invokestatic 105, 3) := by decide +kernel
theorem dL_isTold_893 : decode cL_isTold 893 = .ok (.bipush (-72), 2) := by decide +kernel
theorem dL_isTold_895 : decode cL_isTold 895 = .ok (.if_icmp .ne 67, 3) := by decide +kernel
theorem dL_isTold_898 : decode cL_isTold 898 = .ok (.aload_n 0, 1) := by decide +kernel
theorem dL_isTold_899 : decode cL_isTold 899 = .ok (.iconst 0, 1) := by decide +kernel
theorem dL_isTold_900 : decode cL_isTold 900 = .ok (.iconst 0, 1) := by decide +kernel
theorem dL_isTold_901 : decode cL_isTold 901 = .ok (.iconst 0, 1) := by decide +kernel
theorem dL_isTold_902 : decode cL_isTold 902 = .ok (.invokestatic 105, 3) := by decide +kernel
theorem dL_isTold_905 : decode cL_isTold 905 = .ok (.bipush (-72), 2) := by decide +kernel
theorem dL_isTold_907 : decode cL_isTold 907 = .ok (.if_icmp .ne 55, 3) := by decide +kernel
theorem dL_isTold_910 : decode cL_isTold 910 = .ok (.aload_n 0, 1) := by decide +kernel
theorem dL_isTold_911 : decode cL_isTold 911 = .ok (.iconst 0, 1) := by decide +kernel
theorem dL_isTold_912 : decode cL_isTold 912 = .ok (.iconst 0, 1) := by decide +kernel
theorem dL_isTold_913 : decode cL_isTold 913 = .ok (.iconst 0, 1) := by decide +kernel
theorem dL_isTold_914 : decode cL_isTold 914 = .ok (.invokestatic 119, 3) := by decide +kernel
theorem dL_isTold_917 : decode cL_isTold 917 = .ok (.bipush (-72), 2) := by decide +kernel
theorem dL_isTold_919 : decode cL_isTold 919 = .ok (.if_icmp .ne 43, 3) := by decide +kernel
theorem dL_isTold_922 : decode cL_isTold 922 = .ok (.aload_n 0, 1) := by decide +kernel
theorem dL_isTold_923 : decode cL_isTold 923 = .ok (.iconst 0, 1) := by decide +kernel
theorem dL_isTold_924 : decode cL_isTold 924 = .ok (.bipush 10, 2) := by decide +kernel
theorem dL_isTold_926 : decode cL_isTold 926 = .ok (.iconst 1, 1) := by decide +kernel
theorem dL_isTold_927 : decode cL_isTold 927 = .ok (.invokestatic 119, 3) := by decide +kernel
theorem dL_isTold_930 : decode cL_isTold 930 = .ok (.bipush (-72), 2) := by decide +kernel
theorem dL_isTold_932 : decode cL_isTold 932 = .ok (.if_icmp .ne 30, 3) := by decide +kernel
theorem dL_isTold_935 : decode cL_isTold 935 = .ok (.aload_n 0, 1) := by decide +kernel
theorem dL_isTold_936 : decode cL_isTold 936 = .ok (.iconst (-1), 1) := by decide +kernel
theorem dL_isTold_937 : decode cL_isTold 937 = .ok (.iconst 0, 1) := by decide +kernel
theorem dL_isTold_938 : decode cL_isTold 938 = .ok (.invokestatic 115, 3) := by decide +kernel
theorem dL_isTold_941 : decode cL_isTold 941 = .ok (.bipush (-72), 2) := by decide +kernel
theorem dL_isTold_943 : decode cL_isTold 943 = .ok (.if_icmp .ne 19, 3) := by decide +kernel
theorem dL_isTold_946 : decode cL_isTold 946 = .ok (.aload_n 0, 1) := by decide +kernel
theorem dL_isTold_947 : decode cL_isTold 947 = .ok (.iconst 0, 1) := by decide +kernel
theorem dL_isTold_948 : decode cL_isTold 948 = .ok (.bipush 10, 2) := by decide +kernel
theorem dL_isTold_950 : decode cL_isTold 950 = .ok (.invokestatic 115, 3) := by decide +kernel
theorem dL_isTold_953 : decode cL_isTold 953 = .ok (.bipush (-72), 2) := by decide +kernel
theorem dL_isTold_955 : decode cL_isTold 955 = .ok (.if_icmp .ne 7, 3) := by decide +kernel
theorem dL_isTold_958 : decode cL_isTold 958 = .ok (.iconst 1, 1) := by decide +kernel
theorem dL_isTold_959 : decode cL_isTold 959 = .ok (.goto 4, 3) := by decide +kernel
theorem dL_isTold_962 : decode cL_isTold 962 = .ok (.iconst 0, 1) := by decide +kernel
theorem dL_isTold_963 : decode cL_isTold 963 = .ok (.ireturn, 1) := by decide +kernel
set_option maxRecDepth 20000 in
theorem ggL_law_X2_init : GoodIn wsL_law wsX2_init := goodIn_r _ [6, 7, 8, 9, 3, 10, 11, 12, 13, 14, 15, 16, 269, 270, 271, 272, 273, 274, 275, 276, 277] (by decide +kernel) (by decide +kernel)
set_option maxRecDepth 20000 in
theorem gL_law_X2_init : GoodIn wsL_law (wsX2_init) := ggL_law_X2_init
set_option maxRecDepth 20000 in
theorem ggL_law_L_cell : GoodIn wsL_law wsL_cell := goodIn_r _ [193, 194] (by decide +kernel) (by decide +kernel)
set_option maxRecDepth 20000 in
theorem gL_law_L_cell : GoodIn wsL_law (va_wsS RL 142 yL_cell wsL_cell) := goodIn_app (goodIn_of _ (by decide +kernel)) ggL_law_L_cell
set_option maxRecDepth 20000 in
theorem ggL_law_L_low : GoodIn wsL_law wsL_low := goodIn_r _ [116] (by decide +kernel) (by decide +kernel)
set_option maxRecDepth 20000 in
theorem gL_law_L_low : GoodIn wsL_law (va_wsS RL 72 yL_low wsL_low) := goodIn_app (goodIn_of _ (by decide +kernel)) ggL_law_L_low
theorem dL_law_0 : decode cL_law 0 = .ok (.new 9, 3) := by decide +kernel
theorem dL_law_3 : decode cL_law 3 = .ok (.dup, 1) := by decide +kernel
theorem dL_law_4 : decode cL_law 4 = .ok (.invokespecial 137, 3) := by decide +kernel
theorem dL_law_7 : decode cL_law 7 = .ok (.astore_n 1, 1) := by decide +kernel
theorem dL_law_8 : decode cL_law 8 = .ok (.bipush 60, 2) := by decide +kernel
theorem dL_law_10 : decode cL_law 10 = .ok (.newarray .int, 2) := by decide +kernel
theorem dL_law_12 : decode cL_law 12 = .ok (.astore_n 2, 1) := by decide +kernel
theorem dL_law_13 : decode cL_law 13 = .ok (.bipush 60, 2) := by decide +kernel
theorem dL_law_15 : decode cL_law 15 = .ok (.newarray .int, 2) := by decide +kernel
theorem dL_law_17 : decode cL_law 17 = .ok (.astore_n 3, 1) := by decide +kernel
theorem dL_law_18 : decode cL_law 18 = .ok (.bipush 60, 2) := by decide +kernel
theorem dL_law_20 : decode cL_law 20 = .ok (.newarray .int, 2) := by decide +kernel
theorem dL_law_22 : decode cL_law 22 = .ok (.astore 4, 2) := by decide +kernel
theorem dL_law_24 : decode cL_law 24 = .ok (.bipush 60, 2) := by decide +kernel
theorem dL_law_26 : decode cL_law 26 = .ok (.newarray .int, 2) := by decide +kernel
theorem dL_law_28 : decode cL_law 28 = .ok (.astore 5, 2) := by decide +kernel
theorem dL_law_30 : decode cL_law 30 = .ok (.bipush 6, 2) := by decide +kernel
theorem dL_law_32 : decode cL_law 32 = .ok (.newarray .int, 2) := by decide +kernel
theorem dL_law_34 : decode cL_law 34 = .ok (.astore 6, 2) := by decide +kernel
theorem dL_law_36 : decode cL_law 36 = .ok (.bipush 60, 2) := by decide +kernel
theorem dL_law_38 : decode cL_law 38 = .ok (.newarray .int, 2) := by decide +kernel
theorem dL_law_40 : decode cL_law 40 = .ok (.astore 7, 2) := by decide +kernel
theorem dL_law_42 : decode cL_law 42 = .ok (.bipush 60, 2) := by decide +kernel
theorem dL_law_44 : decode cL_law 44 = .ok (.newarray .int, 2) := by decide +kernel
theorem dL_law_46 : decode cL_law 46 = .ok (.astore 8, 2) := by decide +kernel
theorem dL_law_48 : decode cL_law 48 = .ok (.iconst 4, 1) := by decide +kernel
theorem dL_law_49 : decode cL_law 49 = .ok (.newarray .int, 2) := by decide +kernel
theorem dL_law_51 : decode cL_law 51 = .ok (.astore 9, 2) := by decide +kernel
theorem dL_law_53 : decode cL_law 53 = .ok (.iconst 0, 1) := by decide +kernel
theorem dL_law_54 : decode cL_law 54 = .ok (.istore 10, 2) := by decide +kernel
theorem dL_law_56 : decode cL_law 56 = .ok (.iload 10, 2) := by decide +kernel
theorem dL_law_58 : decode cL_law 58 = .ok (.bipush 6, 2) := by decide +kernel
theorem dL_law_60 : decode cL_law 60 = .ok (.if_icmp .ge 17, 3) := by decide +kernel
theorem dL_law_63 : decode cL_law 63 = .ok (.aload 6, 2) := by decide +kernel
theorem dL_law_65 : decode cL_law 65 = .ok (.iload 10, 2) := by decide +kernel
theorem dL_law_67 : decode cL_law 67 = .ok (.sipush 10000, 3) := by decide +kernel
theorem dL_law_70 : decode cL_law 70 = .ok (.iastore, 1) := by decide +kernel
theorem dL_law_71 : decode cL_law 71 = .ok (.iinc 10 1, 3) := by decide +kernel
theorem dL_law_74 : decode cL_law 74 = .ok (.goto (-18), 3) := by decide +kernel
theorem dL_law_77 : decode cL_law 77 = .ok (.aload_n 1, 1) := by decide +kernel
theorem dL_law_78 : decode cL_law 78 = .ok (.iconst 0, 1) := by decide +kernel
theorem dL_law_79 : decode cL_law 79 = .ok (.iconst 0, 1) := by decide +kernel
theorem dL_law_80 : decode cL_law 80 = .ok (.aload_n 2, 1) := by decide +kernel
theorem dL_law_81 : decode cL_law 81 = .ok (.aload_n 3, 1) := by decide +kernel
theorem dL_law_82 : decode cL_law 82 = .ok (.aload 4, 2) := by decide +kernel
theorem dL_law_84 : decode cL_law 84 = .ok (.aload 5, 2) := by decide +kernel
theorem dL_law_86 : decode cL_law 86 = .ok (.aload 6, 2) := by decide +kernel
theorem dL_law_88 : decode cL_law 88 = .ok (.aload 7, 2) := by decide +kernel
theorem dL_law_90 : decode cL_law 90 = .ok (.aload 8, 2) := by decide +kernel
theorem dL_law_92 : decode cL_law 92 = .ok (.aload 9, 2) := by decide +kernel
theorem dL_law_94 : decode cL_law 94 = .ok (.invokestatic 138, 3) := by decide +kernel
theorem dL_law_97 : decode cL_law 97 = .ok (.ifCond .ne 5, 3) := by decide +kernel
theorem dL_law_100 : decode cL_law 100 = .ok (.iconst 0, 1) := by decide +kernel
theorem dL_law_101 : decode cL_law 101 = .ok (.ireturn, 1) := by decide +kernel
theorem dL_law_102 : decode cL_law 102 = .ok (.iconst 0, 1) := by decide +kernel
theorem dL_law_103 : decode cL_law 103 = .ok (.istore 10, 2) := by decide +kernel
theorem dL_law_105 : decode cL_law 105 = .ok (.iload 10, 2) := by decide +kernel
theorem dL_law_107 : decode cL_law 107 = .ok (.bipush 100, 2) := by decide +kernel
theorem dL_law_109 : decode cL_law 109 = .ok (.if_icmp .ge 112, 3) := by decide +kernel
theorem dL_law_112 : decode cL_law 112 = .ok (.aload_n 0, 1) := by decide +kernel
theorem dL_law_113 : decode cL_law 113 = .ok (.iconst 3, 1) := by decide +kernel
theorem dL_law_114 : decode cL_law 114 = .ok (.iload 10, 2) := by decide +kernel
theorem dL_law_116 : decode cL_law 116 = .ok (.imul, 1) := by decide +kernel
theorem dL_law_117 : decode cL_law 117 = .ok (.invokestatic 142, 3) := by decide +kernel
theorem dL_law_120 : decode cL_law 120 = .ok (.istore 11, 2) := by decide +kernel
theorem dL_law_122 : decode cL_law 122 = .ok (.aload_n 0, 1) := by decide +kernel
theorem dL_law_123 : decode cL_law 123 = .ok (.iconst 3, 1) := by decide +kernel
theorem dL_law_124 : decode cL_law 124 = .ok (.iload 10, 2) := by decide +kernel
theorem dL_law_126 : decode cL_law 126 = .ok (.imul, 1) := by decide +kernel
theorem dL_law_127 : decode cL_law 127 = .ok (.iconst 1, 1) := by decide +kernel
theorem dL_law_128 : decode cL_law 128 = .ok (.iadd, 1) := by decide +kernel
theorem dL_law_129 : decode cL_law 129 = .ok (.invokestatic 142, 3) := by decide +kernel
theorem dL_law_132 : decode cL_law 132 = .ok (.istore 12, 2) := by decide +kernel
theorem dL_law_134 : decode cL_law 134 = .ok (.aload_n 0, 1) := by decide +kernel
theorem dL_law_135 : decode cL_law 135 = .ok (.iconst 3, 1) := by decide +kernel
theorem dL_law_136 : decode cL_law 136 = .ok (.iload 10, 2) := by decide +kernel
theorem dL_law_138 : decode cL_law 138 = .ok (.imul, 1) := by decide +kernel
theorem dL_law_139 : decode cL_law 139 = .ok (.iconst 2, 1) := by decide +kernel
theorem dL_law_140 : decode cL_law 140 = .ok (.iadd, 1) := by decide +kernel
theorem dL_law_141 : decode cL_law 141 = .ok (.invokestatic 142, 3) := by decide +kernel
theorem dL_law_144 : decode cL_law 144 = .ok (.istore 13, 2) := by decide +kernel
theorem dL_law_146 : decode cL_law 146 = .ok (.aload_n 1, 1) := by decide +kernel
theorem dL_law_147 : decode cL_law 147 = .ok (.iload 11, 2) := by decide +kernel
theorem dL_law_149 : decode cL_law 149 = .ok (.bipush 18, 2) := by decide +kernel
theorem dL_law_151 : decode cL_law 151 = .ok (.invokestatic 72, 3) := by decide +kernel
theorem dL_law_154 : decode cL_law 154 = .ok (.iload 12, 2) := by decide +kernel
theorem dL_law_156 : decode cL_law 156 = .ok (.iload 13, 2) := by decide +kernel
theorem dL_law_158 : decode cL_law 158 = .ok (.aload_n 2, 1) := by decide +kernel
theorem dL_law_159 : decode cL_law 159 = .ok (.aload_n 3, 1) := by decide +kernel
theorem dL_law_160 : decode cL_law 160 = .ok (.aload 4, 2) := by decide +kernel
theorem dL_law_162 : decode cL_law 162 = .ok (.aload 5, 2) := by decide +kernel
theorem dL_law_164 : decode cL_law 164 = .ok (.aload 6, 2) := by decide +kernel
theorem dL_law_166 : decode cL_law 166 = .ok (.aload 7, 2) := by decide +kernel
theorem dL_law_168 : decode cL_law 168 = .ok (.aload 8, 2) := by decide +kernel
theorem dL_law_170 : decode cL_law 170 = .ok (.aload 9, 2) := by decide +kernel
theorem dL_law_172 : decode cL_law 172 = .ok (.invokestatic 146, 3) := by decide +kernel
theorem dL_law_175 : decode cL_law 175 = .ok (.ifCond .eq 38, 3) := by decide +kernel
theorem dL_law_178 : decode cL_law 178 = .ok (.aload_n 1, 1) := by decide +kernel
theorem dL_law_179 : decode cL_law 179 = .ok (.iload 11, 2) := by decide +kernel
theorem dL_law_181 : decode cL_law 181 = .ok (.iconst 5, 1) := by decide +kernel
theorem dL_law_182 : decode cL_law 182 = .ok (.ishr, 1) := by decide +kernel
theorem dL_law_183 : decode cL_law 183 = .ok (.iload 12, 2) := by decide +kernel
theorem dL_law_185 : decode cL_law 185 = .ok (.ixor, 1) := by decide +kernel
theorem dL_law_186 : decode cL_law 186 = .ok (.iload 13, 2) := by decide +kernel
theorem dL_law_188 : decode cL_law 188 = .ok (.iload 12, 2) := by decide +kernel
theorem dL_law_190 : decode cL_law 190 = .ok (.iconst 3, 1) := by decide +kernel
theorem dL_law_191 : decode cL_law 191 = .ok (.ishr, 1) := by decide +kernel
theorem dL_law_192 : decode cL_law 192 = .ok (.ixor, 1) := by decide +kernel
theorem dL_law_193 : decode cL_law 193 = .ok (.aload_n 2, 1) := by decide +kernel
theorem dL_law_194 : decode cL_law 194 = .ok (.aload_n 3, 1) := by decide +kernel
theorem dL_law_195 : decode cL_law 195 = .ok (.aload 4, 2) := by decide +kernel
theorem dL_law_197 : decode cL_law 197 = .ok (.aload 5, 2) := by decide +kernel
theorem dL_law_199 : decode cL_law 199 = .ok (.aload 6, 2) := by decide +kernel
theorem dL_law_201 : decode cL_law 201 = .ok (.aload 7, 2) := by decide +kernel
theorem dL_law_203 : decode cL_law 203 = .ok (.aload 8, 2) := by decide +kernel
theorem dL_law_205 : decode cL_law 205 = .ok (.aload 9, 2) := by decide +kernel
theorem dL_law_207 : decode cL_law 207 = .ok (.invokestatic 138, 3) := by decide +kernel
theorem dL_law_210 : decode cL_law 210 = .ok (.ifCond .ne 5, 3) := by decide +kernel
theorem dL_law_213 : decode cL_law 213 = .ok (.iconst 0, 1) := by decide +kernel
theorem dL_law_214 : decode cL_law 214 = .ok (.ireturn, 1) := by decide +kernel
theorem dL_law_215 : decode cL_law 215 = .ok (.iinc 10 1, 3) := by decide +kernel
theorem dL_law_218 : decode cL_law 218 = .ok (.goto (-113), 3) := by decide +kernel
theorem dL_law_221 : decode cL_law 221 = .ok (.iconst 1, 1) := by decide +kernel
theorem dL_law_222 : decode cL_law 222 = .ok (.ireturn, 1) := by decide +kernel
abbrev vwCl : List vw_C := [(RX0, TX0, 7), (RX1, TX1, 4), (RX2, TX2, 9)]
/-! ===== END printed: names ===== -/
