/-! ===== BEGIN printed: names, fields, word lists, decode rows ===== -/
def RX0 : String := "FlatLoader$OneModule"
def TX0 : u_T := fun k => match k with
  | 0 => ("FlatLoader$OneModule", "extended", "[I", true)
  | 1 => ("FlatLoader$OneModule", "definedAbove", "[I", true)
  | 2 => ("FlatLoader$OneModule", "on", "[I", true)
  | 3 => ("FlatLoader$OneModule", "imports", "[I", true)
  | 4 => ("FlatLoader$OneModule", "exports", "[I", true)
  | 5 => ("FlatLoader$OneModule", "dependencies", "I", false)
  | 6 => ("FlatLoader$OneModule", "dependedSet", "I", false)
  | _ => ("FlatLoader$OneModule", "requiredSet", "I", false)
def tyX0 : Nat → FieldType := fun k => match k with
  | 0 => .array .int
  | 1 => .array .int
  | 2 => .array .int
  | 3 => .array .int
  | 4 => .array .int
  | 5 => .int
  | 6 => .int
  | _ => .int
abbrev wsX00 : List Cond := u_ws RX0 TX0 8
theorem nmX0 : ∀ a, a < 8 → ∀ b, b < 8 → a ≠ b → (TX0 a).2.1 ≠ (TX0 b).2.1 := by decide +kernel
theorem tyX0_ok : ∀ k, k < 8 → parseFieldDescriptor (TX0 k).2.2.1 = some (tyX0 k) := by decide +kernel
abbrev cX0_init : ByteArray := prog_2_method_1_code
def yX0_init : MethodName := ⟨RX0, "<init>", "()V"⟩
abbrev cX0_holds : ByteArray := prog_2_method_2_code
def yX0_holds : MethodName := ⟨RX0, "holds", "(I)Z"⟩
abbrev cX0_hasPath : ByteArray := prog_2_method_3_code
def yX0_hasPath : MethodName := ⟨RX0, "hasPath", "(I)Z"⟩
abbrev cX0_addDependency : ByteArray := prog_2_method_4_code
def yX0_addDependency : MethodName := ⟨RX0, "addDependency", "(IIIZ)V"⟩
abbrev cX0_dropDependencies : ByteArray := prog_2_method_5_code
def yX0_dropDependencies : MethodName := ⟨RX0, "dropDependencies", "()V"⟩
abbrev cX0_hasDefined : ByteArray := prog_2_method_6_code
def yX0_hasDefined : MethodName := ⟨RX0, "hasDefined", "(I)Z"⟩
abbrev cX0_countClasses : ByteArray := prog_2_method_7_code
def yX0_countClasses : MethodName := ⟨RX0, "countClasses", "()I"⟩
abbrev cX0_dropClasses : ByteArray := prog_2_method_8_code
def yX0_dropClasses : MethodName := ⟨RX0, "dropClasses", "()V"⟩
abbrev cX0_hasClassBelow : ByteArray := prog_2_method_9_code
def yX0_hasClassBelow : MethodName := ⟨RX0, "hasClassBelow", "(I)Z"⟩
def RX1 : String := "FlatLoader$Row"
def TX1 : u_T := fun k => match k with
  | 0 => ("FlatLoader$Row", "members", "[I", true)
  | 1 => ("FlatLoader$Row", "size", "I", false)
  | 2 => ("FlatLoader$Row", "memberSet", "I", false)
  | _ => ("FlatLoader$Row", "begun", "I", false)
def tyX1 : Nat → FieldType := fun k => match k with
  | 0 => .array .int
  | 1 => .int
  | 2 => .int
  | _ => .int
abbrev wsX10 : List Cond := u_ws RX1 TX1 4
theorem nmX1 : ∀ a, a < 4 → ∀ b, b < 4 → a ≠ b → (TX1 a).2.1 ≠ (TX1 b).2.1 := by decide +kernel
theorem tyX1_ok : ∀ k, k < 4 → parseFieldDescriptor (TX1 k).2.2.1 = some (tyX1 k) := by decide +kernel
abbrev cX1_init : ByteArray := prog_3_method_1_code
def yX1_init : MethodName := ⟨RX1, "<init>", "()V"⟩
abbrev cX1_clear : ByteArray := prog_3_method_2_code
def yX1_clear : MethodName := ⟨RX1, "clear", "()V"⟩
abbrev cX1_addOnceIf : ByteArray := prog_3_method_3_code
def yX1_addOnceIf : MethodName := ⟨RX1, "addOnceIf", "(ZI)V"⟩
def RX2 : String := "FlatLoader"
def TX2 : u_T := fun k => match k with
  | 0 => ("FlatLoader", "modules", "[LFlatLoader$OneModule;", true)
  | 1 => ("FlatLoader", "presentSet", "I", false)
  | 2 => ("FlatLoader", "loadedSet", "I", false)
  | 3 => ("FlatLoader", "row", "LFlatLoader$Row;", true)
  | 4 => ("FlatLoader", "chainModules", "[I", true)
  | _ => ("FlatLoader", "chainNames", "[I", true)
def tyX2 : Nat → FieldType := fun k => match k with
  | 0 => .array (.object "FlatLoader$OneModule")
  | 1 => .int
  | 2 => .int
  | 3 => .object "FlatLoader$Row"
  | 4 => .array .int
  | _ => .array .int
abbrev wsX20 : List Cond := u_ws RX2 TX2 6
theorem nmX2 : ∀ a, a < 6 → ∀ b, b < 6 → a ≠ b → (TX2 a).2.1 ≠ (TX2 b).2.1 := by decide +kernel
theorem tyX2_ok : ∀ k, k < 6 → parseFieldDescriptor (TX2 k).2.2.1 = some (tyX2 k) := by decide +kernel
abbrev cX2_init : ByteArray := prog_1_method_1_code
def yX2_init : MethodName := ⟨RX2, "<init>", "()V"⟩
abbrev cX2_present : ByteArray := prog_1_method_2_code
def yX2_present : MethodName := ⟨RX2, "present", "(I)V"⟩
abbrev cX2_file : ByteArray := prog_1_method_3_code
def yX2_file : MethodName := ⟨RX2, "file", "(III)V"⟩
abbrev cX2_depend : ByteArray := prog_1_method_4_code
def yX2_depend : MethodName := ⟨RX2, "depend", "(IIIIZ)I"⟩
abbrev cX2_relink : ByteArray := prog_1_method_5_code
def yX2_relink : MethodName := ⟨RX2, "relink", "(I)I"⟩
abbrev cX2_load : ByteArray := prog_1_method_6_code
def yX2_load : MethodName := ⟨RX2, "load", "(I)I"⟩
abbrev cX2_unload : ByteArray := prog_1_method_7_code
def yX2_unload : MethodName := ⟨RX2, "unload", "(I)I"⟩
abbrev cX2_find : ByteArray := prog_1_method_8_code
def yX2_find : MethodName := ⟨RX2, "find", "(II)I"⟩
abbrev cX2_visible : ByteArray := prog_1_method_9_code
def yX2_visible : MethodName := ⟨RX2, "visible", "(III)I"⟩
abbrev cX2_why : ByteArray := prog_1_method_10_code
def yX2_why : MethodName := ⟨RX2, "why", "(II)I"⟩
abbrev cX2_state : ByteArray := prog_1_method_11_code
def yX2_state : MethodName := ⟨RX2, "state", "(I)I"⟩
abbrev cX2_above : ByteArray := prog_1_method_12_code
def yX2_above : MethodName := ⟨RX2, "above", "(II)I"⟩
abbrev cX2_defined : ByteArray := prog_1_method_13_code
def yX2_defined : MethodName := ⟨RX2, "defined", "()I"⟩
abbrev cX2_bit : ByteArray := prog_1_method_14_code
def yX2_bit : MethodName := ⟨RX2, "bit", "(I)I"⟩
abbrev cX2_isIn : ByteArray := prog_1_method_15_code
def yX2_isIn : MethodName := ⟨RX2, "isIn", "(II)Z"⟩
abbrev cX2_isModule : ByteArray := prog_1_method_16_code
def yX2_isModule : MethodName := ⟨RX2, "isModule", "(I)Z"⟩
abbrev cX2_isName : ByteArray := prog_1_method_17_code
def yX2_isName : MethodName := ⟨RX2, "isName", "(I)Z"⟩
abbrev cX2_isExtended : ByteArray := prog_1_method_18_code
def yX2_isExtended : MethodName := ⟨RX2, "isExtended", "(I)Z"⟩
abbrev cX2_isPathSet : ByteArray := prog_1_method_19_code
def yX2_isPathSet : MethodName := ⟨RX2, "isPathSet", "(I)Z"⟩
abbrev cX2_canDependOn : ByteArray := prog_1_method_20_code
def yX2_canDependOn : MethodName := ⟨RX2, "canDependOn", "(II)Z"⟩
abbrev cX2_isPresent : ByteArray := prog_1_method_21_code
def yX2_isPresent : MethodName := ⟨RX2, "isPresent", "(I)Z"⟩
abbrev cX2_isLoaded : ByteArray := prog_1_method_22_code
def yX2_isLoaded : MethodName := ⟨RX2, "isLoaded", "(I)Z"⟩
abbrev cX2_loadableSet : ByteArray := prog_1_method_23_code
def yX2_loadableSet : MethodName := ⟨RX2, "loadableSet", "()I"⟩
abbrev cX2_withoutLacking : ByteArray := prog_1_method_24_code
def yX2_withoutLacking : MethodName := ⟨RX2, "withoutLacking", "(I)I"⟩
abbrev cX2_reachedSet : ByteArray := prog_1_method_25_code
def yX2_reachedSet : MethodName := ⟨RX2, "reachedSet", "(II)I"⟩
abbrev cX2_nextTo : ByteArray := prog_1_method_26_code
def yX2_nextTo : MethodName := ⟨RX2, "nextTo", "(I)I"⟩
abbrev cX2_isHeldByAnother : ByteArray := prog_1_method_27_code
def yX2_isHeldByAnother : MethodName := ⟨RX2, "isHeldByAnother", "(I)Z"⟩
abbrev cX2_holderSet : ByteArray := prog_1_method_28_code
def yX2_holderSet : MethodName := ⟨RX2, "holderSet", "(I)I"⟩
abbrev cX2_holderSeenFrom : ByteArray := prog_1_method_29_code
def yX2_holderSeenFrom : MethodName := ⟨RX2, "holderSeenFrom", "(II)I"⟩
abbrev cX2_fillVisibleRow : ByteArray := prog_1_method_30_code
def yX2_fillVisibleRow : MethodName := ⟨RX2, "fillVisibleRow", "(II)V"⟩
abbrev cX2_addExportedRow : ByteArray := prog_1_method_31_code
def yX2_addExportedRow : MethodName := ⟨RX2, "addExportedRow", "(III)V"⟩
abbrev cX2_defineWithAllAbove : ByteArray := prog_1_method_32_code
def yX2_defineWithAllAbove : MethodName := ⟨RX2, "defineWithAllAbove", "(II)Z"⟩
abbrev cX2_needsNoDefining : ByteArray := prog_1_method_33_code
def yX2_needsNoDefining : MethodName := ⟨RX2, "needsNoDefining", "(II)Z"⟩
abbrev cX2_defineChain : ByteArray := prog_1_method_34_code
def yX2_defineChain : MethodName := ⟨RX2, "defineChain", "(II)V"⟩
def RX3 : String := "FlatLoaderModel"
def TX3 : u_T := fun k => match k with
  | 0 => ("FlatLoaderModel", "thrown", "I", false)
  | 1 => ("FlatLoaderModel", "present", "[Z", true)
  | 2 => ("FlatLoaderModel", "loaded", "[Z", true)
  | 3 => ("FlatLoaderModel", "loadable", "[Z", true)
  | 4 => ("FlatLoaderModel", "files", "[I", true)
  | 5 => ("FlatLoaderModel", "extended", "[I", true)
  | 6 => ("FlatLoaderModel", "many", "[I", true)
  | 7 => ("FlatLoaderModel", "on", "[I", true)
  | 8 => ("FlatLoaderModel", "imports", "[I", true)
  | 9 => ("FlatLoaderModel", "exports", "[I", true)
  | 10 => ("FlatLoaderModel", "required", "[Z", true)
  | 11 => ("FlatLoaderModel", "classes", "I", false)
  | 12 => ("FlatLoaderModel", "size", "I", false)
  | 13 => ("FlatLoaderModel", "row", "[I", true)
  | 14 => ("FlatLoaderModel", "begun", "[Z", true)
  | 15 => ("FlatLoaderModel", "come", "[Z", true)
  | 16 => ("FlatLoaderModel", "through", "[I", true)
  | 17 => ("FlatLoaderModel", "place", "[I", true)
  | _ => ("FlatLoaderModel", "chain", "[I", true)
def tyX3 : Nat → FieldType := fun k => match k with
  | 0 => .int
  | 1 => .array .boolean
  | 2 => .array .boolean
  | 3 => .array .boolean
  | 4 => .array .int
  | 5 => .array .int
  | 6 => .array .int
  | 7 => .array .int
  | 8 => .array .int
  | 9 => .array .int
  | 10 => .array .boolean
  | 11 => .int
  | 12 => .int
  | 13 => .array .int
  | 14 => .array .boolean
  | 15 => .array .boolean
  | 16 => .array .int
  | 17 => .array .int
  | _ => .array .int
abbrev wsX30 : List Cond := u_ws RX3 TX3 19
theorem nmX3 : ∀ a, a < 19 → ∀ b, b < 19 → a ≠ b → (TX3 a).2.1 ≠ (TX3 b).2.1 := by decide +kernel
theorem tyX3_ok : ∀ k, k < 19 → parseFieldDescriptor (TX3 k).2.2.1 = some (tyX3 k) := by decide +kernel
abbrev cX3_init : ByteArray := prog_5_method_1_code
def yX3_init : MethodName := ⟨RX3, "<init>", "()V"⟩
abbrev cX3_thrown : ByteArray := prog_5_method_2_code
def yX3_thrown : MethodName := ⟨RX3, "thrown", "()I"⟩
abbrev cX3_throwsBy : ByteArray := prog_5_method_3_code
def yX3_throwsBy : MethodName := ⟨RX3, "throwsBy", "(I)Z"⟩
abbrev cX3_in : ByteArray := prog_5_method_4_code
def yX3_in : MethodName := ⟨RX3, "in", "(III)Z"⟩
abbrev cX3_isModule : ByteArray := prog_5_method_5_code
def yX3_isModule : MethodName := ⟨RX3, "isModule", "(I)Z"⟩
abbrev cX3_isPresent : ByteArray := prog_5_method_6_code
def yX3_isPresent : MethodName := ⟨RX3, "isPresent", "(I)Z"⟩
abbrev cX3_isLoaded : ByteArray := prog_5_method_7_code
def yX3_isLoaded : MethodName := ⟨RX3, "isLoaded", "(I)Z"⟩
abbrev cX3_present : ByteArray := prog_5_method_8_code
def yX3_present : MethodName := ⟨RX3, "present", "(I)V"⟩
abbrev cX3_file : ByteArray := prog_5_method_9_code
def yX3_file : MethodName := ⟨RX3, "file", "(III)V"⟩
abbrev cX3_depend : ByteArray := prog_5_method_10_code
def yX3_depend : MethodName := ⟨RX3, "depend", "(IIIIZ)I"⟩
abbrev cX3_relink : ByteArray := prog_5_method_11_code
def yX3_relink : MethodName := ⟨RX3, "relink", "(I)I"⟩
abbrev cX3_judge : ByteArray := prog_5_method_12_code
def yX3_judge : MethodName := ⟨RX3, "judge", "()V"⟩
abbrev cX3_load : ByteArray := prog_5_method_13_code
def yX3_load : MethodName := ⟨RX3, "load", "(I)I"⟩
abbrev cX3_isNeeded : ByteArray := prog_5_method_14_code
def yX3_isNeeded : MethodName := ⟨RX3, "isNeeded", "(I)Z"⟩
abbrev cX3_unload : ByteArray := prog_5_method_15_code
def yX3_unload : MethodName := ⟨RX3, "unload", "(I)I"⟩
abbrev cX3_hasPath : ByteArray := prog_5_method_16_code
def yX3_hasPath : MethodName := ⟨RX3, "hasPath", "(II)Z"⟩
abbrev cX3_append : ByteArray := prog_5_method_17_code
def yX3_append : MethodName := ⟨RX3, "append", "(I)V"⟩
abbrev cX3_see : ByteArray := prog_5_method_18_code
def yX3_see : MethodName := ⟨RX3, "see", "(II)V"⟩
abbrev cX3_holder : ByteArray := prog_5_method_19_code
def yX3_holder : MethodName := ⟨RX3, "holder", "(II)I"⟩
abbrev cX3_needs : ByteArray := prog_5_method_20_code
def yX3_needs : MethodName := ⟨RX3, "needs", "(II)I"⟩
abbrev cX3_define : ByteArray := prog_5_method_21_code
def yX3_define : MethodName := ⟨RX3, "define", "(I)V"⟩
abbrev cX3_find : ByteArray := prog_5_method_22_code
def yX3_find : MethodName := ⟨RX3, "find", "(II)I"⟩
abbrev cX3_visible : ByteArray := prog_5_method_23_code
def yX3_visible : MethodName := ⟨RX3, "visible", "(III)I"⟩
abbrev cX3_why : ByteArray := prog_5_method_24_code
def yX3_why : MethodName := ⟨RX3, "why", "(II)I"⟩
abbrev cX3_state : ByteArray := prog_5_method_25_code
def yX3_state : MethodName := ⟨RX3, "state", "(I)I"⟩
abbrev cX3_above : ByteArray := prog_5_method_26_code
def yX3_above : MethodName := ⟨RX3, "above", "(II)I"⟩
abbrev cX3_defined : ByteArray := prog_5_method_27_code
def yX3_defined : MethodName := ⟨RX3, "defined", "()I"⟩
def RJ6 : String := "java/lang/Integer"
def TJ6 : u_T := fun k => match k with
  | _ => ("", "", "", false)
def tyJ6 : Nat → FieldType := fun k => match k with
  | _ => .int
abbrev wsJ60 : List Cond := u_ws RJ6 TJ6 0
theorem nmJ6 : ∀ a, a < 0 → ∀ b, b < 0 → a ≠ b → (TJ6 a).2.1 ≠ (TJ6 b).2.1 := by decide +kernel
theorem tyJ6_ok : ∀ k, k < 0 → parseFieldDescriptor (TJ6 k).2.2.1 = some (tyJ6 k) := by decide +kernel
abbrev cJ6_bitCount_0f7a4 : ByteArray := prog_9_method_49_code
def yJ6_bitCount_0f7a4 : MethodName := ⟨RJ6, "bitCount", "(I)I"⟩
def RJ0 : String := "java/lang/String"
def TJ0 : u_T := fun k => match k with
  | _ => ("", "", "", false)
def tyJ0 : Nat → FieldType := fun k => match k with
  | _ => .int
abbrev wsJ00 : List Cond := u_ws RJ0 TJ0 0
theorem nmJ0 : ∀ a, a < 0 → ∀ b, b < 0 → a ≠ b → (TJ0 a).2.1 ≠ (TJ0 b).2.1 := by decide +kernel
theorem tyJ0_ok : ∀ k, k < 0 → parseFieldDescriptor (TJ0 k).2.2.1 = some (tyJ0 k) := by decide +kernel
def RL : String := "FlatLoaderLaw"
abbrev cL_present : ByteArray := method_3_code
def yL_present : MethodName := ⟨RL, "present", "(LFlatLoader;I)I"⟩
abbrev cL_file : ByteArray := method_4_code
def yL_file : MethodName := ⟨RL, "file", "(LFlatLoader;III)I"⟩
abbrev cL_depend : ByteArray := method_5_code
def yL_depend : MethodName := ⟨RL, "depend", "(LFlatLoader;IIIIZ[J)I"⟩
abbrev cL_relink : ByteArray := method_6_code
def yL_relink : MethodName := ⟨RL, "relink", "(LFlatLoader;I[J)I"⟩
abbrev cL_load : ByteArray := method_7_code
def yL_load : MethodName := ⟨RL, "load", "(LFlatLoader;I[J)I"⟩
abbrev cL_unload : ByteArray := method_8_code
def yL_unload : MethodName := ⟨RL, "unload", "(LFlatLoader;I[J)I"⟩
abbrev cL_find : ByteArray := method_9_code
def yL_find : MethodName := ⟨RL, "find", "(LFlatLoader;II[J)I"⟩
abbrev cL_law : ByteArray := code
def yL_law : MethodName := ⟨RL, "law", "([I)Z"⟩
def wsX0_init : List Cond := .code yX0_init cX0_init 2 none :: ([.methodLink RX0 3 objectInit, .instanceMethod objectInit, .code objectInit ⟨#[0xb1]⟩ 1 none, .arrayClass .int, .fieldLink RX0 9 "FlatLoader$OneModule" "extended" "[I", .fieldLink RX0 15 "FlatLoader$OneModule" "definedAbove" "[I", .fieldLink RX0 18 "FlatLoader$OneModule" "on" "[I", .fieldLink RX0 21 "FlatLoader$OneModule" "imports" "[I", .fieldLink RX0 24 "FlatLoader$OneModule" "exports" "[I", .fieldLink RX0 27 "FlatLoader$OneModule" "dependencies" "I", .fieldLink RX0 31 "FlatLoader$OneModule" "dependedSet" "I", .fieldLink RX0 34 "FlatLoader$OneModule" "requiredSet" "I"] ++ wsX00)
def wsX0_holds : List Cond := .code yX0_holds cX0_holds 2 (some .boolean) :: ([.fieldLink RX0 9 "FlatLoader$OneModule" "extended" "[I"] ++ wsX00)
def wsX0_hasPath : List Cond := .code yX0_hasPath cX0_hasPath 3 (some .boolean) :: ([.methodLink RX0 37 yX0_holds, .instanceMethod yX0_holds, .selects RX0 yX0_holds yX0_holds, .initialized RX0, .code yX0_holds cX0_holds 2 (some .boolean), .fieldLink RX0 9 "FlatLoader$OneModule" "extended" "[I"] ++ wsX00)
def wsX2_bit : List Cond := .code yX2_bit cX2_bit 1 (some .int) :: ([])
def wsX0_addDependency : List Cond := .code yX0_addDependency cX0_addDependency 5 none :: ([.fieldLink RX0 18 "FlatLoader$OneModule" "on" "[I", .fieldLink RX0 27 "FlatLoader$OneModule" "dependencies" "I", .fieldLink RX0 21 "FlatLoader$OneModule" "imports" "[I", .fieldLink RX0 24 "FlatLoader$OneModule" "exports" "[I", .fieldLink RX0 31 "FlatLoader$OneModule" "dependedSet" "I", .fieldLink RX0 34 "FlatLoader$OneModule" "requiredSet" "I", .static yX2_bit, .initialized RX2, .code yX2_bit cX2_bit 1 (some .int)] ++ wsX00)
def wsX0_dropDependencies : List Cond := .code yX0_dropDependencies cX0_dropDependencies 1 none :: ([.fieldLink RX0 27 "FlatLoader$OneModule" "dependencies" "I", .fieldLink RX0 31 "FlatLoader$OneModule" "dependedSet" "I", .fieldLink RX0 34 "FlatLoader$OneModule" "requiredSet" "I"] ++ wsX00)
def wsX0_hasDefined : List Cond := .code yX0_hasDefined cX0_hasDefined 2 (some .boolean) :: ([.fieldLink RX0 15 "FlatLoader$OneModule" "definedAbove" "[I"] ++ wsX00)
def wsX0_countClasses : List Cond := .code yX0_countClasses cX0_countClasses 3 (some .int) :: ([.methodLink RX0 45 yX0_hasDefined, .instanceMethod yX0_hasDefined, .selects RX0 yX0_hasDefined yX0_hasDefined, .initialized RX0, .code yX0_hasDefined cX0_hasDefined 2 (some .boolean), .fieldLink RX0 15 "FlatLoader$OneModule" "definedAbove" "[I"] ++ wsX00)
def wsX0_dropClasses : List Cond := .code yX0_dropClasses cX0_dropClasses 2 none :: ([.fieldLink RX0 15 "FlatLoader$OneModule" "definedAbove" "[I"] ++ wsX00)
def wsX0_hasClassBelow : List Cond := .code yX0_hasClassBelow cX0_hasClassBelow 3 (some .boolean) :: ([.fieldLink RX0 15 "FlatLoader$OneModule" "definedAbove" "[I"] ++ wsX00)
def wsX1_clear : List Cond := .code yX1_clear cX1_clear 1 none :: ([.fieldLink RX1 18 "FlatLoader$Row" "size" "I", .fieldLink RX1 22 "FlatLoader$Row" "memberSet" "I", .fieldLink RX1 25 "FlatLoader$Row" "begun" "I"] ++ wsX10)
def wsX1_init : List Cond := .code yX1_init cX1_init 1 none :: ([.methodLink RX1 3 objectInit, .instanceMethod objectInit, .code objectInit ⟨#[0xb1]⟩ 1 none, .arrayClass .int, .fieldLink RX1 9 "FlatLoader$Row" "members" "[I", .methodLink RX1 15 yX1_clear, .instanceMethod yX1_clear, .selects RX1 yX1_clear yX1_clear, .initialized RX1, .code yX1_clear cX1_clear 1 none, .fieldLink RX1 18 "FlatLoader$Row" "size" "I", .fieldLink RX1 22 "FlatLoader$Row" "memberSet" "I", .fieldLink RX1 25 "FlatLoader$Row" "begun" "I"] ++ wsX10)
def wsX2_isIn : List Cond := .code yX2_isIn cX2_isIn 2 (some .boolean) :: ([])
def wsX1_addOnceIf : List Cond := .code yX1_addOnceIf cX1_addOnceIf 3 none :: ([.fieldLink RX1 18 "FlatLoader$Row" "size" "I", .fieldLink RX1 22 "FlatLoader$Row" "memberSet" "I", .fieldLink RX1 9 "FlatLoader$Row" "members" "[I", .static yX2_isIn, .initialized RX2, .code yX2_isIn cX2_isIn 2 (some .boolean), .static yX2_bit, .code yX2_bit cX2_bit 1 (some .int)] ++ wsX10)
def wsX2_init_r1 : List Cond := [Cond.methodLink RX2 3 objectInit, Cond.instanceMethod objectInit, Cond.code objectInit ⟨#[0xb1]⟩ 1 none, Cond.classLink RX2 9 RX0, Cond.fieldLink RX2 11 "FlatLoader" "modules" "[LFlatLoader$OneModule;", Cond.instantiable RX0 8, Cond.initialized RX0, Cond.fieldLink RX2 16 "FlatLoader" "presentSet" "I", Cond.fieldLink RX2 20 "FlatLoader" "loadedSet" "I", Cond.classLink RX2 23 RX1, Cond.instantiable RX1 4, Cond.initialized RX1, Cond.fieldLink RX2 26 "FlatLoader" "row" "LFlatLoader$Row;", Cond.arrayClass .int, Cond.fieldLink RX2 30 "FlatLoader" "chainModules" "[I", Cond.fieldLink RX2 34 "FlatLoader" "chainNames" "[I", Cond.instanceMethod yX0_init, Cond.code yX0_init cX0_init 2 none, Cond.methodLink RX0 3 objectInit, Cond.fieldLink RX0 9 "FlatLoader$OneModule" "extended" "[I", Cond.fieldLink RX0 15 "FlatLoader$OneModule" "definedAbove" "[I", Cond.fieldLink RX0 18 "FlatLoader$OneModule" "on" "[I", Cond.fieldLink RX0 21 "FlatLoader$OneModule" "imports" "[I", Cond.fieldLink RX0 24 "FlatLoader$OneModule" "exports" "[I"]
def wsX2_init_r2 : List Cond := [Cond.fieldLink RX0 27 "FlatLoader$OneModule" "dependencies" "I", Cond.fieldLink RX0 31 "FlatLoader$OneModule" "dependedSet" "I", Cond.fieldLink RX0 34 "FlatLoader$OneModule" "requiredSet" "I", Cond.instanceMethod yX1_init, Cond.code yX1_init cX1_init 1 none, Cond.methodLink RX1 3 objectInit, Cond.fieldLink RX1 9 "FlatLoader$Row" "members" "[I", Cond.methodLink RX1 15 yX1_clear, Cond.instanceMethod yX1_clear, Cond.selects RX1 yX1_clear yX1_clear, Cond.code yX1_clear cX1_clear 1 none, Cond.fieldLink RX1 18 "FlatLoader$Row" "size" "I", Cond.fieldLink RX1 22 "FlatLoader$Row" "memberSet" "I", Cond.fieldLink RX1 25 "FlatLoader$Row" "begun" "I"]
def wsX2_init : List Cond := .code yX2_init cX2_init 2 none :: ((wsX2_init_r1 ++ wsX2_init_r2) ++ wsX20 ++ wsX00 ++ wsX10)
def wsX2_isModule : List Cond := .code yX2_isModule cX2_isModule 1 (some .boolean) :: ([])
def wsX2_isPresent : List Cond := .code yX2_isPresent cX2_isPresent 2 (some .boolean) :: ([.fieldLink RX2 16 "FlatLoader" "presentSet" "I", .methodLink RX2 37 yX2_isModule, .static yX2_isModule, .initialized RX2, .code yX2_isModule cX2_isModule 1 (some .boolean), .methodLink RX2 108 yX2_isIn, .static yX2_isIn, .code yX2_isIn cX2_isIn 2 (some .boolean)] ++ wsX20)
def wsX2_present : List Cond := .code yX2_present cX2_present 2 none :: ([.classLink RX2 41 "java/lang/IllegalArgumentException", .initialized "java/lang/IllegalArgumentException", .classLink RX2 51 "java/lang/IllegalStateException", .initialized "java/lang/IllegalStateException", .fieldLink RX2 16 "FlatLoader" "presentSet" "I", .methodLink RX2 37 yX2_isModule, .static yX2_isModule, .initialized RX2, .code yX2_isModule cX2_isModule 1 (some .boolean), .methodLink RX2 48 yX2_isPresent, .instanceMethod yX2_isPresent, .selects RX2 yX2_isPresent yX2_isPresent, .code yX2_isPresent cX2_isPresent 2 (some .boolean), .methodLink RX2 108 yX2_isIn, .static yX2_isIn, .code yX2_isIn cX2_isIn 2 (some .boolean), .methodLink RX2 56 yX2_bit, .static yX2_bit, .code yX2_bit cX2_bit 1 (some .int)] ++ wsX20 ++ (vx_atS RX2 45 "java/lang/IllegalArgumentException" ["java/lang/RuntimeException", "java/lang/Exception"]).filter goodWord ++ (vx_atS RX2 55 "java/lang/IllegalStateException" ["java/lang/RuntimeException", "java/lang/Exception"]).filter goodWord)
def wsX2_isName : List Cond := .code yX2_isName cX2_isName 1 (some .boolean) :: ([])
def wsX2_isExtended : List Cond := .code yX2_isExtended cX2_isExtended 1 (some .boolean) :: ([.methodLink RX2 60 yX2_isName, .static yX2_isName, .initialized RX2, .code yX2_isName cX2_isName 1 (some .boolean)])
def wsX2_isLoaded : List Cond := .code yX2_isLoaded cX2_isLoaded 2 (some .boolean) :: ([.fieldLink RX2 20 "FlatLoader" "loadedSet" "I", .methodLink RX2 37 yX2_isModule, .static yX2_isModule, .initialized RX2, .code yX2_isModule cX2_isModule 1 (some .boolean), .methodLink RX2 108 yX2_isIn, .static yX2_isIn, .code yX2_isIn cX2_isIn 2 (some .boolean)] ++ wsX20)
def wsX2_file_r1 : List Cond := [Cond.classLink RX2 41 "java/lang/IllegalArgumentException", Cond.initialized "java/lang/IllegalArgumentException", Cond.classLink RX2 51 "java/lang/IllegalStateException", Cond.initialized "java/lang/IllegalStateException", Cond.fieldLink RX2 11 "FlatLoader" "modules" "[LFlatLoader$OneModule;", Cond.methodLink RX2 48 yX2_isPresent, Cond.instanceMethod yX2_isPresent, Cond.selects RX2 yX2_isPresent yX2_isPresent, Cond.initialized RX2, Cond.code yX2_isPresent cX2_isPresent 2 (some .boolean), Cond.fieldLink RX2 16 "FlatLoader" "presentSet" "I", Cond.methodLink RX2 37 yX2_isModule, Cond.static yX2_isModule, Cond.code yX2_isModule cX2_isModule 1 (some .boolean), Cond.methodLink RX2 108 yX2_isIn, Cond.static yX2_isIn, Cond.code yX2_isIn cX2_isIn 2 (some .boolean), Cond.methodLink RX2 60 yX2_isName, Cond.static yX2_isName, Cond.code yX2_isName cX2_isName 1 (some .boolean), Cond.methodLink RX2 63 yX2_isExtended, Cond.static yX2_isExtended, Cond.code yX2_isExtended cX2_isExtended 1 (some .boolean), Cond.methodLink RX2 68 yX2_isLoaded]
def wsX2_file_r2 : List Cond := [Cond.instanceMethod yX2_isLoaded, Cond.selects RX2 yX2_isLoaded yX2_isLoaded, Cond.code yX2_isLoaded cX2_isLoaded 2 (some .boolean), Cond.fieldLink RX2 20 "FlatLoader" "loadedSet" "I", Cond.instanceMethod yX0_holds, Cond.initialized RX0, Cond.selects RX0 yX0_holds yX0_holds, Cond.code yX0_holds cX0_holds 2 (some .boolean), Cond.fieldLink RX0 9 "FlatLoader$OneModule" "extended" "[I"]
def wsX2_file : List Cond := .code yX2_file cX2_file 4 none :: ((wsX2_file_r1 ++ wsX2_file_r2) ++ wsX20 ++ wsX00 ++ (vx_atS RX2 45 "java/lang/IllegalArgumentException" ["java/lang/RuntimeException", "java/lang/Exception"]).filter goodWord ++ (vx_atS RX2 55 "java/lang/IllegalStateException" ["java/lang/RuntimeException", "java/lang/Exception"]).filter goodWord)
def wsX2_canDependOn : List Cond := .code yX2_canDependOn cX2_canDependOn 2 (some .boolean) :: ([.methodLink RX2 37 yX2_isModule, .static yX2_isModule, .initialized RX2, .code yX2_isModule cX2_isModule 1 (some .boolean)])
def wsX2_isPathSet : List Cond := .code yX2_isPathSet cX2_isPathSet 1 (some .boolean) :: ([])
def wsX2_depend_r1 : List Cond := [Cond.classLink RX2 41 "java/lang/IllegalArgumentException", Cond.initialized "java/lang/IllegalArgumentException", Cond.classLink RX2 51 "java/lang/IllegalStateException", Cond.initialized "java/lang/IllegalStateException", Cond.fieldLink RX2 11 "FlatLoader" "modules" "[LFlatLoader$OneModule;", Cond.methodLink RX2 48 yX2_isPresent, Cond.instanceMethod yX2_isPresent, Cond.selects RX2 yX2_isPresent yX2_isPresent, Cond.initialized RX2, Cond.code yX2_isPresent cX2_isPresent 2 (some .boolean), Cond.fieldLink RX2 16 "FlatLoader" "presentSet" "I", Cond.methodLink RX2 37 yX2_isModule, Cond.static yX2_isModule, Cond.code yX2_isModule cX2_isModule 1 (some .boolean), Cond.methodLink RX2 108 yX2_isIn, Cond.static yX2_isIn, Cond.code yX2_isIn cX2_isIn 2 (some .boolean), Cond.methodLink RX2 79 yX2_canDependOn, Cond.static yX2_canDependOn, Cond.code yX2_canDependOn cX2_canDependOn 2 (some .boolean), Cond.methodLink RX2 83 yX2_isPathSet, Cond.static yX2_isPathSet, Cond.code yX2_isPathSet cX2_isPathSet 1 (some .boolean), Cond.methodLink RX2 68 yX2_isLoaded]
def wsX2_depend_r2 : List Cond := [Cond.instanceMethod yX2_isLoaded, Cond.selects RX2 yX2_isLoaded yX2_isLoaded, Cond.code yX2_isLoaded cX2_isLoaded 2 (some .boolean), Cond.fieldLink RX2 20 "FlatLoader" "loadedSet" "I", Cond.instanceMethod yX0_addDependency, Cond.initialized RX0, Cond.selects RX0 yX0_addDependency yX0_addDependency, Cond.code yX0_addDependency cX0_addDependency 5 none, Cond.fieldLink RX0 18 "FlatLoader$OneModule" "on" "[I", Cond.fieldLink RX0 27 "FlatLoader$OneModule" "dependencies" "I", Cond.fieldLink RX0 21 "FlatLoader$OneModule" "imports" "[I", Cond.fieldLink RX0 24 "FlatLoader$OneModule" "exports" "[I", Cond.fieldLink RX0 31 "FlatLoader$OneModule" "dependedSet" "I", Cond.fieldLink RX0 34 "FlatLoader$OneModule" "requiredSet" "I", Cond.static yX2_bit, Cond.code yX2_bit cX2_bit 1 (some .int)]
def wsX2_depend : List Cond := .code yX2_depend cX2_depend 6 (some .int) :: ((wsX2_depend_r1 ++ wsX2_depend_r2) ++ wsX20 ++ wsX00 ++ (vx_atS RX2 45 "java/lang/IllegalArgumentException" ["java/lang/RuntimeException", "java/lang/Exception"]).filter goodWord ++ (vx_atS RX2 55 "java/lang/IllegalStateException" ["java/lang/RuntimeException", "java/lang/Exception"]).filter goodWord)
def wsX2_relink : List Cond := .code yX2_relink cX2_relink 3 (some .int) :: ([.classLink RX2 41 "java/lang/IllegalArgumentException", .initialized "java/lang/IllegalArgumentException", .fieldLink RX2 11 "FlatLoader" "modules" "[LFlatLoader$OneModule;", .methodLink RX2 48 yX2_isPresent, .instanceMethod yX2_isPresent, .selects RX2 yX2_isPresent yX2_isPresent, .initialized RX2, .code yX2_isPresent cX2_isPresent 2 (some .boolean), .fieldLink RX2 16 "FlatLoader" "presentSet" "I", .methodLink RX2 37 yX2_isModule, .static yX2_isModule, .code yX2_isModule cX2_isModule 1 (some .boolean), .methodLink RX2 108 yX2_isIn, .static yX2_isIn, .code yX2_isIn cX2_isIn 2 (some .boolean), .instanceMethod yX0_dropDependencies, .initialized RX0, .selects RX0 yX0_dropDependencies yX0_dropDependencies, .code yX0_dropDependencies cX0_dropDependencies 1 none, .fieldLink RX0 27 "FlatLoader$OneModule" "dependencies" "I", .fieldLink RX0 31 "FlatLoader$OneModule" "dependedSet" "I", .fieldLink RX0 34 "FlatLoader$OneModule" "requiredSet" "I"] ++ wsX20 ++ wsX00 ++ (vx_atS RX2 45 "java/lang/IllegalArgumentException" ["java/lang/RuntimeException", "java/lang/Exception"]).filter goodWord)
def wsX2_withoutLacking : List Cond := .code yX2_withoutLacking cX2_withoutLacking 4 (some .int) :: ([.fieldLink RX2 11 "FlatLoader" "modules" "[LFlatLoader$OneModule;", .methodLink RX2 56 yX2_bit, .static yX2_bit, .initialized RX2, .code yX2_bit cX2_bit 1 (some .int)] ++ wsX20 ++ wsX00)
def wsX2_loadableSet : List Cond := .code yX2_loadableSet cX2_loadableSet 3 (some .int) :: ([.fieldLink RX2 16 "FlatLoader" "presentSet" "I", .methodLink RX2 166 yX2_withoutLacking, .instanceMethod yX2_withoutLacking, .selects RX2 yX2_withoutLacking yX2_withoutLacking, .initialized RX2, .code yX2_withoutLacking cX2_withoutLacking 4 (some .int), .fieldLink RX2 11 "FlatLoader" "modules" "[LFlatLoader$OneModule;", .methodLink RX2 56 yX2_bit, .static yX2_bit, .code yX2_bit cX2_bit 1 (some .int)] ++ wsX20 ++ wsX00)
def wsX2_nextTo : List Cond := .code yX2_nextTo cX2_nextTo 4 (some .int) :: ([.fieldLink RX2 11 "FlatLoader" "modules" "[LFlatLoader$OneModule;", .methodLink RX2 108 yX2_isIn, .static yX2_isIn, .initialized RX2, .code yX2_isIn cX2_isIn 2 (some .boolean)] ++ wsX20 ++ wsX00)
def wsX2_reachedSet : List Cond := .code yX2_reachedSet cX2_reachedSet 5 (some .int) :: ([.methodLink RX2 56 yX2_bit, .static yX2_bit, .initialized RX2, .code yX2_bit cX2_bit 1 (some .int), .methodLink RX2 172 yX2_nextTo, .instanceMethod yX2_nextTo, .selects RX2 yX2_nextTo yX2_nextTo, .code yX2_nextTo cX2_nextTo 4 (some .int), .fieldLink RX2 11 "FlatLoader" "modules" "[LFlatLoader$OneModule;", .methodLink RX2 108 yX2_isIn, .static yX2_isIn, .code yX2_isIn cX2_isIn 2 (some .boolean)] ++ wsX20 ++ wsX00)
def wsJ6_bitCount_0f7a4 : List Cond := .code yJ6_bitCount_0f7a4 cJ6_bitCount_0f7a4 1 (some .int) :: ([.constant RJ6 265 (1431655765), .constant RJ6 266 (858993459), .constant RJ6 267 (252645135)])
def wsX2_load_r1 : List Cond := [Cond.classLink RX2 41 "java/lang/IllegalArgumentException", Cond.initialized "java/lang/IllegalArgumentException", Cond.classLink RX2 111 "java/util/NoSuchElementException", Cond.initialized "java/util/NoSuchElementException", Cond.fieldLink RX2 20 "FlatLoader" "loadedSet" "I", Cond.methodLink RX2 37 yX2_isModule, Cond.static yX2_isModule, Cond.initialized RX2, Cond.code yX2_isModule cX2_isModule 1 (some .boolean), Cond.methodLink RX2 104 yX2_loadableSet, Cond.instanceMethod yX2_loadableSet, Cond.selects RX2 yX2_loadableSet yX2_loadableSet, Cond.code yX2_loadableSet cX2_loadableSet 3 (some .int), Cond.fieldLink RX2 16 "FlatLoader" "presentSet" "I", Cond.methodLink RX2 166 yX2_withoutLacking, Cond.instanceMethod yX2_withoutLacking, Cond.selects RX2 yX2_withoutLacking yX2_withoutLacking, Cond.code yX2_withoutLacking cX2_withoutLacking 4 (some .int), Cond.fieldLink RX2 11 "FlatLoader" "modules" "[LFlatLoader$OneModule;", Cond.methodLink RX2 56 yX2_bit, Cond.static yX2_bit, Cond.code yX2_bit cX2_bit 1 (some .int), Cond.methodLink RX2 108 yX2_isIn, Cond.static yX2_isIn]
def wsX2_load_r2 : List Cond := [Cond.code yX2_isIn cX2_isIn 2 (some .boolean), Cond.methodLink RX2 116 yX2_reachedSet, Cond.instanceMethod yX2_reachedSet, Cond.selects RX2 yX2_reachedSet yX2_reachedSet, Cond.code yX2_reachedSet cX2_reachedSet 5 (some .int), Cond.methodLink RX2 172 yX2_nextTo, Cond.instanceMethod yX2_nextTo, Cond.selects RX2 yX2_nextTo yX2_nextTo, Cond.code yX2_nextTo cX2_nextTo 4 (some .int), Cond.methodLink RX2 120 yJ6_bitCount_0f7a4, Cond.static yJ6_bitCount_0f7a4, Cond.initialized RJ6, Cond.code yJ6_bitCount_0f7a4 cJ6_bitCount_0f7a4 1 (some .int), Cond.constant RJ6 265 (1431655765), Cond.constant RJ6 266 (858993459), Cond.constant RJ6 267 (252645135)]
def wsX2_load : List Cond := .code yX2_load cX2_load 4 (some .int) :: ((wsX2_load_r1 ++ wsX2_load_r2) ++ wsX20 ++ wsX00 ++ (vx_atS RX2 45 "java/lang/IllegalArgumentException" ["java/lang/RuntimeException", "java/lang/Exception"]).filter goodWord ++ (vx_atS RX2 115 "java/util/NoSuchElementException" ["java/lang/RuntimeException", "java/lang/Exception"]).filter goodWord)
def wsX2_isHeldByAnother : List Cond := .code yX2_isHeldByAnother cX2_isHeldByAnother 3 (some .boolean) :: ([.fieldLink RX2 11 "FlatLoader" "modules" "[LFlatLoader$OneModule;", .methodLink RX2 68 yX2_isLoaded, .instanceMethod yX2_isLoaded, .selects RX2 yX2_isLoaded yX2_isLoaded, .initialized RX2, .code yX2_isLoaded cX2_isLoaded 2 (some .boolean), .fieldLink RX2 20 "FlatLoader" "loadedSet" "I", .methodLink RX2 37 yX2_isModule, .static yX2_isModule, .code yX2_isModule cX2_isModule 1 (some .boolean), .methodLink RX2 108 yX2_isIn, .static yX2_isIn, .code yX2_isIn cX2_isIn 2 (some .boolean), .instanceMethod yX0_hasClassBelow, .initialized RX0, .selects RX0 yX0_hasClassBelow yX0_hasClassBelow, .code yX0_hasClassBelow cX0_hasClassBelow 3 (some .boolean), .fieldLink RX0 15 "FlatLoader$OneModule" "definedAbove" "[I"] ++ wsX20 ++ wsX00)
def wsX2_unload_r1 : List Cond := [Cond.classLink RX2 41 "java/lang/IllegalArgumentException", Cond.initialized "java/lang/IllegalArgumentException", Cond.classLink RX2 51 "java/lang/IllegalStateException", Cond.initialized "java/lang/IllegalStateException", Cond.fieldLink RX2 11 "FlatLoader" "modules" "[LFlatLoader$OneModule;", Cond.fieldLink RX2 20 "FlatLoader" "loadedSet" "I", Cond.methodLink RX2 68 yX2_isLoaded, Cond.instanceMethod yX2_isLoaded, Cond.selects RX2 yX2_isLoaded yX2_isLoaded, Cond.initialized RX2, Cond.code yX2_isLoaded cX2_isLoaded 2 (some .boolean), Cond.methodLink RX2 37 yX2_isModule, Cond.static yX2_isModule, Cond.code yX2_isModule cX2_isModule 1 (some .boolean), Cond.methodLink RX2 108 yX2_isIn, Cond.static yX2_isIn, Cond.code yX2_isIn cX2_isIn 2 (some .boolean), Cond.methodLink RX2 127 yX2_isHeldByAnother, Cond.instanceMethod yX2_isHeldByAnother, Cond.selects RX2 yX2_isHeldByAnother yX2_isHeldByAnother, Cond.code yX2_isHeldByAnother cX2_isHeldByAnother 3 (some .boolean), Cond.instanceMethod yX0_hasClassBelow, Cond.initialized RX0, Cond.selects RX0 yX0_hasClassBelow yX0_hasClassBelow]
def wsX2_unload_r2 : List Cond := [Cond.code yX0_hasClassBelow cX0_hasClassBelow 3 (some .boolean), Cond.fieldLink RX0 15 "FlatLoader$OneModule" "definedAbove" "[I", Cond.instanceMethod yX0_countClasses, Cond.selects RX0 yX0_countClasses yX0_countClasses, Cond.code yX0_countClasses cX0_countClasses 3 (some .int), Cond.methodLink RX0 45 yX0_hasDefined, Cond.instanceMethod yX0_hasDefined, Cond.selects RX0 yX0_hasDefined yX0_hasDefined, Cond.code yX0_hasDefined cX0_hasDefined 2 (some .boolean), Cond.instanceMethod yX0_dropClasses, Cond.selects RX0 yX0_dropClasses yX0_dropClasses, Cond.code yX0_dropClasses cX0_dropClasses 2 none, Cond.methodLink RX2 56 yX2_bit, Cond.static yX2_bit, Cond.code yX2_bit cX2_bit 1 (some .int)]
def wsX2_unload : List Cond := .code yX2_unload cX2_unload 3 (some .int) :: ((wsX2_unload_r1 ++ wsX2_unload_r2) ++ wsX20 ++ wsX00 ++ (vx_atS RX2 45 "java/lang/IllegalArgumentException" ["java/lang/RuntimeException", "java/lang/Exception"]).filter goodWord ++ (vx_atS RX2 55 "java/lang/IllegalStateException" ["java/lang/RuntimeException", "java/lang/Exception"]).filter goodWord)
def wsX2_addExportedRow_r1 : List Cond := [Cond.fieldLink RX2 26 "FlatLoader" "row" "LFlatLoader$Row;", Cond.fieldLink RX2 11 "FlatLoader" "modules" "[LFlatLoader$OneModule;", Cond.methodLink RX2 68 yX2_isLoaded, Cond.instanceMethod yX2_isLoaded, Cond.selects RX2 yX2_isLoaded yX2_isLoaded, Cond.initialized RX2, Cond.code yX2_isLoaded cX2_isLoaded 2 (some .boolean), Cond.fieldLink RX2 20 "FlatLoader" "loadedSet" "I", Cond.methodLink RX2 37 yX2_isModule, Cond.static yX2_isModule, Cond.code yX2_isModule cX2_isModule 1 (some .boolean), Cond.methodLink RX2 108 yX2_isIn, Cond.static yX2_isIn, Cond.code yX2_isIn cX2_isIn 2 (some .boolean), Cond.methodLink RX2 56 yX2_bit, Cond.static yX2_bit, Cond.code yX2_bit cX2_bit 1 (some .int), Cond.instanceMethod yX0_hasPath, Cond.initialized RX0, Cond.selects RX0 yX0_hasPath yX0_hasPath, Cond.code yX0_hasPath cX0_hasPath 3 (some .boolean), Cond.methodLink RX0 37 yX0_holds, Cond.instanceMethod yX0_holds, Cond.selects RX0 yX0_holds yX0_holds]
def wsX2_addExportedRow_r2 : List Cond := [Cond.code yX0_holds cX0_holds 2 (some .boolean), Cond.fieldLink RX0 9 "FlatLoader$OneModule" "extended" "[I", Cond.instanceMethod yX1_addOnceIf, Cond.initialized RX1, Cond.selects RX1 yX1_addOnceIf yX1_addOnceIf, Cond.code yX1_addOnceIf cX1_addOnceIf 3 none, Cond.fieldLink RX1 18 "FlatLoader$Row" "size" "I", Cond.fieldLink RX1 22 "FlatLoader$Row" "memberSet" "I", Cond.fieldLink RX1 9 "FlatLoader$Row" "members" "[I", Cond.methodLink RX2 197 yX2_addExportedRow, Cond.instanceMethod yX2_addExportedRow, Cond.selects RX2 yX2_addExportedRow yX2_addExportedRow]
def wsX2_addExportedRow : List Cond := .code yX2_addExportedRow cX2_addExportedRow 6 none :: ((wsX2_addExportedRow_r1 ++ wsX2_addExportedRow_r2) ++ wsX20 ++ wsX10 ++ wsX00)
def wsX2_fillVisibleRow_r1 : List Cond := [Cond.fieldLink RX2 26 "FlatLoader" "row" "LFlatLoader$Row;", Cond.fieldLink RX2 11 "FlatLoader" "modules" "[LFlatLoader$OneModule;", Cond.instanceMethod yX1_clear, Cond.initialized RX1, Cond.selects RX1 yX1_clear yX1_clear, Cond.code yX1_clear cX1_clear 1 none, Cond.fieldLink RX1 18 "FlatLoader$Row" "size" "I", Cond.fieldLink RX1 22 "FlatLoader$Row" "memberSet" "I", Cond.fieldLink RX1 25 "FlatLoader$Row" "begun" "I", Cond.instanceMethod yX0_hasPath, Cond.initialized RX0, Cond.selects RX0 yX0_hasPath yX0_hasPath, Cond.code yX0_hasPath cX0_hasPath 3 (some .boolean), Cond.methodLink RX0 37 yX0_holds, Cond.instanceMethod yX0_holds, Cond.selects RX0 yX0_holds yX0_holds, Cond.code yX0_holds cX0_holds 2 (some .boolean), Cond.fieldLink RX0 9 "FlatLoader$OneModule" "extended" "[I", Cond.instanceMethod yX1_addOnceIf, Cond.selects RX1 yX1_addOnceIf yX1_addOnceIf, Cond.code yX1_addOnceIf cX1_addOnceIf 3 none, Cond.fieldLink RX1 9 "FlatLoader$Row" "members" "[I", Cond.static yX2_isIn, Cond.initialized RX2]
def wsX2_fillVisibleRow_r2 : List Cond := [Cond.code yX2_isIn cX2_isIn 2 (some .boolean), Cond.static yX2_bit, Cond.code yX2_bit cX2_bit 1 (some .int), Cond.methodLink RX2 108 yX2_isIn, Cond.methodLink RX2 197 yX2_addExportedRow, Cond.instanceMethod yX2_addExportedRow, Cond.selects RX2 yX2_addExportedRow yX2_addExportedRow, Cond.code yX2_addExportedRow cX2_addExportedRow 6 none, Cond.methodLink RX2 68 yX2_isLoaded, Cond.instanceMethod yX2_isLoaded, Cond.selects RX2 yX2_isLoaded yX2_isLoaded, Cond.code yX2_isLoaded cX2_isLoaded 2 (some .boolean), Cond.fieldLink RX2 20 "FlatLoader" "loadedSet" "I", Cond.methodLink RX2 37 yX2_isModule, Cond.static yX2_isModule, Cond.code yX2_isModule cX2_isModule 1 (some .boolean), Cond.methodLink RX2 56 yX2_bit]
def wsX2_fillVisibleRow : List Cond := .code yX2_fillVisibleRow cX2_fillVisibleRow 5 none :: ((wsX2_fillVisibleRow_r1 ++ wsX2_fillVisibleRow_r2) ++ wsX20 ++ wsX00 ++ wsX10)
def wsX2_holderSeenFrom_r1 : List Cond := [Cond.fieldLink RX2 26 "FlatLoader" "row" "LFlatLoader$Row;", Cond.fieldLink RX2 11 "FlatLoader" "modules" "[LFlatLoader$OneModule;", Cond.methodLink RX2 150 yX2_fillVisibleRow, Cond.instanceMethod yX2_fillVisibleRow, Cond.selects RX2 yX2_fillVisibleRow yX2_fillVisibleRow, Cond.initialized RX2, Cond.code yX2_fillVisibleRow cX2_fillVisibleRow 5 none, Cond.instanceMethod yX1_clear, Cond.initialized RX1, Cond.selects RX1 yX1_clear yX1_clear, Cond.code yX1_clear cX1_clear 1 none, Cond.fieldLink RX1 18 "FlatLoader$Row" "size" "I", Cond.fieldLink RX1 22 "FlatLoader$Row" "memberSet" "I", Cond.fieldLink RX1 25 "FlatLoader$Row" "begun" "I", Cond.instanceMethod yX0_hasPath, Cond.initialized RX0, Cond.selects RX0 yX0_hasPath yX0_hasPath, Cond.code yX0_hasPath cX0_hasPath 3 (some .boolean), Cond.methodLink RX0 37 yX0_holds, Cond.instanceMethod yX0_holds, Cond.selects RX0 yX0_holds yX0_holds, Cond.code yX0_holds cX0_holds 2 (some .boolean), Cond.fieldLink RX0 9 "FlatLoader$OneModule" "extended" "[I", Cond.instanceMethod yX1_addOnceIf]
def wsX2_holderSeenFrom_r2 : List Cond := [Cond.selects RX1 yX1_addOnceIf yX1_addOnceIf, Cond.code yX1_addOnceIf cX1_addOnceIf 3 none, Cond.fieldLink RX1 9 "FlatLoader$Row" "members" "[I", Cond.static yX2_isIn, Cond.code yX2_isIn cX2_isIn 2 (some .boolean), Cond.static yX2_bit, Cond.code yX2_bit cX2_bit 1 (some .int), Cond.methodLink RX2 108 yX2_isIn, Cond.methodLink RX2 197 yX2_addExportedRow, Cond.instanceMethod yX2_addExportedRow, Cond.selects RX2 yX2_addExportedRow yX2_addExportedRow, Cond.code yX2_addExportedRow cX2_addExportedRow 6 none, Cond.methodLink RX2 68 yX2_isLoaded, Cond.instanceMethod yX2_isLoaded, Cond.selects RX2 yX2_isLoaded yX2_isLoaded, Cond.code yX2_isLoaded cX2_isLoaded 2 (some .boolean), Cond.fieldLink RX2 20 "FlatLoader" "loadedSet" "I", Cond.methodLink RX2 37 yX2_isModule, Cond.static yX2_isModule, Cond.code yX2_isModule cX2_isModule 1 (some .boolean), Cond.methodLink RX2 56 yX2_bit]
def wsX2_holderSeenFrom : List Cond := .code yX2_holderSeenFrom cX2_holderSeenFrom 4 (some .int) :: ((wsX2_holderSeenFrom_r1 ++ wsX2_holderSeenFrom_r2) ++ wsX20 ++ wsX10 ++ wsX00)
def wsX2_needsNoDefining : List Cond := .code yX2_needsNoDefining cX2_needsNoDefining 3 (some .boolean) :: ([.fieldLink RX2 11 "FlatLoader" "modules" "[LFlatLoader$OneModule;", .instanceMethod yX0_hasDefined, .initialized RX0, .selects RX0 yX0_hasDefined yX0_hasDefined, .code yX0_hasDefined cX0_hasDefined 2 (some .boolean), .fieldLink RX0 15 "FlatLoader$OneModule" "definedAbove" "[I"] ++ wsX20 ++ wsX00)
def wsX2_defineChain : List Cond := .code yX2_defineChain cX2_defineChain 5 none :: ([.fieldLink RX2 11 "FlatLoader" "modules" "[LFlatLoader$OneModule;", .fieldLink RX2 30 "FlatLoader" "chainModules" "[I", .fieldLink RX2 34 "FlatLoader" "chainNames" "[I"] ++ wsX20 ++ wsX00)
def wsX2_defineWithAllAbove_r1 : List Cond := [Cond.fieldLink RX2 30 "FlatLoader" "chainModules" "[I", Cond.fieldLink RX2 34 "FlatLoader" "chainNames" "[I", Cond.fieldLink RX2 11 "FlatLoader" "modules" "[LFlatLoader$OneModule;", Cond.methodLink RX2 207 yX2_needsNoDefining, Cond.instanceMethod yX2_needsNoDefining, Cond.selects RX2 yX2_needsNoDefining yX2_needsNoDefining, Cond.initialized RX2, Cond.code yX2_needsNoDefining cX2_needsNoDefining 3 (some .boolean), Cond.instanceMethod yX0_hasDefined, Cond.initialized RX0, Cond.selects RX0 yX0_hasDefined yX0_hasDefined, Cond.code yX0_hasDefined cX0_hasDefined 2 (some .boolean), Cond.fieldLink RX0 15 "FlatLoader$OneModule" "definedAbove" "[I", Cond.methodLink RX2 140 yX2_holderSeenFrom, Cond.instanceMethod yX2_holderSeenFrom, Cond.selects RX2 yX2_holderSeenFrom yX2_holderSeenFrom, Cond.code yX2_holderSeenFrom cX2_holderSeenFrom 4 (some .int), Cond.fieldLink RX2 26 "FlatLoader" "row" "LFlatLoader$Row;", Cond.methodLink RX2 150 yX2_fillVisibleRow, Cond.instanceMethod yX2_fillVisibleRow, Cond.selects RX2 yX2_fillVisibleRow yX2_fillVisibleRow, Cond.code yX2_fillVisibleRow cX2_fillVisibleRow 5 none, Cond.instanceMethod yX1_clear, Cond.initialized RX1]
def wsX2_defineWithAllAbove_r2 : List Cond := [Cond.selects RX1 yX1_clear yX1_clear, Cond.code yX1_clear cX1_clear 1 none, Cond.fieldLink RX1 18 "FlatLoader$Row" "size" "I", Cond.fieldLink RX1 22 "FlatLoader$Row" "memberSet" "I", Cond.fieldLink RX1 25 "FlatLoader$Row" "begun" "I", Cond.instanceMethod yX0_hasPath, Cond.selects RX0 yX0_hasPath yX0_hasPath, Cond.code yX0_hasPath cX0_hasPath 3 (some .boolean), Cond.methodLink RX0 37 yX0_holds, Cond.instanceMethod yX0_holds, Cond.selects RX0 yX0_holds yX0_holds, Cond.code yX0_holds cX0_holds 2 (some .boolean), Cond.fieldLink RX0 9 "FlatLoader$OneModule" "extended" "[I", Cond.instanceMethod yX1_addOnceIf, Cond.selects RX1 yX1_addOnceIf yX1_addOnceIf, Cond.code yX1_addOnceIf cX1_addOnceIf 3 none, Cond.fieldLink RX1 9 "FlatLoader$Row" "members" "[I", Cond.static yX2_isIn, Cond.code yX2_isIn cX2_isIn 2 (some .boolean), Cond.static yX2_bit, Cond.code yX2_bit cX2_bit 1 (some .int), Cond.methodLink RX2 108 yX2_isIn, Cond.methodLink RX2 197 yX2_addExportedRow, Cond.instanceMethod yX2_addExportedRow]
def wsX2_defineWithAllAbove_r3 : List Cond := [Cond.selects RX2 yX2_addExportedRow yX2_addExportedRow, Cond.code yX2_addExportedRow cX2_addExportedRow 6 none, Cond.methodLink RX2 68 yX2_isLoaded, Cond.instanceMethod yX2_isLoaded, Cond.selects RX2 yX2_isLoaded yX2_isLoaded, Cond.code yX2_isLoaded cX2_isLoaded 2 (some .boolean), Cond.fieldLink RX2 20 "FlatLoader" "loadedSet" "I", Cond.methodLink RX2 37 yX2_isModule, Cond.static yX2_isModule, Cond.code yX2_isModule cX2_isModule 1 (some .boolean), Cond.methodLink RX2 56 yX2_bit, Cond.methodLink RX2 210 yX2_defineChain, Cond.instanceMethod yX2_defineChain, Cond.selects RX2 yX2_defineChain yX2_defineChain, Cond.code yX2_defineChain cX2_defineChain 5 none]
def wsX2_defineWithAllAbove : List Cond := .code yX2_defineWithAllAbove cX2_defineWithAllAbove 6 (some .boolean) :: ((wsX2_defineWithAllAbove_r1 ++ (wsX2_defineWithAllAbove_r2 ++ wsX2_defineWithAllAbove_r3)) ++ wsX20 ++ wsX00 ++ wsX10)
def wsX2_find_r1 : List Cond := [Cond.classLink RX2 41 "java/lang/IllegalArgumentException", Cond.initialized "java/lang/IllegalArgumentException", Cond.classLink RX2 111 "java/util/NoSuchElementException", Cond.initialized "java/util/NoSuchElementException", Cond.classLink RX2 51 "java/lang/IllegalStateException", Cond.initialized "java/lang/IllegalStateException", Cond.methodLink RX2 68 yX2_isLoaded, Cond.instanceMethod yX2_isLoaded, Cond.selects RX2 yX2_isLoaded yX2_isLoaded, Cond.initialized RX2, Cond.code yX2_isLoaded cX2_isLoaded 2 (some .boolean), Cond.fieldLink RX2 20 "FlatLoader" "loadedSet" "I", Cond.methodLink RX2 37 yX2_isModule, Cond.static yX2_isModule, Cond.code yX2_isModule cX2_isModule 1 (some .boolean), Cond.methodLink RX2 108 yX2_isIn, Cond.static yX2_isIn, Cond.code yX2_isIn cX2_isIn 2 (some .boolean), Cond.methodLink RX2 60 yX2_isName, Cond.static yX2_isName, Cond.code yX2_isName cX2_isName 1 (some .boolean), Cond.methodLink RX2 140 yX2_holderSeenFrom, Cond.instanceMethod yX2_holderSeenFrom, Cond.selects RX2 yX2_holderSeenFrom yX2_holderSeenFrom]
def wsX2_find_r2 : List Cond := [Cond.code yX2_holderSeenFrom cX2_holderSeenFrom 4 (some .int), Cond.fieldLink RX2 26 "FlatLoader" "row" "LFlatLoader$Row;", Cond.fieldLink RX2 11 "FlatLoader" "modules" "[LFlatLoader$OneModule;", Cond.methodLink RX2 150 yX2_fillVisibleRow, Cond.instanceMethod yX2_fillVisibleRow, Cond.selects RX2 yX2_fillVisibleRow yX2_fillVisibleRow, Cond.code yX2_fillVisibleRow cX2_fillVisibleRow 5 none, Cond.instanceMethod yX1_clear, Cond.initialized RX1, Cond.selects RX1 yX1_clear yX1_clear, Cond.code yX1_clear cX1_clear 1 none, Cond.fieldLink RX1 18 "FlatLoader$Row" "size" "I", Cond.fieldLink RX1 22 "FlatLoader$Row" "memberSet" "I", Cond.fieldLink RX1 25 "FlatLoader$Row" "begun" "I", Cond.instanceMethod yX0_hasPath, Cond.initialized RX0, Cond.selects RX0 yX0_hasPath yX0_hasPath, Cond.code yX0_hasPath cX0_hasPath 3 (some .boolean), Cond.methodLink RX0 37 yX0_holds, Cond.instanceMethod yX0_holds, Cond.selects RX0 yX0_holds yX0_holds, Cond.code yX0_holds cX0_holds 2 (some .boolean), Cond.fieldLink RX0 9 "FlatLoader$OneModule" "extended" "[I", Cond.instanceMethod yX1_addOnceIf]
def wsX2_find_r3 : List Cond := [Cond.selects RX1 yX1_addOnceIf yX1_addOnceIf, Cond.code yX1_addOnceIf cX1_addOnceIf 3 none, Cond.fieldLink RX1 9 "FlatLoader$Row" "members" "[I", Cond.static yX2_bit, Cond.code yX2_bit cX2_bit 1 (some .int), Cond.methodLink RX2 197 yX2_addExportedRow, Cond.instanceMethod yX2_addExportedRow, Cond.selects RX2 yX2_addExportedRow yX2_addExportedRow, Cond.code yX2_addExportedRow cX2_addExportedRow 6 none, Cond.methodLink RX2 56 yX2_bit, Cond.methodLink RX2 145 yX2_defineWithAllAbove, Cond.instanceMethod yX2_defineWithAllAbove, Cond.selects RX2 yX2_defineWithAllAbove yX2_defineWithAllAbove, Cond.code yX2_defineWithAllAbove cX2_defineWithAllAbove 6 (some .boolean), Cond.fieldLink RX2 30 "FlatLoader" "chainModules" "[I", Cond.fieldLink RX2 34 "FlatLoader" "chainNames" "[I", Cond.methodLink RX2 207 yX2_needsNoDefining, Cond.instanceMethod yX2_needsNoDefining, Cond.selects RX2 yX2_needsNoDefining yX2_needsNoDefining, Cond.code yX2_needsNoDefining cX2_needsNoDefining 3 (some .boolean), Cond.instanceMethod yX0_hasDefined, Cond.selects RX0 yX0_hasDefined yX0_hasDefined, Cond.code yX0_hasDefined cX0_hasDefined 2 (some .boolean), Cond.fieldLink RX0 15 "FlatLoader$OneModule" "definedAbove" "[I"]
def wsX2_find_r4 : List Cond := [Cond.methodLink RX2 210 yX2_defineChain, Cond.instanceMethod yX2_defineChain, Cond.selects RX2 yX2_defineChain yX2_defineChain, Cond.code yX2_defineChain cX2_defineChain 5 none]
def wsX2_find : List Cond := .code yX2_find cX2_find 4 (some .int) :: ((wsX2_find_r1 ++ (wsX2_find_r2 ++ (wsX2_find_r3 ++ wsX2_find_r4))) ++ wsX20 ++ wsX10 ++ wsX00 ++ (vx_atS RX2 45 "java/lang/IllegalArgumentException" ["java/lang/RuntimeException", "java/lang/Exception"]).filter goodWord ++ (vx_atS RX2 115 "java/util/NoSuchElementException" ["java/lang/RuntimeException", "java/lang/Exception"]).filter goodWord ++ (vx_atS RX2 55 "java/lang/IllegalStateException" ["java/lang/RuntimeException", "java/lang/Exception"]).filter goodWord)
def wsX2_visible_r1 : List Cond := [Cond.fieldLink RX2 26 "FlatLoader" "row" "LFlatLoader$Row;", Cond.methodLink RX2 68 yX2_isLoaded, Cond.instanceMethod yX2_isLoaded, Cond.selects RX2 yX2_isLoaded yX2_isLoaded, Cond.initialized RX2, Cond.code yX2_isLoaded cX2_isLoaded 2 (some .boolean), Cond.fieldLink RX2 20 "FlatLoader" "loadedSet" "I", Cond.methodLink RX2 37 yX2_isModule, Cond.static yX2_isModule, Cond.code yX2_isModule cX2_isModule 1 (some .boolean), Cond.methodLink RX2 108 yX2_isIn, Cond.static yX2_isIn, Cond.code yX2_isIn cX2_isIn 2 (some .boolean), Cond.methodLink RX2 150 yX2_fillVisibleRow, Cond.instanceMethod yX2_fillVisibleRow, Cond.selects RX2 yX2_fillVisibleRow yX2_fillVisibleRow, Cond.code yX2_fillVisibleRow cX2_fillVisibleRow 5 none, Cond.fieldLink RX2 11 "FlatLoader" "modules" "[LFlatLoader$OneModule;", Cond.instanceMethod yX1_clear, Cond.initialized RX1, Cond.selects RX1 yX1_clear yX1_clear, Cond.code yX1_clear cX1_clear 1 none, Cond.fieldLink RX1 18 "FlatLoader$Row" "size" "I", Cond.fieldLink RX1 22 "FlatLoader$Row" "memberSet" "I"]
def wsX2_visible_r2 : List Cond := [Cond.fieldLink RX1 25 "FlatLoader$Row" "begun" "I", Cond.instanceMethod yX0_hasPath, Cond.initialized RX0, Cond.selects RX0 yX0_hasPath yX0_hasPath, Cond.code yX0_hasPath cX0_hasPath 3 (some .boolean), Cond.methodLink RX0 37 yX0_holds, Cond.instanceMethod yX0_holds, Cond.selects RX0 yX0_holds yX0_holds, Cond.code yX0_holds cX0_holds 2 (some .boolean), Cond.fieldLink RX0 9 "FlatLoader$OneModule" "extended" "[I", Cond.instanceMethod yX1_addOnceIf, Cond.selects RX1 yX1_addOnceIf yX1_addOnceIf, Cond.code yX1_addOnceIf cX1_addOnceIf 3 none, Cond.fieldLink RX1 9 "FlatLoader$Row" "members" "[I", Cond.static yX2_bit, Cond.code yX2_bit cX2_bit 1 (some .int), Cond.methodLink RX2 197 yX2_addExportedRow, Cond.instanceMethod yX2_addExportedRow, Cond.selects RX2 yX2_addExportedRow yX2_addExportedRow, Cond.code yX2_addExportedRow cX2_addExportedRow 6 none, Cond.methodLink RX2 56 yX2_bit]
def wsX2_visible : List Cond := .code yX2_visible cX2_visible 4 (some .int) :: ((wsX2_visible_r1 ++ wsX2_visible_r2) ++ wsX20 ++ wsX10 ++ wsX00)
def wsX2_holderSet : List Cond := .code yX2_holderSet cX2_holderSet 4 (some .int) :: ([.fieldLink RX2 11 "FlatLoader" "modules" "[LFlatLoader$OneModule;", .instanceMethod yX0_holds, .initialized RX0, .selects RX0 yX0_holds yX0_holds, .code yX0_holds cX0_holds 2 (some .boolean), .fieldLink RX0 9 "FlatLoader$OneModule" "extended" "[I", .methodLink RX2 56 yX2_bit, .static yX2_bit, .initialized RX2, .code yX2_bit cX2_bit 1 (some .int)] ++ wsX20 ++ wsX00)
def wsX2_why_r1 : List Cond := [Cond.fieldLink RX2 20 "FlatLoader" "loadedSet" "I", Cond.methodLink RX2 68 yX2_isLoaded, Cond.instanceMethod yX2_isLoaded, Cond.selects RX2 yX2_isLoaded yX2_isLoaded, Cond.initialized RX2, Cond.code yX2_isLoaded cX2_isLoaded 2 (some .boolean), Cond.methodLink RX2 37 yX2_isModule, Cond.static yX2_isModule, Cond.code yX2_isModule cX2_isModule 1 (some .boolean), Cond.methodLink RX2 108 yX2_isIn, Cond.static yX2_isIn, Cond.code yX2_isIn cX2_isIn 2 (some .boolean), Cond.methodLink RX2 60 yX2_isName, Cond.static yX2_isName, Cond.code yX2_isName cX2_isName 1 (some .boolean), Cond.methodLink RX2 140 yX2_holderSeenFrom, Cond.instanceMethod yX2_holderSeenFrom, Cond.selects RX2 yX2_holderSeenFrom yX2_holderSeenFrom, Cond.code yX2_holderSeenFrom cX2_holderSeenFrom 4 (some .int), Cond.fieldLink RX2 26 "FlatLoader" "row" "LFlatLoader$Row;", Cond.fieldLink RX2 11 "FlatLoader" "modules" "[LFlatLoader$OneModule;", Cond.methodLink RX2 150 yX2_fillVisibleRow, Cond.instanceMethod yX2_fillVisibleRow, Cond.selects RX2 yX2_fillVisibleRow yX2_fillVisibleRow]
def wsX2_why_r2 : List Cond := [Cond.code yX2_fillVisibleRow cX2_fillVisibleRow 5 none, Cond.instanceMethod yX1_clear, Cond.initialized RX1, Cond.selects RX1 yX1_clear yX1_clear, Cond.code yX1_clear cX1_clear 1 none, Cond.fieldLink RX1 18 "FlatLoader$Row" "size" "I", Cond.fieldLink RX1 22 "FlatLoader$Row" "memberSet" "I", Cond.fieldLink RX1 25 "FlatLoader$Row" "begun" "I", Cond.instanceMethod yX0_hasPath, Cond.initialized RX0, Cond.selects RX0 yX0_hasPath yX0_hasPath, Cond.code yX0_hasPath cX0_hasPath 3 (some .boolean), Cond.methodLink RX0 37 yX0_holds, Cond.instanceMethod yX0_holds, Cond.selects RX0 yX0_holds yX0_holds, Cond.code yX0_holds cX0_holds 2 (some .boolean), Cond.fieldLink RX0 9 "FlatLoader$OneModule" "extended" "[I", Cond.instanceMethod yX1_addOnceIf, Cond.selects RX1 yX1_addOnceIf yX1_addOnceIf, Cond.code yX1_addOnceIf cX1_addOnceIf 3 none, Cond.fieldLink RX1 9 "FlatLoader$Row" "members" "[I", Cond.static yX2_bit, Cond.code yX2_bit cX2_bit 1 (some .int), Cond.methodLink RX2 197 yX2_addExportedRow]
def wsX2_why_r3 : List Cond := [Cond.instanceMethod yX2_addExportedRow, Cond.selects RX2 yX2_addExportedRow yX2_addExportedRow, Cond.code yX2_addExportedRow cX2_addExportedRow 6 none, Cond.methodLink RX2 56 yX2_bit, Cond.methodLink RX2 160 yX2_holderSet, Cond.instanceMethod yX2_holderSet, Cond.selects RX2 yX2_holderSet yX2_holderSet, Cond.code yX2_holderSet cX2_holderSet 4 (some .int)]
def wsX2_why : List Cond := .code yX2_why cX2_why 4 (some .int) :: ((wsX2_why_r1 ++ (wsX2_why_r2 ++ wsX2_why_r3)) ++ wsX20 ++ wsX10 ++ wsX00)
def wsX2_state_r1 : List Cond := [Cond.methodLink RX2 37 yX2_isModule, Cond.static yX2_isModule, Cond.initialized RX2, Cond.code yX2_isModule cX2_isModule 1 (some .boolean), Cond.methodLink RX2 48 yX2_isPresent, Cond.instanceMethod yX2_isPresent, Cond.selects RX2 yX2_isPresent yX2_isPresent, Cond.code yX2_isPresent cX2_isPresent 2 (some .boolean), Cond.fieldLink RX2 16 "FlatLoader" "presentSet" "I", Cond.methodLink RX2 108 yX2_isIn, Cond.static yX2_isIn, Cond.code yX2_isIn cX2_isIn 2 (some .boolean), Cond.methodLink RX2 68 yX2_isLoaded, Cond.instanceMethod yX2_isLoaded, Cond.selects RX2 yX2_isLoaded yX2_isLoaded, Cond.code yX2_isLoaded cX2_isLoaded 2 (some .boolean), Cond.fieldLink RX2 20 "FlatLoader" "loadedSet" "I", Cond.methodLink RX2 104 yX2_loadableSet, Cond.instanceMethod yX2_loadableSet, Cond.selects RX2 yX2_loadableSet yX2_loadableSet, Cond.code yX2_loadableSet cX2_loadableSet 3 (some .int), Cond.methodLink RX2 166 yX2_withoutLacking, Cond.instanceMethod yX2_withoutLacking, Cond.selects RX2 yX2_withoutLacking yX2_withoutLacking]
def wsX2_state_r2 : List Cond := [Cond.code yX2_withoutLacking cX2_withoutLacking 4 (some .int), Cond.fieldLink RX2 11 "FlatLoader" "modules" "[LFlatLoader$OneModule;", Cond.methodLink RX2 56 yX2_bit, Cond.static yX2_bit, Cond.code yX2_bit cX2_bit 1 (some .int)]
def wsX2_state : List Cond := .code yX2_state cX2_state 2 (some .int) :: ((wsX2_state_r1 ++ wsX2_state_r2) ++ wsX20 ++ wsX00)
def wsX2_above : List Cond := .code yX2_above cX2_above 3 (some .int) :: ([.fieldLink RX2 11 "FlatLoader" "modules" "[LFlatLoader$OneModule;", .methodLink RX2 37 yX2_isModule, .static yX2_isModule, .initialized RX2, .code yX2_isModule cX2_isModule 1 (some .boolean), .methodLink RX2 60 yX2_isName, .static yX2_isName, .code yX2_isName cX2_isName 1 (some .boolean)] ++ wsX20 ++ wsX00)
def wsX2_defined : List Cond := .code yX2_defined cX2_defined 3 (some .int) :: ([.fieldLink RX2 11 "FlatLoader" "modules" "[LFlatLoader$OneModule;", .instanceMethod yX0_countClasses, .initialized RX0, .selects RX0 yX0_countClasses yX0_countClasses, .code yX0_countClasses cX0_countClasses 3 (some .int), .methodLink RX0 45 yX0_hasDefined, .instanceMethod yX0_hasDefined, .selects RX0 yX0_hasDefined yX0_hasDefined, .code yX0_hasDefined cX0_hasDefined 2 (some .boolean), .fieldLink RX0 15 "FlatLoader$OneModule" "definedAbove" "[I"] ++ wsX20 ++ wsX00)
def wsX3_init : List Cond := .code yX3_init cX3_init 2 none :: ([.methodLink RX3 1 objectInit, .instanceMethod objectInit, .code objectInit ⟨#[0xb1]⟩ 1 none, .arrayClass .boolean, .fieldLink RX3 7 "FlatLoaderModel" "present" "[Z", .fieldLink RX3 13 "FlatLoaderModel" "loaded" "[Z", .fieldLink RX3 16 "FlatLoaderModel" "loadable" "[Z", .arrayClass .int, .fieldLink RX3 19 "FlatLoaderModel" "files" "[I", .fieldLink RX3 23 "FlatLoaderModel" "extended" "[I", .fieldLink RX3 26 "FlatLoaderModel" "many" "[I", .fieldLink RX3 29 "FlatLoaderModel" "on" "[I", .fieldLink RX3 32 "FlatLoaderModel" "imports" "[I", .fieldLink RX3 35 "FlatLoaderModel" "exports" "[I", .fieldLink RX3 38 "FlatLoaderModel" "required" "[Z", .fieldLink RX3 41 "FlatLoaderModel" "row" "[I", .fieldLink RX3 44 "FlatLoaderModel" "begun" "[Z", .fieldLink RX3 47 "FlatLoaderModel" "come" "[Z", .fieldLink RX3 50 "FlatLoaderModel" "through" "[I", .fieldLink RX3 53 "FlatLoaderModel" "place" "[I", .fieldLink RX3 56 "FlatLoaderModel" "chain" "[I"] ++ wsX30)
def wsX3_thrown : List Cond := .code yX3_thrown cX3_thrown 1 (some .int) :: ([.fieldLink RX3 59 "FlatLoaderModel" "thrown" "I"] ++ wsX30)
def wsX3_throwsBy : List Cond := .code yX3_throwsBy cX3_throwsBy 2 (some .boolean) :: ([.fieldLink RX3 59 "FlatLoaderModel" "thrown" "I"] ++ wsX30)
def wsX3_in : List Cond := .code yX3_in cX3_in 3 (some .boolean) :: ([])
def wsX3_isModule : List Cond := .code yX3_isModule cX3_isModule 1 (some .boolean) :: ([.methodLink RX3 63 yX3_in, .static yX3_in, .initialized RX3, .code yX3_in cX3_in 3 (some .boolean)])
def wsX3_isPresent : List Cond := .code yX3_isPresent cX3_isPresent 2 (some .boolean) :: ([.fieldLink RX3 7 "FlatLoaderModel" "present" "[Z", .methodLink RX3 67 yX3_isModule, .static yX3_isModule, .initialized RX3, .code yX3_isModule cX3_isModule 1 (some .boolean), .methodLink RX3 63 yX3_in, .static yX3_in, .code yX3_in cX3_in 3 (some .boolean)] ++ wsX30)
def wsX3_isLoaded : List Cond := .code yX3_isLoaded cX3_isLoaded 2 (some .boolean) :: ([.fieldLink RX3 13 "FlatLoaderModel" "loaded" "[Z", .methodLink RX3 67 yX3_isModule, .static yX3_isModule, .initialized RX3, .code yX3_isModule cX3_isModule 1 (some .boolean), .methodLink RX3 63 yX3_in, .static yX3_in, .code yX3_in cX3_in 3 (some .boolean)] ++ wsX30)
def wsX3_present : List Cond := .code yX3_present cX3_present 2 none :: ([.fieldLink RX3 7 "FlatLoaderModel" "present" "[Z", .methodLink RX3 67 yX3_isModule, .static yX3_isModule, .initialized RX3, .code yX3_isModule cX3_isModule 1 (some .boolean), .methodLink RX3 63 yX3_in, .static yX3_in, .code yX3_in cX3_in 3 (some .boolean), .methodLink RX3 71 yX3_throwsBy, .instanceMethod yX3_throwsBy, .selects RX3 yX3_throwsBy yX3_throwsBy, .code yX3_throwsBy cX3_throwsBy 2 (some .boolean), .fieldLink RX3 59 "FlatLoaderModel" "thrown" "I"] ++ wsX30)
def wsX3_file : List Cond := .code yX3_file cX3_file 5 none :: ([.fieldLink RX3 13 "FlatLoaderModel" "loaded" "[Z", .fieldLink RX3 19 "FlatLoaderModel" "files" "[I", .methodLink RX3 74 yX3_isPresent, .instanceMethod yX3_isPresent, .selects RX3 yX3_isPresent yX3_isPresent, .initialized RX3, .code yX3_isPresent cX3_isPresent 2 (some .boolean), .fieldLink RX3 7 "FlatLoaderModel" "present" "[Z", .methodLink RX3 67 yX3_isModule, .static yX3_isModule, .code yX3_isModule cX3_isModule 1 (some .boolean), .methodLink RX3 63 yX3_in, .static yX3_in, .code yX3_in cX3_in 3 (some .boolean), .methodLink RX3 71 yX3_throwsBy, .instanceMethod yX3_throwsBy, .selects RX3 yX3_throwsBy yX3_throwsBy, .code yX3_throwsBy cX3_throwsBy 2 (some .boolean), .fieldLink RX3 59 "FlatLoaderModel" "thrown" "I"] ++ wsX30)
def wsX3_depend : List Cond := .code yX3_depend cX3_depend 9 (some .int) :: ([.fieldLink RX3 13 "FlatLoaderModel" "loaded" "[Z", .fieldLink RX3 26 "FlatLoaderModel" "many" "[I", .fieldLink RX3 29 "FlatLoaderModel" "on" "[I", .fieldLink RX3 32 "FlatLoaderModel" "imports" "[I", .fieldLink RX3 35 "FlatLoaderModel" "exports" "[I", .fieldLink RX3 38 "FlatLoaderModel" "required" "[Z", .methodLink RX3 74 yX3_isPresent, .instanceMethod yX3_isPresent, .selects RX3 yX3_isPresent yX3_isPresent, .initialized RX3, .code yX3_isPresent cX3_isPresent 2 (some .boolean), .fieldLink RX3 7 "FlatLoaderModel" "present" "[Z", .methodLink RX3 67 yX3_isModule, .static yX3_isModule, .code yX3_isModule cX3_isModule 1 (some .boolean), .methodLink RX3 63 yX3_in, .static yX3_in, .code yX3_in cX3_in 3 (some .boolean), .methodLink RX3 71 yX3_throwsBy, .instanceMethod yX3_throwsBy, .selects RX3 yX3_throwsBy yX3_throwsBy, .code yX3_throwsBy cX3_throwsBy 2 (some .boolean), .fieldLink RX3 59 "FlatLoaderModel" "thrown" "I"] ++ wsX30)
def wsX3_relink : List Cond := .code yX3_relink cX3_relink 3 (some .int) :: ([.fieldLink RX3 26 "FlatLoaderModel" "many" "[I", .methodLink RX3 74 yX3_isPresent, .instanceMethod yX3_isPresent, .selects RX3 yX3_isPresent yX3_isPresent, .initialized RX3, .code yX3_isPresent cX3_isPresent 2 (some .boolean), .fieldLink RX3 7 "FlatLoaderModel" "present" "[Z", .methodLink RX3 67 yX3_isModule, .static yX3_isModule, .code yX3_isModule cX3_isModule 1 (some .boolean), .methodLink RX3 63 yX3_in, .static yX3_in, .code yX3_in cX3_in 3 (some .boolean), .methodLink RX3 71 yX3_throwsBy, .instanceMethod yX3_throwsBy, .selects RX3 yX3_throwsBy yX3_throwsBy, .code yX3_throwsBy cX3_throwsBy 2 (some .boolean), .fieldLink RX3 59 "FlatLoaderModel" "thrown" "I"] ++ wsX30)
def wsX3_judge : List Cond := .code yX3_judge cX3_judge 4 none :: ([.fieldLink RX3 16 "FlatLoaderModel" "loadable" "[Z", .fieldLink RX3 7 "FlatLoaderModel" "present" "[Z", .fieldLink RX3 26 "FlatLoaderModel" "many" "[I", .fieldLink RX3 38 "FlatLoaderModel" "required" "[Z", .fieldLink RX3 29 "FlatLoaderModel" "on" "[I"] ++ wsX30)
def wsX3_load : List Cond := .code yX3_load cX3_load 4 (some .int) :: ([.fieldLink RX3 16 "FlatLoaderModel" "loadable" "[Z", .fieldLink RX3 47 "FlatLoaderModel" "come" "[Z", .fieldLink RX3 26 "FlatLoaderModel" "many" "[I", .fieldLink RX3 29 "FlatLoaderModel" "on" "[I", .fieldLink RX3 13 "FlatLoaderModel" "loaded" "[Z", .methodLink RX3 77 yX3_judge, .instanceMethod yX3_judge, .selects RX3 yX3_judge yX3_judge, .initialized RX3, .code yX3_judge cX3_judge 4 none, .fieldLink RX3 7 "FlatLoaderModel" "present" "[Z", .fieldLink RX3 38 "FlatLoaderModel" "required" "[Z", .methodLink RX3 67 yX3_isModule, .static yX3_isModule, .code yX3_isModule cX3_isModule 1 (some .boolean), .methodLink RX3 63 yX3_in, .static yX3_in, .code yX3_in cX3_in 3 (some .boolean), .methodLink RX3 71 yX3_throwsBy, .instanceMethod yX3_throwsBy, .selects RX3 yX3_throwsBy yX3_throwsBy, .code yX3_throwsBy cX3_throwsBy 2 (some .boolean), .fieldLink RX3 59 "FlatLoaderModel" "thrown" "I"] ++ wsX30)
def wsX3_isNeeded : List Cond := .code yX3_isNeeded cX3_isNeeded 5 (some .boolean) :: ([.fieldLink RX3 13 "FlatLoaderModel" "loaded" "[Z", .fieldLink RX3 26 "FlatLoaderModel" "many" "[I", .fieldLink RX3 38 "FlatLoaderModel" "required" "[Z", .fieldLink RX3 29 "FlatLoaderModel" "on" "[I", .fieldLink RX3 23 "FlatLoaderModel" "extended" "[I"] ++ wsX30)
def wsX3_unload_r1 : List Cond := [Cond.fieldLink RX3 23 "FlatLoaderModel" "extended" "[I", Cond.fieldLink RX3 86 "FlatLoaderModel" "classes" "I", Cond.fieldLink RX3 13 "FlatLoaderModel" "loaded" "[Z", Cond.methodLink RX3 80 yX3_isLoaded, Cond.instanceMethod yX3_isLoaded, Cond.selects RX3 yX3_isLoaded yX3_isLoaded, Cond.initialized RX3, Cond.code yX3_isLoaded cX3_isLoaded 2 (some .boolean), Cond.methodLink RX3 67 yX3_isModule, Cond.static yX3_isModule, Cond.code yX3_isModule cX3_isModule 1 (some .boolean), Cond.methodLink RX3 63 yX3_in, Cond.static yX3_in, Cond.code yX3_in cX3_in 3 (some .boolean), Cond.methodLink RX3 83 yX3_isNeeded, Cond.instanceMethod yX3_isNeeded, Cond.selects RX3 yX3_isNeeded yX3_isNeeded, Cond.code yX3_isNeeded cX3_isNeeded 5 (some .boolean), Cond.fieldLink RX3 26 "FlatLoaderModel" "many" "[I", Cond.fieldLink RX3 38 "FlatLoaderModel" "required" "[Z", Cond.fieldLink RX3 29 "FlatLoaderModel" "on" "[I", Cond.methodLink RX3 71 yX3_throwsBy, Cond.instanceMethod yX3_throwsBy, Cond.selects RX3 yX3_throwsBy yX3_throwsBy]
def wsX3_unload_r2 : List Cond := [Cond.code yX3_throwsBy cX3_throwsBy 2 (some .boolean), Cond.fieldLink RX3 59 "FlatLoaderModel" "thrown" "I"]
def wsX3_unload : List Cond := .code yX3_unload cX3_unload 4 (some .int) :: ((wsX3_unload_r1 ++ wsX3_unload_r2) ++ wsX30)
def wsX3_hasPath : List Cond := .code yX3_hasPath cX3_hasPath 5 (some .boolean) :: ([.fieldLink RX3 19 "FlatLoaderModel" "files" "[I"] ++ wsX30)
def wsX3_append : List Cond := .code yX3_append cX3_append 4 none :: ([.fieldLink RX3 89 "FlatLoaderModel" "size" "I", .fieldLink RX3 41 "FlatLoaderModel" "row" "[I"] ++ wsX30)
def wsX3_see : List Cond := .code yX3_see cX3_see 7 none :: ([.fieldLink RX3 89 "FlatLoaderModel" "size" "I", .fieldLink RX3 44 "FlatLoaderModel" "begun" "[Z", .fieldLink RX3 50 "FlatLoaderModel" "through" "[I", .fieldLink RX3 53 "FlatLoaderModel" "place" "[I", .fieldLink RX3 26 "FlatLoaderModel" "many" "[I", .fieldLink RX3 29 "FlatLoaderModel" "on" "[I", .fieldLink RX3 13 "FlatLoaderModel" "loaded" "[Z", .fieldLink RX3 32 "FlatLoaderModel" "imports" "[I", .fieldLink RX3 35 "FlatLoaderModel" "exports" "[I", .methodLink RX3 92 yX3_hasPath, .instanceMethod yX3_hasPath, .selects RX3 yX3_hasPath yX3_hasPath, .initialized RX3, .code yX3_hasPath cX3_hasPath 5 (some .boolean), .fieldLink RX3 19 "FlatLoaderModel" "files" "[I", .methodLink RX3 96 yX3_append, .instanceMethod yX3_append, .selects RX3 yX3_append yX3_append, .code yX3_append cX3_append 4 none, .fieldLink RX3 41 "FlatLoaderModel" "row" "[I"] ++ wsX30)
def wsX3_holder : List Cond := .code yX3_holder cX3_holder 5 (some .int) :: ([.fieldLink RX3 89 "FlatLoaderModel" "size" "I", .fieldLink RX3 19 "FlatLoaderModel" "files" "[I", .fieldLink RX3 41 "FlatLoaderModel" "row" "[I", .methodLink RX3 100 yX3_see, .instanceMethod yX3_see, .selects RX3 yX3_see yX3_see, .initialized RX3, .code yX3_see cX3_see 7 none, .fieldLink RX3 44 "FlatLoaderModel" "begun" "[Z", .fieldLink RX3 50 "FlatLoaderModel" "through" "[I", .fieldLink RX3 53 "FlatLoaderModel" "place" "[I", .fieldLink RX3 26 "FlatLoaderModel" "many" "[I", .fieldLink RX3 29 "FlatLoaderModel" "on" "[I", .fieldLink RX3 13 "FlatLoaderModel" "loaded" "[Z", .fieldLink RX3 32 "FlatLoaderModel" "imports" "[I", .fieldLink RX3 35 "FlatLoaderModel" "exports" "[I", .methodLink RX3 92 yX3_hasPath, .instanceMethod yX3_hasPath, .selects RX3 yX3_hasPath yX3_hasPath, .code yX3_hasPath cX3_hasPath 5 (some .boolean), .methodLink RX3 96 yX3_append, .instanceMethod yX3_append, .selects RX3 yX3_append yX3_append, .code yX3_append cX3_append 4 none] ++ wsX30)
def wsX3_needs_r1 : List Cond := [Cond.fieldLink RX3 23 "FlatLoaderModel" "extended" "[I", Cond.fieldLink RX3 56 "FlatLoaderModel" "chain" "[I", Cond.fieldLink RX3 19 "FlatLoaderModel" "files" "[I", Cond.methodLink RX3 104 yX3_holder, Cond.instanceMethod yX3_holder, Cond.selects RX3 yX3_holder yX3_holder, Cond.initialized RX3, Cond.code yX3_holder cX3_holder 5 (some .int), Cond.fieldLink RX3 89 "FlatLoaderModel" "size" "I", Cond.fieldLink RX3 41 "FlatLoaderModel" "row" "[I", Cond.methodLink RX3 100 yX3_see, Cond.instanceMethod yX3_see, Cond.selects RX3 yX3_see yX3_see, Cond.code yX3_see cX3_see 7 none, Cond.fieldLink RX3 44 "FlatLoaderModel" "begun" "[Z", Cond.fieldLink RX3 50 "FlatLoaderModel" "through" "[I", Cond.fieldLink RX3 53 "FlatLoaderModel" "place" "[I", Cond.fieldLink RX3 26 "FlatLoaderModel" "many" "[I", Cond.fieldLink RX3 29 "FlatLoaderModel" "on" "[I", Cond.fieldLink RX3 13 "FlatLoaderModel" "loaded" "[Z", Cond.fieldLink RX3 32 "FlatLoaderModel" "imports" "[I", Cond.fieldLink RX3 35 "FlatLoaderModel" "exports" "[I", Cond.methodLink RX3 92 yX3_hasPath, Cond.instanceMethod yX3_hasPath]
def wsX3_needs_r2 : List Cond := [Cond.selects RX3 yX3_hasPath yX3_hasPath, Cond.code yX3_hasPath cX3_hasPath 5 (some .boolean), Cond.methodLink RX3 96 yX3_append, Cond.instanceMethod yX3_append, Cond.selects RX3 yX3_append yX3_append, Cond.code yX3_append cX3_append 4 none]
def wsX3_needs : List Cond := .code yX3_needs cX3_needs 9 (some .int) :: ((wsX3_needs_r1 ++ wsX3_needs_r2) ++ wsX30)
def wsX3_define_r1 : List Cond := [Cond.fieldLink RX3 19 "FlatLoaderModel" "files" "[I", Cond.fieldLink RX3 23 "FlatLoaderModel" "extended" "[I", Cond.fieldLink RX3 86 "FlatLoaderModel" "classes" "I", Cond.methodLink RX3 104 yX3_holder, Cond.instanceMethod yX3_holder, Cond.selects RX3 yX3_holder yX3_holder, Cond.initialized RX3, Cond.code yX3_holder cX3_holder 5 (some .int), Cond.fieldLink RX3 89 "FlatLoaderModel" "size" "I", Cond.fieldLink RX3 41 "FlatLoaderModel" "row" "[I", Cond.methodLink RX3 100 yX3_see, Cond.instanceMethod yX3_see, Cond.selects RX3 yX3_see yX3_see, Cond.code yX3_see cX3_see 7 none, Cond.fieldLink RX3 44 "FlatLoaderModel" "begun" "[Z", Cond.fieldLink RX3 50 "FlatLoaderModel" "through" "[I", Cond.fieldLink RX3 53 "FlatLoaderModel" "place" "[I", Cond.fieldLink RX3 26 "FlatLoaderModel" "many" "[I", Cond.fieldLink RX3 29 "FlatLoaderModel" "on" "[I", Cond.fieldLink RX3 13 "FlatLoaderModel" "loaded" "[Z", Cond.fieldLink RX3 32 "FlatLoaderModel" "imports" "[I", Cond.fieldLink RX3 35 "FlatLoaderModel" "exports" "[I", Cond.methodLink RX3 92 yX3_hasPath, Cond.instanceMethod yX3_hasPath]
def wsX3_define_r2 : List Cond := [Cond.selects RX3 yX3_hasPath yX3_hasPath, Cond.code yX3_hasPath cX3_hasPath 5 (some .boolean), Cond.methodLink RX3 96 yX3_append, Cond.instanceMethod yX3_append, Cond.selects RX3 yX3_append yX3_append, Cond.code yX3_append cX3_append 4 none]
def wsX3_define : List Cond := .code yX3_define cX3_define 3 none :: ((wsX3_define_r1 ++ wsX3_define_r2) ++ wsX30)
def wsX3_find_r1 : List Cond := [Cond.fieldLink RX3 56 "FlatLoaderModel" "chain" "[I", Cond.methodLink RX3 80 yX3_isLoaded, Cond.instanceMethod yX3_isLoaded, Cond.selects RX3 yX3_isLoaded yX3_isLoaded, Cond.initialized RX3, Cond.code yX3_isLoaded cX3_isLoaded 2 (some .boolean), Cond.fieldLink RX3 13 "FlatLoaderModel" "loaded" "[Z", Cond.methodLink RX3 67 yX3_isModule, Cond.static yX3_isModule, Cond.code yX3_isModule cX3_isModule 1 (some .boolean), Cond.methodLink RX3 63 yX3_in, Cond.static yX3_in, Cond.code yX3_in cX3_in 3 (some .boolean), Cond.methodLink RX3 104 yX3_holder, Cond.instanceMethod yX3_holder, Cond.selects RX3 yX3_holder yX3_holder, Cond.code yX3_holder cX3_holder 5 (some .int), Cond.fieldLink RX3 89 "FlatLoaderModel" "size" "I", Cond.fieldLink RX3 19 "FlatLoaderModel" "files" "[I", Cond.fieldLink RX3 41 "FlatLoaderModel" "row" "[I", Cond.methodLink RX3 100 yX3_see, Cond.instanceMethod yX3_see, Cond.selects RX3 yX3_see yX3_see, Cond.code yX3_see cX3_see 7 none]
def wsX3_find_r2 : List Cond := [Cond.fieldLink RX3 44 "FlatLoaderModel" "begun" "[Z", Cond.fieldLink RX3 50 "FlatLoaderModel" "through" "[I", Cond.fieldLink RX3 53 "FlatLoaderModel" "place" "[I", Cond.fieldLink RX3 26 "FlatLoaderModel" "many" "[I", Cond.fieldLink RX3 29 "FlatLoaderModel" "on" "[I", Cond.fieldLink RX3 32 "FlatLoaderModel" "imports" "[I", Cond.fieldLink RX3 35 "FlatLoaderModel" "exports" "[I", Cond.methodLink RX3 92 yX3_hasPath, Cond.instanceMethod yX3_hasPath, Cond.selects RX3 yX3_hasPath yX3_hasPath, Cond.code yX3_hasPath cX3_hasPath 5 (some .boolean), Cond.methodLink RX3 96 yX3_append, Cond.instanceMethod yX3_append, Cond.selects RX3 yX3_append yX3_append, Cond.code yX3_append cX3_append 4 none, Cond.methodLink RX3 108 yX3_needs, Cond.instanceMethod yX3_needs, Cond.selects RX3 yX3_needs yX3_needs, Cond.code yX3_needs cX3_needs 9 (some .int), Cond.fieldLink RX3 23 "FlatLoaderModel" "extended" "[I", Cond.methodLink RX3 71 yX3_throwsBy, Cond.instanceMethod yX3_throwsBy, Cond.selects RX3 yX3_throwsBy yX3_throwsBy, Cond.code yX3_throwsBy cX3_throwsBy 2 (some .boolean)]
def wsX3_find_r3 : List Cond := [Cond.fieldLink RX3 59 "FlatLoaderModel" "thrown" "I", Cond.methodLink RX3 111 yX3_define, Cond.instanceMethod yX3_define, Cond.selects RX3 yX3_define yX3_define, Cond.code yX3_define cX3_define 3 none, Cond.fieldLink RX3 86 "FlatLoaderModel" "classes" "I"]
def wsX3_find : List Cond := .code yX3_find cX3_find 7 (some .int) :: ((wsX3_find_r1 ++ (wsX3_find_r2 ++ wsX3_find_r3)) ++ wsX30)
def wsX3_visible_r1 : List Cond := [Cond.fieldLink RX3 59 "FlatLoaderModel" "thrown" "I", Cond.fieldLink RX3 89 "FlatLoaderModel" "size" "I", Cond.fieldLink RX3 41 "FlatLoaderModel" "row" "[I", Cond.methodLink RX3 80 yX3_isLoaded, Cond.instanceMethod yX3_isLoaded, Cond.selects RX3 yX3_isLoaded yX3_isLoaded, Cond.initialized RX3, Cond.code yX3_isLoaded cX3_isLoaded 2 (some .boolean), Cond.fieldLink RX3 13 "FlatLoaderModel" "loaded" "[Z", Cond.methodLink RX3 67 yX3_isModule, Cond.static yX3_isModule, Cond.code yX3_isModule cX3_isModule 1 (some .boolean), Cond.methodLink RX3 63 yX3_in, Cond.static yX3_in, Cond.code yX3_in cX3_in 3 (some .boolean), Cond.methodLink RX3 100 yX3_see, Cond.instanceMethod yX3_see, Cond.selects RX3 yX3_see yX3_see, Cond.code yX3_see cX3_see 7 none, Cond.fieldLink RX3 44 "FlatLoaderModel" "begun" "[Z", Cond.fieldLink RX3 50 "FlatLoaderModel" "through" "[I", Cond.fieldLink RX3 53 "FlatLoaderModel" "place" "[I", Cond.fieldLink RX3 26 "FlatLoaderModel" "many" "[I", Cond.fieldLink RX3 29 "FlatLoaderModel" "on" "[I"]
def wsX3_visible_r2 : List Cond := [Cond.fieldLink RX3 32 "FlatLoaderModel" "imports" "[I", Cond.fieldLink RX3 35 "FlatLoaderModel" "exports" "[I", Cond.methodLink RX3 92 yX3_hasPath, Cond.instanceMethod yX3_hasPath, Cond.selects RX3 yX3_hasPath yX3_hasPath, Cond.code yX3_hasPath cX3_hasPath 5 (some .boolean), Cond.fieldLink RX3 19 "FlatLoaderModel" "files" "[I", Cond.methodLink RX3 96 yX3_append, Cond.instanceMethod yX3_append, Cond.selects RX3 yX3_append yX3_append, Cond.code yX3_append cX3_append 4 none]
def wsX3_visible : List Cond := .code yX3_visible cX3_visible 4 (some .int) :: ((wsX3_visible_r1 ++ wsX3_visible_r2) ++ wsX30)
def wsX3_why_r1 : List Cond := [Cond.fieldLink RX3 59 "FlatLoaderModel" "thrown" "I", Cond.fieldLink RX3 19 "FlatLoaderModel" "files" "[I", Cond.fieldLink RX3 13 "FlatLoaderModel" "loaded" "[Z", Cond.methodLink RX3 80 yX3_isLoaded, Cond.instanceMethod yX3_isLoaded, Cond.selects RX3 yX3_isLoaded yX3_isLoaded, Cond.initialized RX3, Cond.code yX3_isLoaded cX3_isLoaded 2 (some .boolean), Cond.methodLink RX3 67 yX3_isModule, Cond.static yX3_isModule, Cond.code yX3_isModule cX3_isModule 1 (some .boolean), Cond.methodLink RX3 63 yX3_in, Cond.static yX3_in, Cond.code yX3_in cX3_in 3 (some .boolean), Cond.methodLink RX3 104 yX3_holder, Cond.instanceMethod yX3_holder, Cond.selects RX3 yX3_holder yX3_holder, Cond.code yX3_holder cX3_holder 5 (some .int), Cond.fieldLink RX3 89 "FlatLoaderModel" "size" "I", Cond.fieldLink RX3 41 "FlatLoaderModel" "row" "[I", Cond.methodLink RX3 100 yX3_see, Cond.instanceMethod yX3_see, Cond.selects RX3 yX3_see yX3_see, Cond.code yX3_see cX3_see 7 none]
def wsX3_why_r2 : List Cond := [Cond.fieldLink RX3 44 "FlatLoaderModel" "begun" "[Z", Cond.fieldLink RX3 50 "FlatLoaderModel" "through" "[I", Cond.fieldLink RX3 53 "FlatLoaderModel" "place" "[I", Cond.fieldLink RX3 26 "FlatLoaderModel" "many" "[I", Cond.fieldLink RX3 29 "FlatLoaderModel" "on" "[I", Cond.fieldLink RX3 32 "FlatLoaderModel" "imports" "[I", Cond.fieldLink RX3 35 "FlatLoaderModel" "exports" "[I", Cond.methodLink RX3 92 yX3_hasPath, Cond.instanceMethod yX3_hasPath, Cond.selects RX3 yX3_hasPath yX3_hasPath, Cond.code yX3_hasPath cX3_hasPath 5 (some .boolean), Cond.methodLink RX3 96 yX3_append, Cond.instanceMethod yX3_append, Cond.selects RX3 yX3_append yX3_append, Cond.code yX3_append cX3_append 4 none]
def wsX3_why : List Cond := .code yX3_why cX3_why 6 (some .int) :: ((wsX3_why_r1 ++ wsX3_why_r2) ++ wsX30)
def wsX3_state : List Cond := .code yX3_state cX3_state 2 (some .int) :: ([.fieldLink RX3 59 "FlatLoaderModel" "thrown" "I", .fieldLink RX3 13 "FlatLoaderModel" "loaded" "[Z", .fieldLink RX3 16 "FlatLoaderModel" "loadable" "[Z", .fieldLink RX3 7 "FlatLoaderModel" "present" "[Z", .methodLink RX3 67 yX3_isModule, .static yX3_isModule, .initialized RX3, .code yX3_isModule cX3_isModule 1 (some .boolean), .methodLink RX3 63 yX3_in, .static yX3_in, .code yX3_in cX3_in 3 (some .boolean), .methodLink RX3 77 yX3_judge, .instanceMethod yX3_judge, .selects RX3 yX3_judge yX3_judge, .code yX3_judge cX3_judge 4 none, .fieldLink RX3 26 "FlatLoaderModel" "many" "[I", .fieldLink RX3 38 "FlatLoaderModel" "required" "[Z", .fieldLink RX3 29 "FlatLoaderModel" "on" "[I"] ++ wsX30)
def wsX3_above : List Cond := .code yX3_above cX3_above 3 (some .int) :: ([.fieldLink RX3 59 "FlatLoaderModel" "thrown" "I", .fieldLink RX3 23 "FlatLoaderModel" "extended" "[I", .methodLink RX3 67 yX3_isModule, .static yX3_isModule, .initialized RX3, .code yX3_isModule cX3_isModule 1 (some .boolean), .methodLink RX3 63 yX3_in, .static yX3_in, .code yX3_in cX3_in 3 (some .boolean)] ++ wsX30)
def wsX3_defined : List Cond := .code yX3_defined cX3_defined 1 (some .int) :: ([.fieldLink RX3 59 "FlatLoaderModel" "thrown" "I", .fieldLink RX3 86 "FlatLoaderModel" "classes" "I"] ++ wsX30)
def wsL_present_r1 : List Cond := [Cond.classLink RL 13 "java/lang/IllegalArgumentException", Cond.classLink RL 15 "java/lang/IllegalStateException", Cond.methodLink RL 7 yX2_present, Cond.instanceMethod yX2_present, Cond.selects RX2 yX2_present yX2_present, Cond.initialized RX2, Cond.code yX2_present cX2_present 2 none, Cond.classLink RX2 41 "java/lang/IllegalArgumentException", Cond.initialized "java/lang/IllegalArgumentException", Cond.classLink RX2 51 "java/lang/IllegalStateException", Cond.initialized "java/lang/IllegalStateException", Cond.fieldLink RX2 16 "FlatLoader" "presentSet" "I", Cond.methodLink RX2 37 yX2_isModule, Cond.static yX2_isModule, Cond.code yX2_isModule cX2_isModule 1 (some .boolean), Cond.methodLink RX2 48 yX2_isPresent, Cond.instanceMethod yX2_isPresent, Cond.selects RX2 yX2_isPresent yX2_isPresent, Cond.code yX2_isPresent cX2_isPresent 2 (some .boolean), Cond.methodLink RX2 108 yX2_isIn, Cond.static yX2_isIn, Cond.code yX2_isIn cX2_isIn 2 (some .boolean), Cond.methodLink RX2 56 yX2_bit, Cond.static yX2_bit]
def wsL_present_r2 : List Cond := [Cond.code yX2_bit cX2_bit 1 (some .int)]
def wsL_present : List Cond := .codeWith yL_present cL_present 3 (some .int) [(0, 5, 8, 13), (0, 5, 11, 15)] :: ((wsL_present_r1 ++ wsL_present_r2) ++ wsX20 ++ (vx_atS RX2 45 "java/lang/IllegalArgumentException" ["java/lang/RuntimeException", "java/lang/Exception"]).filter goodWord ++ (vx_atS RX2 55 "java/lang/IllegalStateException" ["java/lang/RuntimeException", "java/lang/Exception"]).filter goodWord)
def wsL_file_r1 : List Cond := [Cond.classLink RL 13 "java/lang/IllegalArgumentException", Cond.classLink RL 15 "java/lang/IllegalStateException", Cond.methodLink RL 17 yX2_file, Cond.instanceMethod yX2_file, Cond.selects RX2 yX2_file yX2_file, Cond.initialized RX2, Cond.code yX2_file cX2_file 4 none, Cond.classLink RX2 41 "java/lang/IllegalArgumentException", Cond.initialized "java/lang/IllegalArgumentException", Cond.classLink RX2 51 "java/lang/IllegalStateException", Cond.initialized "java/lang/IllegalStateException", Cond.fieldLink RX2 11 "FlatLoader" "modules" "[LFlatLoader$OneModule;", Cond.methodLink RX2 48 yX2_isPresent, Cond.instanceMethod yX2_isPresent, Cond.selects RX2 yX2_isPresent yX2_isPresent, Cond.code yX2_isPresent cX2_isPresent 2 (some .boolean), Cond.fieldLink RX2 16 "FlatLoader" "presentSet" "I", Cond.methodLink RX2 37 yX2_isModule, Cond.static yX2_isModule, Cond.code yX2_isModule cX2_isModule 1 (some .boolean), Cond.methodLink RX2 108 yX2_isIn, Cond.static yX2_isIn, Cond.code yX2_isIn cX2_isIn 2 (some .boolean), Cond.methodLink RX2 60 yX2_isName]
def wsL_file_r2 : List Cond := [Cond.static yX2_isName, Cond.code yX2_isName cX2_isName 1 (some .boolean), Cond.methodLink RX2 63 yX2_isExtended, Cond.static yX2_isExtended, Cond.code yX2_isExtended cX2_isExtended 1 (some .boolean), Cond.methodLink RX2 68 yX2_isLoaded, Cond.instanceMethod yX2_isLoaded, Cond.selects RX2 yX2_isLoaded yX2_isLoaded, Cond.code yX2_isLoaded cX2_isLoaded 2 (some .boolean), Cond.fieldLink RX2 20 "FlatLoader" "loadedSet" "I", Cond.instanceMethod yX0_holds, Cond.initialized RX0, Cond.selects RX0 yX0_holds yX0_holds, Cond.code yX0_holds cX0_holds 2 (some .boolean), Cond.fieldLink RX0 9 "FlatLoader$OneModule" "extended" "[I"]
def wsL_file : List Cond := .codeWith yL_file cL_file 5 (some .int) [(0, 7, 10, 13), (0, 7, 14, 15)] :: ((wsL_file_r1 ++ wsL_file_r2) ++ wsX20 ++ wsX00 ++ (vx_atS RX2 45 "java/lang/IllegalArgumentException" ["java/lang/RuntimeException", "java/lang/Exception"]).filter goodWord ++ (vx_atS RX2 55 "java/lang/IllegalStateException" ["java/lang/RuntimeException", "java/lang/Exception"]).filter goodWord)
def wsL_depend_r1 : List Cond := [Cond.classLink RL 13 "java/lang/IllegalArgumentException", Cond.classLink RL 15 "java/lang/IllegalStateException", Cond.methodLink RL 21 yX2_depend, Cond.instanceMethod yX2_depend, Cond.selects RX2 yX2_depend yX2_depend, Cond.initialized RX2, Cond.code yX2_depend cX2_depend 6 (some .int), Cond.classLink RX2 41 "java/lang/IllegalArgumentException", Cond.initialized "java/lang/IllegalArgumentException", Cond.classLink RX2 51 "java/lang/IllegalStateException", Cond.initialized "java/lang/IllegalStateException", Cond.fieldLink RX2 11 "FlatLoader" "modules" "[LFlatLoader$OneModule;", Cond.methodLink RX2 48 yX2_isPresent, Cond.instanceMethod yX2_isPresent, Cond.selects RX2 yX2_isPresent yX2_isPresent, Cond.code yX2_isPresent cX2_isPresent 2 (some .boolean), Cond.fieldLink RX2 16 "FlatLoader" "presentSet" "I", Cond.methodLink RX2 37 yX2_isModule, Cond.static yX2_isModule, Cond.code yX2_isModule cX2_isModule 1 (some .boolean), Cond.methodLink RX2 108 yX2_isIn, Cond.static yX2_isIn, Cond.code yX2_isIn cX2_isIn 2 (some .boolean), Cond.methodLink RX2 79 yX2_canDependOn]
def wsL_depend_r2 : List Cond := [Cond.static yX2_canDependOn, Cond.code yX2_canDependOn cX2_canDependOn 2 (some .boolean), Cond.methodLink RX2 83 yX2_isPathSet, Cond.static yX2_isPathSet, Cond.code yX2_isPathSet cX2_isPathSet 1 (some .boolean), Cond.methodLink RX2 68 yX2_isLoaded, Cond.instanceMethod yX2_isLoaded, Cond.selects RX2 yX2_isLoaded yX2_isLoaded, Cond.code yX2_isLoaded cX2_isLoaded 2 (some .boolean), Cond.fieldLink RX2 20 "FlatLoader" "loadedSet" "I", Cond.instanceMethod yX0_addDependency, Cond.initialized RX0, Cond.selects RX0 yX0_addDependency yX0_addDependency, Cond.code yX0_addDependency cX0_addDependency 5 none, Cond.fieldLink RX0 18 "FlatLoader$OneModule" "on" "[I", Cond.fieldLink RX0 27 "FlatLoader$OneModule" "dependencies" "I", Cond.fieldLink RX0 21 "FlatLoader$OneModule" "imports" "[I", Cond.fieldLink RX0 24 "FlatLoader$OneModule" "exports" "[I", Cond.fieldLink RX0 31 "FlatLoader$OneModule" "dependedSet" "I", Cond.fieldLink RX0 34 "FlatLoader$OneModule" "requiredSet" "I", Cond.static yX2_bit, Cond.code yX2_bit cX2_bit 1 (some .int)]
def wsL_depend : List Cond := .codeWith yL_depend cL_depend 8 (some .int) [(0, 16, 19, 13), (0, 16, 23, 15)] :: ((wsL_depend_r1 ++ wsL_depend_r2) ++ wsX20 ++ wsX00 ++ (vx_atS RX2 45 "java/lang/IllegalArgumentException" ["java/lang/RuntimeException", "java/lang/Exception"]).filter goodWord ++ (vx_atS RX2 55 "java/lang/IllegalStateException" ["java/lang/RuntimeException", "java/lang/Exception"]).filter goodWord)
def wsL_relink_r1 : List Cond := [Cond.classLink RL 13 "java/lang/IllegalArgumentException", Cond.methodLink RL 25 yX2_relink, Cond.instanceMethod yX2_relink, Cond.selects RX2 yX2_relink yX2_relink, Cond.initialized RX2, Cond.code yX2_relink cX2_relink 3 (some .int), Cond.classLink RX2 41 "java/lang/IllegalArgumentException", Cond.initialized "java/lang/IllegalArgumentException", Cond.fieldLink RX2 11 "FlatLoader" "modules" "[LFlatLoader$OneModule;", Cond.methodLink RX2 48 yX2_isPresent, Cond.instanceMethod yX2_isPresent, Cond.selects RX2 yX2_isPresent yX2_isPresent, Cond.code yX2_isPresent cX2_isPresent 2 (some .boolean), Cond.fieldLink RX2 16 "FlatLoader" "presentSet" "I", Cond.methodLink RX2 37 yX2_isModule, Cond.static yX2_isModule, Cond.code yX2_isModule cX2_isModule 1 (some .boolean), Cond.methodLink RX2 108 yX2_isIn, Cond.static yX2_isIn, Cond.code yX2_isIn cX2_isIn 2 (some .boolean), Cond.instanceMethod yX0_dropDependencies, Cond.initialized RX0, Cond.selects RX0 yX0_dropDependencies yX0_dropDependencies, Cond.code yX0_dropDependencies cX0_dropDependencies 1 none]
def wsL_relink_r2 : List Cond := [Cond.fieldLink RX0 27 "FlatLoader$OneModule" "dependencies" "I", Cond.fieldLink RX0 31 "FlatLoader$OneModule" "dependedSet" "I", Cond.fieldLink RX0 34 "FlatLoader$OneModule" "requiredSet" "I"]
def wsL_relink : List Cond := .codeWith yL_relink cL_relink 4 (some .int) [(0, 9, 12, 13)] :: ((wsL_relink_r1 ++ wsL_relink_r2) ++ wsX20 ++ wsX00 ++ (vx_atS RX2 45 "java/lang/IllegalArgumentException" ["java/lang/RuntimeException", "java/lang/Exception"]).filter goodWord)
def wsL_load_r1 : List Cond := [Cond.classLink RL 13 "java/lang/IllegalArgumentException", Cond.classLink RL 32 "java/util/NoSuchElementException", Cond.methodLink RL 29 yX2_load, Cond.instanceMethod yX2_load, Cond.selects RX2 yX2_load yX2_load, Cond.initialized RX2, Cond.code yX2_load cX2_load 4 (some .int), Cond.classLink RX2 41 "java/lang/IllegalArgumentException", Cond.initialized "java/lang/IllegalArgumentException", Cond.classLink RX2 111 "java/util/NoSuchElementException", Cond.initialized "java/util/NoSuchElementException", Cond.fieldLink RX2 20 "FlatLoader" "loadedSet" "I", Cond.methodLink RX2 37 yX2_isModule, Cond.static yX2_isModule, Cond.code yX2_isModule cX2_isModule 1 (some .boolean), Cond.methodLink RX2 104 yX2_loadableSet, Cond.instanceMethod yX2_loadableSet, Cond.selects RX2 yX2_loadableSet yX2_loadableSet, Cond.code yX2_loadableSet cX2_loadableSet 3 (some .int), Cond.fieldLink RX2 16 "FlatLoader" "presentSet" "I", Cond.methodLink RX2 166 yX2_withoutLacking, Cond.instanceMethod yX2_withoutLacking, Cond.selects RX2 yX2_withoutLacking yX2_withoutLacking, Cond.code yX2_withoutLacking cX2_withoutLacking 4 (some .int)]
def wsL_load_r2 : List Cond := [Cond.fieldLink RX2 11 "FlatLoader" "modules" "[LFlatLoader$OneModule;", Cond.methodLink RX2 56 yX2_bit, Cond.static yX2_bit, Cond.code yX2_bit cX2_bit 1 (some .int), Cond.methodLink RX2 108 yX2_isIn, Cond.static yX2_isIn, Cond.code yX2_isIn cX2_isIn 2 (some .boolean), Cond.methodLink RX2 116 yX2_reachedSet, Cond.instanceMethod yX2_reachedSet, Cond.selects RX2 yX2_reachedSet yX2_reachedSet, Cond.code yX2_reachedSet cX2_reachedSet 5 (some .int), Cond.methodLink RX2 172 yX2_nextTo, Cond.instanceMethod yX2_nextTo, Cond.selects RX2 yX2_nextTo yX2_nextTo, Cond.code yX2_nextTo cX2_nextTo 4 (some .int), Cond.methodLink RX2 120 yJ6_bitCount_0f7a4, Cond.static yJ6_bitCount_0f7a4, Cond.initialized RJ6, Cond.code yJ6_bitCount_0f7a4 cJ6_bitCount_0f7a4 1 (some .int), Cond.constant RJ6 265 (1431655765), Cond.constant RJ6 266 (858993459), Cond.constant RJ6 267 (252645135)]
def wsL_load : List Cond := .codeWith yL_load cL_load 4 (some .int) [(0, 9, 12, 13), (0, 9, 15, 32)] :: ((wsL_load_r1 ++ wsL_load_r2) ++ wsX20 ++ wsX00 ++ (vx_atS RX2 45 "java/lang/IllegalArgumentException" ["java/lang/RuntimeException", "java/lang/Exception"]).filter goodWord ++ (vx_atS RX2 115 "java/util/NoSuchElementException" ["java/lang/RuntimeException", "java/lang/Exception"]).filter goodWord)
def wsL_unload_r1 : List Cond := [Cond.classLink RL 13 "java/lang/IllegalArgumentException", Cond.classLink RL 15 "java/lang/IllegalStateException", Cond.methodLink RL 34 yX2_unload, Cond.instanceMethod yX2_unload, Cond.selects RX2 yX2_unload yX2_unload, Cond.initialized RX2, Cond.code yX2_unload cX2_unload 3 (some .int), Cond.classLink RX2 41 "java/lang/IllegalArgumentException", Cond.initialized "java/lang/IllegalArgumentException", Cond.classLink RX2 51 "java/lang/IllegalStateException", Cond.initialized "java/lang/IllegalStateException", Cond.fieldLink RX2 11 "FlatLoader" "modules" "[LFlatLoader$OneModule;", Cond.fieldLink RX2 20 "FlatLoader" "loadedSet" "I", Cond.methodLink RX2 68 yX2_isLoaded, Cond.instanceMethod yX2_isLoaded, Cond.selects RX2 yX2_isLoaded yX2_isLoaded, Cond.code yX2_isLoaded cX2_isLoaded 2 (some .boolean), Cond.methodLink RX2 37 yX2_isModule, Cond.static yX2_isModule, Cond.code yX2_isModule cX2_isModule 1 (some .boolean), Cond.methodLink RX2 108 yX2_isIn, Cond.static yX2_isIn, Cond.code yX2_isIn cX2_isIn 2 (some .boolean), Cond.methodLink RX2 127 yX2_isHeldByAnother]
def wsL_unload_r2 : List Cond := [Cond.instanceMethod yX2_isHeldByAnother, Cond.selects RX2 yX2_isHeldByAnother yX2_isHeldByAnother, Cond.code yX2_isHeldByAnother cX2_isHeldByAnother 3 (some .boolean), Cond.instanceMethod yX0_hasClassBelow, Cond.initialized RX0, Cond.selects RX0 yX0_hasClassBelow yX0_hasClassBelow, Cond.code yX0_hasClassBelow cX0_hasClassBelow 3 (some .boolean), Cond.fieldLink RX0 15 "FlatLoader$OneModule" "definedAbove" "[I", Cond.instanceMethod yX0_countClasses, Cond.selects RX0 yX0_countClasses yX0_countClasses, Cond.code yX0_countClasses cX0_countClasses 3 (some .int), Cond.methodLink RX0 45 yX0_hasDefined, Cond.instanceMethod yX0_hasDefined, Cond.selects RX0 yX0_hasDefined yX0_hasDefined, Cond.code yX0_hasDefined cX0_hasDefined 2 (some .boolean), Cond.instanceMethod yX0_dropClasses, Cond.selects RX0 yX0_dropClasses yX0_dropClasses, Cond.code yX0_dropClasses cX0_dropClasses 2 none, Cond.methodLink RX2 56 yX2_bit, Cond.static yX2_bit, Cond.code yX2_bit cX2_bit 1 (some .int)]
def wsL_unload : List Cond := .codeWith yL_unload cL_unload 4 (some .int) [(0, 9, 12, 13), (0, 9, 15, 15)] :: ((wsL_unload_r1 ++ wsL_unload_r2) ++ wsX20 ++ wsX00 ++ (vx_atS RX2 45 "java/lang/IllegalArgumentException" ["java/lang/RuntimeException", "java/lang/Exception"]).filter goodWord ++ (vx_atS RX2 55 "java/lang/IllegalStateException" ["java/lang/RuntimeException", "java/lang/Exception"]).filter goodWord)
def wsL_find_r1 : List Cond := [Cond.classLink RL 13 "java/lang/IllegalArgumentException", Cond.classLink RL 32 "java/util/NoSuchElementException", Cond.classLink RL 15 "java/lang/IllegalStateException", Cond.methodLink RL 37 yX2_find, Cond.instanceMethod yX2_find, Cond.selects RX2 yX2_find yX2_find, Cond.initialized RX2, Cond.code yX2_find cX2_find 4 (some .int), Cond.classLink RX2 41 "java/lang/IllegalArgumentException", Cond.initialized "java/lang/IllegalArgumentException", Cond.classLink RX2 111 "java/util/NoSuchElementException", Cond.initialized "java/util/NoSuchElementException", Cond.classLink RX2 51 "java/lang/IllegalStateException", Cond.initialized "java/lang/IllegalStateException", Cond.methodLink RX2 68 yX2_isLoaded, Cond.instanceMethod yX2_isLoaded, Cond.selects RX2 yX2_isLoaded yX2_isLoaded, Cond.code yX2_isLoaded cX2_isLoaded 2 (some .boolean), Cond.fieldLink RX2 20 "FlatLoader" "loadedSet" "I", Cond.methodLink RX2 37 yX2_isModule, Cond.static yX2_isModule, Cond.code yX2_isModule cX2_isModule 1 (some .boolean), Cond.methodLink RX2 108 yX2_isIn, Cond.static yX2_isIn]
def wsL_find_r2 : List Cond := [Cond.code yX2_isIn cX2_isIn 2 (some .boolean), Cond.methodLink RX2 60 yX2_isName, Cond.static yX2_isName, Cond.code yX2_isName cX2_isName 1 (some .boolean), Cond.methodLink RX2 140 yX2_holderSeenFrom, Cond.instanceMethod yX2_holderSeenFrom, Cond.selects RX2 yX2_holderSeenFrom yX2_holderSeenFrom, Cond.code yX2_holderSeenFrom cX2_holderSeenFrom 4 (some .int), Cond.fieldLink RX2 26 "FlatLoader" "row" "LFlatLoader$Row;", Cond.fieldLink RX2 11 "FlatLoader" "modules" "[LFlatLoader$OneModule;", Cond.methodLink RX2 150 yX2_fillVisibleRow, Cond.instanceMethod yX2_fillVisibleRow, Cond.selects RX2 yX2_fillVisibleRow yX2_fillVisibleRow, Cond.code yX2_fillVisibleRow cX2_fillVisibleRow 5 none, Cond.instanceMethod yX1_clear, Cond.initialized RX1, Cond.selects RX1 yX1_clear yX1_clear, Cond.code yX1_clear cX1_clear 1 none, Cond.fieldLink RX1 18 "FlatLoader$Row" "size" "I", Cond.fieldLink RX1 22 "FlatLoader$Row" "memberSet" "I", Cond.fieldLink RX1 25 "FlatLoader$Row" "begun" "I", Cond.instanceMethod yX0_hasPath, Cond.initialized RX0, Cond.selects RX0 yX0_hasPath yX0_hasPath]
def wsL_find_r3 : List Cond := [Cond.code yX0_hasPath cX0_hasPath 3 (some .boolean), Cond.methodLink RX0 37 yX0_holds, Cond.instanceMethod yX0_holds, Cond.selects RX0 yX0_holds yX0_holds, Cond.code yX0_holds cX0_holds 2 (some .boolean), Cond.fieldLink RX0 9 "FlatLoader$OneModule" "extended" "[I", Cond.instanceMethod yX1_addOnceIf, Cond.selects RX1 yX1_addOnceIf yX1_addOnceIf, Cond.code yX1_addOnceIf cX1_addOnceIf 3 none, Cond.fieldLink RX1 9 "FlatLoader$Row" "members" "[I", Cond.static yX2_bit, Cond.code yX2_bit cX2_bit 1 (some .int), Cond.methodLink RX2 197 yX2_addExportedRow, Cond.instanceMethod yX2_addExportedRow, Cond.selects RX2 yX2_addExportedRow yX2_addExportedRow, Cond.code yX2_addExportedRow cX2_addExportedRow 6 none, Cond.methodLink RX2 56 yX2_bit, Cond.methodLink RX2 145 yX2_defineWithAllAbove, Cond.instanceMethod yX2_defineWithAllAbove, Cond.selects RX2 yX2_defineWithAllAbove yX2_defineWithAllAbove, Cond.code yX2_defineWithAllAbove cX2_defineWithAllAbove 6 (some .boolean), Cond.fieldLink RX2 30 "FlatLoader" "chainModules" "[I", Cond.fieldLink RX2 34 "FlatLoader" "chainNames" "[I", Cond.methodLink RX2 207 yX2_needsNoDefining]
def wsL_find_r4 : List Cond := [Cond.instanceMethod yX2_needsNoDefining, Cond.selects RX2 yX2_needsNoDefining yX2_needsNoDefining, Cond.code yX2_needsNoDefining cX2_needsNoDefining 3 (some .boolean), Cond.instanceMethod yX0_hasDefined, Cond.selects RX0 yX0_hasDefined yX0_hasDefined, Cond.code yX0_hasDefined cX0_hasDefined 2 (some .boolean), Cond.fieldLink RX0 15 "FlatLoader$OneModule" "definedAbove" "[I", Cond.methodLink RX2 210 yX2_defineChain, Cond.instanceMethod yX2_defineChain, Cond.selects RX2 yX2_defineChain yX2_defineChain, Cond.code yX2_defineChain cX2_defineChain 5 none]
def wsL_find : List Cond := .codeWith yL_find cL_find 5 (some .int) [(0, 10, 13, 13), (0, 10, 17, 32), (0, 10, 21, 15)] :: ((wsL_find_r1 ++ (wsL_find_r2 ++ (wsL_find_r3 ++ wsL_find_r4))) ++ wsX20 ++ wsX10 ++ wsX00 ++ (vx_atS RX2 45 "java/lang/IllegalArgumentException" ["java/lang/RuntimeException", "java/lang/Exception"]).filter goodWord ++ (vx_atS RX2 115 "java/util/NoSuchElementException" ["java/lang/RuntimeException", "java/lang/Exception"]).filter goodWord ++ (vx_atS RX2 55 "java/lang/IllegalStateException" ["java/lang/RuntimeException", "java/lang/Exception"]).filter goodWord)
def wsL_law0_r1 : List Cond := [Cond.classLink RL 8 RX2, Cond.instantiable RX2 6, Cond.initialized RX2, Cond.classLink RL 42 RX3, Cond.instantiable RX3 19, Cond.initialized RX3, Cond.arrayClass .long, Cond.methodLink RL 41 yX2_init, Cond.instanceMethod yX2_init, Cond.code yX2_init cX2_init 2 none, Cond.methodLink RX2 3 objectInit, Cond.instanceMethod objectInit, Cond.code objectInit ⟨#[0xb1]⟩ 1 none, Cond.classLink RX2 9 RX0, Cond.fieldLink RX2 11 "FlatLoader" "modules" "[LFlatLoader$OneModule;", Cond.instantiable RX0 8, Cond.initialized RX0, Cond.fieldLink RX2 16 "FlatLoader" "presentSet" "I", Cond.fieldLink RX2 20 "FlatLoader" "loadedSet" "I", Cond.classLink RX2 23 RX1, Cond.instantiable RX1 4, Cond.initialized RX1, Cond.fieldLink RX2 26 "FlatLoader" "row" "LFlatLoader$Row;", Cond.arrayClass .int]
def wsL_law0_r2 : List Cond := [Cond.fieldLink RX2 30 "FlatLoader" "chainModules" "[I", Cond.fieldLink RX2 34 "FlatLoader" "chainNames" "[I", Cond.instanceMethod yX0_init, Cond.code yX0_init cX0_init 2 none, Cond.methodLink RX0 3 objectInit, Cond.fieldLink RX0 9 "FlatLoader$OneModule" "extended" "[I", Cond.fieldLink RX0 15 "FlatLoader$OneModule" "definedAbove" "[I", Cond.fieldLink RX0 18 "FlatLoader$OneModule" "on" "[I", Cond.fieldLink RX0 21 "FlatLoader$OneModule" "imports" "[I", Cond.fieldLink RX0 24 "FlatLoader$OneModule" "exports" "[I", Cond.fieldLink RX0 27 "FlatLoader$OneModule" "dependencies" "I", Cond.fieldLink RX0 31 "FlatLoader$OneModule" "dependedSet" "I", Cond.fieldLink RX0 34 "FlatLoader$OneModule" "requiredSet" "I", Cond.instanceMethod yX1_init, Cond.code yX1_init cX1_init 1 none, Cond.methodLink RX1 3 objectInit, Cond.fieldLink RX1 9 "FlatLoader$Row" "members" "[I", Cond.methodLink RX1 15 yX1_clear, Cond.instanceMethod yX1_clear, Cond.selects RX1 yX1_clear yX1_clear, Cond.code yX1_clear cX1_clear 1 none, Cond.fieldLink RX1 18 "FlatLoader$Row" "size" "I", Cond.fieldLink RX1 22 "FlatLoader$Row" "memberSet" "I", Cond.fieldLink RX1 25 "FlatLoader$Row" "begun" "I"]
def wsL_law0_r3 : List Cond := [Cond.methodLink RL 44 yX3_init, Cond.instanceMethod yX3_init, Cond.code yX3_init cX3_init 2 none, Cond.methodLink RX3 1 objectInit, Cond.arrayClass .boolean, Cond.fieldLink RX3 7 "FlatLoaderModel" "present" "[Z", Cond.fieldLink RX3 13 "FlatLoaderModel" "loaded" "[Z", Cond.fieldLink RX3 16 "FlatLoaderModel" "loadable" "[Z", Cond.fieldLink RX3 19 "FlatLoaderModel" "files" "[I", Cond.fieldLink RX3 23 "FlatLoaderModel" "extended" "[I", Cond.fieldLink RX3 26 "FlatLoaderModel" "many" "[I", Cond.fieldLink RX3 29 "FlatLoaderModel" "on" "[I", Cond.fieldLink RX3 32 "FlatLoaderModel" "imports" "[I", Cond.fieldLink RX3 35 "FlatLoaderModel" "exports" "[I", Cond.fieldLink RX3 38 "FlatLoaderModel" "required" "[Z", Cond.fieldLink RX3 41 "FlatLoaderModel" "row" "[I", Cond.fieldLink RX3 44 "FlatLoaderModel" "begun" "[Z", Cond.fieldLink RX3 47 "FlatLoaderModel" "come" "[Z", Cond.fieldLink RX3 50 "FlatLoaderModel" "through" "[I", Cond.fieldLink RX3 53 "FlatLoaderModel" "place" "[I", Cond.fieldLink RX3 56 "FlatLoaderModel" "chain" "[I", Cond.methodLink RL 45 yL_present, Cond.static yL_present, Cond.initialized RL]
def wsL_law0_r4 : List Cond := [Cond.codeWith yL_present cL_present 3 (some .int) [(0, 5, 8, 13), (0, 5, 11, 15)], Cond.classLink RL 13 "java/lang/IllegalArgumentException", Cond.classLink RL 15 "java/lang/IllegalStateException", Cond.methodLink RL 7 yX2_present, Cond.instanceMethod yX2_present, Cond.selects RX2 yX2_present yX2_present, Cond.code yX2_present cX2_present 2 none, Cond.classLink RX2 41 "java/lang/IllegalArgumentException", Cond.initialized "java/lang/IllegalArgumentException", Cond.classLink RX2 51 "java/lang/IllegalStateException", Cond.initialized "java/lang/IllegalStateException", Cond.methodLink RX2 37 yX2_isModule, Cond.static yX2_isModule, Cond.code yX2_isModule cX2_isModule 1 (some .boolean), Cond.methodLink RX2 48 yX2_isPresent, Cond.instanceMethod yX2_isPresent, Cond.selects RX2 yX2_isPresent yX2_isPresent, Cond.code yX2_isPresent cX2_isPresent 2 (some .boolean), Cond.methodLink RX2 108 yX2_isIn, Cond.static yX2_isIn, Cond.code yX2_isIn cX2_isIn 2 (some .boolean), Cond.methodLink RX2 56 yX2_bit, Cond.static yX2_bit, Cond.code yX2_bit cX2_bit 1 (some .int)]
def wsL_law0_r5 : List Cond := [Cond.methodLink RL 50 yX3_present, Cond.instanceMethod yX3_present, Cond.selects RX3 yX3_present yX3_present, Cond.code yX3_present cX3_present 2 none, Cond.methodLink RX3 67 yX3_isModule, Cond.static yX3_isModule, Cond.code yX3_isModule cX3_isModule 1 (some .boolean), Cond.methodLink RX3 63 yX3_in, Cond.static yX3_in, Cond.code yX3_in cX3_in 3 (some .boolean), Cond.methodLink RX3 71 yX3_throwsBy, Cond.instanceMethod yX3_throwsBy, Cond.selects RX3 yX3_throwsBy yX3_throwsBy, Cond.code yX3_throwsBy cX3_throwsBy 2 (some .boolean), Cond.fieldLink RX3 59 "FlatLoaderModel" "thrown" "I", Cond.methodLink RL 51 yX3_thrown, Cond.instanceMethod yX3_thrown, Cond.selects RX3 yX3_thrown yX3_thrown, Cond.code yX3_thrown cX3_thrown 1 (some .int), Cond.methodLink RL 55 yL_file, Cond.static yL_file, Cond.codeWith yL_file cL_file 5 (some .int) [(0, 7, 10, 13), (0, 7, 14, 15)], Cond.methodLink RL 17 yX2_file, Cond.instanceMethod yX2_file]
def wsL_law0_r6 : List Cond := [Cond.selects RX2 yX2_file yX2_file, Cond.code yX2_file cX2_file 4 none, Cond.methodLink RX2 60 yX2_isName, Cond.static yX2_isName, Cond.code yX2_isName cX2_isName 1 (some .boolean), Cond.methodLink RX2 63 yX2_isExtended, Cond.static yX2_isExtended, Cond.code yX2_isExtended cX2_isExtended 1 (some .boolean), Cond.methodLink RX2 68 yX2_isLoaded, Cond.instanceMethod yX2_isLoaded, Cond.selects RX2 yX2_isLoaded yX2_isLoaded, Cond.code yX2_isLoaded cX2_isLoaded 2 (some .boolean), Cond.instanceMethod yX0_holds, Cond.selects RX0 yX0_holds yX0_holds, Cond.code yX0_holds cX0_holds 2 (some .boolean), Cond.methodLink RL 58 yX3_file, Cond.instanceMethod yX3_file, Cond.selects RX3 yX3_file yX3_file, Cond.code yX3_file cX3_file 5 none, Cond.methodLink RX3 74 yX3_isPresent, Cond.instanceMethod yX3_isPresent, Cond.selects RX3 yX3_isPresent yX3_isPresent, Cond.code yX3_isPresent cX3_isPresent 2 (some .boolean), Cond.methodLink RL 59 yL_depend]
def wsL_law0_r7 : List Cond := [Cond.static yL_depend, Cond.codeWith yL_depend cL_depend 8 (some .int) [(0, 16, 19, 13), (0, 16, 23, 15)], Cond.methodLink RL 21 yX2_depend, Cond.instanceMethod yX2_depend, Cond.selects RX2 yX2_depend yX2_depend, Cond.code yX2_depend cX2_depend 6 (some .int), Cond.methodLink RX2 79 yX2_canDependOn, Cond.static yX2_canDependOn, Cond.code yX2_canDependOn cX2_canDependOn 2 (some .boolean), Cond.methodLink RX2 83 yX2_isPathSet, Cond.static yX2_isPathSet, Cond.code yX2_isPathSet cX2_isPathSet 1 (some .boolean), Cond.instanceMethod yX0_addDependency, Cond.selects RX0 yX0_addDependency yX0_addDependency, Cond.code yX0_addDependency cX0_addDependency 5 none, Cond.methodLink RL 62 yX3_depend, Cond.instanceMethod yX3_depend, Cond.selects RX3 yX3_depend yX3_depend, Cond.code yX3_depend cX3_depend 9 (some .int), Cond.methodLink RL 63 yL_relink, Cond.static yL_relink, Cond.codeWith yL_relink cL_relink 4 (some .int) [(0, 9, 12, 13)], Cond.methodLink RL 25 yX2_relink, Cond.instanceMethod yX2_relink]
def wsL_law0_r8 : List Cond := [Cond.selects RX2 yX2_relink yX2_relink, Cond.code yX2_relink cX2_relink 3 (some .int), Cond.instanceMethod yX0_dropDependencies, Cond.selects RX0 yX0_dropDependencies yX0_dropDependencies, Cond.code yX0_dropDependencies cX0_dropDependencies 1 none, Cond.methodLink RL 66 yX3_relink, Cond.instanceMethod yX3_relink, Cond.selects RX3 yX3_relink yX3_relink, Cond.code yX3_relink cX3_relink 3 (some .int), Cond.methodLink RL 67 yL_load, Cond.static yL_load, Cond.codeWith yL_load cL_load 4 (some .int) [(0, 9, 12, 13), (0, 9, 15, 32)], Cond.classLink RL 32 "java/util/NoSuchElementException", Cond.methodLink RL 29 yX2_load, Cond.instanceMethod yX2_load, Cond.selects RX2 yX2_load yX2_load, Cond.code yX2_load cX2_load 4 (some .int), Cond.classLink RX2 111 "java/util/NoSuchElementException", Cond.initialized "java/util/NoSuchElementException", Cond.methodLink RX2 104 yX2_loadableSet, Cond.instanceMethod yX2_loadableSet, Cond.selects RX2 yX2_loadableSet yX2_loadableSet, Cond.code yX2_loadableSet cX2_loadableSet 3 (some .int), Cond.methodLink RX2 166 yX2_withoutLacking]
def wsL_law0_r9 : List Cond := [Cond.instanceMethod yX2_withoutLacking, Cond.selects RX2 yX2_withoutLacking yX2_withoutLacking, Cond.code yX2_withoutLacking cX2_withoutLacking 4 (some .int), Cond.methodLink RX2 116 yX2_reachedSet, Cond.instanceMethod yX2_reachedSet, Cond.selects RX2 yX2_reachedSet yX2_reachedSet, Cond.code yX2_reachedSet cX2_reachedSet 5 (some .int), Cond.methodLink RX2 172 yX2_nextTo, Cond.instanceMethod yX2_nextTo, Cond.selects RX2 yX2_nextTo yX2_nextTo, Cond.code yX2_nextTo cX2_nextTo 4 (some .int), Cond.methodLink RX2 120 yJ6_bitCount_0f7a4, Cond.static yJ6_bitCount_0f7a4, Cond.initialized RJ6, Cond.code yJ6_bitCount_0f7a4 cJ6_bitCount_0f7a4 1 (some .int), Cond.constant RJ6 265 (1431655765), Cond.constant RJ6 266 (858993459), Cond.constant RJ6 267 (252645135), Cond.methodLink RL 69 yX3_load, Cond.instanceMethod yX3_load, Cond.selects RX3 yX3_load yX3_load, Cond.code yX3_load cX3_load 4 (some .int), Cond.methodLink RX3 77 yX3_judge, Cond.instanceMethod yX3_judge]
def wsL_law0_r10 : List Cond := [Cond.selects RX3 yX3_judge yX3_judge, Cond.code yX3_judge cX3_judge 4 none, Cond.methodLink RL 70 yL_unload, Cond.static yL_unload, Cond.codeWith yL_unload cL_unload 4 (some .int) [(0, 9, 12, 13), (0, 9, 15, 15)], Cond.methodLink RL 34 yX2_unload, Cond.instanceMethod yX2_unload, Cond.selects RX2 yX2_unload yX2_unload, Cond.code yX2_unload cX2_unload 3 (some .int), Cond.methodLink RX2 127 yX2_isHeldByAnother, Cond.instanceMethod yX2_isHeldByAnother, Cond.selects RX2 yX2_isHeldByAnother yX2_isHeldByAnother, Cond.code yX2_isHeldByAnother cX2_isHeldByAnother 3 (some .boolean), Cond.instanceMethod yX0_hasClassBelow, Cond.selects RX0 yX0_hasClassBelow yX0_hasClassBelow, Cond.code yX0_hasClassBelow cX0_hasClassBelow 3 (some .boolean), Cond.instanceMethod yX0_countClasses, Cond.selects RX0 yX0_countClasses yX0_countClasses, Cond.code yX0_countClasses cX0_countClasses 3 (some .int), Cond.methodLink RX0 45 yX0_hasDefined, Cond.instanceMethod yX0_hasDefined, Cond.selects RX0 yX0_hasDefined yX0_hasDefined, Cond.code yX0_hasDefined cX0_hasDefined 2 (some .boolean), Cond.instanceMethod yX0_dropClasses]
def wsL_law0_r11 : List Cond := [Cond.selects RX0 yX0_dropClasses yX0_dropClasses, Cond.code yX0_dropClasses cX0_dropClasses 2 none, Cond.methodLink RL 72 yX3_unload, Cond.instanceMethod yX3_unload, Cond.selects RX3 yX3_unload yX3_unload, Cond.code yX3_unload cX3_unload 4 (some .int), Cond.fieldLink RX3 86 "FlatLoaderModel" "classes" "I", Cond.methodLink RX3 80 yX3_isLoaded, Cond.instanceMethod yX3_isLoaded, Cond.selects RX3 yX3_isLoaded yX3_isLoaded, Cond.code yX3_isLoaded cX3_isLoaded 2 (some .boolean), Cond.methodLink RX3 83 yX3_isNeeded, Cond.instanceMethod yX3_isNeeded, Cond.selects RX3 yX3_isNeeded yX3_isNeeded, Cond.code yX3_isNeeded cX3_isNeeded 5 (some .boolean), Cond.methodLink RL 73 yL_find, Cond.static yL_find, Cond.codeWith yL_find cL_find 5 (some .int) [(0, 10, 13, 13), (0, 10, 17, 32), (0, 10, 21, 15)], Cond.methodLink RL 37 yX2_find, Cond.instanceMethod yX2_find, Cond.selects RX2 yX2_find yX2_find, Cond.code yX2_find cX2_find 4 (some .int), Cond.methodLink RX2 140 yX2_holderSeenFrom, Cond.instanceMethod yX2_holderSeenFrom]
def wsL_law0_r12 : List Cond := [Cond.selects RX2 yX2_holderSeenFrom yX2_holderSeenFrom, Cond.code yX2_holderSeenFrom cX2_holderSeenFrom 4 (some .int), Cond.methodLink RX2 150 yX2_fillVisibleRow, Cond.instanceMethod yX2_fillVisibleRow, Cond.selects RX2 yX2_fillVisibleRow yX2_fillVisibleRow, Cond.code yX2_fillVisibleRow cX2_fillVisibleRow 5 none, Cond.instanceMethod yX0_hasPath, Cond.selects RX0 yX0_hasPath yX0_hasPath, Cond.code yX0_hasPath cX0_hasPath 3 (some .boolean), Cond.methodLink RX0 37 yX0_holds, Cond.instanceMethod yX1_addOnceIf, Cond.selects RX1 yX1_addOnceIf yX1_addOnceIf, Cond.code yX1_addOnceIf cX1_addOnceIf 3 none, Cond.methodLink RX2 197 yX2_addExportedRow, Cond.instanceMethod yX2_addExportedRow, Cond.selects RX2 yX2_addExportedRow yX2_addExportedRow, Cond.code yX2_addExportedRow cX2_addExportedRow 6 none, Cond.methodLink RX2 145 yX2_defineWithAllAbove, Cond.instanceMethod yX2_defineWithAllAbove, Cond.selects RX2 yX2_defineWithAllAbove yX2_defineWithAllAbove, Cond.code yX2_defineWithAllAbove cX2_defineWithAllAbove 6 (some .boolean), Cond.methodLink RX2 207 yX2_needsNoDefining, Cond.instanceMethod yX2_needsNoDefining, Cond.selects RX2 yX2_needsNoDefining yX2_needsNoDefining]
def wsL_law0_r13 : List Cond := [Cond.code yX2_needsNoDefining cX2_needsNoDefining 3 (some .boolean), Cond.methodLink RX2 210 yX2_defineChain, Cond.instanceMethod yX2_defineChain, Cond.selects RX2 yX2_defineChain yX2_defineChain, Cond.code yX2_defineChain cX2_defineChain 5 none, Cond.methodLink RL 76 yX3_find, Cond.instanceMethod yX3_find, Cond.selects RX3 yX3_find yX3_find, Cond.code yX3_find cX3_find 7 (some .int), Cond.methodLink RX3 104 yX3_holder, Cond.instanceMethod yX3_holder, Cond.selects RX3 yX3_holder yX3_holder, Cond.code yX3_holder cX3_holder 5 (some .int), Cond.fieldLink RX3 89 "FlatLoaderModel" "size" "I", Cond.methodLink RX3 100 yX3_see, Cond.instanceMethod yX3_see, Cond.selects RX3 yX3_see yX3_see, Cond.code yX3_see cX3_see 7 none, Cond.methodLink RX3 92 yX3_hasPath, Cond.instanceMethod yX3_hasPath, Cond.selects RX3 yX3_hasPath yX3_hasPath, Cond.code yX3_hasPath cX3_hasPath 5 (some .boolean), Cond.methodLink RX3 96 yX3_append, Cond.instanceMethod yX3_append]
def wsL_law0_r14 : List Cond := [Cond.selects RX3 yX3_append yX3_append, Cond.code yX3_append cX3_append 4 none, Cond.methodLink RX3 108 yX3_needs, Cond.instanceMethod yX3_needs, Cond.selects RX3 yX3_needs yX3_needs, Cond.code yX3_needs cX3_needs 9 (some .int), Cond.methodLink RX3 111 yX3_define, Cond.instanceMethod yX3_define, Cond.selects RX3 yX3_define yX3_define, Cond.code yX3_define cX3_define 3 none, Cond.methodLink RL 77 yX2_visible, Cond.instanceMethod yX2_visible, Cond.selects RX2 yX2_visible yX2_visible, Cond.code yX2_visible cX2_visible 4 (some .int), Cond.methodLink RL 81 yX3_visible, Cond.instanceMethod yX3_visible, Cond.selects RX3 yX3_visible yX3_visible, Cond.code yX3_visible cX3_visible 4 (some .int), Cond.methodLink RL 82 yX2_why, Cond.instanceMethod yX2_why, Cond.selects RX2 yX2_why yX2_why, Cond.code yX2_why cX2_why 4 (some .int), Cond.methodLink RX2 160 yX2_holderSet, Cond.instanceMethod yX2_holderSet]
def wsL_law0_r15 : List Cond := [Cond.selects RX2 yX2_holderSet yX2_holderSet, Cond.code yX2_holderSet cX2_holderSet 4 (some .int), Cond.methodLink RL 85 yX3_why, Cond.instanceMethod yX3_why, Cond.selects RX3 yX3_why yX3_why, Cond.code yX3_why cX3_why 6 (some .int), Cond.methodLink RL 86 yX2_state, Cond.instanceMethod yX2_state, Cond.selects RX2 yX2_state yX2_state, Cond.code yX2_state cX2_state 2 (some .int), Cond.methodLink RL 89 yX3_state, Cond.instanceMethod yX3_state, Cond.selects RX3 yX3_state yX3_state, Cond.code yX3_state cX3_state 2 (some .int), Cond.methodLink RL 90 yX2_above, Cond.instanceMethod yX2_above, Cond.selects RX2 yX2_above yX2_above, Cond.code yX2_above cX2_above 3 (some .int), Cond.methodLink RL 93 yX3_above, Cond.instanceMethod yX3_above, Cond.selects RX3 yX3_above yX3_above, Cond.code yX3_above cX3_above 3 (some .int), Cond.methodLink RL 94 yX2_defined, Cond.instanceMethod yX2_defined]
def wsL_law0_r16 : List Cond := [Cond.selects RX2 yX2_defined yX2_defined, Cond.code yX2_defined cX2_defined 3 (some .int), Cond.methodLink RL 97 yX3_defined, Cond.instanceMethod yX3_defined, Cond.selects RX3 yX3_defined yX3_defined, Cond.code yX3_defined cX3_defined 1 (some .int)]
def wsL_law0 : List Cond := (wsL_law0_r1 ++ (wsL_law0_r2 ++ (wsL_law0_r3 ++ (wsL_law0_r4 ++ (wsL_law0_r5 ++ (wsL_law0_r6 ++ (wsL_law0_r7 ++ (wsL_law0_r8 ++ (wsL_law0_r9 ++ (wsL_law0_r10 ++ (wsL_law0_r11 ++ (wsL_law0_r12 ++ (wsL_law0_r13 ++ (wsL_law0_r14 ++ (wsL_law0_r15 ++ wsL_law0_r16))))))))))))))) ++ wsX20 ++ wsX30 ++ wsX00 ++ wsX10 ++ ([] : List Cond)
def wsL_law : List Cond := wsL_law0 ++ (vx_atS RX2 45 "java/lang/IllegalArgumentException" ["java/lang/RuntimeException", "java/lang/Exception"]).filter goodWord ++ (vx_atS RX2 55 "java/lang/IllegalStateException" ["java/lang/RuntimeException", "java/lang/Exception"]).filter goodWord ++ (vx_atS RX2 115 "java/util/NoSuchElementException" ["java/lang/RuntimeException", "java/lang/Exception"]).filter goodWord
theorem inlX0 : ∀ w ∈ wsX00, w ∈ wsL_law := fun _ h => List.mem_append_left _ (List.mem_append_left _ (List.mem_append_left _ (List.mem_append_left _ (List.mem_append_left _ (List.mem_append_right _ h)))))
theorem inlX1 : ∀ w ∈ wsX10, w ∈ wsL_law := fun _ h => List.mem_append_left _ (List.mem_append_left _ (List.mem_append_left _ (List.mem_append_left _ (List.mem_append_right _ h))))
theorem inlX2 : ∀ w ∈ wsX20, w ∈ wsL_law := fun _ h => List.mem_append_left _ (List.mem_append_left _ (List.mem_append_left _ (List.mem_append_left _ (List.mem_append_left _ (List.mem_append_left _ (List.mem_append_left _ (List.mem_append_right _ h)))))))
theorem inlX3 : ∀ w ∈ wsX30, w ∈ wsL_law := fun _ h => List.mem_append_left _ (List.mem_append_left _ (List.mem_append_left _ (List.mem_append_left _ (List.mem_append_left _ (List.mem_append_left _ (List.mem_append_right _ h))))))
theorem dX0_init_0 : decode cX0_init 0 = .ok (.aload_n 0, 1) := by decide +kernel
theorem dX0_init_1 : decode cX0_init 1 = .ok (.invokespecial 3, 3) := by decide +kernel
theorem dX0_init_4 : decode cX0_init 4 = .ok (.aload_n 0, 1) := by decide +kernel
theorem dX0_init_5 : decode cX0_init 5 = .ok (.bipush 24, 2) := by decide +kernel
theorem dX0_init_7 : decode cX0_init 7 = .ok (.newarray .int, 2) := by decide +kernel
theorem dX0_init_9 : decode cX0_init 9 = .ok (.putfield 9, 3) := by decide +kernel
theorem dX0_init_12 : decode cX0_init 12 = .ok (.aload_n 0, 1) := by decide +kernel
theorem dX0_init_13 : decode cX0_init 13 = .ok (.bipush 24, 2) := by decide +kernel
theorem dX0_init_15 : decode cX0_init 15 = .ok (.newarray .int, 2) := by decide +kernel
theorem dX0_init_17 : decode cX0_init 17 = .ok (.putfield 15, 3) := by decide +kernel
theorem dX0_init_20 : decode cX0_init 20 = .ok (.iconst 0, 1) := by decide +kernel
theorem dX0_init_21 : decode cX0_init 21 = .ok (.istore_n 1, 1) := by decide +kernel
theorem dX0_init_22 : decode cX0_init 22 = .ok (.iload_n 1, 1) := by decide +kernel
theorem dX0_init_23 : decode cX0_init 23 = .ok (.bipush 24, 2) := by decide +kernel
theorem dX0_init_25 : decode cX0_init 25 = .ok (.if_icmp .ge 24, 3) := by decide +kernel
theorem dX0_init_28 : decode cX0_init 28 = .ok (.aload_n 0, 1) := by decide +kernel
theorem dX0_init_29 : decode cX0_init 29 = .ok (.getfield 9, 3) := by decide +kernel
theorem dX0_init_32 : decode cX0_init 32 = .ok (.iload_n 1, 1) := by decide +kernel
theorem dX0_init_33 : decode cX0_init 33 = .ok (.bipush (-3), 2) := by decide +kernel
theorem dX0_init_35 : decode cX0_init 35 = .ok (.iastore, 1) := by decide +kernel
theorem dX0_init_36 : decode cX0_init 36 = .ok (.aload_n 0, 1) := by decide +kernel
theorem dX0_init_37 : decode cX0_init 37 = .ok (.getfield 15, 3) := by decide +kernel
theorem dX0_init_40 : decode cX0_init 40 = .ok (.iload_n 1, 1) := by decide +kernel
theorem dX0_init_41 : decode cX0_init 41 = .ok (.iconst (-1), 1) := by decide +kernel
theorem dX0_init_42 : decode cX0_init 42 = .ok (.iastore, 1) := by decide +kernel
theorem dX0_init_43 : decode cX0_init 43 = .ok (.iinc 1 1, 3) := by decide +kernel
theorem dX0_init_46 : decode cX0_init 46 = .ok (.goto (-24), 3) := by decide +kernel
theorem dX0_init_49 : decode cX0_init 49 = .ok (.aload_n 0, 1) := by decide +kernel
theorem dX0_init_50 : decode cX0_init 50 = .ok (.bipush 6, 2) := by decide +kernel
theorem dX0_init_52 : decode cX0_init 52 = .ok (.newarray .int, 2) := by decide +kernel
theorem dX0_init_54 : decode cX0_init 54 = .ok (.putfield 18, 3) := by decide +kernel
theorem dX0_init_57 : decode cX0_init 57 = .ok (.aload_n 0, 1) := by decide +kernel
theorem dX0_init_58 : decode cX0_init 58 = .ok (.bipush 6, 2) := by decide +kernel
theorem dX0_init_60 : decode cX0_init 60 = .ok (.newarray .int, 2) := by decide +kernel
theorem dX0_init_62 : decode cX0_init 62 = .ok (.putfield 21, 3) := by decide +kernel
theorem dX0_init_65 : decode cX0_init 65 = .ok (.aload_n 0, 1) := by decide +kernel
theorem dX0_init_66 : decode cX0_init 66 = .ok (.bipush 6, 2) := by decide +kernel
theorem dX0_init_68 : decode cX0_init 68 = .ok (.newarray .int, 2) := by decide +kernel
theorem dX0_init_70 : decode cX0_init 70 = .ok (.putfield 24, 3) := by decide +kernel
theorem dX0_init_73 : decode cX0_init 73 = .ok (.aload_n 0, 1) := by decide +kernel
theorem dX0_init_74 : decode cX0_init 74 = .ok (.iconst 0, 1) := by decide +kernel
theorem dX0_init_75 : decode cX0_init 75 = .ok (.putfield 27, 3) := by decide +kernel
theorem dX0_init_78 : decode cX0_init 78 = .ok (.aload_n 0, 1) := by decide +kernel
theorem dX0_init_79 : decode cX0_init 79 = .ok (.iconst 0, 1) := by decide +kernel
theorem dX0_init_80 : decode cX0_init 80 = .ok (.putfield 31, 3) := by decide +kernel
theorem dX0_init_83 : decode cX0_init 83 = .ok (.aload_n 0, 1) := by decide +kernel
theorem dX0_init_84 : decode cX0_init 84 = .ok (.iconst 0, 1) := by decide +kernel
theorem dX0_init_85 : decode cX0_init 85 = .ok (.putfield 34, 3) := by decide +kernel
theorem dX0_init_88 : decode cX0_init 88 = .ok (.return_, 1) := by decide +kernel
theorem dX0_holds_0 : decode cX0_holds 0 = .ok (.aload_n 0, 1) := by decide +kernel
theorem dX0_holds_1 : decode cX0_holds 1 = .ok (.getfield 9, 3) := by decide +kernel
theorem dX0_holds_4 : decode cX0_holds 4 = .ok (.iload_n 1, 1) := by decide +kernel
theorem dX0_holds_5 : decode cX0_holds 5 = .ok (.iaload, 1) := by decide +kernel
theorem dX0_holds_6 : decode cX0_holds 6 = .ok (.bipush (-3), 2) := by decide +kernel
theorem dX0_holds_8 : decode cX0_holds 8 = .ok (.if_icmp .eq 7, 3) := by decide +kernel
theorem dX0_holds_11 : decode cX0_holds 11 = .ok (.iconst 1, 1) := by decide +kernel
theorem dX0_holds_12 : decode cX0_holds 12 = .ok (.goto 4, 3) := by decide +kernel
theorem dX0_holds_15 : decode cX0_holds 15 = .ok (.iconst 0, 1) := by decide +kernel
theorem dX0_holds_16 : decode cX0_holds 16 = .ok (.ireturn, 1) := by decide +kernel
set_option maxRecDepth 20000 in
theorem ggX0_hasPath_X0_holds : GoodIn wsX0_hasPath wsX0_holds := goodIn_r _ [5, 6, 7, 8, 9, 10, 11, 12, 13, 14] (by decide +kernel) (by decide +kernel)
set_option maxRecDepth 20000 in
theorem gX0_hasPath_X0_holds : GoodIn wsX0_hasPath (wsV RX0 37 RX0 yX0_holds wsX0_holds) := goodIn_app (goodIn_of _ (by decide +kernel)) ggX0_hasPath_X0_holds
theorem dX0_hasPath_0 : decode cX0_hasPath 0 = .ok (.iconst 0, 1) := by decide +kernel
theorem dX0_hasPath_1 : decode cX0_hasPath 1 = .ok (.istore_n 2, 1) := by decide +kernel
theorem dX0_hasPath_2 : decode cX0_hasPath 2 = .ok (.iload_n 2, 1) := by decide +kernel
theorem dX0_hasPath_3 : decode cX0_hasPath 3 = .ok (.iconst 4, 1) := by decide +kernel
theorem dX0_hasPath_4 : decode cX0_hasPath 4 = .ok (.if_icmp .ge 23, 3) := by decide +kernel
theorem dX0_hasPath_7 : decode cX0_hasPath 7 = .ok (.aload_n 0, 1) := by decide +kernel
theorem dX0_hasPath_8 : decode cX0_hasPath 8 = .ok (.iload_n 1, 1) := by decide +kernel
theorem dX0_hasPath_9 : decode cX0_hasPath 9 = .ok (.iconst 4, 1) := by decide +kernel
theorem dX0_hasPath_10 : decode cX0_hasPath 10 = .ok (.imul, 1) := by decide +kernel
theorem dX0_hasPath_11 : decode cX0_hasPath 11 = .ok (.iload_n 2, 1) := by decide +kernel
theorem dX0_hasPath_12 : decode cX0_hasPath 12 = .ok (.iadd, 1) := by decide +kernel
theorem dX0_hasPath_13 : decode cX0_hasPath 13 = .ok (.invokevirtual 37, 3) := by decide +kernel
theorem dX0_hasPath_16 : decode cX0_hasPath 16 = .ok (.ifCond .eq 5, 3) := by decide +kernel
theorem dX0_hasPath_19 : decode cX0_hasPath 19 = .ok (.iconst 1, 1) := by decide +kernel
theorem dX0_hasPath_20 : decode cX0_hasPath 20 = .ok (.ireturn, 1) := by decide +kernel
theorem dX0_hasPath_21 : decode cX0_hasPath 21 = .ok (.iinc 2 1, 3) := by decide +kernel
theorem dX0_hasPath_24 : decode cX0_hasPath 24 = .ok (.goto (-22), 3) := by decide +kernel
theorem dX0_hasPath_27 : decode cX0_hasPath 27 = .ok (.iconst 0, 1) := by decide +kernel
theorem dX0_hasPath_28 : decode cX0_hasPath 28 = .ok (.ireturn, 1) := by decide +kernel
set_option maxRecDepth 20000 in
theorem ggX0_addDependency_X2_bit : GoodIn wsX0_addDependency wsX2_bit := goodIn_r _ [9] (by decide +kernel) (by decide +kernel)
set_option maxRecDepth 20000 in
theorem gX0_addDependency_X2_bit_n41 : GoodIn wsX0_addDependency (wsX2_bit) := ggX0_addDependency_X2_bit
theorem dX0_addDependency_0 : decode cX0_addDependency 0 = .ok (.aload_n 0, 1) := by decide +kernel
theorem dX0_addDependency_1 : decode cX0_addDependency 1 = .ok (.getfield 18, 3) := by decide +kernel
theorem dX0_addDependency_4 : decode cX0_addDependency 4 = .ok (.aload_n 0, 1) := by decide +kernel
theorem dX0_addDependency_5 : decode cX0_addDependency 5 = .ok (.getfield 27, 3) := by decide +kernel
theorem dX0_addDependency_8 : decode cX0_addDependency 8 = .ok (.iload_n 1, 1) := by decide +kernel
theorem dX0_addDependency_9 : decode cX0_addDependency 9 = .ok (.iastore, 1) := by decide +kernel
theorem dX0_addDependency_10 : decode cX0_addDependency 10 = .ok (.aload_n 0, 1) := by decide +kernel
theorem dX0_addDependency_11 : decode cX0_addDependency 11 = .ok (.getfield 21, 3) := by decide +kernel
theorem dX0_addDependency_14 : decode cX0_addDependency 14 = .ok (.aload_n 0, 1) := by decide +kernel
theorem dX0_addDependency_15 : decode cX0_addDependency 15 = .ok (.getfield 27, 3) := by decide +kernel
theorem dX0_addDependency_18 : decode cX0_addDependency 18 = .ok (.iload_n 2, 1) := by decide +kernel
theorem dX0_addDependency_19 : decode cX0_addDependency 19 = .ok (.iastore, 1) := by decide +kernel
theorem dX0_addDependency_20 : decode cX0_addDependency 20 = .ok (.aload_n 0, 1) := by decide +kernel
theorem dX0_addDependency_21 : decode cX0_addDependency 21 = .ok (.getfield 24, 3) := by decide +kernel
theorem dX0_addDependency_24 : decode cX0_addDependency 24 = .ok (.aload_n 0, 1) := by decide +kernel
theorem dX0_addDependency_25 : decode cX0_addDependency 25 = .ok (.getfield 27, 3) := by decide +kernel
theorem dX0_addDependency_28 : decode cX0_addDependency 28 = .ok (.iload_n 3, 1) := by decide +kernel
theorem dX0_addDependency_29 : decode cX0_addDependency 29 = .ok (.iastore, 1) := by decide +kernel
theorem dX0_addDependency_30 : decode cX0_addDependency 30 = .ok (.aload_n 0, 1) := by decide +kernel
theorem dX0_addDependency_31 : decode cX0_addDependency 31 = .ok (.dup, 1) := by decide +kernel
theorem dX0_addDependency_32 : decode cX0_addDependency 32 = .ok (.getfield 27, 3) := by decide +kernel
theorem dX0_addDependency_35 : decode cX0_addDependency 35 = .ok (.iconst 1, 1) := by decide +kernel
theorem dX0_addDependency_36 : decode cX0_addDependency 36 = .ok (.iadd, 1) := by decide +kernel
theorem dX0_addDependency_37 : decode cX0_addDependency 37 = .ok (.putfield 27, 3) := by decide +kernel
theorem dX0_addDependency_40 : decode cX0_addDependency 40 = .ok (.iload_n 1, 1) := by decide +kernel
theorem dX0_addDependency_41 : decode cX0_addDependency 41 = .ok (.iconst (-1), 1) := by decide +kernel
theorem dX0_addDependency_42 : decode cX0_addDependency 42 = .ok (.if_icmp .eq 38, 3) := by decide +kernel
theorem dX0_addDependency_45 : decode cX0_addDependency 45 = .ok (.aload_n 0, 1) := by decide +kernel
theorem dX0_addDependency_46 : decode cX0_addDependency 46 = .ok (.dup, 1) := by decide +kernel
theorem dX0_addDependency_47 : decode cX0_addDependency 47 = .ok (.getfield 31, 3) := by decide +kernel
theorem dX0_addDependency_50 : decode cX0_addDependency 50 = .ok (.iload_n 1, 1) := by decide +kernel
theorem dX0_addDependency_51 : decode cX0_addDependency 51 = .ok (.invokestatic 41, 3) := by decide +kernel
theorem dX0_addDependency_54 : decode cX0_addDependency 54 = .ok (.ior, 1) := by decide +kernel
theorem dX0_addDependency_55 : decode cX0_addDependency 55 = .ok (.putfield 31, 3) := by decide +kernel
theorem dX0_addDependency_58 : decode cX0_addDependency 58 = .ok (.aload_n 0, 1) := by decide +kernel
theorem dX0_addDependency_59 : decode cX0_addDependency 59 = .ok (.dup, 1) := by decide +kernel
theorem dX0_addDependency_60 : decode cX0_addDependency 60 = .ok (.getfield 34, 3) := by decide +kernel
theorem dX0_addDependency_63 : decode cX0_addDependency 63 = .ok (.iload 4, 2) := by decide +kernel
theorem dX0_addDependency_65 : decode cX0_addDependency 65 = .ok (.ifCond .eq 10, 3) := by decide +kernel
theorem dX0_addDependency_68 : decode cX0_addDependency 68 = .ok (.iload_n 1, 1) := by decide +kernel
theorem dX0_addDependency_69 : decode cX0_addDependency 69 = .ok (.invokestatic 41, 3) := by decide +kernel
theorem dX0_addDependency_72 : decode cX0_addDependency 72 = .ok (.goto 4, 3) := by decide +kernel
theorem dX0_addDependency_75 : decode cX0_addDependency 75 = .ok (.iconst 0, 1) := by decide +kernel
theorem dX0_addDependency_76 : decode cX0_addDependency 76 = .ok (.ior, 1) := by decide +kernel
theorem dX0_addDependency_77 : decode cX0_addDependency 77 = .ok (.putfield 34, 3) := by decide +kernel
theorem dX0_addDependency_80 : decode cX0_addDependency 80 = .ok (.return_, 1) := by decide +kernel
theorem dX0_dropDependencies_0 : decode cX0_dropDependencies 0 = .ok (.aload_n 0, 1) := by decide +kernel
theorem dX0_dropDependencies_1 : decode cX0_dropDependencies 1 = .ok (.iconst 0, 1) := by decide +kernel
theorem dX0_dropDependencies_2 : decode cX0_dropDependencies 2 = .ok (.putfield 27, 3) := by decide +kernel
theorem dX0_dropDependencies_5 : decode cX0_dropDependencies 5 = .ok (.aload_n 0, 1) := by decide +kernel
theorem dX0_dropDependencies_6 : decode cX0_dropDependencies 6 = .ok (.iconst 0, 1) := by decide +kernel
theorem dX0_dropDependencies_7 : decode cX0_dropDependencies 7 = .ok (.putfield 31, 3) := by decide +kernel
theorem dX0_dropDependencies_10 : decode cX0_dropDependencies 10 = .ok (.aload_n 0, 1) := by decide +kernel
theorem dX0_dropDependencies_11 : decode cX0_dropDependencies 11 = .ok (.iconst 0, 1) := by decide +kernel
theorem dX0_dropDependencies_12 : decode cX0_dropDependencies 12 = .ok (.putfield 34, 3) := by decide +kernel
theorem dX0_dropDependencies_15 : decode cX0_dropDependencies 15 = .ok (.return_, 1) := by decide +kernel
theorem dX0_hasDefined_0 : decode cX0_hasDefined 0 = .ok (.aload_n 0, 1) := by decide +kernel
theorem dX0_hasDefined_1 : decode cX0_hasDefined 1 = .ok (.getfield 15, 3) := by decide +kernel
theorem dX0_hasDefined_4 : decode cX0_hasDefined 4 = .ok (.iload_n 1, 1) := by decide +kernel
theorem dX0_hasDefined_5 : decode cX0_hasDefined 5 = .ok (.iaload, 1) := by decide +kernel
theorem dX0_hasDefined_6 : decode cX0_hasDefined 6 = .ok (.iconst (-1), 1) := by decide +kernel
theorem dX0_hasDefined_7 : decode cX0_hasDefined 7 = .ok (.if_icmp .eq 7, 3) := by decide +kernel
theorem dX0_hasDefined_10 : decode cX0_hasDefined 10 = .ok (.iconst 1, 1) := by decide +kernel
theorem dX0_hasDefined_11 : decode cX0_hasDefined 11 = .ok (.goto 4, 3) := by decide +kernel
theorem dX0_hasDefined_14 : decode cX0_hasDefined 14 = .ok (.iconst 0, 1) := by decide +kernel
theorem dX0_hasDefined_15 : decode cX0_hasDefined 15 = .ok (.ireturn, 1) := by decide +kernel
set_option maxRecDepth 20000 in
theorem ggX0_countClasses_X0_hasDefined : GoodIn wsX0_countClasses wsX0_hasDefined := goodIn_r _ [5, 6, 7, 8, 9, 10, 11, 12, 13, 14] (by decide +kernel) (by decide +kernel)
set_option maxRecDepth 20000 in
theorem gX0_countClasses_X0_hasDefined : GoodIn wsX0_countClasses (wsV RX0 45 RX0 yX0_hasDefined wsX0_hasDefined) := goodIn_app (goodIn_of _ (by decide +kernel)) ggX0_countClasses_X0_hasDefined
theorem dX0_countClasses_0 : decode cX0_countClasses 0 = .ok (.iconst 0, 1) := by decide +kernel
theorem dX0_countClasses_1 : decode cX0_countClasses 1 = .ok (.istore_n 1, 1) := by decide +kernel
theorem dX0_countClasses_2 : decode cX0_countClasses 2 = .ok (.iconst 0, 1) := by decide +kernel
theorem dX0_countClasses_3 : decode cX0_countClasses 3 = .ok (.istore_n 2, 1) := by decide +kernel
theorem dX0_countClasses_4 : decode cX0_countClasses 4 = .ok (.iload_n 2, 1) := by decide +kernel
theorem dX0_countClasses_5 : decode cX0_countClasses 5 = .ok (.bipush 24, 2) := by decide +kernel
theorem dX0_countClasses_7 : decode cX0_countClasses 7 = .ok (.if_icmp .ge 20, 3) := by decide +kernel
theorem dX0_countClasses_10 : decode cX0_countClasses 10 = .ok (.aload_n 0, 1) := by decide +kernel
theorem dX0_countClasses_11 : decode cX0_countClasses 11 = .ok (.iload_n 2, 1) := by decide +kernel
theorem dX0_countClasses_12 : decode cX0_countClasses 12 = .ok (.invokevirtual 45, 3) := by decide +kernel
theorem dX0_countClasses_15 : decode cX0_countClasses 15 = .ok (.ifCond .eq 6, 3) := by decide +kernel
theorem dX0_countClasses_18 : decode cX0_countClasses 18 = .ok (.iinc 1 1, 3) := by decide +kernel
theorem dX0_countClasses_21 : decode cX0_countClasses 21 = .ok (.iinc 2 1, 3) := by decide +kernel
theorem dX0_countClasses_24 : decode cX0_countClasses 24 = .ok (.goto (-20), 3) := by decide +kernel
theorem dX0_countClasses_27 : decode cX0_countClasses 27 = .ok (.iload_n 1, 1) := by decide +kernel
theorem dX0_countClasses_28 : decode cX0_countClasses 28 = .ok (.ireturn, 1) := by decide +kernel
theorem dX0_dropClasses_0 : decode cX0_dropClasses 0 = .ok (.iconst 0, 1) := by decide +kernel
theorem dX0_dropClasses_1 : decode cX0_dropClasses 1 = .ok (.istore_n 1, 1) := by decide +kernel
theorem dX0_dropClasses_2 : decode cX0_dropClasses 2 = .ok (.iload_n 1, 1) := by decide +kernel
theorem dX0_dropClasses_3 : decode cX0_dropClasses 3 = .ok (.bipush 24, 2) := by decide +kernel
theorem dX0_dropClasses_5 : decode cX0_dropClasses 5 = .ok (.if_icmp .ge 16, 3) := by decide +kernel
theorem dX0_dropClasses_8 : decode cX0_dropClasses 8 = .ok (.aload_n 0, 1) := by decide +kernel
theorem dX0_dropClasses_9 : decode cX0_dropClasses 9 = .ok (.getfield 15, 3) := by decide +kernel
theorem dX0_dropClasses_12 : decode cX0_dropClasses 12 = .ok (.iload_n 1, 1) := by decide +kernel
theorem dX0_dropClasses_13 : decode cX0_dropClasses 13 = .ok (.iconst (-1), 1) := by decide +kernel
theorem dX0_dropClasses_14 : decode cX0_dropClasses 14 = .ok (.iastore, 1) := by decide +kernel
theorem dX0_dropClasses_15 : decode cX0_dropClasses 15 = .ok (.iinc 1 1, 3) := by decide +kernel
theorem dX0_dropClasses_18 : decode cX0_dropClasses 18 = .ok (.goto (-16), 3) := by decide +kernel
theorem dX0_dropClasses_21 : decode cX0_dropClasses 21 = .ok (.return_, 1) := by decide +kernel
theorem dX0_hasClassBelow_0 : decode cX0_hasClassBelow 0 = .ok (.iconst 0, 1) := by decide +kernel
theorem dX0_hasClassBelow_1 : decode cX0_hasClassBelow 1 = .ok (.istore_n 2, 1) := by decide +kernel
theorem dX0_hasClassBelow_2 : decode cX0_hasClassBelow 2 = .ok (.iload_n 2, 1) := by decide +kernel
theorem dX0_hasClassBelow_3 : decode cX0_hasClassBelow 3 = .ok (.bipush 24, 2) := by decide +kernel
theorem dX0_hasClassBelow_5 : decode cX0_hasClassBelow 5 = .ok (.if_icmp .ge 21, 3) := by decide +kernel
theorem dX0_hasClassBelow_8 : decode cX0_hasClassBelow 8 = .ok (.aload_n 0, 1) := by decide +kernel
theorem dX0_hasClassBelow_9 : decode cX0_hasClassBelow 9 = .ok (.getfield 15, 3) := by decide +kernel
theorem dX0_hasClassBelow_12 : decode cX0_hasClassBelow 12 = .ok (.iload_n 2, 1) := by decide +kernel
theorem dX0_hasClassBelow_13 : decode cX0_hasClassBelow 13 = .ok (.iaload, 1) := by decide +kernel
theorem dX0_hasClassBelow_14 : decode cX0_hasClassBelow 14 = .ok (.iload_n 1, 1) := by decide +kernel
theorem dX0_hasClassBelow_15 : decode cX0_hasClassBelow 15 = .ok (.if_icmp .ne 5, 3) := by decide +kernel
theorem dX0_hasClassBelow_18 : decode cX0_hasClassBelow 18 = .ok (.iconst 1, 1) := by decide +kernel
theorem dX0_hasClassBelow_19 : decode cX0_hasClassBelow 19 = .ok (.ireturn, 1) := by decide +kernel
theorem dX0_hasClassBelow_20 : decode cX0_hasClassBelow 20 = .ok (.iinc 2 1, 3) := by decide +kernel
theorem dX0_hasClassBelow_23 : decode cX0_hasClassBelow 23 = .ok (.goto (-21), 3) := by decide +kernel
theorem dX0_hasClassBelow_26 : decode cX0_hasClassBelow 26 = .ok (.iconst 0, 1) := by decide +kernel
theorem dX0_hasClassBelow_27 : decode cX0_hasClassBelow 27 = .ok (.ireturn, 1) := by decide +kernel
set_option maxRecDepth 20000 in
theorem ggX1_init_X1_clear : GoodIn wsX1_init wsX1_clear := goodIn_r _ [10, 11, 12, 13, 14, 15, 16, 17] (by decide +kernel) (by decide +kernel)
set_option maxRecDepth 20000 in
theorem gX1_init_X1_clear : GoodIn wsX1_init (wsV RX1 15 RX1 yX1_clear wsX1_clear) := goodIn_app (goodIn_of _ (by decide +kernel)) ggX1_init_X1_clear
theorem dX1_init_0 : decode cX1_init 0 = .ok (.aload_n 0, 1) := by decide +kernel
theorem dX1_init_1 : decode cX1_init 1 = .ok (.invokespecial 3, 3) := by decide +kernel
theorem dX1_init_4 : decode cX1_init 4 = .ok (.aload_n 0, 1) := by decide +kernel
theorem dX1_init_5 : decode cX1_init 5 = .ok (.bipush 8, 2) := by decide +kernel
theorem dX1_init_7 : decode cX1_init 7 = .ok (.newarray .int, 2) := by decide +kernel
theorem dX1_init_9 : decode cX1_init 9 = .ok (.putfield 9, 3) := by decide +kernel
theorem dX1_init_12 : decode cX1_init 12 = .ok (.aload_n 0, 1) := by decide +kernel
theorem dX1_init_13 : decode cX1_init 13 = .ok (.invokevirtual 15, 3) := by decide +kernel
theorem dX1_init_16 : decode cX1_init 16 = .ok (.return_, 1) := by decide +kernel
theorem dX1_clear_0 : decode cX1_clear 0 = .ok (.aload_n 0, 1) := by decide +kernel
theorem dX1_clear_1 : decode cX1_clear 1 = .ok (.iconst 0, 1) := by decide +kernel
theorem dX1_clear_2 : decode cX1_clear 2 = .ok (.putfield 18, 3) := by decide +kernel
theorem dX1_clear_5 : decode cX1_clear 5 = .ok (.aload_n 0, 1) := by decide +kernel
theorem dX1_clear_6 : decode cX1_clear 6 = .ok (.iconst 0, 1) := by decide +kernel
theorem dX1_clear_7 : decode cX1_clear 7 = .ok (.putfield 22, 3) := by decide +kernel
theorem dX1_clear_10 : decode cX1_clear 10 = .ok (.aload_n 0, 1) := by decide +kernel
theorem dX1_clear_11 : decode cX1_clear 11 = .ok (.iconst 0, 1) := by decide +kernel
theorem dX1_clear_12 : decode cX1_clear 12 = .ok (.putfield 25, 3) := by decide +kernel
theorem dX1_clear_15 : decode cX1_clear 15 = .ok (.return_, 1) := by decide +kernel
set_option maxRecDepth 20000 in
theorem ggX1_addOnceIf_X2_isIn : GoodIn wsX1_addOnceIf wsX2_isIn := goodIn_r _ [6] (by decide +kernel) (by decide +kernel)
set_option maxRecDepth 20000 in
theorem gX1_addOnceIf_X2_isIn_n28 : GoodIn wsX1_addOnceIf (wsX2_isIn) := ggX1_addOnceIf_X2_isIn
set_option maxRecDepth 20000 in
theorem ggX1_addOnceIf_X2_bit : GoodIn wsX1_addOnceIf wsX2_bit := goodIn_r _ [8] (by decide +kernel) (by decide +kernel)
set_option maxRecDepth 20000 in
theorem gX1_addOnceIf_X2_bit_n32 : GoodIn wsX1_addOnceIf (wsX2_bit) := ggX1_addOnceIf_X2_bit
theorem dX1_addOnceIf_0 : decode cX1_addOnceIf 0 = .ok (.iload_n 1, 1) := by decide +kernel
theorem dX1_addOnceIf_1 : decode cX1_addOnceIf 1 = .ok (.ifCond .eq 56, 3) := by decide +kernel
theorem dX1_addOnceIf_4 : decode cX1_addOnceIf 4 = .ok (.aload_n 0, 1) := by decide +kernel
theorem dX1_addOnceIf_5 : decode cX1_addOnceIf 5 = .ok (.getfield 18, 3) := by decide +kernel
theorem dX1_addOnceIf_8 : decode cX1_addOnceIf 8 = .ok (.bipush 8, 2) := by decide +kernel
theorem dX1_addOnceIf_10 : decode cX1_addOnceIf 10 = .ok (.if_icmp .ge 47, 3) := by decide +kernel
theorem dX1_addOnceIf_13 : decode cX1_addOnceIf 13 = .ok (.aload_n 0, 1) := by decide +kernel
theorem dX1_addOnceIf_14 : decode cX1_addOnceIf 14 = .ok (.getfield 22, 3) := by decide +kernel
theorem dX1_addOnceIf_17 : decode cX1_addOnceIf 17 = .ok (.iload_n 2, 1) := by decide +kernel
theorem dX1_addOnceIf_18 : decode cX1_addOnceIf 18 = .ok (.invokestatic 28, 3) := by decide +kernel
theorem dX1_addOnceIf_21 : decode cX1_addOnceIf 21 = .ok (.ifCond .ne 36, 3) := by decide +kernel
theorem dX1_addOnceIf_24 : decode cX1_addOnceIf 24 = .ok (.aload_n 0, 1) := by decide +kernel
theorem dX1_addOnceIf_25 : decode cX1_addOnceIf 25 = .ok (.getfield 9, 3) := by decide +kernel
theorem dX1_addOnceIf_28 : decode cX1_addOnceIf 28 = .ok (.aload_n 0, 1) := by decide +kernel
theorem dX1_addOnceIf_29 : decode cX1_addOnceIf 29 = .ok (.getfield 18, 3) := by decide +kernel
theorem dX1_addOnceIf_32 : decode cX1_addOnceIf 32 = .ok (.iload_n 2, 1) := by decide +kernel
theorem dX1_addOnceIf_33 : decode cX1_addOnceIf 33 = .ok (.iastore, 1) := by decide +kernel
theorem dX1_addOnceIf_34 : decode cX1_addOnceIf 34 = .ok (.aload_n 0, 1) := by decide +kernel
theorem dX1_addOnceIf_35 : decode cX1_addOnceIf 35 = .ok (.dup, 1) := by decide +kernel
theorem dX1_addOnceIf_36 : decode cX1_addOnceIf 36 = .ok (.getfield 18, 3) := by decide +kernel
theorem dX1_addOnceIf_39 : decode cX1_addOnceIf 39 = .ok (.iconst 1, 1) := by decide +kernel
theorem dX1_addOnceIf_40 : decode cX1_addOnceIf 40 = .ok (.iadd, 1) := by decide +kernel
theorem dX1_addOnceIf_41 : decode cX1_addOnceIf 41 = .ok (.putfield 18, 3) := by decide +kernel
theorem dX1_addOnceIf_44 : decode cX1_addOnceIf 44 = .ok (.aload_n 0, 1) := by decide +kernel
theorem dX1_addOnceIf_45 : decode cX1_addOnceIf 45 = .ok (.dup, 1) := by decide +kernel
