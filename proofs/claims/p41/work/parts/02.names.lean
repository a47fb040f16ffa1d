def RX0 : String := "RecipeForests$Desk"
def TX0 : u_T := fun k => match k with
  | 0 => ("RecipeForests$Desk", "forest", "LRecipeForests$Forest;", true)
  | 1 => ("RecipeForests$Desk", "mix", "LRecipeForests$Mix;", true)
  | 2 => ("RecipeForests$Desk", "reason", "I", false)
  | _ => ("RecipeForests$Desk", "detail", "I", false)
def tyX0 : Nat → FieldType := fun k => match k with
  | 0 => .object "RecipeForests$Forest"
  | 1 => .object "RecipeForests$Mix"
  | 2 => .int
  | _ => .int
abbrev wsX00 : List Cond := u_ws RX0 TX0 4
theorem nmX0 : ∀ a, a < 4 → ∀ b, b < 4 → a ≠ b → (TX0 a).2.1 ≠ (TX0 b).2.1 := by decide +kernel
theorem tyX0_ok : ∀ k, k < 4 → parseFieldDescriptor (TX0 k).2.2.1 = some (tyX0 k) := by decide +kernel
abbrev cX0_init : ByteArray := prog_2_method_1_code
def yX0_init : MethodName := ⟨RX0, "<init>", "(LRecipeForests$Forest;)V"⟩
abbrev cX0_latestReason : ByteArray := prog_2_method_2_code
def yX0_latestReason : MethodName := ⟨RX0, "latestReason", "()I"⟩
abbrev cX0_latestDetail : ByteArray := prog_2_method_3_code
def yX0_latestDetail : MethodName := ⟨RX0, "latestDetail", "()I"⟩
abbrev cX0_tryEdit : ByteArray := prog_2_method_4_code
def yX0_tryEdit : MethodName := ⟨RX0, "tryEdit", "(III)I"⟩
abbrev cX0_tryFork : ByteArray := prog_2_method_5_code
def yX0_tryFork : MethodName := ⟨RX0, "tryFork", "(I)I"⟩
abbrev cX0_tryReset : ByteArray := prog_2_method_6_code
def yX0_tryReset : MethodName := ⟨RX0, "tryReset", "(II)I"⟩
abbrev cX0_tryMerge : ByteArray := prog_2_method_7_code
def yX0_tryMerge : MethodName := ⟨RX0, "tryMerge", "(III)I"⟩
abbrev cX0_tryPick : ByteArray := prog_2_method_8_code
def yX0_tryPick : MethodName := ⟨RX0, "tryPick", "(III)I"⟩
abbrev cX0_tryRevert : ByteArray := prog_2_method_9_code
def yX0_tryRevert : MethodName := ⟨RX0, "tryRevert", "(III)I"⟩
abbrev cX0_tryBundle : ByteArray := prog_2_method_10_code
def yX0_tryBundle : MethodName := ⟨RX0, "tryBundle", "(I)I"⟩
abbrev cX0_tryPut : ByteArray := prog_2_method_11_code
def yX0_tryPut : MethodName := ⟨RX0, "tryPut", "(II)I"⟩
abbrev cX0_tryPlay : ByteArray := prog_2_method_12_code
def yX0_tryPlay : MethodName := ⟨RX0, "tryPlay", "(II)I"⟩
abbrev cX0_conflictsBetween : ByteArray := prog_2_method_13_code
def yX0_conflictsBetween : MethodName := ⟨RX0, "conflictsBetween", "(II)I"⟩
abbrev cX0_pickChange : ByteArray := prog_2_method_14_code
def yX0_pickChange : MethodName := ⟨RX0, "pickChange", "(IIII)I"⟩
abbrev cX0_isStopped : ByteArray := prog_2_method_15_code
def yX0_isStopped : MethodName := ⟨RX0, "isStopped", "(I)Z"⟩
abbrev cX0_refuse : ByteArray := prog_2_method_16_code
def yX0_refuse : MethodName := ⟨RX0, "refuse", "(II)I"⟩
def RX1 : String := "RecipeForests$Forest"
def TX1 : u_T := fun k => match k with
  | 0 => ("RecipeForests$Forest", "commits", "I", false)
  | 1 => ("RecipeForests$Forest", "branches", "I", false)
  | 2 => ("RecipeForests$Forest", "purpose", "I", false)
  | 3 => ("RecipeForests$Forest", "kinds", "[I", true)
  | 4 => ("RecipeForests$Forest", "firsts", "[I", true)
  | 5 => ("RecipeForests$Forest", "seconds", "[I", true)
  | 6 => ("RecipeForests$Forest", "families", "[I", true)
  | 7 => ("RecipeForests$Forest", "depths", "[I", true)
  | 8 => ("RecipeForests$Forest", "amounts", "[I", true)
  | 9 => ("RecipeForests$Forest", "tips", "[I", true)
  | _ => ("RecipeForests$Forest", "bundled", "[I", true)
def tyX1 : Nat → FieldType := fun k => match k with
  | 0 => .int
  | 1 => .int
  | 2 => .int
  | 3 => .array .int
  | 4 => .array .int
  | 5 => .array .int
  | 6 => .array .int
  | 7 => .array .int
  | 8 => .array .int
  | 9 => .array .int
  | _ => .array .int
abbrev wsX10 : List Cond := u_ws RX1 TX1 11
theorem nmX1 : ∀ a, a < 11 → ∀ b, b < 11 → a ≠ b → (TX1 a).2.1 ≠ (TX1 b).2.1 := by decide +kernel
theorem tyX1_ok : ∀ k, k < 11 → parseFieldDescriptor (TX1 k).2.2.1 = some (tyX1 k) := by decide +kernel
abbrev cX1_init : ByteArray := prog_3_method_1_code
def yX1_init : MethodName := ⟨RX1, "<init>", "()V"⟩
abbrev cX1_become : ByteArray := prog_3_method_2_code
def yX1_become : MethodName := ⟨RX1, "become", "(LRecipeForests$Forest;)V"⟩
abbrev cX1_isCommit : ByteArray := prog_3_method_3_code
def yX1_isCommit : MethodName := ⟨RX1, "isCommit", "(I)Z"⟩
abbrev cX1_isBranch : ByteArray := prog_3_method_4_code
def yX1_isBranch : MethodName := ⟨RX1, "isBranch", "(I)Z"⟩
abbrev cX1_isFull : ByteArray := prog_3_method_5_code
def yX1_isFull : MethodName := ⟨RX1, "isFull", "()Z"⟩
abbrev cX1_commitCount : ByteArray := prog_3_method_6_code
def yX1_commitCount : MethodName := ⟨RX1, "commitCount", "()I"⟩
abbrev cX1_branchCount : ByteArray := prog_3_method_7_code
def yX1_branchCount : MethodName := ⟨RX1, "branchCount", "()I"⟩
abbrev cX1_tipOf : ByteArray := prog_3_method_8_code
def yX1_tipOf : MethodName := ⟨RX1, "tipOf", "(I)I"⟩
abbrev cX1_kindOf : ByteArray := prog_3_method_9_code
def yX1_kindOf : MethodName := ⟨RX1, "kindOf", "(I)I"⟩
abbrev cX1_firstOf : ByteArray := prog_3_method_10_code
def yX1_firstOf : MethodName := ⟨RX1, "firstOf", "(I)I"⟩
abbrev cX1_secondOf : ByteArray := prog_3_method_11_code
def yX1_secondOf : MethodName := ⟨RX1, "secondOf", "(I)I"⟩
abbrev cX1_familyOf : ByteArray := prog_3_method_12_code
def yX1_familyOf : MethodName := ⟨RX1, "familyOf", "(I)I"⟩
abbrev cX1_depthOf : ByteArray := prog_3_method_13_code
def yX1_depthOf : MethodName := ⟨RX1, "depthOf", "(I)I"⟩
abbrev cX1_amountIn : ByteArray := prog_3_method_14_code
def yX1_amountIn : MethodName := ⟨RX1, "amountIn", "(II)I"⟩
abbrev cX1_changedIn : ByteArray := prog_3_method_15_code
def yX1_changedIn : MethodName := ⟨RX1, "changedIn", "(I)I"⟩
abbrev cX1_addCommit : ByteArray := prog_3_method_16_code
def yX1_addCommit : MethodName := ⟨RX1, "addCommit", "(III[I)I"⟩
abbrev cX1_addBranch : ByteArray := prog_3_method_17_code
def yX1_addBranch : MethodName := ⟨RX1, "addBranch", "(I)I"⟩
abbrev cX1_moveTip : ByteArray := prog_3_method_18_code
def yX1_moveTip : MethodName := ⟨RX1, "moveTip", "(II)V"⟩
abbrev cX1_hasInFamily : ByteArray := prog_3_method_19_code
def yX1_hasInFamily : MethodName := ⟨RX1, "hasInFamily", "(II)Z"⟩
abbrev cX1_commonGround : ByteArray := prog_3_method_20_code
def yX1_commonGround : MethodName := ⟨RX1, "commonGround", "(II)I"⟩
abbrev cX1_meetingPoint : ByteArray := prog_3_method_21_code
def yX1_meetingPoint : MethodName := ⟨RX1, "meetingPoint", "(II)I"⟩
abbrev cX1_isBornWell : ByteArray := prog_3_method_22_code
def yX1_isBornWell : MethodName := ⟨RX1, "isBornWell", "(I)Z"⟩
abbrev cX1_areBasesSame : ByteArray := prog_3_method_23_code
def yX1_areBasesSame : MethodName := ⟨RX1, "areBasesSame", "(I)Z"⟩
abbrev cX1_tasteOf : ByteArray := prog_3_method_24_code
def yX1_tasteOf : MethodName := ⟨RX1, "tasteOf", "(I)F"⟩
abbrev cX1_countKind : ByteArray := prog_3_method_25_code
def yX1_countKind : MethodName := ⟨RX1, "countKind", "(I)I"⟩
abbrev cX1_countLost : ByteArray := prog_3_method_26_code
def yX1_countLost : MethodName := ⟨RX1, "countLost", "()I"⟩
abbrev cX1_sumOfTips : ByteArray := prog_3_method_27_code
def yX1_sumOfTips : MethodName := ⟨RX1, "sumOfTips", "()I"⟩
abbrev cX1_bundleKind : ByteArray := prog_3_method_28_code
def yX1_bundleKind : MethodName := ⟨RX1, "bundleKind", "()I"⟩
abbrev cX1_bundledAt : ByteArray := prog_3_method_29_code
def yX1_bundledAt : MethodName := ⟨RX1, "bundledAt", "(I)I"⟩
abbrev cX1_bundledCount : ByteArray := prog_3_method_30_code
def yX1_bundledCount : MethodName := ⟨RX1, "bundledCount", "()I"⟩
abbrev cX1_placeOf : ByteArray := prog_3_method_31_code
def yX1_placeOf : MethodName := ⟨RX1, "placeOf", "(I)I"⟩
abbrev cX1_takeBundle : ByteArray := prog_3_method_32_code
def yX1_takeBundle : MethodName := ⟨RX1, "takeBundle", "(I)V"⟩
abbrev cX1_fillPlace : ByteArray := prog_3_method_33_code
def yX1_fillPlace : MethodName := ⟨RX1, "fillPlace", "(II)V"⟩
def RX2 : String := "RecipeForests$History"
def TX2 : u_T := fun k => match k with
  | 0 => ("RecipeForests$History", "states", "[LRecipeForests$Forest;", true)
  | 1 => ("RecipeForests$History", "next", "I", false)
  | _ => ("RecipeForests$History", "count", "I", false)
def tyX2 : Nat → FieldType := fun k => match k with
  | 0 => .array (.object "RecipeForests$Forest")
  | 1 => .int
  | _ => .int
abbrev wsX20 : List Cond := u_ws RX2 TX2 3
theorem nmX2 : ∀ a, a < 3 → ∀ b, b < 3 → a ≠ b → (TX2 a).2.1 ≠ (TX2 b).2.1 := by decide +kernel
theorem tyX2_ok : ∀ k, k < 3 → parseFieldDescriptor (TX2 k).2.2.1 = some (tyX2 k) := by decide +kernel
abbrev cX2_init : ByteArray := prog_4_method_1_code
def yX2_init : MethodName := ⟨RX2, "<init>", "()V"⟩
abbrev cX2_size : ByteArray := prog_4_method_2_code
def yX2_size : MethodName := ⟨RX2, "size", "()I"⟩
abbrev cX2_forgetAll : ByteArray := prog_4_method_3_code
def yX2_forgetAll : MethodName := ⟨RX2, "forgetAll", "()V"⟩
abbrev cX2_keep : ByteArray := prog_4_method_4_code
def yX2_keep : MethodName := ⟨RX2, "keep", "(LRecipeForests$Forest;)V"⟩
abbrev cX2_takeBack : ByteArray := prog_4_method_5_code
def yX2_takeBack : MethodName := ⟨RX2, "takeBack", "(LRecipeForests$Forest;)I"⟩
abbrev cX2_rowAt : ByteArray := prog_4_method_6_code
def yX2_rowAt : MethodName := ⟨RX2, "rowAt", "(I)LRecipeForests$Forest;"⟩
def RX3 : String := "RecipeForests$Input"
def TX3 : u_T := fun k => match k with
  | 0 => ("RecipeForests$Input", "signs", "[C", true)
  | _ => ("RecipeForests$Input", "length", "I", false)
def tyX3 : Nat → FieldType := fun k => match k with
  | 0 => .array .char
  | _ => .int
abbrev wsX30 : List Cond := u_ws RX3 TX3 2
theorem nmX3 : ∀ a, a < 2 → ∀ b, b < 2 → a ≠ b → (TX3 a).2.1 ≠ (TX3 b).2.1 := by decide +kernel
theorem tyX3_ok : ∀ k, k < 2 → parseFieldDescriptor (TX3 k).2.2.1 = some (tyX3 k) := by decide +kernel
abbrev cX3_init : ByteArray := prog_5_method_1_code
def yX3_init : MethodName := ⟨RX3, "<init>", "()V"⟩
abbrev cX3_size : ByteArray := prog_5_method_2_code
def yX3_size : MethodName := ⟨RX3, "size", "()I"⟩
abbrev cX3_isFull : ByteArray := prog_5_method_3_code
def yX3_isFull : MethodName := ⟨RX3, "isFull", "()Z"⟩
abbrev cX3_add : ByteArray := prog_5_method_4_code
def yX3_add : MethodName := ⟨RX3, "add", "(C)I"⟩
abbrev cX3_clear : ByteArray := prog_5_method_5_code
def yX3_clear : MethodName := ⟨RX3, "clear", "()V"⟩
abbrev cX3_signAt : ByteArray := prog_5_method_6_code
def yX3_signAt : MethodName := ⟨RX3, "signAt", "(I)I"⟩
def RX4 : String := "RecipeForests$Line"
def TX4 : u_T := fun k => match k with
  | 0 => ("RecipeForests$Line", "signs", "[C", true)
  | _ => ("RecipeForests$Line", "length", "I", false)
def tyX4 : Nat → FieldType := fun k => match k with
  | 0 => .array .char
  | _ => .int
abbrev wsX40 : List Cond := u_ws RX4 TX4 2
theorem nmX4 : ∀ a, a < 2 → ∀ b, b < 2 → a ≠ b → (TX4 a).2.1 ≠ (TX4 b).2.1 := by decide +kernel
theorem tyX4_ok : ∀ k, k < 2 → parseFieldDescriptor (TX4 k).2.2.1 = some (tyX4 k) := by decide +kernel
abbrev cX4_init : ByteArray := prog_6_method_1_code
def yX4_init : MethodName := ⟨RX4, "<init>", "()V"⟩
abbrev cX4_has : ByteArray := prog_6_method_2_code
def yX4_has : MethodName := ⟨RX4, "has", "(I)Z"⟩
abbrev cX4_signAt : ByteArray := prog_6_method_3_code
def yX4_signAt : MethodName := ⟨RX4, "signAt", "(I)C"⟩
abbrev cX4_write : ByteArray := prog_6_method_4_code
def yX4_write : MethodName := ⟨RX4, "write", "(LRecipeForests$Forest;I)I"⟩
abbrev cX4_letterOf : ByteArray := prog_6_method_5_code
def yX4_letterOf : MethodName := ⟨RX4, "letterOf", "(I)C"⟩
abbrev cX4_addNumber : ByteArray := prog_6_method_6_code
def yX4_addNumber : MethodName := ⟨RX4, "addNumber", "(I)V"⟩
abbrev cX4_addSign : ByteArray := prog_6_method_7_code
def yX4_addSign : MethodName := ⟨RX4, "addSign", "(C)V"⟩
def RX5 : String := "RecipeForests$Mix"
def TX5 : u_T := fun k => match k with
  | 0 => ("RecipeForests$Mix", "row", "[I", true)
  | 1 => ("RecipeForests$Mix", "conflictCount", "I", false)
  | _ => ("RecipeForests$Mix", "lowest", "I", false)
def tyX5 : Nat → FieldType := fun k => match k with
  | 0 => .array .int
  | 1 => .int
  | _ => .int
abbrev wsX50 : List Cond := u_ws RX5 TX5 3
theorem nmX5 : ∀ a, a < 3 → ∀ b, b < 3 → a ≠ b → (TX5 a).2.1 ≠ (TX5 b).2.1 := by decide +kernel
theorem tyX5_ok : ∀ k, k < 3 → parseFieldDescriptor (TX5 k).2.2.1 = some (tyX5 k) := by decide +kernel
abbrev cX5_init : ByteArray := prog_7_method_1_code
def yX5_init : MethodName := ⟨RX5, "<init>", "()V"⟩
abbrev cX5_amounts : ByteArray := prog_7_method_2_code
def yX5_amounts : MethodName := ⟨RX5, "amounts", "()[I"⟩
abbrev cX5_conflictsFound : ByteArray := prog_7_method_3_code
def yX5_conflictsFound : MethodName := ⟨RX5, "conflictsFound", "()I"⟩
abbrev cX5_lowestConflict : ByteArray := prog_7_method_4_code
def yX5_lowestConflict : MethodName := ⟨RX5, "lowestConflict", "()I"⟩
abbrev cX5_change : ByteArray := prog_7_method_5_code
def yX5_change : MethodName := ⟨RX5, "change", "(LRecipeForests$Forest;III)V"⟩
abbrev cX5_putTogether : ByteArray := prog_7_method_6_code
def yX5_putTogether : MethodName := ⟨RX5, "putTogether", "(LRecipeForests$Forest;IIII)V"⟩
abbrev cX5_isRowOf : ByteArray := prog_7_method_7_code
def yX5_isRowOf : MethodName := ⟨RX5, "isRowOf", "(LRecipeForests$Forest;I)Z"⟩
abbrev cX5_byRule : ByteArray := prog_7_method_8_code
def yX5_byRule : MethodName := ⟨RX5, "byRule", "(III)I"⟩
def RX6 : String := "RecipeForests$Orders"
def TX6 : u_T := fun k => match k with
  | 0 => ("RecipeForests$Orders", "rows", "[I", true)
  | 1 => ("RecipeForests$Orders", "count", "I", false)
  | 2 => ("RecipeForests$Orders", "position", "I", false)
  | _ => ("RecipeForests$Orders", "column", "I", false)
def tyX6 : Nat → FieldType := fun k => match k with
  | 0 => .array .int
  | 1 => .int
  | 2 => .int
  | _ => .int
abbrev wsX60 : List Cond := u_ws RX6 TX6 4
theorem nmX6 : ∀ a, a < 4 → ∀ b, b < 4 → a ≠ b → (TX6 a).2.1 ≠ (TX6 b).2.1 := by decide +kernel
theorem tyX6_ok : ∀ k, k < 4 → parseFieldDescriptor (TX6 k).2.2.1 = some (tyX6 k) := by decide +kernel
abbrev cX6_init : ByteArray := prog_8_method_1_code
def yX6_init : MethodName := ⟨RX6, "<init>", "()V"⟩
abbrev cX6_parse : ByteArray := prog_8_method_2_code
def yX6_parse : MethodName := ⟨RX6, "parse", "(LRecipeForests$Input;)I"⟩
abbrev cX6_carryOut : ByteArray := prog_8_method_3_code
def yX6_carryOut : MethodName := ⟨RX6, "carryOut", "(LRecipeForests$Desk;)I"⟩
abbrev cX6_parseOrder : ByteArray := prog_8_method_4_code
def yX6_parseOrder : MethodName := ⟨RX6, "parseOrder", "(LRecipeForests$Input;)Z"⟩
abbrev cX6_shapeOf : ByteArray := prog_8_method_5_code
def yX6_shapeOf : MethodName := ⟨RX6, "shapeOf", "(I)Ljava/lang/String;"⟩
abbrev cX6_parseSign : ByteArray := prog_8_method_6_code
def yX6_parseSign : MethodName := ⟨RX6, "parseSign", "(LRecipeForests$Input;C)Z"⟩
abbrev cX6_isDigit : ByteArray := prog_8_method_7_code
def yX6_isDigit : MethodName := ⟨RX6, "isDigit", "(I)Z"⟩
abbrev cX6_store : ByteArray := prog_8_method_8_code
def yX6_store : MethodName := ⟨RX6, "store", "(I)V"⟩
abbrev cX6_numberAt : ByteArray := prog_8_method_9_code
def yX6_numberAt : MethodName := ⟨RX6, "numberAt", "(II)I"⟩
abbrev cX6_carryOutOrder : ByteArray := prog_8_method_10_code
def yX6_carryOutOrder : MethodName := ⟨RX6, "carryOutOrder", "(LRecipeForests$Desk;I)I"⟩
def RX7 : String := "RecipeForests$Walk"
def TX7 : u_T := fun k => match k with
  | 0 => ("RecipeForests$Walk", "commits", "[I", true)
  | 1 => ("RecipeForests$Walk", "length", "I", false)
  | _ => ("RecipeForests$Walk", "looks", "I", false)
def tyX7 : Nat → FieldType := fun k => match k with
  | 0 => .array .int
  | 1 => .int
  | _ => .int
abbrev wsX70 : List Cond := u_ws RX7 TX7 3
theorem nmX7 : ∀ a, a < 3 → ∀ b, b < 3 → a ≠ b → (TX7 a).2.1 ≠ (TX7 b).2.1 := by decide +kernel
theorem tyX7_ok : ∀ k, k < 3 → parseFieldDescriptor (TX7 k).2.2.1 = some (tyX7 k) := by decide +kernel
abbrev cX7_init : ByteArray := prog_9_method_1_code
def yX7_init : MethodName := ⟨RX7, "<init>", "()V"⟩
abbrev cX7_follow : ByteArray := prog_9_method_2_code
def yX7_follow : MethodName := ⟨RX7, "follow", "(LRecipeForests$Forest;I)V"⟩
abbrev cX7_at : ByteArray := prog_9_method_3_code
def yX7_at : MethodName := ⟨RX7, "at", "(I)I"⟩
abbrev cX7_looksTaken : ByteArray := prog_9_method_4_code
def yX7_looksTaken : MethodName := ⟨RX7, "looksTaken", "()I"⟩
abbrev cX7_searchByHalves : ByteArray := prog_9_method_5_code
def yX7_searchByHalves : MethodName := ⟨RX7, "searchByHalves", "(LRecipeForests$Forest;II)I"⟩
abbrev cX7_farthestBad : ByteArray := prog_9_method_6_code
def yX7_farthestBad : MethodName := ⟨RX7, "farthestBad", "(LRecipeForests$Forest;II)I"⟩
abbrev cX7_latestChange : ByteArray := prog_9_method_7_code
def yX7_latestChange : MethodName := ⟨RX7, "latestChange", "(LRecipeForests$Forest;I)I"⟩
abbrev cX7_farthestBest : ByteArray := prog_9_method_8_code
def yX7_farthestBest : MethodName := ⟨RX7, "farthestBest", "(LRecipeForests$Forest;)I"⟩
def RX8 : String := "RecipeForests"
def TX8 : u_T := fun k => match k with
  | 0 => ("RecipeForests", "forest", "LRecipeForests$Forest;", true)
  | 1 => ("RecipeForests", "before", "LRecipeForests$Forest;", true)
  | 2 => ("RecipeForests", "saved", "LRecipeForests$Forest;", true)
  | 3 => ("RecipeForests", "isSaved", "Z", false)
  | 4 => ("RecipeForests", "history", "LRecipeForests$History;", true)
  | 5 => ("RecipeForests", "desk", "LRecipeForests$Desk;", true)
  | 6 => ("RecipeForests", "walk", "LRecipeForests$Walk;", true)
  | 7 => ("RecipeForests", "input", "LRecipeForests$Input;", true)
  | 8 => ("RecipeForests", "orders", "LRecipeForests$Orders;", true)
  | 9 => ("RecipeForests", "written", "LRecipeForests$Line;", true)
  | _ => ("RecipeForests", "wrongPosition", "I", false)
def tyX8 : Nat → FieldType := fun k => match k with
  | 0 => .object "RecipeForests$Forest"
  | 1 => .object "RecipeForests$Forest"
  | 2 => .object "RecipeForests$Forest"
  | 3 => .boolean
  | 4 => .object "RecipeForests$History"
  | 5 => .object "RecipeForests$Desk"
  | 6 => .object "RecipeForests$Walk"
  | 7 => .object "RecipeForests$Input"
  | 8 => .object "RecipeForests$Orders"
  | 9 => .object "RecipeForests$Line"
  | _ => .int
abbrev wsX80 : List Cond := u_ws RX8 TX8 11
theorem nmX8 : ∀ a, a < 11 → ∀ b, b < 11 → a ≠ b → (TX8 a).2.1 ≠ (TX8 b).2.1 := by decide +kernel
theorem tyX8_ok : ∀ k, k < 11 → parseFieldDescriptor (TX8 k).2.2.1 = some (tyX8 k) := by decide +kernel
abbrev cX8_init : ByteArray := prog_1_method_1_code
def yX8_init : MethodName := ⟨RX8, "<init>", "()V"⟩
abbrev cX8_edit : ByteArray := prog_1_method_2_code
def yX8_edit : MethodName := ⟨RX8, "edit", "(III)I"⟩
abbrev cX8_fork : ByteArray := prog_1_method_3_code
def yX8_fork : MethodName := ⟨RX8, "fork", "(I)I"⟩
abbrev cX8_reset : ByteArray := prog_1_method_4_code
def yX8_reset : MethodName := ⟨RX8, "reset", "(II)I"⟩
abbrev cX8_tip : ByteArray := prog_1_method_5_code
def yX8_tip : MethodName := ⟨RX8, "tip", "(I)I"⟩
abbrev cX8_amount : ByteArray := prog_1_method_6_code
def yX8_amount : MethodName := ⟨RX8, "amount", "(II)I"⟩
abbrev cX8_commitOf : ByteArray := prog_1_method_7_code
def yX8_commitOf : MethodName := ⟨RX8, "commitOf", "(II)I"⟩
abbrev cX8_merge : ByteArray := prog_1_method_8_code
def yX8_merge : MethodName := ⟨RX8, "merge", "(III)I"⟩
abbrev cX8_pick : ByteArray := prog_1_method_9_code
def yX8_pick : MethodName := ⟨RX8, "pick", "(III)I"⟩
abbrev cX8_revert : ByteArray := prog_1_method_10_code
def yX8_revert : MethodName := ⟨RX8, "revert", "(III)I"⟩
abbrev cX8_conflicts : ByteArray := prog_1_method_11_code
def yX8_conflicts : MethodName := ⟨RX8, "conflicts", "(II)I"⟩
abbrev cX8_isIn : ByteArray := prog_1_method_12_code
def yX8_isIn : MethodName := ⟨RX8, "isIn", "(II)Z"⟩
abbrev cX8_base : ByteArray := prog_1_method_13_code
def yX8_base : MethodName := ⟨RX8, "base", "(II)I"⟩
abbrev cX8_baseAgain : ByteArray := prog_1_method_14_code
def yX8_baseAgain : MethodName := ⟨RX8, "baseAgain", "(II)I"⟩
abbrev cX8_difference : ByteArray := prog_1_method_15_code
def yX8_difference : MethodName := ⟨RX8, "difference", "(II)I"⟩
abbrev cX8_onLine : ByteArray := prog_1_method_16_code
def yX8_onLine : MethodName := ⟨RX8, "onLine", "(II)I"⟩
abbrev cX8_halve : ByteArray := prog_1_method_17_code
def yX8_halve : MethodName := ⟨RX8, "halve", "(IIIZ)I"⟩
abbrev cX8_firstBad : ByteArray := prog_1_method_18_code
def yX8_firstBad : MethodName := ⟨RX8, "firstBad", "(III)I"⟩
abbrev cX8_blame : ByteArray := prog_1_method_19_code
def yX8_blame : MethodName := ⟨RX8, "blame", "(II)I"⟩
abbrev cX8_taste : ByteArray := prog_1_method_20_code
def yX8_taste : MethodName := ⟨RX8, "taste", "(I)F"⟩
abbrev cX8_tasteBits : ByteArray := prog_1_method_21_code
def yX8_tasteBits : MethodName := ⟨RX8, "tasteBits", "(I)I"⟩
abbrev cX8_tastiest : ByteArray := prog_1_method_22_code
def yX8_tastiest : MethodName := ⟨RX8, "tastiest", "(I)I"⟩
abbrev cX8_bundle : ByteArray := prog_1_method_23_code
def yX8_bundle : MethodName := ⟨RX8, "bundle", "(I)I"⟩
abbrev cX8_put : ByteArray := prog_1_method_24_code
def yX8_put : MethodName := ⟨RX8, "put", "(II)I"⟩
abbrev cX8_inBundle : ByteArray := prog_1_method_25_code
def yX8_inBundle : MethodName := ⟨RX8, "inBundle", "(I)I"⟩
abbrev cX8_play : ByteArray := prog_1_method_26_code
def yX8_play : MethodName := ⟨RX8, "play", "(II)I"⟩
abbrev cX8_line : ByteArray := prog_1_method_27_code
def yX8_line : MethodName := ⟨RX8, "line", "(I)I"⟩
abbrev cX8_character : ByteArray := prog_1_method_28_code
def yX8_character : MethodName := ⟨RX8, "character", "(I)C"⟩
abbrev cX8_append : ByteArray := prog_1_method_29_code
def yX8_append : MethodName := ⟨RX8, "append", "(C)I"⟩
abbrev cX8_read : ByteArray := prog_1_method_30_code
def yX8_read : MethodName := ⟨RX8, "read", "()I"⟩
abbrev cX8_errorPosition : ByteArray := prog_1_method_31_code
def yX8_errorPosition : MethodName := ⟨RX8, "errorPosition", "()I"⟩
abbrev cX8_refusal : ByteArray := prog_1_method_32_code
def yX8_refusal : MethodName := ⟨RX8, "refusal", "(Z)I"⟩
abbrev cX8_account : ByteArray := prog_1_method_33_code
def yX8_account : MethodName := ⟨RX8, "account", "(I)I"⟩
abbrev cX8_isWell : ByteArray := prog_1_method_34_code
def yX8_isWell : MethodName := ⟨RX8, "isWell", "()Z"⟩
abbrev cX8_meanTaste : ByteArray := prog_1_method_35_code
def yX8_meanTaste : MethodName := ⟨RX8, "meanTaste", "()D"⟩
abbrev cX8_editShare : ByteArray := prog_1_method_36_code
def yX8_editShare : MethodName := ⟨RX8, "editShare", "()F"⟩
abbrev cX8_undo : ByteArray := prog_1_method_37_code
def yX8_undo : MethodName := ⟨RX8, "undo", "()I"⟩
abbrev cX8_save : ByteArray := prog_1_method_38_code
def yX8_save : MethodName := ⟨RX8, "save", "()I"⟩
abbrev cX8_restore : ByteArray := prog_1_method_39_code
def yX8_restore : MethodName := ⟨RX8, "restore", "()I"⟩
abbrev cX8_finished : ByteArray := prog_1_method_40_code
def yX8_finished : MethodName := ⟨RX8, "finished", "(I)I"⟩
abbrev cX8_needBranch : ByteArray := prog_1_method_41_code
def yX8_needBranch : MethodName := ⟨RX8, "needBranch", "(I)V"⟩
abbrev cX8_needCommit : ByteArray := prog_1_method_42_code
def yX8_needCommit : MethodName := ⟨RX8, "needCommit", "(I)V"⟩
abbrev cX8_needIngredient : ByteArray := prog_1_method_43_code
def yX8_needIngredient : MethodName := ⟨RX8, "needIngredient", "(I)V"⟩
abbrev cX8_needAmount : ByteArray := prog_1_method_44_code
def yX8_needAmount : MethodName := ⟨RX8, "needAmount", "(I)V"⟩
abbrev cX8_isIngredient : ByteArray := prog_1_method_45_code
def yX8_isIngredient : MethodName := ⟨RX8, "isIngredient", "(I)Z"⟩
abbrev cX8_isAmount : ByteArray := prog_1_method_46_code
def yX8_isAmount : MethodName := ⟨RX8, "isAmount", "(I)Z"⟩
abbrev cX8_isRule : ByteArray := prog_1_method_47_code
def yX8_isRule : MethodName := ⟨RX8, "isRule", "(I)Z"⟩
abbrev cX8_isPlace : ByteArray := prog_1_method_48_code
def yX8_isPlace : MethodName := ⟨RX8, "isPlace", "(I)Z"⟩
abbrev cX8_isInSet : ByteArray := prog_1_method_49_code
def yX8_isInSet : MethodName := ⟨RX8, "isInSet", "(II)Z"⟩
abbrev cX8_setOf : ByteArray := prog_1_method_50_code
def yX8_setOf : MethodName := ⟨RX8, "setOf", "(I)I"⟩
abbrev cX8_bitsOf : ByteArray := prog_1_method_51_code
def yX8_bitsOf : MethodName := ⟨RX8, "bitsOf", "(F)I"⟩
def RX9 : String := "RecipeForestsModel"
def TX9 : u_T := fun k => match k with
  | _ => ("", "", "", false)
def tyX9 : Nat → FieldType := fun k => match k with
  | _ => .int
abbrev wsX90 : List Cond := u_ws RX9 TX9 0
theorem nmX9 : ∀ a, a < 0 → ∀ b, b < 0 → a ≠ b → (TX9 a).2.1 ≠ (TX9 b).2.1 := by decide +kernel
theorem tyX9_ok : ∀ k, k < 0 → parseFieldDescriptor (TX9 k).2.2.1 = some (tyX9 k) := by decide +kernel
def RJx145de : String := "java/io/Serializable"
def TJx145de : u_T := fun k => match k with
  | _ => ("", "", "", false)
def tyJx145de : Nat → FieldType := fun k => match k with
  | _ => .int
theorem nmJx145de : ∀ a, a < 0 → ∀ b, b < 0 → a ≠ b → (TJx145de a).2.1 ≠ (TJx145de b).2.1 := by decide +kernel
theorem tyJx145de_ok : ∀ k, k < 0 → parseFieldDescriptor (TJx145de k).2.2.1 = some (tyJx145de k) := by decide +kernel
def RJ5 : String := "java/lang/AbstractStringBuilder"
def TJ5 : u_T := fun k => match k with
  | _ => ("", "", "", false)
def tyJ5 : Nat → FieldType := fun k => match k with
  | _ => .int
theorem nmJ5 : ∀ a, a < 0 → ∀ b, b < 0 → a ≠ b → (TJ5 a).2.1 ≠ (TJ5 b).2.1 := by decide +kernel
theorem tyJ5_ok : ∀ k, k < 0 → parseFieldDescriptor (TJ5 k).2.2.1 = some (tyJ5 k) := by decide +kernel
abbrev cJ5_init_d00df : ByteArray := prog_13_method_2_code
def yJ5_init_d00df : MethodName := ⟨RJ5, "<init>", "(I)V"⟩
abbrev cJ5_length_8abf5 : ByteArray := prog_13_method_6_code
def yJ5_length_8abf5 : MethodName := ⟨RJ5, "length", "()I"⟩
abbrev cJ5_ensureCapacityInternal_d00df : ByteArray := prog_13_method_9_code
def yJ5_ensureCapacityInternal_d00df : MethodName := ⟨RJ5, "ensureCapacityInternal", "(I)V"⟩
abbrev cJ5_newCapacity_0f7a4 : ByteArray := prog_13_method_10_code
def yJ5_newCapacity_0f7a4 : MethodName := ⟨RJ5, "newCapacity", "(I)I"⟩
abbrev cJ5_inflate_da8c8 : ByteArray := prog_13_method_11_code
def yJ5_inflate_da8c8 : MethodName := ⟨RJ5, "inflate", "()V"⟩
abbrev cJ5_append_cf1ce : ByteArray := prog_13_method_22_code
def yJ5_append_cf1ce : MethodName := ⟨RJ5, "append", "(Ljava/lang/String;)Ljava/lang/AbstractStringBuilder;"⟩
abbrev cJ5_appendNull_278bc : ByteArray := prog_13_method_26_code
def yJ5_appendNull_278bc : MethodName := ⟨RJ5, "appendNull", "()Ljava/lang/AbstractStringBuilder;"⟩
abbrev cJ5_append_c97b9 : ByteArray := prog_13_method_32_code
def yJ5_append_c97b9 : MethodName := ⟨RJ5, "append", "(I)Ljava/lang/AbstractStringBuilder;"⟩
abbrev cJ5_getValue_6d5f1 : ByteArray := prog_13_method_64_code
def yJ5_getValue_6d5f1 : MethodName := ⟨RJ5, "getValue", "()[B"⟩
abbrev cJ5_isLatin1_aae02 : ByteArray := prog_13_method_68_code
def yJ5_isLatin1_aae02 : MethodName := ⟨RJ5, "isLatin1", "()Z"⟩
abbrev cJ5_inflateIfNeededFor_a7421 : ByteArray := prog_13_method_71_code
def yJ5_inflateIfNeededFor_a7421 : MethodName := ⟨RJ5, "inflateIfNeededFor", "(Ljava/lang/String;)V"⟩
abbrev cJ5_putStringAt_47b60 : ByteArray := prog_13_method_73_code
def yJ5_putStringAt_47b60 : MethodName := ⟨RJ5, "putStringAt", "(ILjava/lang/String;)V"⟩
def RJx2cfe8 : String := "java/lang/Appendable"
def TJx2cfe8 : u_T := fun k => match k with
  | _ => ("", "", "", false)
def tyJx2cfe8 : Nat → FieldType := fun k => match k with
  | _ => .int
theorem nmJx2cfe8 : ∀ a, a < 0 → ∀ b, b < 0 → a ≠ b → (TJx2cfe8 a).2.1 ≠ (TJx2cfe8 b).2.1 := by decide +kernel
theorem tyJx2cfe8_ok : ∀ k, k < 0 → parseFieldDescriptor (TJx2cfe8 k).2.2.1 = some (tyJx2cfe8 k) := by decide +kernel
def RJx9f9b0 : String := "java/lang/CharSequence"
def TJx9f9b0 : u_T := fun k => match k with
  | _ => ("", "", "", false)
def tyJx9f9b0 : Nat → FieldType := fun k => match k with
  | _ => .int
theorem nmJx9f9b0 : ∀ a, a < 0 → ∀ b, b < 0 → a ≠ b → (TJx9f9b0 a).2.1 ≠ (TJx9f9b0 b).2.1 := by decide +kernel
theorem tyJx9f9b0_ok : ∀ k, k < 0 → parseFieldDescriptor (TJx9f9b0 k).2.2.1 = some (tyJx9f9b0 k) := by decide +kernel
def RJx8e188 : String := "java/lang/Cloneable"
def TJx8e188 : u_T := fun k => match k with
  | _ => ("", "", "", false)
def tyJx8e188 : Nat → FieldType := fun k => match k with
  | _ => .int
theorem nmJx8e188 : ∀ a, a < 0 → ∀ b, b < 0 → a ≠ b → (TJx8e188 a).2.1 ≠ (TJx8e188 b).2.1 := by decide +kernel
theorem tyJx8e188_ok : ∀ k, k < 0 → parseFieldDescriptor (TJx8e188 k).2.2.1 = some (tyJx8e188 k) := by decide +kernel
def RJxb160c : String := "java/lang/Comparable"
def TJxb160c : u_T := fun k => match k with
  | _ => ("", "", "", false)
def tyJxb160c : Nat → FieldType := fun k => match k with
  | _ => .int
theorem nmJxb160c : ∀ a, a < 0 → ∀ b, b < 0 → a ≠ b → (TJxb160c a).2.1 ≠ (TJxb160c b).2.1 := by decide +kernel
theorem tyJxb160c_ok : ∀ k, k < 0 → parseFieldDescriptor (TJxb160c k).2.2.1 = some (tyJxb160c k) := by decide +kernel
def RJxe99ae : String := "java/lang/Double"
def TJxe99ae : u_T := fun k => match k with
  | _ => ("", "", "", false)
def tyJxe99ae : Nat → FieldType := fun k => match k with
  | _ => .int
theorem nmJxe99ae : ∀ a, a < 0 → ∀ b, b < 0 → a ≠ b → (TJxe99ae a).2.1 ≠ (TJxe99ae b).2.1 := by decide +kernel
theorem tyJxe99ae_ok : ∀ k, k < 0 → parseFieldDescriptor (TJxe99ae k).2.2.1 = some (tyJxe99ae k) := by decide +kernel
abbrev cJxe99ae_isNaN_b9ae7 : ByteArray := prog_18_method_6_code
def yJxe99ae_isNaN_b9ae7 : MethodName := ⟨RJxe99ae, "isNaN", "(D)Z"⟩
abbrev cJxe99ae_doubleToLongBits_ccdee : ByteArray := prog_18_method_23_code
def yJxe99ae_doubleToLongBits_ccdee : MethodName := ⟨RJxe99ae, "doubleToLongBits", "(D)J"⟩
def RJxf58ca : String := "java/lang/Float"
def TJxf58ca : u_T := fun k => match k with
  | _ => ("", "", "", false)
def tyJxf58ca : Nat → FieldType := fun k => match k with
  | _ => .int
theorem nmJxf58ca : ∀ a, a < 0 → ∀ b, b < 0 → a ≠ b → (TJxf58ca a).2.1 ≠ (TJxf58ca b).2.1 := by decide +kernel
theorem tyJxf58ca_ok : ∀ k, k < 0 → parseFieldDescriptor (TJxf58ca k).2.2.1 = some (tyJxf58ca k) := by decide +kernel
abbrev cJxf58ca_isNaN_12338 : ByteArray := prog_20_method_6_code
def yJxf58ca_isNaN_12338 : MethodName := ⟨RJxf58ca, "isNaN", "(F)Z"⟩
abbrev cJxf58ca_floatToIntBits_5c35a : ByteArray := prog_20_method_24_code
def yJxf58ca_floatToIntBits_5c35a : MethodName := ⟨RJxf58ca, "floatToIntBits", "(F)I"⟩
def RJ6 : String := "java/lang/Integer"
def TJ6 : u_T := fun k => match k with
  | _ => ("", "", "", false)
def tyJ6 : Nat → FieldType := fun k => match k with
  | _ => .int
theorem nmJ6 : ∀ a, a < 0 → ∀ b, b < 0 → a ≠ b → (TJ6 a).2.1 ≠ (TJ6 b).2.1 := by decide +kernel
theorem tyJ6_ok : ∀ k, k < 0 → parseFieldDescriptor (TJ6 k).2.2.1 = some (tyJ6 k) := by decide +kernel
abbrev cJ6_getChars_ba4f3 : ByteArray := prog_24_method_12_code
def yJ6_getChars_ba4f3 : MethodName := ⟨RJ6, "getChars", "(II[B)I"⟩
abbrev cJ6_stringSize_0f7a4 : ByteArray := prog_24_method_13_code
def yJ6_stringSize_0f7a4 : MethodName := ⟨RJ6, "stringSize", "(I)I"⟩
abbrev cJ6_bitCount_0f7a4 : ByteArray := prog_24_method_49_code
def yJ6_bitCount_0f7a4 : MethodName := ⟨RJ6, "bitCount", "(I)I"⟩
def RJ9 : String := "java/lang/Math"
def TJ9 : u_T := fun k => match k with
  | _ => ("", "", "", false)
def tyJ9 : Nat → FieldType := fun k => match k with
  | _ => .int
theorem nmJ9 : ∀ a, a < 0 → ∀ b, b < 0 → a ≠ b → (TJ9 a).2.1 ≠ (TJ9 b).2.1 := by decide +kernel
theorem tyJ9_ok : ∀ k, k < 0 → parseFieldDescriptor (TJ9 k).2.2.1 = some (tyJ9 k) := by decide +kernel
abbrev cJ9_abs_0f7a4 : ByteArray := prog_25_method_59_code
def yJ9_abs_0f7a4 : MethodName := ⟨RJ9, "abs", "(I)I"⟩
abbrev cJ9_max_7cf53 : ByteArray := prog_25_method_65_code
def yJ9_max_7cf53 : MethodName := ⟨RJ9, "max", "(II)I"⟩
abbrev cJ9_min_7cf53 : ByteArray := prog_25_method_69_code
def yJ9_min_7cf53 : MethodName := ⟨RJ9, "min", "(II)I"⟩
def RJxd2413 : String := "java/lang/Number"
def TJxd2413 : u_T := fun k => match k with
  | _ => ("", "", "", false)
def tyJxd2413 : Nat → FieldType := fun k => match k with
  | _ => .int
theorem nmJxd2413 : ∀ a, a < 0 → ∀ b, b < 0 → a ≠ b → (TJxd2413 a).2.1 ≠ (TJxd2413 b).2.1 := by decide +kernel
theorem tyJxd2413_ok : ∀ k, k < 0 → parseFieldDescriptor (TJxd2413 k).2.2.1 = some (tyJxd2413 k) := by decide +kernel
def RJ0 : String := "java/lang/String"
def TJ0 : u_T := fun k => match k with
  | 0 => ("java/lang/String", "value", "[B", true)
  | 1 => ("java/lang/String", "coder", "B", true)
  | 2 => ("java/lang/String", "hash", "I", false)
  | _ => ("java/lang/String", "hashIsZero", "Z", false)
def tyJ0 : Nat → FieldType := fun k => match k with
  | 0 => .array .byte
  | 1 => .byte
  | 2 => .int
  | _ => .boolean
theorem nmJ0 : ∀ a, a < 4 → ∀ b, b < 4 → a ≠ b → (TJ0 a).2.1 ≠ (TJ0 b).2.1 := by decide +kernel
theorem tyJ0_ok : ∀ k, k < 4 → parseFieldDescriptor (TJ0 k).2.2.1 = some (tyJ0 k) := by decide +kernel
abbrev cJ0_init_81219 : ByteArray := prog_28_method_53_code
def yJ0_init_81219 : MethodName := ⟨RJ0, "<init>", "(Ljava/lang/StringBuilder;)V"⟩
abbrev cJ0_length_8abf5 : ByteArray := prog_28_method_54_code
def yJ0_length_8abf5 : MethodName := ⟨RJ0, "length", "()I"⟩
abbrev cJ0_isEmpty_aae02 : ByteArray := prog_28_method_55_code
def yJ0_isEmpty_aae02 : MethodName := ⟨RJ0, "isEmpty", "()Z"⟩
abbrev cJ0_charAt_5068e : ByteArray := prog_28_method_56_code
def yJ0_charAt_5068e : MethodName := ⟨RJ0, "charAt", "(I)C"⟩
abbrev cJ0_getBytes_840e7 : ByteArray := prog_28_method_147_code
def yJ0_getBytes_840e7 : MethodName := ⟨RJ0, "getBytes", "([BIB)V"⟩
abbrev cJ0_init_db425 : ByteArray := prog_28_method_150_code
def yJ0_init_db425 : MethodName := ⟨RJ0, "<init>", "(Ljava/lang/AbstractStringBuilder;Ljava/lang/Void;)V"⟩
abbrev cJ0_coder_7d493 : ByteArray := prog_28_method_152_code
def yJ0_coder_7d493 : MethodName := ⟨RJ0, "coder", "()B"⟩
abbrev cJ0_isLatin1_aae02 : ByteArray := prog_28_method_154_code
def yJ0_isLatin1_aae02 : MethodName := ⟨RJ0, "isLatin1", "()Z"⟩
abbrev cJ0_checkIndex_df160 : ByteArray := prog_28_method_155_code
def yJ0_checkIndex_df160 : MethodName := ⟨RJ0, "checkIndex", "(II)V"⟩
abbrev cJ0_checkBoundsOffCount_cabcc : ByteArray := prog_28_method_157_code
def yJ0_checkBoundsOffCount_cabcc : MethodName := ⟨RJ0, "checkBoundsOffCount", "(III)I"⟩
abbrev cJ0_checkBoundsBeginEnd_23922 : ByteArray := prog_28_method_158_code
def yJ0_checkBoundsBeginEnd_23922 : MethodName := ⟨RJ0, "checkBoundsBeginEnd", "(III)V"⟩
def RJ4 : String := "java/lang/StringBuilder"
def TJ4 : u_T := fun k => match k with
  | 0 => ("java/lang/AbstractStringBuilder", "value", "[B", false)
  | 1 => ("java/lang/AbstractStringBuilder", "coder", "B", false)
  | 2 => ("java/lang/AbstractStringBuilder", "maybeLatin1", "Z", false)
  | _ => ("java/lang/AbstractStringBuilder", "count", "I", false)
def tyJ4 : Nat → FieldType := fun k => match k with
  | 0 => .array .byte
  | 1 => .byte
  | 2 => .boolean
  | _ => .int
theorem nmJ4 : ∀ a, a < 4 → ∀ b, b < 4 → a ≠ b → (TJ4 a).2.1 ≠ (TJ4 b).2.1 := by decide +kernel
theorem tyJ4_ok : ∀ k, k < 4 → parseFieldDescriptor (TJ4 k).2.2.1 = some (tyJ4 k) := by decide +kernel
abbrev cJ4_init_da8c8 : ByteArray := prog_29_method_1_code
def yJ4_init_da8c8 : MethodName := ⟨RJ4, "<init>", "()V"⟩
abbrev cJ4_append_15ec4 : ByteArray := prog_29_method_7_code
def yJ4_append_15ec4 : MethodName := ⟨RJ4, "append", "(Ljava/lang/String;)Ljava/lang/StringBuilder;"⟩
abbrev cJ4_append_bf812 : ByteArray := prog_29_method_15_code
def yJ4_append_bf812 : MethodName := ⟨RJ4, "append", "(I)Ljava/lang/StringBuilder;"⟩
abbrev cJ4_toString_0e30d : ByteArray := prog_29_method_42_code
def yJ4_toString_0e30d : MethodName := ⟨RJ4, "toString", "()Ljava/lang/String;"⟩
abbrev cJ4_length_8abf5 : ByteArray := prog_29_method_93_code
def yJ4_length_8abf5 : MethodName := ⟨RJ4, "length", "()I"⟩
def RJ1 : String := "java/lang/StringLatin1"
def TJ1 : u_T := fun k => match k with
  | _ => ("", "", "", false)
def tyJ1 : Nat → FieldType := fun k => match k with
  | _ => .int
theorem nmJ1 : ∀ a, a < 0 → ∀ b, b < 0 → a ≠ b → (TJ1 a).2.1 ≠ (TJ1 b).2.1 := by decide +kernel
theorem tyJ1_ok : ∀ k, k < 0 → parseFieldDescriptor (TJ1 k).2.2.1 = some (tyJ1 k) := by decide +kernel
abbrev cJ1_charAt_3b067 : ByteArray := prog_30_method_2_code
def yJ1_charAt_3b067 : MethodName := ⟨RJ1, "charAt", "([BI)C"⟩
abbrev cJ1_inflate_0e8fd : ByteArray := prog_30_method_50_code
def yJ1_inflate_0e8fd : MethodName := ⟨RJ1, "inflate", "([BI[BII)V"⟩
def RJ2 : String := "java/lang/StringUTF16"
def TJ2 : u_T := fun k => match k with
  | _ => ("", "", "", false)
def tyJ2 : Nat → FieldType := fun k => match k with
  | _ => .int
theorem nmJ2 : ∀ a, a < 0 → ∀ b, b < 0 → a ≠ b → (TJ2 a).2.1 ≠ (TJ2 b).2.1 := by decide +kernel
theorem tyJ2_ok : ∀ k, k < 0 → parseFieldDescriptor (TJ2 k).2.2.1 = some (tyJ2 k) := by decide +kernel
abbrev cJ2_newBytesFor_77867 : ByteArray := prog_31_method_2_code
def yJ2_newBytesFor_77867 : MethodName := ⟨RJ2, "newBytesFor", "(I)[B"⟩
abbrev cJ2_newBytesLength_0f7a4 : ByteArray := prog_31_method_3_code
def yJ2_newBytesLength_0f7a4 : MethodName := ⟨RJ2, "newBytesLength", "(I)I"⟩
abbrev cJ2_putChar_b72d1 : ByteArray := prog_31_method_4_code
def yJ2_putChar_b72d1 : MethodName := ⟨RJ2, "putChar", "([BII)V"⟩
abbrev cJ2_getChar_3b067 : ByteArray := prog_31_method_5_code
def yJ2_getChar_3b067 : MethodName := ⟨RJ2, "getChar", "([BI)C"⟩
abbrev cJ2_length_9d52b : ByteArray := prog_31_method_6_code
def yJ2_length_9d52b : MethodName := ⟨RJ2, "length", "([B)I"⟩
abbrev cJ2_coderFromArrayLen_85cad : ByteArray := prog_31_method_15_code
def yJ2_coderFromArrayLen_85cad : MethodName := ⟨RJ2, "coderFromArrayLen", "([BI)B"⟩
abbrev cJ2_compress_39247 : ByteArray := prog_31_method_17_code
def yJ2_compress_39247 : MethodName := ⟨RJ2, "compress", "([BII)[B"⟩
abbrev cJ2_compress_5af95 : ByteArray := prog_31_method_22_code
def yJ2_compress_5af95 : MethodName := ⟨RJ2, "compress", "([BI[BII)I"⟩
abbrev cJ2_getChars_46870 : ByteArray := prog_31_method_77_code
def yJ2_getChars_46870 : MethodName := ⟨RJ2, "getChars", "(III[B)I"⟩
abbrev cJ2_putCharsAt_cd4e5 : ByteArray := prog_31_method_81_code
def yJ2_putCharsAt_cd4e5 : MethodName := ⟨RJ2, "putCharsAt", "([BICCCC)I"⟩
abbrev cJ2_charAt_3b067 : ByteArray := prog_31_method_83_code
def yJ2_charAt_3b067 : MethodName := ⟨RJ2, "charAt", "([BI)C"⟩
abbrev cJ2_inflate_0e8fd : ByteArray := prog_31_method_86_code
def yJ2_inflate_0e8fd : MethodName := ⟨RJ2, "inflate", "([BI[BII)V"⟩
abbrev cJ2_getChars_ba4f3 : ByteArray := prog_31_method_89_code
def yJ2_getChars_ba4f3 : MethodName := ⟨RJ2, "getChars", "(II[B)I"⟩
abbrev cJ2_checkIndex_2214a : ByteArray := prog_31_method_91_code
def yJ2_checkIndex_2214a : MethodName := ⟨RJ2, "checkIndex", "(I[B)V"⟩
abbrev cJ2_checkBoundsBeginEnd_d044e : ByteArray := prog_31_method_93_code
def yJ2_checkBoundsBeginEnd_d044e : MethodName := ⟨RJ2, "checkBoundsBeginEnd", "(II[B)V"⟩
abbrev cJ2_checkBoundsOffCount_d044e : ByteArray := prog_31_method_94_code
def yJ2_checkBoundsOffCount_d044e : MethodName := ⟨RJ2, "checkBoundsOffCount", "(II[B)V"⟩
def RJ10 : String := "java/lang/System"
def TJ10 : u_T := fun k => match k with
  | _ => ("", "", "", false)
def tyJ10 : Nat → FieldType := fun k => match k with
  | _ => .int
theorem nmJ10 : ∀ a, a < 0 → ∀ b, b < 0 → a ≠ b → (TJ10 a).2.1 ≠ (TJ10 b).2.1 := by decide +kernel
theorem tyJ10_ok : ∀ k, k < 0 → parseFieldDescriptor (TJ10 k).2.2.1 = some (tyJ10 k) := by decide +kernel
def RJxfd54e : String := "java/lang/constant/Constable"
def TJxfd54e : u_T := fun k => match k with
  | _ => ("", "", "", false)
def tyJxfd54e : Nat → FieldType := fun k => match k with
  | _ => .int
theorem nmJxfd54e : ∀ a, a < 0 → ∀ b, b < 0 → a ≠ b → (TJxfd54e a).2.1 ≠ (TJxfd54e b).2.1 := by decide +kernel
theorem tyJxfd54e_ok : ∀ k, k < 0 → parseFieldDescriptor (TJxfd54e k).2.2.1 = some (tyJxfd54e k) := by decide +kernel
def RJx3cf43 : String := "java/lang/constant/ConstantDesc"
def TJx3cf43 : u_T := fun k => match k with
  | _ => ("", "", "", false)
def tyJx3cf43 : Nat → FieldType := fun k => match k with
  | _ => .int
theorem nmJx3cf43 : ∀ a, a < 0 → ∀ b, b < 0 → a ≠ b → (TJx3cf43 a).2.1 ≠ (TJx3cf43 b).2.1 := by decide +kernel
theorem tyJx3cf43_ok : ∀ k, k < 0 → parseFieldDescriptor (TJx3cf43 k).2.2.1 = some (tyJx3cf43 k) := by decide +kernel
def RJ7 : String := "java/util/Arrays"
def TJ7 : u_T := fun k => match k with
  | _ => ("", "", "", false)
def tyJ7 : Nat → FieldType := fun k => match k with
  | _ => .int
theorem nmJ7 : ∀ a, a < 0 → ∀ b, b < 0 → a ≠ b → (TJ7 a).2.1 ≠ (TJ7 b).2.1 := by decide +kernel
theorem tyJ7_ok : ∀ k, k < 0 → parseFieldDescriptor (TJ7 k).2.2.1 = some (tyJ7 k) := by decide +kernel
abbrev cJ7_copyOf_9075b : ByteArray := prog_37_method_121_code
def yJ7_copyOf_9075b : MethodName := ⟨RJ7, "copyOf", "([BI)[B"⟩
abbrev cJ7_checkLength_df160 : ByteArray := prog_37_method_131_code
def yJ7_checkLength_df160 : MethodName := ⟨RJ7, "checkLength", "(II)V"⟩
abbrev cJ7_copyOfRange_39247 : ByteArray := prog_37_method_132_code
def yJ7_copyOfRange_39247 : MethodName := ⟨RJ7, "copyOfRange", "([BII)[B"⟩
abbrev cJ7_copyOfRangeByte_39247 : ByteArray := prog_37_method_133_code
def yJ7_copyOfRangeByte_39247 : MethodName := ⟨RJ7, "copyOfRangeByte", "([BII)[B"⟩
def RJ8 : String := "jdk/internal/util/ArraysSupport"
def TJ8 : u_T := fun k => match k with
  | _ => ("", "", "", false)
def tyJ8 : Nat → FieldType := fun k => match k with
  | _ => .int
theorem nmJ8 : ∀ a, a < 0 → ∀ b, b < 0 → a ≠ b → (TJ8 a).2.1 ≠ (TJ8 b).2.1 := by decide +kernel
theorem tyJ8_ok : ∀ k, k < 0 → parseFieldDescriptor (TJ8 k).2.2.1 = some (tyJ8 k) := by decide +kernel
abbrev cJ8_newLength_cabcc : ByteArray := prog_39_method_27_code
def yJ8_newLength_cabcc : MethodName := ⟨RJ8, "newLength", "(III)I"⟩
abbrev cJ8_hugeLength_7cf53 : ByteArray := prog_39_method_28_code
def yJ8_hugeLength_7cf53 : MethodName := ⟨RJ8, "hugeLength", "(II)I"⟩
def RJ3 : String := "jdk/internal/util/Preconditions"
def TJ3 : u_T := fun k => match k with
  | _ => ("", "", "", false)
def tyJ3 : Nat → FieldType := fun k => match k with
  | _ => .int
theorem nmJ3 : ∀ a, a < 0 → ∀ b, b < 0 → a ≠ b → (TJ3 a).2.1 ≠ (TJ3 b).2.1 := by decide +kernel
theorem tyJ3_ok : ∀ k, k < 0 → parseFieldDescriptor (TJ3 k).2.2.1 = some (tyJ3 k) := by decide +kernel
abbrev cJ3_checkIndex_8e157 : ByteArray := prog_40_method_11_code
def yJ3_checkIndex_8e157 : MethodName := ⟨RJ3, "checkIndex", "(IILjava/util/function/BiFunction;)I"⟩
abbrev cJ3_checkFromToIndex_8c36e : ByteArray := prog_40_method_12_code
def yJ3_checkFromToIndex_8c36e : MethodName := ⟨RJ3, "checkFromToIndex", "(IIILjava/util/function/BiFunction;)I"⟩
abbrev cJ3_checkFromIndexSize_8c36e : ByteArray := prog_40_method_13_code
def yJ3_checkFromIndexSize_8c36e : MethodName := ⟨RJ3, "checkFromIndexSize", "(IIILjava/util/function/BiFunction;)I"⟩
def RL : String := "RecipeForestsLaw"
abbrev cL_at : ByteArray := method_2_code
def yL_at : MethodName := ⟨RL, "at", "([II)I"⟩
abbrev cL_some : ByteArray := method_3_code
def yL_some : MethodName := ⟨RL, "some", "(II)I"⟩
abbrev cL_edit : ByteArray := method_4_code
def yL_edit : MethodName := ⟨RL, "edit", "(LRecipeForests;III)I"⟩
abbrev cL_fork : ByteArray := method_5_code
def yL_fork : MethodName := ⟨RL, "fork", "(LRecipeForests;I)I"⟩
abbrev cL_reset : ByteArray := method_6_code
def yL_reset : MethodName := ⟨RL, "reset", "(LRecipeForests;II)I"⟩
abbrev cL_tip : ByteArray := method_7_code
def yL_tip : MethodName := ⟨RL, "tip", "(LRecipeForests;I)I"⟩
abbrev cL_amount : ByteArray := method_8_code
def yL_amount : MethodName := ⟨RL, "amount", "(LRecipeForests;II)I"⟩
abbrev cL_commitOf : ByteArray := method_9_code
def yL_commitOf : MethodName := ⟨RL, "commitOf", "(LRecipeForests;II)I"⟩
abbrev cL_merge : ByteArray := method_10_code
def yL_merge : MethodName := ⟨RL, "merge", "(LRecipeForests;III)I"⟩
abbrev cL_pick : ByteArray := method_11_code
def yL_pick : MethodName := ⟨RL, "pick", "(LRecipeForests;III)I"⟩
abbrev cL_revert : ByteArray := method_12_code
def yL_revert : MethodName := ⟨RL, "revert", "(LRecipeForests;III)I"⟩
abbrev cL_conflicts : ByteArray := method_13_code
def yL_conflicts : MethodName := ⟨RL, "conflicts", "(LRecipeForests;II)I"⟩
abbrev cL_in : ByteArray := method_14_code
def yL_in : MethodName := ⟨RL, "in", "(LRecipeForests;II)I"⟩
abbrev cL_base : ByteArray := method_15_code
def yL_base : MethodName := ⟨RL, "base", "(LRecipeForests;II)I"⟩
abbrev cL_baseAgain : ByteArray := method_16_code
def yL_baseAgain : MethodName := ⟨RL, "baseAgain", "(LRecipeForests;II)I"⟩
abbrev cL_difference : ByteArray := method_17_code
def yL_difference : MethodName := ⟨RL, "difference", "(LRecipeForests;II)I"⟩
abbrev cL_onLine : ByteArray := method_18_code
def yL_onLine : MethodName := ⟨RL, "onLine", "(LRecipeForests;II)I"⟩
abbrev cL_halve : ByteArray := method_19_code
def yL_halve : MethodName := ⟨RL, "halve", "(LRecipeForests;IIIZ)I"⟩
abbrev cL_firstBad : ByteArray := method_20_code
def yL_firstBad : MethodName := ⟨RL, "firstBad", "(LRecipeForests;III)I"⟩
abbrev cL_blame : ByteArray := method_21_code
def yL_blame : MethodName := ⟨RL, "blame", "(LRecipeForests;II)I"⟩
abbrev cL_taste : ByteArray := method_22_code
def yL_taste : MethodName := ⟨RL, "taste", "(LRecipeForests;I)F"⟩
abbrev cL_tasteBits : ByteArray := method_23_code
def yL_tasteBits : MethodName := ⟨RL, "tasteBits", "(LRecipeForests;I)I"⟩
abbrev cL_tastiest : ByteArray := method_24_code
def yL_tastiest : MethodName := ⟨RL, "tastiest", "(LRecipeForests;I)I"⟩
abbrev cL_bundle : ByteArray := method_25_code
def yL_bundle : MethodName := ⟨RL, "bundle", "(LRecipeForests;I)I"⟩
abbrev cL_put : ByteArray := method_26_code
def yL_put : MethodName := ⟨RL, "put", "(LRecipeForests;II)I"⟩
abbrev cL_inBundle : ByteArray := method_27_code
def yL_inBundle : MethodName := ⟨RL, "inBundle", "(LRecipeForests;I)I"⟩
abbrev cL_play : ByteArray := method_28_code
def yL_play : MethodName := ⟨RL, "play", "(LRecipeForests;II)I"⟩
abbrev cL_line : ByteArray := method_29_code
def yL_line : MethodName := ⟨RL, "line", "(LRecipeForests;I)I"⟩
abbrev cL_character : ByteArray := method_30_code
def yL_character : MethodName := ⟨RL, "character", "(LRecipeForests;I)I"⟩
abbrev cL_append : ByteArray := method_31_code
def yL_append : MethodName := ⟨RL, "append", "(LRecipeForests;C)I"⟩
abbrev cL_read : ByteArray := method_32_code
def yL_read : MethodName := ⟨RL, "read", "(LRecipeForests;)I"⟩
abbrev cL_refusal : ByteArray := method_33_code
def yL_refusal : MethodName := ⟨RL, "refusal", "(LRecipeForests;Z)I"⟩
abbrev cL_account : ByteArray := method_34_code
def yL_account : MethodName := ⟨RL, "account", "(LRecipeForests;I)I"⟩
abbrev cL_undo : ByteArray := method_35_code
def yL_undo : MethodName := ⟨RL, "undo", "(LRecipeForests;)I"⟩
abbrev cL_restore : ByteArray := method_36_code
def yL_restore : MethodName := ⟨RL, "restore", "(LRecipeForests;)I"⟩
abbrev cL_reads : ByteArray := method_37_code
def yL_reads : MethodName := ⟨RL, "reads", "(LRecipeForests;Ljava/lang/String;)I"⟩
abbrev cL_is : ByteArray := method_38_code
def yL_is : MethodName := ⟨RL, "is", "(LRecipeForests;II)Z"⟩
abbrev cL_makes : ByteArray := method_40_code
def yL_makes : MethodName := ⟨RL, "makes", "(LRecipeForests;[I)Z"⟩
abbrev cL_asks : ByteArray := method_41_code
def yL_asks : MethodName := ⟨RL, "asks", "(LRecipeForests;)J"⟩
abbrev cL_changes : ByteArray := method_42_code
def yL_changes : MethodName := ⟨RL, "changes", "(LRecipeForests;I)Z"⟩
abbrev cL_refused : ByteArray := method_43_code
def yL_refused : MethodName := ⟨RL, "refused", "(LRecipeForests;)Z"⟩
abbrev cL_law : ByteArray := code
def yL_law : MethodName := ⟨RL, "law", "([I)Z"⟩
abbrev vwCl : List vw_C := [(RX0, TX0, 4), (RX1, TX1, 11), (RX2, TX2, 3), (RX3, TX3, 2), (RX4, TX4, 2), (RX5, TX5, 3), (RX6, TX6, 4), (RX7, TX7, 3), (RX8, TX8, 11), (RJ0, TJ0, 4), (RJ4, TJ4, 4)]
