def RX0 : String := "NeedlePlate$Grid"
def TX0 : u_T := fun k => match k with
  | 0 => ("NeedlePlate$Grid", "rows", "I", false)
  | 1 => ("NeedlePlate$Grid", "columns", "I", false)
  | 2 => ("NeedlePlate$Grid", "needles", "I", false)
  | 3 => ("NeedlePlate$Grid", "joints", "I", false)
  | 4 => ("NeedlePlate$Grid", "fields", "I", false)
  | 5 => ("NeedlePlate$Grid", "rim", "I", false)
  | 6 => ("NeedlePlate$Grid", "firsts", "[I", true)
  | 7 => ("NeedlePlate$Grid", "seconds", "[I", true)
  | 8 => ("NeedlePlate$Grid", "lowFields", "[I", true)
  | _ => ("NeedlePlate$Grid", "highFields", "[I", true)
def tyX0 : Nat → FieldType := fun k => match k with
  | 0 => .int
  | 1 => .int
  | 2 => .int
  | 3 => .int
  | 4 => .int
  | 5 => .int
  | 6 => .array .int
  | 7 => .array .int
  | 8 => .array .int
  | _ => .array .int
abbrev wsX00 : List Cond := u_ws RX0 TX0 10
theorem nmX0 : ∀ a, a < 10 → ∀ b, b < 10 → a ≠ b → (TX0 a).2.1 ≠ (TX0 b).2.1 := by decide +kernel
theorem tyX0_ok : ∀ k, k < 10 → parseFieldDescriptor (TX0 k).2.2.1 = some (tyX0 k) := by decide +kernel
abbrev cX0_init : ByteArray := prog_2_method_1_code
def yX0_init : MethodName := ⟨RX0, "<init>", "()V"⟩
abbrev cX0_layOut : ByteArray := prog_2_method_2_code
def yX0_layOut : MethodName := ⟨RX0, "layOut", "(II)V"⟩
abbrev cX0_markRim : ByteArray := prog_2_method_3_code
def yX0_markRim : MethodName := ⟨RX0, "markRim", "(II)V"⟩
abbrev cX0_fieldAt : ByteArray := prog_2_method_4_code
def yX0_fieldAt : MethodName := ⟨RX0, "fieldAt", "(II)I"⟩
abbrev cX0_addJoint : ByteArray := prog_2_method_5_code
def yX0_addJoint : MethodName := ⟨RX0, "addJoint", "(IIII)V"⟩
abbrev cX0_isOnRim : ByteArray := prog_2_method_6_code
def yX0_isOnRim : MethodName := ⟨RX0, "isOnRim", "(I)Z"⟩
def RX1 : String := "NeedlePlate$History"
def TX1 : u_T := fun k => match k with
  | 0 => ("NeedlePlate$History", "kept", "[LNeedlePlate$Setting;", true)
  | 1 => ("NeedlePlate$History", "next", "I", false)
  | _ => ("NeedlePlate$History", "size", "I", false)
def tyX1 : Nat → FieldType := fun k => match k with
  | 0 => .array (.object "NeedlePlate$Setting")
  | 1 => .int
  | _ => .int
abbrev wsX10 : List Cond := u_ws RX1 TX1 3
theorem nmX1 : ∀ a, a < 3 → ∀ b, b < 3 → a ≠ b → (TX1 a).2.1 ≠ (TX1 b).2.1 := by decide +kernel
theorem tyX1_ok : ∀ k, k < 3 → parseFieldDescriptor (TX1 k).2.2.1 = some (tyX1 k) := by decide +kernel
abbrev cX1_init : ByteArray := prog_3_method_1_code
def yX1_init : MethodName := ⟨RX1, "<init>", "()V"⟩
abbrev cX1_keep : ByteArray := prog_3_method_2_code
def yX1_keep : MethodName := ⟨RX1, "keep", "(LNeedlePlate$Setting;)V"⟩
abbrev cX1_giveBack : ByteArray := prog_3_method_3_code
def yX1_giveBack : MethodName := ⟨RX1, "giveBack", "(LNeedlePlate$Setting;)V"⟩
abbrev cX1_forget : ByteArray := prog_3_method_4_code
def yX1_forget : MethodName := ⟨RX1, "forget", "()V"⟩
def RX2 : String := "NeedlePlate$Landscape"
def TX2 : u_T := fun k => match k with
  | 0 => ("NeedlePlate$Landscape", "strains", "[I", true)
  | 1 => ("NeedlePlate$Landscape", "stale", "Z", false)
  | 2 => ("NeedlePlate$Landscape", "size", "I", false)
  | 3 => ("NeedlePlate$Landscape", "held", "I", false)
  | 4 => ("NeedlePlate$Landscape", "heldPoints", "I", false)
  | _ => ("NeedlePlate$Landscape", "lowest", "I", false)
def tyX2 : Nat → FieldType := fun k => match k with
  | 0 => .array .int
  | 1 => .boolean
  | 2 => .int
  | 3 => .int
  | 4 => .int
  | _ => .int
abbrev wsX20 : List Cond := u_ws RX2 TX2 6
theorem nmX2 : ∀ a, a < 6 → ∀ b, b < 6 → a ≠ b → (TX2 a).2.1 ≠ (TX2 b).2.1 := by decide +kernel
theorem tyX2_ok : ∀ k, k < 6 → parseFieldDescriptor (TX2 k).2.2.1 = some (tyX2 k) := by decide +kernel
abbrev cX2_init : ByteArray := prog_4_method_1_code
def yX2_init : MethodName := ⟨RX2, "<init>", "()V"⟩
abbrev cX2_survey : ByteArray := prog_4_method_2_code
def yX2_survey : MethodName := ⟨RX2, "survey", "(LNeedlePlate$Plate;)V"⟩
abbrev cX2_addNeedle : ByteArray := prog_4_method_3_code
def yX2_addNeedle : MethodName := ⟨RX2, "addNeedle", "(LNeedlePlate$Plate;I)V"⟩
abbrev cX2_mayBe : ByteArray := prog_4_method_4_code
def yX2_mayBe : MethodName := ⟨RX2, "mayBe", "(I)Z"⟩
abbrev cX2_countWith : ByteArray := prog_4_method_5_code
def yX2_countWith : MethodName := ⟨RX2, "countWith", "(I)I"⟩
abbrev cX2_pick : ByteArray := prog_4_method_6_code
def yX2_pick : MethodName := ⟨RX2, "pick", "(II)I"⟩
abbrev cX2_nextAfter : ByteArray := prog_4_method_7_code
def yX2_nextAfter : MethodName := ⟨RX2, "nextAfter", "(I)I"⟩
abbrev cX2_agreement : ByteArray := prog_4_method_8_code
def yX2_agreement : MethodName := ⟨RX2, "agreement", "(II)I"⟩
def RX3 : String := "NeedlePlate$Pairing"
def TX3 : u_T := fun k => match k with
  | 0 => ("NeedlePlate$Pairing", "distances", "[I", true)
  | _ => ("NeedlePlate$Pairing", "cheapest", "[I", true)
def tyX3 : Nat → FieldType := fun k => match k with
  | 0 => .array .int
  | _ => .array .int
abbrev wsX30 : List Cond := u_ws RX3 TX3 2
theorem nmX3 : ∀ a, a < 2 → ∀ b, b < 2 → a ≠ b → (TX3 a).2.1 ≠ (TX3 b).2.1 := by decide +kernel
theorem tyX3_ok : ∀ k, k < 2 → parseFieldDescriptor (TX3 k).2.2.1 = some (tyX3 k) := by decide +kernel
abbrev cX3_init : ByteArray := prog_5_method_1_code
def yX3_init : MethodName := ⟨RX3, "<init>", "()V"⟩
abbrev cX3_between : ByteArray := prog_5_method_2_code
def yX3_between : MethodName := ⟨RX3, "between", "(II)I"⟩
abbrev cX3_measure : ByteArray := prog_5_method_3_code
def yX3_measure : MethodName := ⟨RX3, "measure", "(LNeedlePlate$Plate;)V"⟩
abbrev cX3_shortenBy : ByteArray := prog_5_method_4_code
def yX3_shortenBy : MethodName := ⟨RX3, "shortenBy", "(II)V"⟩
abbrev cX3_shorten : ByteArray := prog_5_method_5_code
def yX3_shorten : MethodName := ⟨RX3, "shorten", "(III)V"⟩
abbrev cX3_cheapestOf : ByteArray := prog_5_method_6_code
def yX3_cheapestOf : MethodName := ⟨RX3, "cheapestOf", "(I)I"⟩
abbrev cX3_cheapestOfSet : ByteArray := prog_5_method_7_code
def yX3_cheapestOfSet : MethodName := ⟨RX3, "cheapestOfSet", "(I)I"⟩
abbrev cX3_lowestIn : ByteArray := prog_5_method_8_code
def yX3_lowestIn : MethodName := ⟨RX3, "lowestIn", "(I)I"⟩
def RX4 : String := "NeedlePlate$Plate"
def TX4 : u_T := fun k => match k with
  | 0 => ("NeedlePlate$Plate", "grid", "LNeedlePlate$Grid;", true)
  | _ => ("NeedlePlate$Plate", "setting", "LNeedlePlate$Setting;", true)
def tyX4 : Nat → FieldType := fun k => match k with
  | 0 => .object "NeedlePlate$Grid"
  | _ => .object "NeedlePlate$Setting"
abbrev wsX40 : List Cond := u_ws RX4 TX4 2
theorem nmX4 : ∀ a, a < 2 → ∀ b, b < 2 → a ≠ b → (TX4 a).2.1 ≠ (TX4 b).2.1 := by decide +kernel
theorem tyX4_ok : ∀ k, k < 2 → parseFieldDescriptor (TX4 k).2.2.1 = some (tyX4 k) := by decide +kernel
abbrev cX4_init : ByteArray := prog_6_method_1_code
def yX4_init : MethodName := ⟨RX4, "<init>", "()V"⟩
abbrev cX4_arrangements : ByteArray := prog_6_method_2_code
def yX4_arrangements : MethodName := ⟨RX4, "arrangements", "()I"⟩
abbrev cX4_bitOf : ByteArray := prog_6_method_3_code
def yX4_bitOf : MethodName := ⟨RX4, "bitOf", "(I)I"⟩
abbrev cX4_bitIn : ByteArray := prog_6_method_4_code
def yX4_bitIn : MethodName := ⟨RX4, "bitIn", "(II)I"⟩
abbrev cX4_withBit : ByteArray := prog_6_method_5_code
def yX4_withBit : MethodName := ⟨RX4, "withBit", "(IIZ)I"⟩
abbrev cX4_isHeld : ByteArray := prog_6_method_6_code
def yX4_isHeld : MethodName := ⟨RX4, "isHeld", "(I)Z"⟩
abbrev cX4_heldBits : ByteArray := prog_6_method_7_code
def yX4_heldBits : MethodName := ⟨RX4, "heldBits", "()I"⟩
abbrev cX4_pointing : ByteArray := prog_6_method_8_code
def yX4_pointing : MethodName := ⟨RX4, "pointing", "()I"⟩
abbrev cX4_countOf : ByteArray := prog_6_method_9_code
def yX4_countOf : MethodName := ⟨RX4, "countOf", "(I)I"⟩
abbrev cX4_amountOf : ByteArray := prog_6_method_10_code
def yX4_amountOf : MethodName := ⟨RX4, "amountOf", "(I)I"⟩
abbrev cX4_isUnmet : ByteArray := prog_6_method_11_code
def yX4_isUnmet : MethodName := ⟨RX4, "isUnmet", "(II)Z"⟩
abbrev cX4_strainOf : ByteArray := prog_6_method_12_code
def yX4_strainOf : MethodName := ⟨RX4, "strainOf", "(I)I"⟩
abbrev cX4_strainNow : ByteArray := prog_6_method_13_code
def yX4_strainNow : MethodName := ⟨RX4, "strainNow", "()I"⟩
abbrev cX4_touches : ByteArray := prog_6_method_14_code
def yX4_touches : MethodName := ⟨RX4, "touches", "(II)Z"⟩
abbrev cX4_moreByTurning : ByteArray := prog_6_method_15_code
def yX4_moreByTurning : MethodName := ⟨RX4, "moreByTurning", "(I)I"⟩
abbrev cX4_firstToRelax : ByteArray := prog_6_method_16_code
def yX4_firstToRelax : MethodName := ⟨RX4, "firstToRelax", "()I"⟩
abbrev cX4_turnOver : ByteArray := prog_6_method_17_code
def yX4_turnOver : MethodName := ⟨RX4, "turnOver", "(I)V"⟩
abbrev cX4_negateWantsAround : ByteArray := prog_6_method_18_code
def yX4_negateWantsAround : MethodName := ⟨RX4, "negateWantsAround", "(I)V"⟩
abbrev cX4_troubledFields : ByteArray := prog_6_method_19_code
def yX4_troubledFields : MethodName := ⟨RX4, "troubledFields", "()I"⟩
def RX5 : String := "NeedlePlate$Setting"
def TX5 : u_T := fun k => match k with
  | 0 => ("NeedlePlate$Setting", "turns", "I", false)
  | 1 => ("NeedlePlate$Setting", "tolds", "I", false)
  | 2 => ("NeedlePlate$Setting", "letGo", "I", false)
  | 3 => ("NeedlePlate$Setting", "kinds", "[I", true)
  | _ => ("NeedlePlate$Setting", "wants", "[I", true)
def tyX5 : Nat → FieldType := fun k => match k with
  | 0 => .int
  | 1 => .int
  | 2 => .int
  | 3 => .array .int
  | _ => .array .int
abbrev wsX50 : List Cond := u_ws RX5 TX5 5
theorem nmX5 : ∀ a, a < 5 → ∀ b, b < 5 → a ≠ b → (TX5 a).2.1 ≠ (TX5 b).2.1 := by decide +kernel
theorem tyX5_ok : ∀ k, k < 5 → parseFieldDescriptor (TX5 k).2.2.1 = some (tyX5 k) := by decide +kernel
abbrev cX5_init : ByteArray := prog_7_method_1_code
def yX5_init : MethodName := ⟨RX5, "<init>", "()V"⟩
abbrev cX5_reset : ByteArray := prog_7_method_2_code
def yX5_reset : MethodName := ⟨RX5, "reset", "()V"⟩
abbrev cX5_takeOver : ByteArray := prog_7_method_3_code
def yX5_takeOver : MethodName := ⟨RX5, "takeOver", "(LNeedlePlate$Setting;)V"⟩
def RX6 : String := "NeedlePlate$Strip"
def TX6 : u_T := fun k => match k with
  | 0 => ("NeedlePlate$Strip", "sort", "I", false)
  | 1 => ("NeedlePlate$Strip", "rows", "I", false)
  | 2 => ("NeedlePlate$Strip", "lengths", "[I", true)
  | _ => ("NeedlePlate$Strip", "numbers", "[I", true)
def tyX6 : Nat → FieldType := fun k => match k with
  | 0 => .int
  | 1 => .int
  | 2 => .array .int
  | _ => .array .int
abbrev wsX60 : List Cond := u_ws RX6 TX6 4
theorem nmX6 : ∀ a, a < 4 → ∀ b, b < 4 → a ≠ b → (TX6 a).2.1 ≠ (TX6 b).2.1 := by decide +kernel
theorem tyX6_ok : ∀ k, k < 4 → parseFieldDescriptor (TX6 k).2.2.1 = some (tyX6 k) := by decide +kernel
abbrev cX6_init : ByteArray := prog_8_method_1_code
def yX6_init : MethodName := ⟨RX6, "<init>", "()V"⟩
abbrev cX6_isAbsent : ByteArray := prog_8_method_2_code
def yX6_isAbsent : MethodName := ⟨RX6, "isAbsent", "()Z"⟩
abbrev cX6_begin : ByteArray := prog_8_method_3_code
def yX6_begin : MethodName := ⟨RX6, "begin", "(II)V"⟩
abbrev cX6_lacksRow : ByteArray := prog_8_method_4_code
def yX6_lacksRow : MethodName := ⟨RX6, "lacksRow", "(I)Z"⟩
abbrev cX6_isMissing : ByteArray := prog_8_method_5_code
def yX6_isMissing : MethodName := ⟨RX6, "isMissing", "(I)Z"⟩
abbrev cX6_renewRow : ByteArray := prog_8_method_6_code
def yX6_renewRow : MethodName := ⟨RX6, "renewRow", "(II)V"⟩
abbrev cX6_placeOf : ByteArray := prog_8_method_7_code
def yX6_placeOf : MethodName := ⟨RX6, "placeOf", "(II)I"⟩
abbrev cX6_numberAt : ByteArray := prog_8_method_8_code
def yX6_numberAt : MethodName := ⟨RX6, "numberAt", "(II)I"⟩
abbrev cX6_findingAt : ByteArray := prog_8_method_9_code
def yX6_findingAt : MethodName := ⟨RX6, "findingAt", "(II)I"⟩
abbrev cX6_lacksRange : ByteArray := prog_8_method_10_code
def yX6_lacksRange : MethodName := ⟨RX6, "lacksRange", "(III)Z"⟩
abbrev cX6_write : ByteArray := prog_8_method_11_code
def yX6_write : MethodName := ⟨RX6, "write", "(III)V"⟩
abbrev cX6_asSorted : ByteArray := prog_8_method_12_code
def yX6_asSorted : MethodName := ⟨RX6, "asSorted", "(I)I"⟩
def RX7 : String := "NeedlePlate"
def TX7 : u_T := fun k => match k with
  | 0 => ("NeedlePlate", "plate", "LNeedlePlate$Plate;", true)
  | 1 => ("NeedlePlate", "history", "LNeedlePlate$History;", true)
  | 2 => ("NeedlePlate", "landscape", "LNeedlePlate$Landscape;", true)
  | 3 => ("NeedlePlate", "pairing", "LNeedlePlate$Pairing;", true)
  | 4 => ("NeedlePlate", "strips", "[LNeedlePlate$Strip;", true)
  | 5 => ("NeedlePlate", "traced", "J", false)
  | _ => ("NeedlePlate", "refusal", "I", false)
def tyX7 : Nat → FieldType := fun k => match k with
  | 0 => .object "NeedlePlate$Plate"
  | 1 => .object "NeedlePlate$History"
  | 2 => .object "NeedlePlate$Landscape"
  | 3 => .object "NeedlePlate$Pairing"
  | 4 => .array (.object "NeedlePlate$Strip")
  | 5 => .long
  | _ => .int
abbrev wsX70 : List Cond := u_ws RX7 TX7 7
theorem nmX7 : ∀ a, a < 7 → ∀ b, b < 7 → a ≠ b → (TX7 a).2.1 ≠ (TX7 b).2.1 := by decide +kernel
theorem tyX7_ok : ∀ k, k < 7 → parseFieldDescriptor (TX7 k).2.2.1 = some (tyX7 k) := by decide +kernel
abbrev cX7_init : ByteArray := prog_1_method_1_code
def yX7_init : MethodName := ⟨RX7, "<init>", "()V"⟩
abbrev cX7_plate : ByteArray := prog_1_method_2_code
def yX7_plate : MethodName := ⟨RX7, "plate", "(II)I"⟩
abbrev cX7_kind : ByteArray := prog_1_method_3_code
def yX7_kind : MethodName := ⟨RX7, "kind", "(II)I"⟩
abbrev cX7_tell : ByteArray := prog_1_method_4_code
def yX7_tell : MethodName := ⟨RX7, "tell", "(II)I"⟩
abbrev cX7_let : ByteArray := prog_1_method_5_code
def yX7_let : MethodName := ⟨RX7, "let", "(IZ)I"⟩
abbrev cX7_turn : ByteArray := prog_1_method_6_code
def yX7_turn : MethodName := ⟨RX7, "turn", "(I)I"⟩
abbrev cX7_gauge : ByteArray := prog_1_method_7_code
def yX7_gauge : MethodName := ⟨RX7, "gauge", "(I)I"⟩
abbrev cX7_want : ByteArray := prog_1_method_8_code
def yX7_want : MethodName := ⟨RX7, "want", "(II)I"⟩
abbrev cX7_arrange : ByteArray := prog_1_method_9_code
def yX7_arrange : MethodName := ⟨RX7, "arrange", "(I)I"⟩
abbrev cX7_one : ByteArray := prog_1_method_10_code
def yX7_one : MethodName := ⟨RX7, "one", "()I"⟩
abbrev cX7_undo : ByteArray := prog_1_method_11_code
def yX7_undo : MethodName := ⟨RX7, "undo", "()I"⟩
abbrev cX7_point : ByteArray := prog_1_method_12_code
def yX7_point : MethodName := ⟨RX7, "point", "(I)I"⟩
abbrev cX7_worth : ByteArray := prog_1_method_13_code
def yX7_worth : MethodName := ⟨RX7, "worth", "(I)I"⟩
abbrev cX7_needle : ByteArray := prog_1_method_14_code
def yX7_needle : MethodName := ⟨RX7, "needle", "(II)I"⟩
abbrev cX7_joint : ByteArray := prog_1_method_15_code
def yX7_joint : MethodName := ⟨RX7, "joint", "(II)I"⟩
abbrev cX7_strain : ByteArray := prog_1_method_16_code
def yX7_strain : MethodName := ⟨RX7, "strain", "()I"⟩
abbrev cX7_troubled : ByteArray := prog_1_method_17_code
def yX7_troubled : MethodName := ⟨RX7, "troubled", "(I)I"⟩
abbrev cX7_apart : ByteArray := prog_1_method_18_code
def yX7_apart : MethodName := ⟨RX7, "apart", "(II)I"⟩
abbrev cX7_paired : ByteArray := prog_1_method_19_code
def yX7_paired : MethodName := ⟨RX7, "paired", "()I"⟩
abbrev cX7_of : ByteArray := prog_1_method_20_code
def yX7_of : MethodName := ⟨RX7, "of", "(I)I"⟩
abbrev cX7_least : ByteArray := prog_1_method_21_code
def yX7_least : MethodName := ⟨RX7, "least", "()I"⟩
abbrev cX7_many : ByteArray := prog_1_method_22_code
def yX7_many : MethodName := ⟨RX7, "many", "()I"⟩
abbrev cX7_best : ByteArray := prog_1_method_23_code
def yX7_best : MethodName := ⟨RX7, "best", "(I)I"⟩
abbrev cX7_sure : ByteArray := prog_1_method_24_code
def yX7_sure : MethodName := ⟨RX7, "sure", "(I)I"⟩
abbrev cX7_counts : ByteArray := prog_1_method_25_code
def yX7_counts : MethodName := ⟨RX7, "counts", "(I)I"⟩
abbrev cX7_draw : ByteArray := prog_1_method_26_code
def yX7_draw : MethodName := ⟨RX7, "draw", "(II)I"⟩
abbrev cX7_above : ByteArray := prog_1_method_27_code
def yX7_above : MethodName := ⟨RX7, "above", "(I)I"⟩
abbrev cX7_strip : ByteArray := prog_1_method_28_code
def yX7_strip : MethodName := ⟨RX7, "strip", "(III)I"⟩
abbrev cX7_row : ByteArray := prog_1_method_29_code
def yX7_row : MethodName := ⟨RX7, "row", "(III)I"⟩
abbrev cX7_put : ByteArray := prog_1_method_30_code
def yX7_put : MethodName := ⟨RX7, "put", "(IIIII)I"⟩
abbrev cX7_item : ByteArray := prog_1_method_31_code
def yX7_item : MethodName := ⟨RX7, "item", "(IIII)I"⟩
abbrev cX7_copy : ByteArray := prog_1_method_32_code
def yX7_copy : MethodName := ⟨RX7, "copy", "(IIIIIII)I"⟩
abbrev cX7_read : ByteArray := prog_1_method_33_code
def yX7_read : MethodName := ⟨RX7, "read", "(IIII)I"⟩
abbrev cX7_about : ByteArray := prog_1_method_34_code
def yX7_about : MethodName := ⟨RX7, "about", "(I)I"⟩
abbrev cX7_trace : ByteArray := prog_1_method_35_code
def yX7_trace : MethodName := ⟨RX7, "trace", "()J"⟩
abbrev cX7_status : ByteArray := prog_1_method_36_code
def yX7_status : MethodName := ⟨RX7, "status", "()I"⟩
abbrev cX7_isNoNeedle : ByteArray := prog_1_method_37_code
def yX7_isNoNeedle : MethodName := ⟨RX7, "isNoNeedle", "(I)Z"⟩
abbrev cX7_isNoJoint : ByteArray := prog_1_method_38_code
def yX7_isNoJoint : MethodName := ⟨RX7, "isNoJoint", "(I)Z"⟩
abbrev cX7_isNoField : ByteArray := prog_1_method_39_code
def yX7_isNoField : MethodName := ⟨RX7, "isNoField", "(I)Z"⟩
abbrev cX7_isNoArrangement : ByteArray := prog_1_method_40_code
def yX7_isNoArrangement : MethodName := ⟨RX7, "isNoArrangement", "(I)Z"⟩
abbrev cX7_isNoWant : ByteArray := prog_1_method_41_code
def yX7_isNoWant : MethodName := ⟨RX7, "isNoWant", "(I)Z"⟩
abbrev cX7_isNoStrip : ByteArray := prog_1_method_42_code
def yX7_isNoStrip : MethodName := ⟨RX7, "isNoStrip", "(I)Z"⟩
abbrev cX7_isNoSort : ByteArray := prog_1_method_43_code
def yX7_isNoSort : MethodName := ⟨RX7, "isNoSort", "(I)Z"⟩
abbrev cX7_asNumber : ByteArray := prog_1_method_44_code
def yX7_asNumber : MethodName := ⟨RX7, "asNumber", "(Z)I"⟩
abbrev cX7_refuse : ByteArray := prog_1_method_45_code
def yX7_refuse : MethodName := ⟨RX7, "refuse", "(I)I"⟩
abbrev cX7_accept : ByteArray := prog_1_method_46_code
def yX7_accept : MethodName := ⟨RX7, "accept", "(I)I"⟩
abbrev cX7_findingOfPlace : ByteArray := prog_1_method_47_code
def yX7_findingOfPlace : MethodName := ⟨RX7, "findingOfPlace", "(IIII)I"⟩
abbrev cX7_findingOfTwoRows : ByteArray := prog_1_method_48_code
def yX7_findingOfTwoRows : MethodName := ⟨RX7, "findingOfTwoRows", "(LNeedlePlate$Strip;ILNeedlePlate$Strip;I)I"⟩
abbrev cX7_findingOfWants : ByteArray := prog_1_method_49_code
def yX7_findingOfWants : MethodName := ⟨RX7, "findingOfWants", "(LNeedlePlate$Strip;II)I"⟩
abbrev cX7_keepAndReshape : ByteArray := prog_1_method_50_code
def yX7_keepAndReshape : MethodName := ⟨RX7, "keepAndReshape", "()V"⟩
abbrev cX7_surveyed : ByteArray := prog_1_method_51_code
def yX7_surveyed : MethodName := ⟨RX7, "surveyed", "()LNeedlePlate$Landscape;"⟩
def RX8 : String := "NeedlePlateModel"
def TX8 : u_T := fun k => match k with
  | 0 => ("NeedlePlateModel", "thrown", "I", false)
  | 1 => ("NeedlePlateModel", "status", "I", false)
  | 2 => ("NeedlePlateModel", "trace", "J", false)
  | 3 => ("NeedlePlateModel", "rows", "I", false)
  | 4 => ("NeedlePlateModel", "columns", "I", false)
  | 5 => ("NeedlePlateModel", "turn", "[I", true)
  | 6 => ("NeedlePlateModel", "told", "[I", true)
  | 7 => ("NeedlePlateModel", "kind", "[I", true)
  | 8 => ("NeedlePlateModel", "isGone", "[Z", true)
  | 9 => ("NeedlePlateModel", "want", "[I", true)
  | 10 => ("NeedlePlateModel", "old", "[I", true)
  | 11 => ("NeedlePlateModel", "undone", "I", false)
  | 12 => ("NeedlePlateModel", "hasStrip", "[Z", true)
  | 13 => ("NeedlePlateModel", "sort", "[I", true)
  | 14 => ("NeedlePlateModel", "stripRows", "[I", true)
  | 15 => ("NeedlePlateModel", "rowSize", "[I", true)
  | 16 => ("NeedlePlateModel", "cells", "[I", true)
  | 17 => ("NeedlePlateModel", "copied", "[I", true)
  | 18 => ("NeedlePlateModel", "far", "[I", true)
  | _ => ("NeedlePlateModel", "pairs", "[I", true)
def tyX8 : Nat → FieldType := fun k => match k with
  | 0 => .int
  | 1 => .int
  | 2 => .long
  | 3 => .int
  | 4 => .int
  | 5 => .array .int
  | 6 => .array .int
  | 7 => .array .int
  | 8 => .array .boolean
  | 9 => .array .int
  | 10 => .array .int
  | 11 => .int
  | 12 => .array .boolean
  | 13 => .array .int
  | 14 => .array .int
  | 15 => .array .int
  | 16 => .array .int
  | 17 => .array .int
  | 18 => .array .int
  | _ => .array .int
abbrev wsX80 : List Cond := u_ws RX8 TX8 20
theorem nmX8 : ∀ a, a < 20 → ∀ b, b < 20 → a ≠ b → (TX8 a).2.1 ≠ (TX8 b).2.1 := by decide +kernel
theorem tyX8_ok : ∀ k, k < 20 → parseFieldDescriptor (TX8 k).2.2.1 = some (tyX8 k) := by decide +kernel
abbrev cX8_init : ByteArray := prog_10_method_1_code
def yX8_init : MethodName := ⟨RX8, "<init>", "()V"⟩
abbrev cX8_in : ByteArray := prog_10_method_3_code
def yX8_in : MethodName := ⟨RX8, "in", "(III)Z"⟩
abbrev cX8_needles : ByteArray := prog_10_method_4_code
def yX8_needles : MethodName := ⟨RX8, "needles", "()I"⟩
abbrev cX8_across : ByteArray := prog_10_method_5_code
def yX8_across : MethodName := ⟨RX8, "across", "()I"⟩
abbrev cX8_joints : ByteArray := prog_10_method_6_code
def yX8_joints : MethodName := ⟨RX8, "joints", "()I"⟩
abbrev cX8_fields : ByteArray := prog_10_method_7_code
def yX8_fields : MethodName := ⟨RX8, "fields", "()I"⟩
abbrev cX8_isNeedle : ByteArray := prog_10_method_8_code
def yX8_isNeedle : MethodName := ⟨RX8, "isNeedle", "(I)Z"⟩
abbrev cX8_isJoint : ByteArray := prog_10_method_9_code
def yX8_isJoint : MethodName := ⟨RX8, "isJoint", "(I)Z"⟩
abbrev cX8_keeps : ByteArray := prog_10_method_10_code
def yX8_keeps : MethodName := ⟨RX8, "keeps", "()V"⟩
abbrev cX8_isHeld : ByteArray := prog_10_method_11_code
def yX8_isHeld : MethodName := ⟨RX8, "isHeld", "(I)Z"⟩
abbrev cX8_pointOf : ByteArray := prog_10_method_12_code
def yX8_pointOf : MethodName := ⟨RX8, "pointOf", "(I)I"⟩
abbrev cX8_worthOf : ByteArray := prog_10_method_13_code
def yX8_worthOf : MethodName := ⟨RX8, "worthOf", "(I)I"⟩
abbrev cX8_end : ByteArray := prog_10_method_14_code
def yX8_end : MethodName := ⟨RX8, "end", "(IZ)I"⟩
abbrev cX8_fieldAt : ByteArray := prog_10_method_15_code
def yX8_fieldAt : MethodName := ⟨RX8, "fieldAt", "(II)I"⟩
abbrev cX8_side : ByteArray := prog_10_method_16_code
def yX8_side : MethodName := ⟨RX8, "side", "(IZ)I"⟩
abbrev cX8_countsOf : ByteArray := prog_10_method_17_code
def yX8_countsOf : MethodName := ⟨RX8, "countsOf", "(I)I"⟩
abbrev cX8_amountOf : ByteArray := prog_10_method_18_code
def yX8_amountOf : MethodName := ⟨RX8, "amountOf", "(I)I"⟩
abbrev cX8_bitOf : ByteArray := prog_10_method_19_code
def yX8_bitOf : MethodName := ⟨RX8, "bitOf", "(III)I"⟩
abbrev cX8_strainOf : ByteArray := prog_10_method_20_code
def yX8_strainOf : MethodName := ⟨RX8, "strainOf", "(I)I"⟩
abbrev cX8_now : ByteArray := prog_10_method_21_code
def yX8_now : MethodName := ⟨RX8, "now", "()I"⟩
abbrev cX8_mayBe : ByteArray := prog_10_method_22_code
def yX8_mayBe : MethodName := ⟨RX8, "mayBe", "(I)Z"⟩
abbrev cX8_all : ByteArray := prog_10_method_23_code
def yX8_all : MethodName := ⟨RX8, "all", "()I"⟩
abbrev cX8_plate : ByteArray := prog_10_method_24_code
def yX8_plate : MethodName := ⟨RX8, "plate", "(II)I"⟩
abbrev cX8_kind : ByteArray := prog_10_method_25_code
def yX8_kind : MethodName := ⟨RX8, "kind", "(II)I"⟩
abbrev cX8_tell : ByteArray := prog_10_method_26_code
def yX8_tell : MethodName := ⟨RX8, "tell", "(II)I"⟩
abbrev cX8_let : ByteArray := prog_10_method_27_code
def yX8_let : MethodName := ⟨RX8, "let", "(IZ)I"⟩
abbrev cX8_turn : ByteArray := prog_10_method_28_code
def yX8_turn : MethodName := ⟨RX8, "turn", "(I)I"⟩
abbrev cX8_gauge : ByteArray := prog_10_method_29_code
def yX8_gauge : MethodName := ⟨RX8, "gauge", "(I)I"⟩
abbrev cX8_want : ByteArray := prog_10_method_30_code
def yX8_want : MethodName := ⟨RX8, "want", "(II)I"⟩
abbrev cX8_arrange : ByteArray := prog_10_method_31_code
def yX8_arrange : MethodName := ⟨RX8, "arrange", "(I)I"⟩
abbrev cX8_one : ByteArray := prog_10_method_32_code
def yX8_one : MethodName := ⟨RX8, "one", "()I"⟩
abbrev cX8_undo : ByteArray := prog_10_method_33_code
def yX8_undo : MethodName := ⟨RX8, "undo", "()I"⟩
abbrev cX8_point : ByteArray := prog_10_method_34_code
def yX8_point : MethodName := ⟨RX8, "point", "(I)I"⟩
abbrev cX8_worth : ByteArray := prog_10_method_35_code
def yX8_worth : MethodName := ⟨RX8, "worth", "(I)I"⟩
abbrev cX8_needle : ByteArray := prog_10_method_36_code
def yX8_needle : MethodName := ⟨RX8, "needle", "(II)I"⟩
abbrev cX8_joint : ByteArray := prog_10_method_37_code
def yX8_joint : MethodName := ⟨RX8, "joint", "(II)I"⟩
abbrev cX8_strain : ByteArray := prog_10_method_38_code
def yX8_strain : MethodName := ⟨RX8, "strain", "()I"⟩
abbrev cX8_isTroubled : ByteArray := prog_10_method_39_code
def yX8_isTroubled : MethodName := ⟨RX8, "isTroubled", "(I)Z"⟩
abbrev cX8_troubled : ByteArray := prog_10_method_40_code
def yX8_troubled : MethodName := ⟨RX8, "troubled", "(I)I"⟩
abbrev cX8_spreads : ByteArray := prog_10_method_41_code
def yX8_spreads : MethodName := ⟨RX8, "spreads", "(I)V"⟩
abbrev cX8_apart : ByteArray := prog_10_method_42_code
def yX8_apart : MethodName := ⟨RX8, "apart", "(II)I"⟩
abbrev cX8_paired : ByteArray := prog_10_method_43_code
def yX8_paired : MethodName := ⟨RX8, "paired", "()I"⟩
abbrev cX8_of : ByteArray := prog_10_method_44_code
def yX8_of : MethodName := ⟨RX8, "of", "(I)I"⟩
abbrev cX8_leastOf : ByteArray := prog_10_method_45_code
def yX8_leastOf : MethodName := ⟨RX8, "leastOf", "()I"⟩
abbrev cX8_least : ByteArray := prog_10_method_46_code
def yX8_least : MethodName := ⟨RX8, "least", "()I"⟩
abbrev cX8_find : ByteArray := prog_10_method_47_code
def yX8_find : MethodName := ⟨RX8, "find", "(II)I"⟩
abbrev cX8_many : ByteArray := prog_10_method_48_code
def yX8_many : MethodName := ⟨RX8, "many", "()I"⟩
abbrev cX8_best : ByteArray := prog_10_method_49_code
def yX8_best : MethodName := ⟨RX8, "best", "(I)I"⟩
abbrev cX8_sure : ByteArray := prog_10_method_50_code
def yX8_sure : MethodName := ⟨RX8, "sure", "(I)I"⟩
abbrev cX8_counts : ByteArray := prog_10_method_51_code
def yX8_counts : MethodName := ⟨RX8, "counts", "(I)I"⟩
abbrev cX8_draw : ByteArray := prog_10_method_52_code
def yX8_draw : MethodName := ⟨RX8, "draw", "(II)I"⟩
abbrev cX8_above : ByteArray := prog_10_method_53_code
def yX8_above : MethodName := ⟨RX8, "above", "(I)I"⟩
abbrev cX8_no : ByteArray := prog_10_method_54_code
def yX8_no : MethodName := ⟨RX8, "no", "(I)I"⟩
abbrev cX8_strip : ByteArray := prog_10_method_55_code
def yX8_strip : MethodName := ⟨RX8, "strip", "(III)I"⟩
abbrev cX8_row : ByteArray := prog_10_method_56_code
def yX8_row : MethodName := ⟨RX8, "row", "(III)I"⟩
abbrev cX8_wrong : ByteArray := prog_10_method_57_code
def yX8_wrong : MethodName := ⟨RX8, "wrong", "(IIII)I"⟩
abbrev cX8_put : ByteArray := prog_10_method_58_code
def yX8_put : MethodName := ⟨RX8, "put", "(IIIII)I"⟩
abbrev cX8_item : ByteArray := prog_10_method_59_code
def yX8_item : MethodName := ⟨RX8, "item", "(IIII)I"⟩
abbrev cX8_areThere : ByteArray := prog_10_method_60_code
def yX8_areThere : MethodName := ⟨RX8, "areThere", "(III)Z"⟩
abbrev cX8_copy : ByteArray := prog_10_method_61_code
def yX8_copy : MethodName := ⟨RX8, "copy", "(IIIIIII)I"⟩
abbrev cX8_read : ByteArray := prog_10_method_62_code
def yX8_read : MethodName := ⟨RX8, "read", "(IIII)I"⟩
abbrev cX8_about : ByteArray := prog_10_method_63_code
def yX8_about : MethodName := ⟨RX8, "about", "(I)I"⟩
abbrev cX8_trace : ByteArray := prog_10_method_64_code
def yX8_trace : MethodName := ⟨RX8, "trace", "()J"⟩
abbrev cX8_status : ByteArray := prog_10_method_65_code
def yX8_status : MethodName := ⟨RX8, "status", "()I"⟩
def RJ6 : String := "java/lang/Integer"
abbrev cJ6_bitCount_0f7a4 : ByteArray := prog_11_method_49_code
def yJ6_bitCount_0f7a4 : MethodName := ⟨RJ6, "bitCount", "(I)I"⟩
def RJ9 : String := "java/lang/Math"
abbrev cJ9_abs_0f7a4 : ByteArray := prog_12_method_59_code
def yJ9_abs_0f7a4 : MethodName := ⟨RJ9, "abs", "(I)I"⟩
abbrev cJ9_max_7cf53 : ByteArray := prog_12_method_65_code
def yJ9_max_7cf53 : MethodName := ⟨RJ9, "max", "(II)I"⟩
abbrev cJ9_min_7cf53 : ByteArray := prog_12_method_69_code
def yJ9_min_7cf53 : MethodName := ⟨RJ9, "min", "(II)I"⟩
def RJ10 : String := "java/lang/System"
def RJ7 : String := "java/util/Arrays"
abbrev cJ7_fill_53178 : ByteArray := prog_14_method_103_code
def yJ7_fill_53178 : MethodName := ⟨RJ7, "fill", "([II)V"⟩
def RL : String := "NeedlePlateLaw"
abbrev cL_law : ByteArray := code
def yL_law : MethodName := ⟨RL, "law", "([I)Z"⟩
abbrev vwCl : List vw_C := [(RX0, TX0, 10), (RX1, TX1, 3), (RX2, TX2, 6), (RX3, TX3, 2), (RX4, TX4, 2), (RX5, TX5, 5), (RX6, TX6, 4), (RX7, TX7, 7), (RX8, TX8, 20)]
theorem iX0 : ∀ w ∈ u_ws RX0 TX0 10, w ∈ lw_tbl := by
  intro w hw
  have h : u_ws RX0 TX0 10 = [110, 112, 114, 116, 118, 120, 122, 124, 126, 128].filterMap (fun i => lw_tbl[i]?) := by decide +kernel
  rw [h] at hw
  obtain ⟨i, -, hi⟩ := List.mem_filterMap.mp hw
  exact List.mem_of_getElem? hi
theorem iX1 : ∀ w ∈ u_ws RX1 TX1 3, w ∈ lw_tbl := by
  intro w hw
  have h : u_ws RX1 TX1 3 = [190, 192, 194].filterMap (fun i => lw_tbl[i]?) := by decide +kernel
  rw [h] at hw
  obtain ⟨i, -, hi⟩ := List.mem_filterMap.mp hw
  exact List.mem_of_getElem? hi
theorem iX2 : ∀ w ∈ u_ws RX2 TX2 6, w ∈ lw_tbl := by
  intro w hw
  have h : u_ws RX2 TX2 6 = [211, 213, 215, 217, 219, 221].filterMap (fun i => lw_tbl[i]?) := by decide +kernel
  rw [h] at hw
  obtain ⟨i, -, hi⟩ := List.mem_filterMap.mp hw
  exact List.mem_of_getElem? hi
theorem iX3 : ∀ w ∈ u_ws RX3 TX3 2, w ∈ lw_tbl := by
  intro w hw
  have h : u_ws RX3 TX3 2 = [232, 234].filterMap (fun i => lw_tbl[i]?) := by decide +kernel
  rw [h] at hw
  obtain ⟨i, -, hi⟩ := List.mem_filterMap.mp hw
  exact List.mem_of_getElem? hi
theorem iX4 : ∀ w ∈ u_ws RX4 TX4 2, w ∈ lw_tbl := by
  intro w hw
  have h : u_ws RX4 TX4 2 = [172, 174].filterMap (fun i => lw_tbl[i]?) := by decide +kernel
  rw [h] at hw
  obtain ⟨i, -, hi⟩ := List.mem_filterMap.mp hw
  exact List.mem_of_getElem? hi
theorem iX5 : ∀ w ∈ u_ws RX5 TX5 5, w ∈ lw_tbl := by
  intro w hw
  have h : u_ws RX5 TX5 5 = [154, 156, 158, 160, 162].filterMap (fun i => lw_tbl[i]?) := by decide +kernel
  rw [h] at hw
  obtain ⟨i, -, hi⟩ := List.mem_filterMap.mp hw
  exact List.mem_of_getElem? hi
theorem iX6 : ∀ w ∈ u_ws RX6 TX6 4, w ∈ lw_tbl := by
  intro w hw
  have h : u_ws RX6 TX6 4 = [250, 252, 254, 256].filterMap (fun i => lw_tbl[i]?) := by decide +kernel
  rw [h] at hw
  obtain ⟨i, -, hi⟩ := List.mem_filterMap.mp hw
  exact List.mem_of_getElem? hi
theorem iX7 : ∀ w ∈ u_ws RX7 TX7 7, w ∈ lw_tbl := by
  intro w hw
  have h : u_ws RX7 TX7 7 = [288, 290, 292, 294, 296, 298, 300].filterMap (fun i => lw_tbl[i]?) := by decide +kernel
  rw [h] at hw
  obtain ⟨i, -, hi⟩ := List.mem_filterMap.mp hw
  exact List.mem_of_getElem? hi
theorem iX8 : ∀ w ∈ u_ws RX8 TX8 20, w ∈ lw_tbl := by
  intro w hw
  have h : u_ws RX8 TX8 20 = [773, 775, 777, 779, 781, 783, 785, 787, 789, 791, 793, 795, 797, 799, 801, 803, 805, 807, 809, 811].filterMap (fun i => lw_tbl[i]?) := by decide +kernel
  rw [h] at hw
  obtain ⟨i, -, hi⟩ := List.mem_filterMap.mp hw
  exact List.mem_of_getElem? hi
