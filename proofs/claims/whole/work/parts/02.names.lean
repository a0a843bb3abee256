def RX0 : String := "JointWorks$Core"
def TX0 : u_T := fun k => match k with
  | 0 => ("JointWorks$Core", "cornerCount", "I", false)
  | 1 => ("JointWorks$Core", "corners", "[I", true)
  | 2 => ("JointWorks$Core", "point", "[I", true)
  | 3 => ("JointWorks$Core", "twiceLeast", "[I", true)
  | 4 => ("JointWorks$Core", "twiceMost", "[I", true)
  | 5 => ("JointWorks$Core", "inverse", "[I", true)
  | _ => ("JointWorks$Core", "twiceAll", "I", false)
def tyX0 : Nat → FieldType := fun k => match k with
  | 0 => .int
  | 1 => .array .int
  | 2 => .array .int
  | 3 => .array .int
  | 4 => .array .int
  | 5 => .array .int
  | _ => .int
abbrev wsX00 : List Cond := u_ws RX0 TX0 7
theorem nmX0 : ∀ a, a < 7 → ∀ b, b < 7 → a ≠ b → (TX0 a).2.1 ≠ (TX0 b).2.1 := by decide +kernel
theorem tyX0_ok : ∀ k, k < 7 → parseFieldDescriptor (TX0 k).2.2.1 = some (tyX0 k) := by decide +kernel
abbrev cX0_init : ByteArray := prog_2_method_1_code
def yX0_init : MethodName := ⟨RX0, "<init>", "()V"⟩
abbrev cX0_twiceAt : ByteArray := prog_2_method_2_code
def yX0_twiceAt : MethodName := ⟨RX0, "twiceAt", "(II)I"⟩
abbrev cX0_twiceEnd : ByteArray := prog_2_method_3_code
def yX0_twiceEnd : MethodName := ⟨RX0, "twiceEnd", "(IZ)I"⟩
abbrev cX0_lookFor : ByteArray := prog_2_method_4_code
def yX0_lookFor : MethodName := ⟨RX0, "lookFor", "(LJointWorks$Told;)V"⟩
abbrev cX0_takeEnds : ByteArray := prog_2_method_5_code
def yX0_takeEnds : MethodName := ⟨RX0, "takeEnds", "(LJointWorks$Told;)V"⟩
abbrev cX0_haveEndsRoom : ByteArray := prog_2_method_6_code
def yX0_haveEndsRoom : MethodName := ⟨RX0, "haveEndsRoom", "()Z"⟩
abbrev cX0_meet : ByteArray := prog_2_method_7_code
def yX0_meet : MethodName := ⟨RX0, "meet", "(III)V"⟩
abbrev cX0_cross : ByteArray := prog_2_method_8_code
def yX0_cross : MethodName := ⟨RX0, "cross", "(III)I"⟩
abbrev cX0_endOf : ByteArray := prog_2_method_9_code
def yX0_endOf : MethodName := ⟨RX0, "endOf", "(II)I"⟩
abbrev cX0_solve : ByteArray := prog_2_method_10_code
def yX0_solve : MethodName := ⟨RX0, "solve", "(IIII)V"⟩
abbrev cX0_isPointInside : ByteArray := prog_2_method_11_code
def yX0_isPointInside : MethodName := ⟨RX0, "isPointInside", "()Z"⟩
abbrev cX0_mayGet : ByteArray := prog_2_method_12_code
def yX0_mayGet : MethodName := ⟨RX0, "mayGet", "(II)Z"⟩
abbrev cX0_keepPoint : ByteArray := prog_2_method_13_code
def yX0_keepPoint : MethodName := ⟨RX0, "keepPoint", "()V"⟩
abbrev cX0_orderAgainst : ByteArray := prog_2_method_14_code
def yX0_orderAgainst : MethodName := ⟨RX0, "orderAgainst", "(I)I"⟩
def RX1 : String := "JointWorks$Gloves"
def TX1 : u_T := fun k => match k with
  | 0 => ("JointWorks$Told", "number", "I", true)
  | 1 => ("JointWorks$Told", "n", "I", true)
  | 2 => ("JointWorks$Told", "worths", "[I", true)
  | 3 => ("JointWorks$Told", "partsAbove", "[I", true)
  | 4 => ("JointWorks$Told", "core", "LJointWorks$Core;", true)
  | _ => ("JointWorks$Told", "isCoreFound", "Z", false)
def tyX1 : Nat → FieldType := fun k => match k with
  | 0 => .int
  | 1 => .int
  | 2 => .array .int
  | 3 => .array .int
  | 4 => .object "JointWorks$Core"
  | _ => .boolean
abbrev wsX10 : List Cond := u_ws RX1 TX1 6
theorem nmX1 : ∀ a, a < 6 → ∀ b, b < 6 → a ≠ b → (TX1 a).2.1 ≠ (TX1 b).2.1 := by decide +kernel
theorem tyX1_ok : ∀ k, k < 6 → parseFieldDescriptor (TX1 k).2.2.1 = some (tyX1 k) := by decide +kernel
abbrev cX1_init : ByteArray := prog_3_method_1_code
def yX1_init : MethodName := ⟨RX1, "<init>", "(III)V"⟩
abbrev cX1_kind : ByteArray := prog_3_method_2_code
def yX1_kind : MethodName := ⟨RX1, "kind", "()I"⟩
abbrev cX1_actShares : ByteArray := prog_3_method_3_code
def yX1_actShares : MethodName := ⟨RX1, "actShares", "(ILJointWorks$Trace;)I"⟩
def RX2 : String := "JointWorks$Joined"
def TX2 : u_T := fun k => match k with
  | 0 => ("JointWorks$Told", "number", "I", true)
  | 1 => ("JointWorks$Told", "n", "I", true)
  | 2 => ("JointWorks$Told", "worths", "[I", true)
  | 3 => ("JointWorks$Told", "partsAbove", "[I", true)
  | 4 => ("JointWorks$Told", "core", "LJointWorks$Core;", true)
  | _ => ("JointWorks$Told", "isCoreFound", "Z", false)
def tyX2 : Nat → FieldType := fun k => match k with
  | 0 => .int
  | 1 => .int
  | 2 => .array .int
  | 3 => .array .int
  | 4 => .object "JointWorks$Core"
  | _ => .boolean
abbrev wsX20 : List Cond := u_ws RX2 TX2 6
theorem nmX2 : ∀ a, a < 6 → ∀ b, b < 6 → a ≠ b → (TX2 a).2.1 ≠ (TX2 b).2.1 := by decide +kernel
theorem tyX2_ok : ∀ k, k < 6 → parseFieldDescriptor (TX2 k).2.2.1 = some (tyX2 k) := by decide +kernel
abbrev cX2_init : ByteArray := prog_4_method_1_code
def yX2_init : MethodName := ⟨RX2, "<init>", "(II)V"⟩
abbrev cX2_kind : ByteArray := prog_4_method_2_code
def yX2_kind : MethodName := ⟨RX2, "kind", "()I"⟩
abbrev cX2_actGives : ByteArray := prog_4_method_3_code
def yX2_actGives : MethodName := ⟨RX2, "actGives", "(ILJointWorks$Trace;)I"⟩
abbrev cX2_actLacks : ByteArray := prog_4_method_4_code
def yX2_actLacks : MethodName := ⟨RX2, "actLacks", "(ILJointWorks$Trace;)I"⟩
def RX3 : String := "JointWorks$Proof"
def TX3 : u_T := fun k => match k with
  | 0 => ("JointWorks$Proof", "size", "I", false)
  | _ => ("JointWorks$Proof", "numbers", "[J", true)
def tyX3 : Nat → FieldType := fun k => match k with
  | 0 => .int
  | _ => .array .long
abbrev wsX30 : List Cond := u_ws RX3 TX3 2
theorem nmX3 : ∀ a, a < 2 → ∀ b, b < 2 → a ≠ b → (TX3 a).2.1 ≠ (TX3 b).2.1 := by decide +kernel
theorem tyX3_ok : ∀ k, k < 2 → parseFieldDescriptor (TX3 k).2.2.1 = some (tyX3 k) := by decide +kernel
abbrev cX3_init : ByteArray := prog_5_method_1_code
def yX3_init : MethodName := ⟨RX3, "<init>", "()V"⟩
abbrev cX3_prove : ByteArray := prog_5_method_2_code
def yX3_prove : MethodName := ⟨RX3, "prove", "(LJointWorks$Told;)V"⟩
abbrev cX3_appendFraction : ByteArray := prog_5_method_3_code
def yX3_appendFraction : MethodName := ⟨RX3, "appendFraction", "(JJ)V"⟩
abbrev cX3_append : ByteArray := prog_5_method_4_code
def yX3_append : MethodName := ⟨RX3, "append", "(J)V"⟩
abbrev cX3_has : ByteArray := prog_5_method_5_code
def yX3_has : MethodName := ⟨RX3, "has", "(I)Z"⟩
abbrev cX3_numberAt : ByteArray := prog_5_method_6_code
def yX3_numberAt : MethodName := ⟨RX3, "numberAt", "(I)J"⟩
abbrev cX3_alter : ByteArray := prog_5_method_7_code
def yX3_alter : MethodName := ⟨RX3, "alter", "(IJ)V"⟩
abbrev cX3_differsAt : ByteArray := prog_5_method_8_code
def yX3_differsAt : MethodName := ⟨RX3, "differsAt", "(LJointWorks$Proof;)I"⟩
def RX4 : String := "JointWorks$Runway"
def TX4 : u_T := fun k => match k with
  | 0 => ("JointWorks$Told", "number", "I", true)
  | 1 => ("JointWorks$Told", "n", "I", true)
  | 2 => ("JointWorks$Told", "worths", "[I", true)
  | 3 => ("JointWorks$Told", "partsAbove", "[I", true)
  | 4 => ("JointWorks$Told", "core", "LJointWorks$Core;", true)
  | _ => ("JointWorks$Told", "isCoreFound", "Z", false)
def tyX4 : Nat → FieldType := fun k => match k with
  | 0 => .int
  | 1 => .int
  | 2 => .array .int
  | 3 => .array .int
  | 4 => .object "JointWorks$Core"
  | _ => .boolean
abbrev wsX40 : List Cond := u_ws RX4 TX4 6
theorem nmX4 : ∀ a, a < 6 → ∀ b, b < 6 → a ≠ b → (TX4 a).2.1 ≠ (TX4 b).2.1 := by decide +kernel
theorem tyX4_ok : ∀ k, k < 6 → parseFieldDescriptor (TX4 k).2.2.1 = some (tyX4 k) := by decide +kernel
abbrev cX4_init : ByteArray := prog_6_method_1_code
def yX4_init : MethodName := ⟨RX4, "<init>", "(III)V"⟩
abbrev cX4_greatest : ByteArray := prog_6_method_2_code
def yX4_greatest : MethodName := ⟨RX4, "greatest", "(II)I"⟩
abbrev cX4_kind : ByteArray := prog_6_method_3_code
def yX4_kind : MethodName := ⟨RX4, "kind", "()I"⟩
abbrev cX4_actLacks : ByteArray := prog_6_method_4_code
def yX4_actLacks : MethodName := ⟨RX4, "actLacks", "(ILJointWorks$Trace;)I"⟩
def RX5 : String := "JointWorks$Sheet"
def TX5 : u_T := fun k => match k with
  | 0 => ("JointWorks$Sheet", "sort", "I", true)
  | _ => ("JointWorks$Sheet", "items", "[J", true)
def tyX5 : Nat → FieldType := fun k => match k with
  | 0 => .int
  | _ => .array .long
abbrev wsX50 : List Cond := u_ws RX5 TX5 2
theorem nmX5 : ∀ a, a < 2 → ∀ b, b < 2 → a ≠ b → (TX5 a).2.1 ≠ (TX5 b).2.1 := by decide +kernel
theorem tyX5_ok : ∀ k, k < 2 → parseFieldDescriptor (TX5 k).2.2.1 = some (tyX5 k) := by decide +kernel
abbrev cX5_init : ByteArray := prog_7_method_1_code
def yX5_init : MethodName := ⟨RX5, "<init>", "(II)V"⟩
abbrev cX5_holds : ByteArray := prog_7_method_2_code
def yX5_holds : MethodName := ⟨RX5, "holds", "(II)Z"⟩
abbrev cX5_itemAt : ByteArray := prog_7_method_3_code
def yX5_itemAt : MethodName := ⟨RX5, "itemAt", "(I)J"⟩
abbrev cX5_put : ByteArray := prog_7_method_4_code
def yX5_put : MethodName := ⟨RX5, "put", "(II)V"⟩
def RX6 : String := "JointWorks$Told"
def TX6 : u_T := fun k => match k with
  | 0 => ("JointWorks$Told", "number", "I", true)
  | 1 => ("JointWorks$Told", "n", "I", true)
  | 2 => ("JointWorks$Told", "worths", "[I", true)
  | 3 => ("JointWorks$Told", "partsAbove", "[I", true)
  | 4 => ("JointWorks$Told", "core", "LJointWorks$Core;", true)
  | _ => ("JointWorks$Told", "isCoreFound", "Z", false)
def tyX6 : Nat → FieldType := fun k => match k with
  | 0 => .int
  | 1 => .int
  | 2 => .array .int
  | 3 => .array .int
  | 4 => .object "JointWorks$Core"
  | _ => .boolean
abbrev wsX60 : List Cond := u_ws RX6 TX6 6
theorem nmX6 : ∀ a, a < 6 → ∀ b, b < 6 → a ≠ b → (TX6 a).2.1 ≠ (TX6 b).2.1 := by decide +kernel
theorem tyX6_ok : ∀ k, k < 6 → parseFieldDescriptor (TX6 k).2.2.1 = some (tyX6 k) := by decide +kernel
abbrev cX6_init : ByteArray := prog_8_method_1_code
def yX6_init : MethodName := ⟨RX6, "<init>", "(II)V"⟩
abbrev cX6_kind : ByteArray := prog_8_method_2_code
def yX6_kind : MethodName := ⟨RX6, "kind", "()I"⟩
abbrev cX6_actGives : ByteArray := prog_8_method_3_code
def yX6_actGives : MethodName := ⟨RX6, "actGives", "(ILJointWorks$Trace;)I"⟩
abbrev cX6_actLacks : ByteArray := prog_8_method_4_code
def yX6_actLacks : MethodName := ⟨RX6, "actLacks", "(ILJointWorks$Trace;)I"⟩
abbrev cX6_actShares : ByteArray := prog_8_method_5_code
def yX6_actShares : MethodName := ⟨RX6, "actShares", "(ILJointWorks$Trace;)I"⟩
abbrev cX6_all : ByteArray := prog_8_method_6_code
def yX6_all : MethodName := ⟨RX6, "all", "()I"⟩
abbrev cX6_hasPartner : ByteArray := prog_8_method_7_code
def yX6_hasPartner : MethodName := ⟨RX6, "hasPartner", "(I)Z"⟩
abbrev cX6_isFilledSet : ByteArray := prog_8_method_8_code
def yX6_isFilledSet : MethodName := ⟨RX6, "isFilledSet", "(I)Z"⟩
abbrev cX6_isProperSet : ByteArray := prog_8_method_9_code
def yX6_isProperSet : MethodName := ⟨RX6, "isProperSet", "(I)Z"⟩
abbrev cX6_worthOf : ByteArray := prog_8_method_10_code
def yX6_worthOf : MethodName := ⟨RX6, "worthOf", "(I)I"⟩
abbrev cX6_worthOfAll : ByteArray := prog_8_method_11_code
def yX6_worthOfAll : MethodName := ⟨RX6, "worthOfAll", "()I"⟩
abbrev cX6_put : ByteArray := prog_8_method_12_code
def yX6_put : MethodName := ⟨RX6, "put", "(II)V"⟩
abbrev cX6_foundCore : ByteArray := prog_8_method_13_code
def yX6_foundCore : MethodName := ⟨RX6, "foundCore", "()LJointWorks$Core;"⟩
abbrev cX6_addsTo : ByteArray := prog_8_method_14_code
def yX6_addsTo : MethodName := ⟨RX6, "addsTo", "(II)I"⟩
abbrev cX6_dummies : ByteArray := prog_8_method_15_code
def yX6_dummies : MethodName := ⟨RX6, "dummies", "()I"⟩
abbrev cX6_isDummy : ByteArray := prog_8_method_16_code
def yX6_isDummy : MethodName := ⟨RX6, "isDummy", "(I)Z"⟩
abbrev cX6_areLike : ByteArray := prog_8_method_17_code
def yX6_areLike : MethodName := ⟨RX6, "areLike", "(II)Z"⟩
abbrev cX6_spoilers : ByteArray := prog_8_method_18_code
def yX6_spoilers : MethodName := ⟨RX6, "spoilers", "()I"⟩
abbrev cX6_notConvexAt : ByteArray := prog_8_method_19_code
def yX6_notConvexAt : MethodName := ⟨RX6, "notConvexAt", "()I"⟩
abbrev cX6_addsLessTo : ByteArray := prog_8_method_20_code
def yX6_addsLessTo : MethodName := ⟨RX6, "addsLessTo", "(II)I"⟩
abbrev cX6_ordersBehind : ByteArray := prog_8_method_21_code
def yX6_ordersBehind : MethodName := ⟨RX6, "ordersBehind", "(I)I"⟩
abbrev cX6_swings : ByteArray := prog_8_method_22_code
def yX6_swings : MethodName := ⟨RX6, "swings", "(IZ)I"⟩
abbrev cX6_partBelow : ByteArray := prog_8_method_23_code
def yX6_partBelow : MethodName := ⟨RX6, "partBelow", "(I)I"⟩
abbrev cX6_partAbove : ByteArray := prog_8_method_24_code
def yX6_partAbove : MethodName := ⟨RX6, "partAbove", "(II)I"⟩
abbrev cX6_turnsAbove : ByteArray := prog_8_method_25_code
def yX6_turnsAbove : MethodName := ⟨RX6, "turnsAbove", "(I)I"⟩
abbrev cX6_equalAbove : ByteArray := prog_8_method_26_code
def yX6_equalAbove : MethodName := ⟨RX6, "equalAbove", "(I)I"⟩
abbrev cX6_lacksAbove : ByteArray := prog_8_method_27_code
def yX6_lacksAbove : MethodName := ⟨RX6, "lacksAbove", "(II)I"⟩
abbrev cX6_takeParts : ByteArray := prog_8_method_28_code
def yX6_takeParts : MethodName := ⟨RX6, "takeParts", "(I)V"⟩
abbrev cX6_lacksOfTaken : ByteArray := prog_8_method_29_code
def yX6_lacksOfTaken : MethodName := ⟨RX6, "lacksOfTaken", "(II)I"⟩
abbrev cX6_worstSet : ByteArray := prog_8_method_30_code
def yX6_worstSet : MethodName := ⟨RX6, "worstSet", "(I)I"⟩
abbrev cX6_barWeights : ByteArray := prog_8_method_31_code
def yX6_barWeights : MethodName := ⟨RX6, "barWeights", "()J"⟩
abbrev cX6_excessAbove : ByteArray := prog_8_method_32_code
def yX6_excessAbove : MethodName := ⟨RX6, "excessAbove", "(J)I"⟩
def RX7 : String := "JointWorks$Trace"
def TX7 : u_T := fun k => match k with
  | 0 => ("JointWorks$Trace", "ran", "I", false)
  | _ => ("JointWorks$Trace", "kept", "[I", true)
def tyX7 : Nat → FieldType := fun k => match k with
  | 0 => .int
  | _ => .array .int
abbrev wsX70 : List Cond := u_ws RX7 TX7 2
theorem nmX7 : ∀ a, a < 2 → ∀ b, b < 2 → a ≠ b → (TX7 a).2.1 ≠ (TX7 b).2.1 := by decide +kernel
theorem tyX7_ok : ∀ k, k < 2 → parseFieldDescriptor (TX7 k).2.2.1 = some (tyX7 k) := by decide +kernel
abbrev cX7_init : ByteArray := prog_9_method_1_code
def yX7_init : MethodName := ⟨RX7, "<init>", "()V"⟩
abbrev cX7_clear : ByteArray := prog_9_method_2_code
def yX7_clear : MethodName := ⟨RX7, "clear", "()V"⟩
abbrev cX7_began : ByteArray := prog_9_method_3_code
def yX7_began : MethodName := ⟨RX7, "began", "(I)V"⟩
abbrev cX7_bodyAt : ByteArray := prog_9_method_4_code
def yX7_bodyAt : MethodName := ⟨RX7, "bodyAt", "(I)I"⟩
def RX8 : String := "JointWorks$Votes"
def TX8 : u_T := fun k => match k with
  | 0 => ("JointWorks$Told", "number", "I", true)
  | 1 => ("JointWorks$Told", "n", "I", true)
  | 2 => ("JointWorks$Told", "worths", "[I", true)
  | 3 => ("JointWorks$Told", "partsAbove", "[I", true)
  | 4 => ("JointWorks$Told", "core", "LJointWorks$Core;", true)
  | _ => ("JointWorks$Told", "isCoreFound", "Z", false)
def tyX8 : Nat → FieldType := fun k => match k with
  | 0 => .int
  | 1 => .int
  | 2 => .array .int
  | 3 => .array .int
  | 4 => .object "JointWorks$Core"
  | _ => .boolean
abbrev wsX80 : List Cond := u_ws RX8 TX8 6
theorem nmX8 : ∀ a, a < 6 → ∀ b, b < 6 → a ≠ b → (TX8 a).2.1 ≠ (TX8 b).2.1 := by decide +kernel
theorem tyX8_ok : ∀ k, k < 6 → parseFieldDescriptor (TX8 k).2.2.1 = some (tyX8 k) := by decide +kernel
abbrev cX8_init : ByteArray := prog_10_method_1_code
def yX8_init : MethodName := ⟨RX8, "<init>", "(IIII)V"⟩
abbrev cX8_together : ByteArray := prog_10_method_2_code
def yX8_together : MethodName := ⟨RX8, "together", "(II)I"⟩
abbrev cX8_kind : ByteArray := prog_10_method_3_code
def yX8_kind : MethodName := ⟨RX8, "kind", "()I"⟩
abbrev cX8_actGives : ByteArray := prog_10_method_4_code
def yX8_actGives : MethodName := ⟨RX8, "actGives", "(ILJointWorks$Trace;)I"⟩
abbrev cX8_actShares : ByteArray := prog_10_method_5_code
def yX8_actShares : MethodName := ⟨RX8, "actShares", "(ILJointWorks$Trace;)I"⟩
def RX9 : String := "JointWorks"
def TX9 : u_T := fun k => match k with
  | 0 => ("JointWorks", "ventures", "[LJointWorks$Told;", true)
  | 1 => ("JointWorks", "ventureCount", "I", false)
  | 2 => ("JointWorks", "proof", "LJointWorks$Proof;", true)
  | 3 => ("JointWorks", "freshProof", "LJointWorks$Proof;", true)
  | 4 => ("JointWorks", "bodies", "LJointWorks$Trace;", true)
  | _ => ("JointWorks", "sheets", "[LJointWorks$Sheet;", true)
def tyX9 : Nat → FieldType := fun k => match k with
  | 0 => .array (.object "JointWorks$Told")
  | 1 => .int
  | 2 => .object "JointWorks$Proof"
  | 3 => .object "JointWorks$Proof"
  | 4 => .object "JointWorks$Trace"
  | _ => .array (.object "JointWorks$Sheet")
abbrev wsX90 : List Cond := u_ws RX9 TX9 6
theorem nmX9 : ∀ a, a < 6 → ∀ b, b < 6 → a ≠ b → (TX9 a).2.1 ≠ (TX9 b).2.1 := by decide +kernel
theorem tyX9_ok : ∀ k, k < 6 → parseFieldDescriptor (TX9 k).2.2.1 = some (tyX9 k) := by decide +kernel
abbrev cX9_init : ByteArray := prog_1_method_1_code
def yX9_init : MethodName := ⟨RX9, "<init>", "()V"⟩
abbrev cX9_venture : ByteArray := prog_1_method_2_code
def yX9_venture : MethodName := ⟨RX9, "venture", "(I)I"⟩
abbrev cX9_set : ByteArray := prog_1_method_3_code
def yX9_set : MethodName := ⟨RX9, "set", "(III)I"⟩
abbrev cX9_votes : ByteArray := prog_1_method_4_code
def yX9_votes : MethodName := ⟨RX9, "votes", "(III)I"⟩
abbrev cX9_runway : ByteArray := prog_1_method_5_code
def yX9_runway : MethodName := ⟨RX9, "runway", "(II)I"⟩
abbrev cX9_gloves : ByteArray := prog_1_method_6_code
def yX9_gloves : MethodName := ⟨RX9, "gloves", "(II)I"⟩
abbrev cX9_sum : ByteArray := prog_1_method_7_code
def yX9_sum : MethodName := ⟨RX9, "sum", "(IIII)I"⟩
abbrev cX9_drop : ByteArray := prog_1_method_8_code
def yX9_drop : MethodName := ⟨RX9, "drop", "(II)I"⟩
abbrev cX9_join : ByteArray := prog_1_method_9_code
def yX9_join : MethodName := ⟨RX9, "join", "(III)I"⟩
abbrev cX9_other : ByteArray := prog_1_method_10_code
def yX9_other : MethodName := ⟨RX9, "other", "(I)I"⟩
abbrev cX9_close : ByteArray := prog_1_method_11_code
def yX9_close : MethodName := ⟨RX9, "close", "()I"⟩
abbrev cX9_told : ByteArray := prog_1_method_12_code
def yX9_told : MethodName := ⟨RX9, "told", "(II)I"⟩
abbrev cX9_worth : ByteArray := prog_1_method_13_code
def yX9_worth : MethodName := ⟨RX9, "worth", "(II)J"⟩
abbrev cX9_adds : ByteArray := prog_1_method_14_code
def yX9_adds : MethodName := ⟨RX9, "adds", "(III)J"⟩
abbrev cX9_part : ByteArray := prog_1_method_15_code
def yX9_part : MethodName := ⟨RX9, "part", "(IIII)J"⟩
abbrev cX9_lacks : ByteArray := prog_1_method_16_code
def yX9_lacks : MethodName := ⟨RX9, "lacks", "(IIII)J"⟩
abbrev cX9_worst : ByteArray := prog_1_method_17_code
def yX9_worst : MethodName := ⟨RX9, "worst", "(II)I"⟩
abbrev cX9_corner : ByteArray := prog_1_method_18_code
def yX9_corner : MethodName := ⟨RX9, "corner", "(IIII)J"⟩
abbrev cX9_spread : ByteArray := prog_1_method_19_code
def yX9_spread : MethodName := ⟨RX9, "spread", "(IIII)J"⟩
abbrev cX9_least : ByteArray := prog_1_method_20_code
def yX9_least : MethodName := ⟨RX9, "least", "(II)J"⟩
abbrev cX9_bar : ByteArray := prog_1_method_21_code
def yX9_bar : MethodName := ⟨RX9, "bar", "(III)J"⟩
abbrev cX9_where : ByteArray := prog_1_method_22_code
def yX9_where : MethodName := ⟨RX9, "where", "(I)I"⟩
abbrev cX9_like : ByteArray := prog_1_method_23_code
def yX9_like : MethodName := ⟨RX9, "like", "(III)I"⟩
abbrev cX9_power : ByteArray := prog_1_method_24_code
def yX9_power : MethodName := ⟨RX9, "power", "(III)I"⟩
abbrev cX9_write : ByteArray := prog_1_method_25_code
def yX9_write : MethodName := ⟨RX9, "write", "(I)I"⟩
abbrev cX9_row : ByteArray := prog_1_method_26_code
def yX9_row : MethodName := ⟨RX9, "row", "(I)J"⟩
abbrev cX9_forge : ByteArray := prog_1_method_27_code
def yX9_forge : MethodName := ⟨RX9, "forge", "(IJ)I"⟩
abbrev cX9_check : ByteArray := prog_1_method_28_code
def yX9_check : MethodName := ⟨RX9, "check", "(I)I"⟩
abbrev cX9_act : ByteArray := prog_1_method_29_code
def yX9_act : MethodName := ⟨RX9, "act", "(III)I"⟩
abbrev cX9_trace : ByteArray := prog_1_method_30_code
def yX9_trace : MethodName := ⟨RX9, "trace", "(I)I"⟩
abbrev cX9_count : ByteArray := prog_1_method_31_code
def yX9_count : MethodName := ⟨RX9, "count", "(I)I"⟩
abbrev cX9_sheet : ByteArray := prog_1_method_32_code
def yX9_sheet : MethodName := ⟨RX9, "sheet", "(III)I"⟩
abbrev cX9_cell : ByteArray := prog_1_method_33_code
def yX9_cell : MethodName := ⟨RX9, "cell", "(III)I"⟩
abbrev cX9_lay : ByteArray := prog_1_method_34_code
def yX9_lay : MethodName := ⟨RX9, "lay", "(IIII)I"⟩
abbrev cX9_copy : ByteArray := prog_1_method_35_code
def yX9_copy : MethodName := ⟨RX9, "copy", "(IIIII)I"⟩
abbrev cX9_taken : ByteArray := prog_1_method_36_code
def yX9_taken : MethodName := ⟨RX9, "taken", "(II)I"⟩
abbrev cX9_find : ByteArray := prog_1_method_37_code
def yX9_find : MethodName := ⟨RX9, "find", "(I)LJointWorks$Told;"⟩
abbrev cX9_isFull : ByteArray := prog_1_method_38_code
def yX9_isFull : MethodName := ⟨RX9, "isFull", "()Z"⟩
abbrev cX9_enter : ByteArray := prog_1_method_39_code
def yX9_enter : MethodName := ⟨RX9, "enter", "(LJointWorks$Told;)I"⟩
abbrev cX9_isJoinedRange : ByteArray := prog_1_method_40_code
def yX9_isJoinedRange : MethodName := ⟨RX9, "isJoinedRange", "(LJointWorks$Told;LJointWorks$Told;II)Z"⟩
abbrev cX9_hasToldWorths : ByteArray := prog_1_method_41_code
def yX9_hasToldWorths : MethodName := ⟨RX9, "hasToldWorths", "(LJointWorks$Sheet;II)Z"⟩
abbrev cX9_isSize : ByteArray := prog_1_method_42_code
def yX9_isSize : MethodName := ⟨RX9, "isSize", "(I)Z"⟩
abbrev cX9_isToldWorth : ByteArray := prog_1_method_43_code
def yX9_isToldWorth : MethodName := ⟨RX9, "isToldWorth", "(J)Z"⟩
abbrev cX9_isTimes : ByteArray := prog_1_method_44_code
def yX9_isTimes : MethodName := ⟨RX9, "isTimes", "(I)Z"⟩
abbrev cX9_isWay : ByteArray := prog_1_method_45_code
def yX9_isWay : MethodName := ⟨RX9, "isWay", "(I)Z"⟩
abbrev cX9_isSheet : ByteArray := prog_1_method_46_code
def yX9_isSheet : MethodName := ⟨RX9, "isSheet", "(I)Z"⟩
abbrev cX9_isSort : ByteArray := prog_1_method_47_code
def yX9_isSort : MethodName := ⟨RX9, "isSort", "(I)Z"⟩
abbrev cX9_isCode : ByteArray := prog_1_method_48_code
def yX9_isCode : MethodName := ⟨RX9, "isCode", "(III)Z"⟩
abbrev cX9_bit : ByteArray := prog_1_method_49_code
def yX9_bit : MethodName := ⟨RX9, "bit", "(II)I"⟩
abbrev cX9_withGap : ByteArray := prog_1_method_50_code
def yX9_withGap : MethodName := ⟨RX9, "withGap", "(II)I"⟩
abbrev cX9_factorial : ByteArray := prog_1_method_51_code
def yX9_factorial : MethodName := ⟨RX9, "factorial", "(I)I"⟩
abbrev cX9_leanOf : ByteArray := prog_1_method_52_code
def yX9_leanOf : MethodName := ⟨RX9, "leanOf", "(I)[J"⟩
abbrev cX9_leanSet : ByteArray := prog_1_method_53_code
def yX9_leanSet : MethodName := ⟨RX9, "leanSet", "(JI)I"⟩
abbrev cX9_leanWeight : ByteArray := prog_1_method_54_code
def yX9_leanWeight : MethodName := ⟨RX9, "leanWeight", "(JI)I"⟩
abbrev cX9_weightOf : ByteArray := prog_1_method_55_code
def yX9_weightOf : MethodName := ⟨RX9, "weightOf", "(JI)I"⟩
abbrev cX9_weightSum : ByteArray := prog_1_method_56_code
def yX9_weightSum : MethodName := ⟨RX9, "weightSum", "(J)I"⟩
abbrev cX9_lowest : ByteArray := prog_1_method_57_code
def yX9_lowest : MethodName := ⟨RX9, "lowest", "(JJI)J"⟩
abbrev cX9_commonDivisor : ByteArray := prog_1_method_58_code
def yX9_commonDivisor : MethodName := ⟨RX9, "commonDivisor", "(JJ)J"⟩
def RX10 : String := "JointWorksModel"
def TX10 : u_T := fun k => match k with
  | 0 => ("JointWorksModel", "ventures", "I", false)
  | 1 => ("JointWorksModel", "kind", "[I", true)
  | 2 => ("JointWorksModel", "size", "[I", true)
  | 3 => ("JointWorksModel", "worth", "[J", true)
  | 4 => ("JointWorksModel", "m", "[J", true)
  | 5 => ("JointWorksModel", "corners", "I", false)
  | 6 => ("JointWorksModel", "above", "[J", true)
  | 7 => ("JointWorksModel", "under", "[J", true)
  | 8 => ("JointWorksModel", "bestAbove", "J", false)
  | 9 => ("JointWorksModel", "bestBelow", "J", false)
  | 10 => ("JointWorksModel", "weightAbove", "[J", true)
  | 11 => ("JointWorksModel", "weightBelow", "[J", true)
  | 12 => ("JointWorksModel", "row", "[J", true)
  | 13 => ("JointWorksModel", "rows", "I", false)
  | 14 => ("JointWorksModel", "proof", "[J", true)
  | 15 => ("JointWorksModel", "traced", "[I", true)
  | 16 => ("JointWorksModel", "bodies", "I", false)
  | 17 => ("JointWorksModel", "sort", "[I", true)
  | 18 => ("JointWorksModel", "items", "[I", true)
  | 19 => ("JointWorksModel", "item", "[I", true)
  | _ => ("JointWorksModel", "aside", "[I", true)
def tyX10 : Nat → FieldType := fun k => match k with
  | 0 => .int
  | 1 => .array .int
  | 2 => .array .int
  | 3 => .array .long
  | 4 => .array .long
  | 5 => .int
  | 6 => .array .long
  | 7 => .array .long
  | 8 => .long
  | 9 => .long
  | 10 => .array .long
  | 11 => .array .long
  | 12 => .array .long
  | 13 => .int
  | 14 => .array .long
  | 15 => .array .int
  | 16 => .int
  | 17 => .array .int
  | 18 => .array .int
  | 19 => .array .int
  | _ => .array .int
abbrev wsX100 : List Cond := u_ws RX10 TX10 21
theorem nmX10 : ∀ a, a < 21 → ∀ b, b < 21 → a ≠ b → (TX10 a).2.1 ≠ (TX10 b).2.1 := by decide +kernel
theorem tyX10_ok : ∀ k, k < 21 → parseFieldDescriptor (TX10 k).2.2.1 = some (tyX10 k) := by decide +kernel
abbrev cX10_init : ByteArray := prog_12_method_1_code
def yX10_init : MethodName := ⟨RX10, "<init>", "()V"⟩
abbrev cX10_in : ByteArray := prog_12_method_2_code
def yX10_in : MethodName := ⟨RX10, "in", "(III)Z"⟩
abbrev cX10_is : ByteArray := prog_12_method_3_code
def yX10_is : MethodName := ⟨RX10, "is", "(I)Z"⟩
abbrev cX10_all : ByteArray := prog_12_method_4_code
def yX10_all : MethodName := ⟨RX10, "all", "(I)I"⟩
abbrev cX10_ones : ByteArray := prog_12_method_5_code
def yX10_ones : MethodName := ⟨RX10, "ones", "(I)I"⟩
abbrev cX10_isSet : ByteArray := prog_12_method_6_code
def yX10_isSet : MethodName := ⟨RX10, "isSet", "(II)Z"⟩
abbrev cX10_isProper : ByteArray := prog_12_method_7_code
def yX10_isProper : MethodName := ⟨RX10, "isProper", "(II)Z"⟩
abbrev cX10_isPartner : ByteArray := prog_12_method_8_code
def yX10_isPartner : MethodName := ⟨RX10, "isPartner", "(II)Z"⟩
abbrev cX10_worthOf : ByteArray := prog_12_method_9_code
def yX10_worthOf : MethodName := ⟨RX10, "worthOf", "(II)J"⟩
abbrev cX10_begin : ByteArray := prog_12_method_10_code
def yX10_begin : MethodName := ⟨RX10, "begin", "(II)I"⟩
abbrev cX10_comes : ByteArray := prog_12_method_11_code
def yX10_comes : MethodName := ⟨RX10, "comes", "()I"⟩
abbrev cX10_venture : ByteArray := prog_12_method_12_code
def yX10_venture : MethodName := ⟨RX10, "venture", "(I)I"⟩
abbrev cX10_set : ByteArray := prog_12_method_13_code
def yX10_set : MethodName := ⟨RX10, "set", "(III)I"⟩
abbrev cX10_raised : ByteArray := prog_12_method_14_code
def yX10_raised : MethodName := ⟨RX10, "raised", "(II)I"⟩
abbrev cX10_digit : ByteArray := prog_12_method_15_code
def yX10_digit : MethodName := ⟨RX10, "digit", "(III)I"⟩
abbrev cX10_votes : ByteArray := prog_12_method_16_code
def yX10_votes : MethodName := ⟨RX10, "votes", "(III)I"⟩
abbrev cX10_runway : ByteArray := prog_12_method_17_code
def yX10_runway : MethodName := ⟨RX10, "runway", "(II)I"⟩
abbrev cX10_gloves : ByteArray := prog_12_method_18_code
def yX10_gloves : MethodName := ⟨RX10, "gloves", "(II)I"⟩
abbrev cX10_sum : ByteArray := prog_12_method_19_code
def yX10_sum : MethodName := ⟨RX10, "sum", "(IIII)I"⟩
abbrev cX10_opened : ByteArray := prog_12_method_20_code
def yX10_opened : MethodName := ⟨RX10, "opened", "(II)I"⟩
abbrev cX10_drop : ByteArray := prog_12_method_21_code
def yX10_drop : MethodName := ⟨RX10, "drop", "(II)I"⟩
abbrev cX10_join : ByteArray := prog_12_method_22_code
def yX10_join : MethodName := ⟨RX10, "join", "(III)I"⟩
abbrev cX10_other : ByteArray := prog_12_method_23_code
def yX10_other : MethodName := ⟨RX10, "other", "(I)I"⟩
abbrev cX10_close : ByteArray := prog_12_method_24_code
def yX10_close : MethodName := ⟨RX10, "close", "()I"⟩
abbrev cX10_divisor : ByteArray := prog_12_method_25_code
def yX10_divisor : MethodName := ⟨RX10, "divisor", "(JJ)J"⟩
abbrev cX10_lowest : ByteArray := prog_12_method_26_code
def yX10_lowest : MethodName := ⟨RX10, "lowest", "(JJI)J"⟩
abbrev cX10_addsTo : ByteArray := prog_12_method_27_code
def yX10_addsTo : MethodName := ⟨RX10, "addsTo", "(III)J"⟩
abbrev cX10_worth : ByteArray := prog_12_method_28_code
def yX10_worth : MethodName := ⟨RX10, "worth", "(II)J"⟩
abbrev cX10_adds : ByteArray := prog_12_method_29_code
def yX10_adds : MethodName := ⟨RX10, "adds", "(III)J"⟩
abbrev cX10_factorial : ByteArray := prog_12_method_30_code
def yX10_factorial : MethodName := ⟨RX10, "factorial", "(I)J"⟩
abbrev cX10_turns : ByteArray := prog_12_method_31_code
def yX10_turns : MethodName := ⟨RX10, "turns", "(II)J"⟩
abbrev cX10_owns : ByteArray := prog_12_method_32_code
def yX10_owns : MethodName := ⟨RX10, "owns", "(I)J"⟩
abbrev cX10_below : ByteArray := prog_12_method_33_code
def yX10_below : MethodName := ⟨RX10, "below", "(II)J"⟩
abbrev cX10_gets : ByteArray := prog_12_method_34_code
def yX10_gets : MethodName := ⟨RX10, "gets", "(III)J"⟩
abbrev cX10_part : ByteArray := prog_12_method_35_code
def yX10_part : MethodName := ⟨RX10, "part", "(IIII)J"⟩
abbrev cX10_lacksOf : ByteArray := prog_12_method_36_code
def yX10_lacksOf : MethodName := ⟨RX10, "lacksOf", "(III)J"⟩
abbrev cX10_lacks : ByteArray := prog_12_method_37_code
def yX10_lacks : MethodName := ⟨RX10, "lacks", "(IIII)J"⟩
abbrev cX10_worst : ByteArray := prog_12_method_38_code
def yX10_worst : MethodName := ⟨RX10, "worst", "(II)I"⟩
abbrev cX10_reduce : ByteArray := prog_12_method_39_code
def yX10_reduce : MethodName := ⟨RX10, "reduce", "(I)V"⟩
abbrev cX10_exchange : ByteArray := prog_12_method_40_code
def yX10_exchange : MethodName := ⟨RX10, "exchange", "(II)V"⟩
abbrev cX10_solves : ByteArray := prog_12_method_41_code
def yX10_solves : MethodName := ⟨RX10, "solves", "(II)Z"⟩
abbrev cX10_clear : ByteArray := prog_12_method_42_code
def yX10_clear : MethodName := ⟨RX10, "clear", "()V"⟩
abbrev cX10_rowOf : ByteArray := prog_12_method_43_code
def yX10_rowOf : MethodName := ⟨RX10, "rowOf", "(III)V"⟩
abbrev cX10_isCore : ByteArray := prog_12_method_44_code
def yX10_isCore : MethodName := ⟨RX10, "isCore", "(I)Z"⟩
abbrev cX10_compare : ByteArray := prog_12_method_45_code
def yX10_compare : MethodName := ⟨RX10, "compare", "(II)I"⟩
abbrev cX10_keep : ByteArray := prog_12_method_46_code
def yX10_keep : MethodName := ⟨RX10, "keep", "(I)V"⟩
abbrev cX10_findCorners : ByteArray := prog_12_method_47_code
def yX10_findCorners : MethodName := ⟨RX10, "findCorners", "(I)V"⟩
abbrev cX10_corner : ByteArray := prog_12_method_48_code
def yX10_corner : MethodName := ⟨RX10, "corner", "(IIII)J"⟩
abbrev cX10_spread : ByteArray := prog_12_method_49_code
def yX10_spread : MethodName := ⟨RX10, "spread", "(IIII)J"⟩
abbrev cX10_weigh : ByteArray := prog_12_method_50_code
def yX10_weigh : MethodName := ⟨RX10, "weigh", "(III)V"⟩
abbrev cX10_findBar : ByteArray := prog_12_method_51_code
def yX10_findBar : MethodName := ⟨RX10, "findBar", "(I)V"⟩
abbrev cX10_least : ByteArray := prog_12_method_52_code
def yX10_least : MethodName := ⟨RX10, "least", "(II)J"⟩
abbrev cX10_bar : ByteArray := prog_12_method_53_code
def yX10_bar : MethodName := ⟨RX10, "bar", "(III)J"⟩
abbrev cX10_where : ByteArray := prog_12_method_54_code
def yX10_where : MethodName := ⟨RX10, "where", "(I)I"⟩
abbrev cX10_dummies : ByteArray := prog_12_method_55_code
def yX10_dummies : MethodName := ⟨RX10, "dummies", "(I)I"⟩
abbrev cX10_losers : ByteArray := prog_12_method_56_code
def yX10_losers : MethodName := ⟨RX10, "losers", "(I)I"⟩
abbrev cX10_told : ByteArray := prog_12_method_57_code
def yX10_told : MethodName := ⟨RX10, "told", "(II)I"⟩
abbrev cX10_like : ByteArray := prog_12_method_58_code
def yX10_like : MethodName := ⟨RX10, "like", "(III)I"⟩
abbrev cX10_power : ByteArray := prog_12_method_59_code
def yX10_power : MethodName := ⟨RX10, "power", "(III)I"⟩
abbrev cX10_prove : ByteArray := prog_12_method_60_code
def yX10_prove : MethodName := ⟨RX10, "prove", "(I)I"⟩
abbrev cX10_write : ByteArray := prog_12_method_61_code
def yX10_write : MethodName := ⟨RX10, "write", "(I)I"⟩
abbrev cX10_row : ByteArray := prog_12_method_62_code
def yX10_row : MethodName := ⟨RX10, "row", "(I)J"⟩
abbrev cX10_forge : ByteArray := prog_12_method_63_code
def yX10_forge : MethodName := ⟨RX10, "forge", "(IJ)I"⟩
abbrev cX10_check : ByteArray := prog_12_method_64_code
def yX10_check : MethodName := ⟨RX10, "check", "(I)I"⟩
abbrev cX10_body : ByteArray := prog_12_method_65_code
def yX10_body : MethodName := ⟨RX10, "body", "(I)V"⟩
abbrev cX10_toldGives : ByteArray := prog_12_method_66_code
def yX10_toldGives : MethodName := ⟨RX10, "toldGives", "(II)I"⟩
abbrev cX10_gives : ByteArray := prog_12_method_67_code
def yX10_gives : MethodName := ⟨RX10, "gives", "(II)I"⟩
abbrev cX10_toldLacks : ByteArray := prog_12_method_68_code
def yX10_toldLacks : MethodName := ⟨RX10, "toldLacks", "(II)I"⟩
abbrev cX10_lacksBy : ByteArray := prog_12_method_69_code
def yX10_lacksBy : MethodName := ⟨RX10, "lacksBy", "(II)I"⟩
abbrev cX10_toldShares : ByteArray := prog_12_method_70_code
def yX10_toldShares : MethodName := ⟨RX10, "toldShares", "(II)I"⟩
abbrev cX10_shares : ByteArray := prog_12_method_71_code
def yX10_shares : MethodName := ⟨RX10, "shares", "(II)I"⟩
abbrev cX10_act : ByteArray := prog_12_method_72_code
def yX10_act : MethodName := ⟨RX10, "act", "(III)I"⟩
abbrev cX10_trace : ByteArray := prog_12_method_73_code
def yX10_trace : MethodName := ⟨RX10, "trace", "(I)I"⟩
abbrev cX10_count : ByteArray := prog_12_method_74_code
def yX10_count : MethodName := ⟨RX10, "count", "(I)I"⟩
abbrev cX10_isSheet : ByteArray := prog_12_method_75_code
def yX10_isSheet : MethodName := ⟨RX10, "isSheet", "(I)Z"⟩
abbrev cX10_sheet : ByteArray := prog_12_method_76_code
def yX10_sheet : MethodName := ⟨RX10, "sheet", "(III)I"⟩
abbrev cX10_cell : ByteArray := prog_12_method_77_code
def yX10_cell : MethodName := ⟨RX10, "cell", "(III)I"⟩
abbrev cX10_lay : ByteArray := prog_12_method_78_code
def yX10_lay : MethodName := ⟨RX10, "lay", "(IIII)I"⟩
abbrev cX10_copy : ByteArray := prog_12_method_79_code
def yX10_copy : MethodName := ⟨RX10, "copy", "(IIIII)I"⟩
abbrev cX10_taken : ByteArray := prog_12_method_80_code
def yX10_taken : MethodName := ⟨RX10, "taken", "(II)I"⟩
def RJ6 : String := "java/lang/Integer"
abbrev cJ6_compare_7cf53 : ByteArray := prog_13_method_40_code
def yJ6_compare_7cf53 : MethodName := ⟨RJ6, "compare", "(II)I"⟩
abbrev cJ6_bitCount_0f7a4 : ByteArray := prog_13_method_49_code
def yJ6_bitCount_0f7a4 : MethodName := ⟨RJ6, "bitCount", "(I)I"⟩
def RJ9 : String := "java/lang/Math"
abbrev cJ9_abs_067f4 : ByteArray := prog_14_method_61_code
def yJ9_abs_067f4 : MethodName := ⟨RJ9, "abs", "(J)J"⟩
abbrev cJ9_max_7cf53 : ByteArray := prog_14_method_65_code
def yJ9_max_7cf53 : MethodName := ⟨RJ9, "max", "(II)I"⟩
abbrev cJ9_min_7cf53 : ByteArray := prog_14_method_69_code
def yJ9_min_7cf53 : MethodName := ⟨RJ9, "min", "(II)I"⟩
def RJ10 : String := "java/lang/System"
def RL : String := "JointWorksLaw"
abbrev cL_law : ByteArray := code
def yL_law : MethodName := ⟨RL, "law", "([I)Z"⟩
abbrev vwCl : List vw_C := [(RX0, TX0, 7), (RX1, TX1, 6), (RX2, TX2, 6), (RX3, TX3, 2), (RX4, TX4, 6), (RX5, TX5, 2), (RX6, TX6, 6), (RX7, TX7, 2), (RX8, TX8, 6), (RX9, TX9, 6), (RX10, TX10, 21)]
abbrev mRow : Type := MethodName × ByteArray × Nat × Option FieldType × Nat × Nat × Nat × Nat
def mTab_0 : List mRow := [(yX0_init, cX0_init, 1, none, 1, 20, 5, 125),
  (yX0_twiceAt, cX0_twiceAt, 4, (some (.int)), 0, 0, 0, 0),
  (yX0_twiceEnd, cX0_twiceEnd, 6, (some (.int)), 1, 23, 0, 0),
  (yX0_lookFor, cX0_lookFor, 5, none, 4, 97, 0, 0),
  (yX0_takeEnds, cX0_takeEnds, 4, none, 2, 41, 0, 0),
  (yX0_haveEndsRoom, cX0_haveEndsRoom, 2, (some (.boolean)), 0, 0, 0, 0),
  (yX0_meet, cX0_meet, 6, none, 3, 72, 0, 0),
  (yX0_cross, cX0_cross, 5, (some (.int)), 1, 21, 0, 0),
  (yX0_endOf, cX0_endOf, 3, (some (.int)), 0, 0, 0, 0),
  (yX0_solve, cX0_solve, 8, none, 0, 0, 0, 0),
  (yX0_isPointInside, cX0_isPointInside, 4, (some (.boolean)), 1, 22, 0, 0),
  (yX0_mayGet, cX0_mayGet, 3, (some (.boolean)), 0, 0, 0, 0),
  (yX0_keepPoint, cX0_keepPoint, 5, none, 2, 48, 0, 0),
  (yX0_orderAgainst, cX0_orderAgainst, 4, (some (.int)), 1, 23, 0, 0),
  (yX1_init, cX1_init, 5, none, 3, 63, 8, 152),
  (yX1_kind, cX1_kind, 1, (some (.int)), 0, 0, 0, 0),
  (yX1_actShares, cX1_actShares, 4, (some (.int)), 6, 133, 0, 0),
  (yX2_init, cX2_init, 3, none, 3, 62, 8, 152),
  (yX2_kind, cX2_kind, 1, (some (.int)), 0, 0, 0, 0),
  (yX2_actGives, cX2_actGives, 3, (some (.int)), 2, 43, 0, 0),
  (yX2_actLacks, cX2_actLacks, 4, (some (.int)), 4, 87, 0, 0),
  (yX3_init, cX3_init, 1, none, 1, 20, 1, 25),
  (yX3_prove, cX3_prove, 4, none, 4, 97, 0, 0),
  (yX3_appendFraction, cX3_appendFraction, 5, none, 2, 56, 0, 0),
  (yX3_append, cX3_append, 3, none, 0, 0, 0, 0),
  (yX3_has, cX3_has, 2, (some (.boolean)), 0, 0, 0, 0),
  (yX3_numberAt, cX3_numberAt, 2, (some (.long)), 1, 21, 0, 0),
  (yX3_alter, cX3_alter, 4, none, 1, 21, 0, 0),
  (yX3_differsAt, cX3_differsAt, 3, (some (.int)), 2, 42, 0, 0),
  (yX4_init, cX4_init, 5, none, 3, 63, 8, 152),
  (yX4_greatest, cX4_greatest, 5, (some (.int)), 1, 21, 0, 0),
  (yX4_kind, cX4_kind, 1, (some (.int)), 0, 0, 0, 0)]
def mTab_1 : List mRow := [(yX4_actLacks, cX4_actLacks, 3, (some (.int)), 4, 87, 0, 0),
  (yX5_init, cX5_init, 3, none, 1, 21, 1, 40),
  (yX5_holds, cX5_holds, 3, (some (.boolean)), 0, 0, 0, 0),
  (yX5_itemAt, cX5_itemAt, 2, (some (.long)), 1, 22, 0, 0),
  (yX5_put, cX5_put, 3, none, 1, 22, 0, 0),
  (yX6_init, cX6_init, 3, none, 2, 40, 8, 152),
  (yX6_kind, cX6_kind, 1, (some (.int)), 0, 0, 0, 0),
  (yX6_actGives, cX6_actGives, 3, (some (.int)), 1, 21, 0, 0),
  (yX6_actLacks, cX6_actLacks, 3, (some (.int)), 3, 65, 0, 0),
  (yX6_actShares, cX6_actShares, 4, (some (.int)), 5, 110, 0, 0),
  (yX6_all, cX6_all, 1, (some (.int)), 0, 0, 0, 0),
  (yX6_hasPartner, cX6_hasPartner, 2, (some (.boolean)), 0, 0, 0, 0),
  (yX6_isFilledSet, cX6_isFilledSet, 2, (some (.boolean)), 1, 20, 0, 0),
  (yX6_isProperSet, cX6_isProperSet, 2, (some (.boolean)), 1, 20, 0, 0),
  (yX6_worthOf, cX6_worthOf, 2, (some (.int)), 0, 0, 0, 0),
  (yX6_worthOfAll, cX6_worthOfAll, 1, (some (.int)), 1, 21, 0, 0),
  (yX6_put, cX6_put, 3, none, 2, 41, 0, 0),
  (yX6_foundCore, cX6_foundCore, 1, (some (.object "JointWorks$Core")), 5, 121, 0, 0),
  (yX6_addsTo, cX6_addsTo, 3, (some (.int)), 1, 21, 0, 0),
  (yX6_dummies, cX6_dummies, 3, (some (.int)), 3, 66, 0, 0),
  (yX6_isDummy, cX6_isDummy, 4, (some (.boolean)), 2, 43, 0, 0),
  (yX6_areLike, cX6_areLike, 4, (some (.boolean)), 2, 43, 0, 0),
  (yX6_spoilers, cX6_spoilers, 3, (some (.int)), 2, 43, 0, 0),
  (yX6_notConvexAt, cX6_notConvexAt, 4, (some (.int)), 3, 67, 0, 0),
  (yX6_addsLessTo, cX6_addsLessTo, 5, (some (.int)), 2, 43, 0, 0),
  (yX6_ordersBehind, cX6_ordersBehind, 3, (some (.int)), 1, 22, 0, 0),
  (yX6_swings, cX6_swings, 5, (some (.int)), 2, 44, 0, 0),
  (yX6_partBelow, cX6_partBelow, 2, (some (.int)), 1, 22, 0, 0),
  (yX6_partAbove, cX6_partAbove, 3, (some (.int)), 3, 67, 0, 0),
  (yX6_turnsAbove, cX6_turnsAbove, 4, (some (.int)), 2, 44, 0, 0),
  (yX6_equalAbove, cX6_equalAbove, 4, (some (.int)), 2, 41, 0, 0),
  (yX6_lacksAbove, cX6_lacksAbove, 3, (some (.int)), 5, 111, 0, 0)]
def mTab_2 : List mRow := [(yX6_takeParts, cX6_takeParts, 3, none, 4, 89, 0, 0),
  (yX6_lacksOfTaken, cX6_lacksOfTaken, 5, (some (.int)), 2, 43, 0, 0),
  (yX6_worstSet, cX6_worstSet, 6, (some (.int)), 5, 111, 0, 0),
  (yX6_barWeights, cX6_barWeights, 13, (some (.long)), 3, 65, 0, 0),
  (yX6_excessAbove, cX6_excessAbove, 5, (some (.int)), 2, 41, 0, 0),
  (yX7_init, cX7_init, 1, none, 1, 20, 1, 40),
  (yX7_clear, cX7_clear, 1, none, 0, 0, 0, 0),
  (yX7_began, cX7_began, 2, none, 0, 0, 0, 0),
  (yX7_bodyAt, cX7_bodyAt, 2, (some (.int)), 0, 0, 0, 0),
  (yX8_init, cX8_init, 6, none, 3, 63, 8, 152),
  (yX8_together, cX8_together, 5, (some (.int)), 1, 21, 0, 0),
  (yX8_kind, cX8_kind, 1, (some (.int)), 0, 0, 0, 0),
  (yX8_actGives, cX8_actGives, 3, (some (.int)), 2, 43, 0, 0),
  (yX8_actShares, cX8_actShares, 3, (some (.int)), 6, 133, 0, 0),
  (yX9_init, cX9_init, 1, none, 2, 40, 8, 110),
  (yX9_venture, cX9_venture, 2, (some (.int)), 3, 62, 9, 158),
  (yX9_set, cX9_set, 5, (some (.int)), 3, 63, 0, 0),
  (yX9_votes, cX9_votes, 4, (some (.int)), 4, 88, 9, 158),
  (yX9_runway, cX9_runway, 3, (some (.int)), 4, 87, 9, 158),
  (yX9_gloves, cX9_gloves, 3, (some (.int)), 4, 87, 9, 158),
  (yX9_sum, cX9_sum, 9, (some (.int)), 4, 84, 9, 158),
  (yX9_drop, cX9_drop, 6, (some (.int)), 4, 84, 9, 158),
  (yX9_join, cX9_join, 7, (some (.int)), 4, 84, 9, 158),
  (yX9_other, cX9_other, 5, (some (.int)), 4, 84, 9, 158),
  (yX9_close, cX9_close, 1, (some (.int)), 0, 0, 0, 0),
  (yX9_told, cX9_told, 4, (some (.int)), 6, 141, 0, 0),
  (yX9_worth, cX9_worth, 4, (some (.long)), 1, 21, 0, 0),
  (yX9_adds, cX9_adds, 5, (some (.long)), 2, 43, 0, 0),
  (yX9_part, cX9_part, 6, (some (.long)), 4, 89, 0, 0),
  (yX9_lacks, cX9_lacks, 6, (some (.long)), 6, 133, 0, 0),
  (yX9_worst, cX9_worst, 4, (some (.int)), 6, 136, 0, 0),
  (yX9_corner, cX9_corner, 7, (some (.long)), 6, 141, 0, 0)]
def mTab_3 : List mRow := [(yX9_spread, cX9_spread, 7, (some (.long)), 6, 141, 0, 0),
  (yX9_least, cX9_least, 6, (some (.long)), 4, 97, 0, 0),
  (yX9_bar, cX9_bar, 5, (some (.long)), 4, 97, 0, 0),
  (yX9_where, cX9_where, 3, (some (.int)), 4, 90, 0, 0),
  (yX9_like, cX9_like, 5, (some (.int)), 3, 66, 0, 0),
  (yX9_power, cX9_power, 5, (some (.int)), 3, 68, 0, 0),
  (yX9_write, cX9_write, 3, (some (.int)), 5, 120, 0, 0),
  (yX9_row, cX9_row, 2, (some (.long)), 2, 42, 0, 0),
  (yX9_forge, cX9_forge, 4, (some (.int)), 2, 44, 0, 0),
  (yX9_check, cX9_check, 3, (some (.int)), 5, 120, 0, 0),
  (yX9_act, cX9_act, 5, (some (.int)), 7, 156, 0, 0),
  (yX9_trace, cX9_trace, 2, (some (.int)), 1, 21, 0, 0),
  (yX9_count, cX9_count, 2, (some (.int)), 0, 0, 0, 0),
  (yX9_sheet, cX9_sheet, 4, (some (.int)), 2, 43, 2, 42),
  (yX9_cell, cX9_cell, 5, (some (.int)), 2, 44, 0, 0),
  (yX9_lay, cX9_lay, 8, (some (.int)), 3, 66, 0, 0),
  (yX9_copy, cX9_copy, 8, (some (.int)), 1, 48, 0, 0),
  (yX9_taken, cX9_taken, 4, (some (.int)), 1, 21, 0, 0),
  (yX9_find, cX9_find, 2, (some (.object "JointWorks$Told")), 0, 0, 0, 0),
  (yX9_isFull, cX9_isFull, 1, (some (.boolean)), 0, 0, 0, 0),
  (yX9_enter, cX9_enter, 2, (some (.int)), 1, 20, 0, 0),
  (yX9_isJoinedRange, cX9_isJoinedRange, 6, (some (.boolean)), 1, 21, 0, 0),
  (yX9_hasToldWorths, cX9_hasToldWorths, 4, (some (.boolean)), 2, 43, 0, 0),
  (yX9_isSize, cX9_isSize, 1, (some (.boolean)), 0, 0, 0, 0),
  (yX9_isToldWorth, cX9_isToldWorth, 2, (some (.boolean)), 0, 0, 0, 0),
  (yX9_isTimes, cX9_isTimes, 1, (some (.boolean)), 0, 0, 0, 0),
  (yX9_isWay, cX9_isWay, 1, (some (.boolean)), 0, 0, 0, 0),
  (yX9_isSheet, cX9_isSheet, 2, (some (.boolean)), 0, 0, 0, 0),
  (yX9_isSort, cX9_isSort, 1, (some (.boolean)), 0, 0, 0, 0),
  (yX9_isCode, cX9_isCode, 5, (some (.boolean)), 0, 0, 0, 0),
  (yX9_bit, cX9_bit, 2, (some (.int)), 0, 0, 0, 0),
  (yX9_withGap, cX9_withGap, 3, (some (.int)), 0, 0, 0, 0)]
def mTab_4 : List mRow := [(yX9_factorial, cX9_factorial, 3, (some (.int)), 0, 0, 0, 0),
  (yX9_leanOf, cX9_leanOf, 1, (some (.array .long)), 0, 0, 0, 0),
  (yX9_leanSet, cX9_leanSet, 3, (some (.int)), 0, 0, 0, 0),
  (yX9_leanWeight, cX9_leanWeight, 3, (some (.int)), 0, 0, 0, 0),
  (yX9_weightOf, cX9_weightOf, 4, (some (.int)), 1, 22, 0, 0),
  (yX9_weightSum, cX9_weightSum, 4, (some (.int)), 1, 22, 0, 0),
  (yX9_lowest, cX9_lowest, 7, (some (.long)), 1, 30, 0, 0),
  (yX9_commonDivisor, cX9_commonDivisor, 11, (some (.long)), 0, 0, 0, 0),
  (yX10_init, cX10_init, 1, none, 1, 20, 15, 3762),
  (yX10_in, cX10_in, 4, (some (.boolean)), 0, 0, 0, 0),
  (yX10_is, cX10_is, 2, (some (.boolean)), 1, 23, 0, 0),
  (yX10_all, cX10_all, 2, (some (.int)), 0, 0, 0, 0),
  (yX10_ones, cX10_ones, 2, (some (.int)), 0, 0, 0, 0),
  (yX10_isSet, cX10_isSet, 3, (some (.boolean)), 1, 23, 0, 0),
  (yX10_isProper, cX10_isProper, 3, (some (.boolean)), 1, 23, 0, 0),
  (yX10_isPartner, cX10_isPartner, 3, (some (.boolean)), 1, 23, 0, 0),
  (yX10_worthOf, cX10_worthOf, 3, (some (.long)), 0, 0, 0, 0),
  (yX10_begin, cX10_begin, 4, (some (.int)), 0, 0, 0, 0),
  (yX10_comes, cX10_comes, 1, (some (.int)), 0, 0, 0, 0),
  (yX10_venture, cX10_venture, 3, (some (.int)), 1, 23, 0, 0),
  (yX10_set, cX10_set, 4, (some (.int)), 2, 44, 0, 0),
  (yX10_raised, cX10_raised, 5, (some (.int)), 0, 0, 0, 0),
  (yX10_digit, cX10_digit, 4, (some (.int)), 1, 24, 0, 0),
  (yX10_votes, cX10_votes, 8, (some (.int)), 2, 47, 0, 0),
  (yX10_runway, cX10_runway, 7, (some (.int)), 2, 47, 0, 0),
  (yX10_gloves, cX10_gloves, 7, (some (.int)), 1, 23, 0, 0),
  (yX10_sum, cX10_sum, 10, (some (.int)), 2, 44, 0, 0),
  (yX10_opened, cX10_opened, 3, (some (.int)), 0, 0, 0, 0),
  (yX10_drop, cX10_drop, 5, (some (.int)), 2, 45, 0, 0),
  (yX10_join, cX10_join, 6, (some (.int)), 2, 45, 0, 0),
  (yX10_other, cX10_other, 4, (some (.int)), 2, 44, 0, 0),
  (yX10_close, cX10_close, 1, (some (.int)), 0, 0, 0, 0)]
def mTab_5 : List mRow := [(yX10_divisor, cX10_divisor, 11, (some (.long)), 0, 0, 0, 0),
  (yX10_lowest, cX10_lowest, 8, (some (.long)), 1, 30, 0, 0),
  (yX10_addsTo, cX10_addsTo, 4, (some (.long)), 1, 22, 0, 0),
  (yX10_worth, cX10_worth, 3, (some (.long)), 2, 45, 0, 0),
  (yX10_adds, cX10_adds, 4, (some (.long)), 2, 45, 0, 0),
  (yX10_factorial, cX10_factorial, 5, (some (.long)), 0, 0, 0, 0),
  (yX10_turns, cX10_turns, 6, (some (.long)), 2, 45, 0, 0),
  (yX10_owns, cX10_owns, 5, (some (.long)), 1, 22, 0, 0),
  (yX10_below, cX10_below, 3, (some (.long)), 1, 24, 0, 0),
  (yX10_gets, cX10_gets, 4, (some (.long)), 3, 70, 0, 0),
  (yX10_part, cX10_part, 5, (some (.long)), 4, 93, 0, 0),
  (yX10_lacksOf, cX10_lacksOf, 7, (some (.long)), 4, 93, 0, 0),
  (yX10_lacks, cX10_lacks, 5, (some (.long)), 5, 119, 0, 0),
  (yX10_worst, cX10_worst, 5, (some (.int)), 5, 119, 0, 0),
  (yX10_reduce, cX10_reduce, 5, none, 1, 30, 0, 0),
  (yX10_exchange, cX10_exchange, 6, none, 0, 0, 0, 0),
  (yX10_solves, cX10_solves, 11, (some (.boolean)), 2, 54, 0, 0),
  (yX10_clear, cX10_clear, 2, none, 0, 0, 0, 0),
  (yX10_rowOf, cX10_rowOf, 5, none, 1, 22, 0, 0),
  (yX10_isCore, cX10_isCore, 8, (some (.boolean)), 1, 22, 0, 0),
  (yX10_compare, cX10_compare, 6, (some (.int)), 0, 0, 0, 0),
  (yX10_keep, cX10_keep, 4, none, 2, 57, 0, 0),
  (yX10_findCorners, cX10_findCorners, 8, none, 3, 84, 0, 0),
  (yX10_corner, cX10_corner, 5, (some (.long)), 4, 111, 0, 0),
  (yX10_spread, cX10_spread, 9, (some (.long)), 4, 111, 0, 0),
  (yX10_weigh, cX10_weigh, 14, none, 2, 57, 0, 0),
  (yX10_findBar, cX10_findBar, 9, none, 3, 90, 0, 0),
  (yX10_least, cX10_least, 3, (some (.long)), 4, 118, 0, 0),
  (yX10_bar, cX10_bar, 4, (some (.long)), 4, 118, 0, 0),
  (yX10_where, cX10_where, 6, (some (.int)), 2, 45, 0, 0),
  (yX10_dummies, cX10_dummies, 6, (some (.int)), 2, 45, 0, 0),
  (yX10_losers, cX10_losers, 4, (some (.int)), 2, 45, 0, 0)]
def mTab_6 : List mRow := [(yX10_told, cX10_told, 3, (some (.int)), 4, 111, 0, 0),
  (yX10_like, cX10_like, 6, (some (.int)), 2, 45, 0, 0),
  (yX10_power, cX10_power, 7, (some (.int)), 2, 45, 0, 0),
  (yX10_prove, cX10_prove, 4, (some (.int)), 4, 118, 0, 0),
  (yX10_write, cX10_write, 3, (some (.int)), 5, 141, 0, 0),
  (yX10_row, cX10_row, 2, (some (.long)), 1, 23, 0, 0),
  (yX10_forge, cX10_forge, 4, (some (.int)), 1, 23, 0, 0),
  (yX10_check, cX10_check, 4, (some (.int)), 5, 141, 0, 0),
  (yX10_body, cX10_body, 2, none, 0, 0, 0, 0),
  (yX10_toldGives, cX10_toldGives, 3, (some (.int)), 1, 22, 0, 0),
  (yX10_gives, cX10_gives, 3, (some (.int)), 2, 44, 0, 0),
  (yX10_toldLacks, cX10_toldLacks, 3, (some (.int)), 3, 66, 0, 0),
  (yX10_lacksBy, cX10_lacksBy, 4, (some (.int)), 4, 88, 0, 0),
  (yX10_toldShares, cX10_toldShares, 4, (some (.int)), 5, 111, 0, 0),
  (yX10_shares, cX10_shares, 4, (some (.int)), 6, 134, 0, 0),
  (yX10_act, cX10_act, 4, (some (.int)), 7, 157, 0, 0),
  (yX10_trace, cX10_trace, 2, (some (.int)), 0, 0, 0, 0),
  (yX10_count, cX10_count, 2, (some (.int)), 0, 0, 0, 0),
  (yX10_isSheet, cX10_isSheet, 2, (some (.boolean)), 1, 23, 0, 0),
  (yX10_sheet, cX10_sheet, 5, (some (.int)), 2, 44, 0, 0),
  (yX10_cell, cX10_cell, 4, (some (.int)), 2, 44, 0, 0),
  (yX10_lay, cX10_lay, 6, (some (.int)), 2, 44, 0, 0),
  (yX10_copy, cX10_copy, 7, (some (.int)), 2, 44, 0, 0),
  (yX10_taken, cX10_taken, 3, (some (.int)), 2, 44, 0, 0),
  (yJ6_compare_7cf53, cJ6_compare_7cf53, 2, (some (.int)), 0, 0, 0, 0),
  (yJ6_bitCount_0f7a4, cJ6_bitCount_0f7a4, 1, (some (.int)), 0, 0, 0, 0),
  (yJ9_abs_067f4, cJ9_abs_067f4, 2, (some (.long)), 0, 0, 0, 0),
  (yJ9_max_7cf53, cJ9_max_7cf53, 2, (some (.int)), 0, 0, 0, 0),
  (yJ9_min_7cf53, cJ9_min_7cf53, 2, (some (.int)), 0, 0, 0, 0),
  (yL_law, cL_law, 4, (some .boolean), 10, 362, 600000, 7302250)]
def mTab : List mRow := mTab_0 ++ (mTab_1 ++ (mTab_2 ++ (mTab_3 ++ (mTab_4 ++ (mTab_5 ++ (mTab_6))))))
def mRw (j : Nat) : mRow := mTab.getD j (yL_law, cL_law, 4, (some .boolean), 10, 362, 600000, 7302250)
def mNm (j : Nat) : MethodName := (mRw j).1
def mBc (j : Nat) : ByteArray := (mRw j).2.1
def mMx (j : Nat) : Nat := (mRw j).2.2.1
def mRt (j : Nat) : Option FieldType := (mRw j).2.2.2.1
def mRm (j : Nat) : Room := { frames := (mRw j).2.2.2.2.1, cells := (mRw j).2.2.2.2.2.2.1, slots := (mRw j).2.2.2.2.2.2.2, locals := (mRw j).2.2.2.2.2.1 }
def mWt : List Cond := lw_tbl.filter goodWord
theorem mWt_in {w : Cond} (h : w ∈ lw_tbl) (hg : goodWord w = true) : w ∈ mWt := List.mem_filter.mpr ⟨h, hg⟩
theorem mWt_at {w : Cond} (i : Nat) (h : lw_tbl[i]? = some w) (hg : goodWord w = true) : w ∈ mWt := mWt_in (List.mem_of_getElem? h) hg
theorem mWt_tbl {w : Cond} (h : w ∈ mWt) : w ∈ lw_tbl := (List.mem_filter.mp h).1
theorem mWt_good {w : Cond} (h : w ∈ mWt) : (w.onTables && w.keeps) = true ∨ ∃ ty, w = .arrayClass ty := good_of_word (List.mem_filter.mp h).2
def mWs (j : Nat) : List Cond := Cond.code (mNm j) (mBc j) (mMx j) (mRt j) :: mWt
theorem mGood {k : Nat} (hk : Cond.code (mNm k) (mBc k) (mMx k) (mRt k) ∈ mWt) : GoodIn mWt (mWs k) := fun w h => by
  rcases List.mem_cons.mp h with rfl | h
  · exact ⟨hk, mWt_good hk⟩
  · exact ⟨h, mWt_good h⟩
theorem mIn0 : ∀ w ∈ u_ws RX0 TX0 7, w ∈ mWt := fun w h => mWt_in ((by decide +kernel : ∀ w ∈ u_ws RX0 TX0 7, w ∈ lw_tbl) w h) ((by decide +kernel : ∀ w ∈ u_ws RX0 TX0 7, goodWord w = true) w h)
theorem mIn1 : ∀ w ∈ u_ws RX1 TX1 6, w ∈ mWt := fun w h => mWt_in ((by decide +kernel : ∀ w ∈ u_ws RX1 TX1 6, w ∈ lw_tbl) w h) ((by decide +kernel : ∀ w ∈ u_ws RX1 TX1 6, goodWord w = true) w h)
theorem mIn2 : ∀ w ∈ u_ws RX2 TX2 6, w ∈ mWt := fun w h => mWt_in ((by decide +kernel : ∀ w ∈ u_ws RX2 TX2 6, w ∈ lw_tbl) w h) ((by decide +kernel : ∀ w ∈ u_ws RX2 TX2 6, goodWord w = true) w h)
theorem mIn3 : ∀ w ∈ u_ws RX3 TX3 2, w ∈ mWt := fun w h => mWt_in ((by decide +kernel : ∀ w ∈ u_ws RX3 TX3 2, w ∈ lw_tbl) w h) ((by decide +kernel : ∀ w ∈ u_ws RX3 TX3 2, goodWord w = true) w h)
theorem mIn4 : ∀ w ∈ u_ws RX4 TX4 6, w ∈ mWt := fun w h => mWt_in ((by decide +kernel : ∀ w ∈ u_ws RX4 TX4 6, w ∈ lw_tbl) w h) ((by decide +kernel : ∀ w ∈ u_ws RX4 TX4 6, goodWord w = true) w h)
theorem mIn5 : ∀ w ∈ u_ws RX5 TX5 2, w ∈ mWt := fun w h => mWt_in ((by decide +kernel : ∀ w ∈ u_ws RX5 TX5 2, w ∈ lw_tbl) w h) ((by decide +kernel : ∀ w ∈ u_ws RX5 TX5 2, goodWord w = true) w h)
theorem mIn6 : ∀ w ∈ u_ws RX6 TX6 6, w ∈ mWt := fun w h => mWt_in ((by decide +kernel : ∀ w ∈ u_ws RX6 TX6 6, w ∈ lw_tbl) w h) ((by decide +kernel : ∀ w ∈ u_ws RX6 TX6 6, goodWord w = true) w h)
theorem mIn7 : ∀ w ∈ u_ws RX7 TX7 2, w ∈ mWt := fun w h => mWt_in ((by decide +kernel : ∀ w ∈ u_ws RX7 TX7 2, w ∈ lw_tbl) w h) ((by decide +kernel : ∀ w ∈ u_ws RX7 TX7 2, goodWord w = true) w h)
theorem mIn8 : ∀ w ∈ u_ws RX8 TX8 6, w ∈ mWt := fun w h => mWt_in ((by decide +kernel : ∀ w ∈ u_ws RX8 TX8 6, w ∈ lw_tbl) w h) ((by decide +kernel : ∀ w ∈ u_ws RX8 TX8 6, goodWord w = true) w h)
theorem mIn9 : ∀ w ∈ u_ws RX9 TX9 6, w ∈ mWt := fun w h => mWt_in ((by decide +kernel : ∀ w ∈ u_ws RX9 TX9 6, w ∈ lw_tbl) w h) ((by decide +kernel : ∀ w ∈ u_ws RX9 TX9 6, goodWord w = true) w h)
theorem mIn10 : ∀ w ∈ u_ws RX10 TX10 21, w ∈ mWt := fun w h => mWt_in ((by decide +kernel : ∀ w ∈ u_ws RX10 TX10 21, w ∈ lw_tbl) w h) ((by decide +kernel : ∀ w ∈ u_ws RX10 TX10 21, goodWord w = true) w h)
