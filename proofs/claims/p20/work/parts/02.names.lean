def RX0 : String := "GloveCutters"
def TX0 : u_T := fun k => match k with
  | 0 => ("GloveCutters", "skins", "I", false)
  | 1 => ("GloveCutters", "skinColour", "[I", true)
  | 2 => ("GloveCutters", "skinPieces", "[I", true)
  | 3 => ("GloveCutters", "skinCells", "[[I", true)
  | 4 => ("GloveCutters", "pieces", "I", false)
  | 5 => ("GloveCutters", "pieceSkin", "[I", true)
  | 6 => ("GloveCutters", "pieceKind", "[I", true)
  | 7 => ("GloveCutters", "pieceWhere", "[I", true)
  | 8 => ("GloveCutters", "pieceThin", "[I", true)
  | 9 => ("GloveCutters", "sewn", "I", false)
  | 10 => ("GloveCutters", "pairColour", "[I", true)
  | 11 => ("GloveCutters", "pairTrankSkin", "[I", true)
  | 12 => ("GloveCutters", "pairSkins", "[I", true)
  | 13 => ("GloveCutters", "pairThin", "[I", true)
  | 14 => ("GloveCutters", "pairRipped", "[Z", true)
  | _ => ("GloveCutters", "trialCells", "[I", true)
def tyX0 : Nat → FieldType := fun k => match k with
  | 0 => .int
  | 1 => .array .int
  | 2 => .array .int
  | 3 => .array (.array .int)
  | 4 => .int
  | 5 => .array .int
  | 6 => .array .int
  | 7 => .array .int
  | 8 => .array .int
  | 9 => .int
  | 10 => .array .int
  | 11 => .array .int
  | 12 => .array .int
  | 13 => .array .int
  | 14 => .array .boolean
  | _ => .array .int
abbrev wsX00 : List Cond := u_ws RX0 TX0 16
theorem nmX0 : ∀ a, a < 16 → ∀ b, b < 16 → a ≠ b → (TX0 a).2.1 ≠ (TX0 b).2.1 := by decide +kernel
theorem tyX0_ok : ∀ k, k < 16 → parseFieldDescriptor (TX0 k).2.2.1 = some (tyX0 k) := by decide +kernel
abbrev cX0_init : ByteArray := prog_1_method_1_code
def yX0_init : MethodName := ⟨RX0, "<init>", "()V"⟩
abbrev cX0_lay : ByteArray := prog_1_method_2_code
def yX0_lay : MethodName := ⟨RX0, "lay", "(I)I"⟩
abbrev cX0_mark : ByteArray := prog_1_method_3_code
def yX0_mark : MethodName := ⟨RX0, "mark", "(IIIIII)I"⟩
abbrev cX0_cell : ByteArray := prog_1_method_4_code
def yX0_cell : MethodName := ⟨RX0, "cell", "(III)I"⟩
abbrev cX0_skin : ByteArray := prog_1_method_5_code
def yX0_skin : MethodName := ⟨RX0, "skin", "(II)I"⟩
abbrev cX0_cut : ByteArray := prog_1_method_6_code
def yX0_cut : MethodName := ⟨RX0, "cut", "(IIZII)I"⟩
abbrev cX0_place : ByteArray := prog_1_method_7_code
def yX0_place : MethodName := ⟨RX0, "place", "(IIZ)I"⟩
abbrev cX0_piece : ByteArray := prog_1_method_8_code
def yX0_piece : MethodName := ⟨RX0, "piece", "(II)I"⟩
abbrev cX0_sew : ByteArray := prog_1_method_9_code
def yX0_sew : MethodName := ⟨RX0, "sew", "(I)I"⟩
abbrev cX0_rip : ByteArray := prog_1_method_10_code
def yX0_rip : MethodName := ⟨RX0, "rip", "(I)I"⟩
abbrev cX0_pair : ByteArray := prog_1_method_11_code
def yX0_pair : MethodName := ⟨RX0, "pair", "(II)I"⟩
abbrev cX0_count : ByteArray := prog_1_method_12_code
def yX0_count : MethodName := ⟨RX0, "count", "(I)I"⟩
abbrev cX0_gives : ByteArray := prog_1_method_13_code
def yX0_gives : MethodName := ⟨RX0, "gives", "(IIZ)I"⟩
abbrev cX0_best : ByteArray := prog_1_method_14_code
def yX0_best : MethodName := ⟨RX0, "best", "(IZ)I"⟩
abbrev cX0_lacks : ByteArray := prog_1_method_15_code
def yX0_lacks : MethodName := ⟨RX0, "lacks", "(II)I"⟩
abbrev cX0_pairs : ByteArray := prog_1_method_16_code
def yX0_pairs : MethodName := ⟨RX0, "pairs", "(I)I"⟩
abbrev cX0_share : ByteArray := prog_1_method_17_code
def yX0_share : MethodName := ⟨RX0, "share", "()D"⟩
abbrev cX0_digest : ByteArray := prog_1_method_18_code
def yX0_digest : MethodName := ⟨RX0, "digest", "()J"⟩
abbrev cX0_digestSkin : ByteArray := prog_1_method_19_code
def yX0_digestSkin : MethodName := ⟨RX0, "digestSkin", "(JI)J"⟩
abbrev cX0_needSkin : ByteArray := prog_1_method_20_code
def yX0_needSkin : MethodName := ⟨RX0, "needSkin", "(I)V"⟩
abbrev cX0_needPair : ByteArray := prog_1_method_21_code
def yX0_needPair : MethodName := ⟨RX0, "needPair", "(I)V"⟩
abbrev cX0_needCell : ByteArray := prog_1_method_22_code
def yX0_needCell : MethodName := ⟨RX0, "needCell", "(II)V"⟩
abbrev cX0_needWhat : ByteArray := prog_1_method_23_code
def yX0_needWhat : MethodName := ⟨RX0, "needWhat", "(II)V"⟩
abbrev cX0_needColour : ByteArray := prog_1_method_24_code
def yX0_needColour : MethodName := ⟨RX0, "needColour", "(I)V"⟩
abbrev cX0_needKind : ByteArray := prog_1_method_25_code
def yX0_needKind : MethodName := ⟨RX0, "needKind", "(I)V"⟩
abbrev cX0_tellSkin : ByteArray := prog_1_method_26_code
def yX0_tellSkin : MethodName := ⟨RX0, "tellSkin", "(II)I"⟩
abbrev cX0_tellPiece : ByteArray := prog_1_method_27_code
def yX0_tellPiece : MethodName := ⟨RX0, "tellPiece", "(II)I"⟩
abbrev cX0_tellPair : ByteArray := prog_1_method_28_code
def yX0_tellPair : MethodName := ⟨RX0, "tellPair", "(II)I"⟩
abbrev cX0_tellCount : ByteArray := prog_1_method_29_code
def yX0_tellCount : MethodName := ⟨RX0, "tellCount", "(I)I"⟩
abbrev cX0_piecesAt : ByteArray := prog_1_method_30_code
def yX0_piecesAt : MethodName := ⟨RX0, "piecesAt", "(I)I"⟩
abbrev cX0_pairsInUse : ByteArray := prog_1_method_31_code
def yX0_pairsInUse : MethodName := ⟨RX0, "pairsInUse", "()I"⟩
abbrev cX0_tallySkin : ByteArray := prog_1_method_32_code
def yX0_tallySkin : MethodName := ⟨RX0, "tallySkin", "(II)I"⟩
abbrev cX0_tally : ByteArray := prog_1_method_33_code
def yX0_tally : MethodName := ⟨RX0, "tally", "([IIIIII)I"⟩
abbrev cX0_paint : ByteArray := prog_1_method_34_code
def yX0_paint : MethodName := ⟨RX0, "paint", "([IIIIII)V"⟩
abbrev cX0_wideOf : ByteArray := prog_1_method_35_code
def yX0_wideOf : MethodName := ⟨RX0, "wideOf", "(IZ)I"⟩
abbrev cX0_highOf : ByteArray := prog_1_method_36_code
def yX0_highOf : MethodName := ⟨RX0, "highOf", "(IZ)I"⟩
abbrev cX0_fits : ByteArray := prog_1_method_37_code
def yX0_fits : MethodName := ⟨RX0, "fits", "([IIZII)Z"⟩
abbrev cX0_firstFit : ByteArray := prog_1_method_38_code
def yX0_firstFit : MethodName := ⟨RX0, "firstFit", "([IIZI)I"⟩
abbrev cX0_givenBy : ByteArray := prog_1_method_39_code
def yX0_givenBy : MethodName := ⟨RX0, "givenBy", "(IIZ)I"⟩
abbrev cX0_isFreeOfColour : ByteArray := prog_1_method_40_code
def yX0_isFreeOfColour : MethodName := ⟨RX0, "isFreeOfColour", "(III)Z"⟩
abbrev cX0_freeOfColour : ByteArray := prog_1_method_41_code
def yX0_freeOfColour : MethodName := ⟨RX0, "freeOfColour", "(II)I"⟩
abbrev cX0_freeTranks : ByteArray := prog_1_method_42_code
def yX0_freeTranks : MethodName := ⟨RX0, "freeTranks", "(I)I"⟩
abbrev cX0_mostTranksOfOneSkin : ByteArray := prog_1_method_43_code
def yX0_mostTranksOfOneSkin : MethodName := ⟨RX0, "mostTranksOfOneSkin", "(I)I"⟩
abbrev cX0_pairsFrom : ByteArray := prog_1_method_44_code
def yX0_pairsFrom : MethodName := ⟨RX0, "pairsFrom", "(II)I"⟩
abbrev cX0_trankPairs : ByteArray := prog_1_method_45_code
def yX0_trankPairs : MethodName := ⟨RX0, "trankPairs", "(I)I"⟩
abbrev cX0_lacking : ByteArray := prog_1_method_46_code
def yX0_lacking : MethodName := ⟨RX0, "lacking", "(II)I"⟩
abbrev cX0_firstSkinWithTranks : ByteArray := prog_1_method_47_code
def yX0_firstSkinWithTranks : MethodName := ⟨RX0, "firstSkinWithTranks", "(I)I"⟩
abbrev cX0_enterPair : ByteArray := prog_1_method_48_code
def yX0_enterPair : MethodName := ⟨RX0, "enterPair", "(I)V"⟩
def RX1 : String := "GloveCuttersModel"
def TX1 : u_T := fun k => match k with
  | _ => ("", "", "", false)
def tyX1 : Nat → FieldType := fun k => match k with
  | _ => .int
abbrev wsX10 : List Cond := u_ws RX1 TX1 0
theorem nmX1 : ∀ a, a < 0 → ∀ b, b < 0 → a ≠ b → (TX1 a).2.1 ≠ (TX1 b).2.1 := by decide +kernel
theorem tyX1_ok : ∀ k, k < 0 → parseFieldDescriptor (TX1 k).2.2.1 = some (tyX1 k) := by decide +kernel
def RJ6 : String := "java/lang/Integer"
def TJ6 : u_T := fun k => match k with
  | _ => ("", "", "", false)
def tyJ6 : Nat → FieldType := fun k => match k with
  | _ => .int
abbrev wsJ60 : List Cond := u_ws RJ6 TJ6 0
theorem nmJ6 : ∀ a, a < 0 → ∀ b, b < 0 → a ≠ b → (TJ6 a).2.1 ≠ (TJ6 b).2.1 := by decide +kernel
theorem tyJ6_ok : ∀ k, k < 0 → parseFieldDescriptor (TJ6 k).2.2.1 = some (tyJ6 k) := by decide +kernel
abbrev cJ6_bitCount_0f7a4 : ByteArray := prog_8_method_49_code
def yJ6_bitCount_0f7a4 : MethodName := ⟨RJ6, "bitCount", "(I)I"⟩
def RJ9 : String := "java/lang/Math"
def TJ9 : u_T := fun k => match k with
  | _ => ("", "", "", false)
def tyJ9 : Nat → FieldType := fun k => match k with
  | _ => .int
abbrev wsJ90 : List Cond := u_ws RJ9 TJ9 0
theorem nmJ9 : ∀ a, a < 0 → ∀ b, b < 0 → a ≠ b → (TJ9 a).2.1 ≠ (TJ9 b).2.1 := by decide +kernel
theorem tyJ9_ok : ∀ k, k < 0 → parseFieldDescriptor (TJ9 k).2.2.1 = some (tyJ9 k) := by decide +kernel
abbrev cJ9_max_7cf53 : ByteArray := prog_9_method_65_code
def yJ9_max_7cf53 : MethodName := ⟨RJ9, "max", "(II)I"⟩
abbrev cJ9_min_7cf53 : ByteArray := prog_9_method_69_code
def yJ9_min_7cf53 : MethodName := ⟨RJ9, "min", "(II)I"⟩
def RJ0 : String := "java/lang/String"
def TJ0 : u_T := fun k => match k with
  | _ => ("", "", "", false)
def tyJ0 : Nat → FieldType := fun k => match k with
  | _ => .int
abbrev wsJ00 : List Cond := u_ws RJ0 TJ0 0
theorem nmJ0 : ∀ a, a < 0 → ∀ b, b < 0 → a ≠ b → (TJ0 a).2.1 ≠ (TJ0 b).2.1 := by decide +kernel
theorem tyJ0_ok : ∀ k, k < 0 → parseFieldDescriptor (TJ0 k).2.2.1 = some (tyJ0 k) := by decide +kernel
def RJ10 : String := "java/lang/System"
def TJ10 : u_T := fun k => match k with
  | _ => ("", "", "", false)
def tyJ10 : Nat → FieldType := fun k => match k with
  | _ => .int
abbrev wsJ100 : List Cond := u_ws RJ10 TJ10 0
theorem nmJ10 : ∀ a, a < 0 → ∀ b, b < 0 → a ≠ b → (TJ10 a).2.1 ≠ (TJ10 b).2.1 := by decide +kernel
theorem tyJ10_ok : ∀ k, k < 0 → parseFieldDescriptor (TJ10 k).2.2.1 = some (tyJ10 k) := by decide +kernel
def RL : String := "GloveCuttersLaw"
abbrev cL_below : ByteArray := method_2_code
def yL_below : MethodName := ⟨RL, "below", "(II)I"⟩
abbrev cL_cell : ByteArray := method_3_code
def yL_cell : MethodName := ⟨RL, "cell", "([II)I"⟩
abbrev cL_shop : ByteArray := method_4_code
def yL_shop : MethodName := ⟨RL, "shop", "([I)LGloveCutters;"⟩
abbrev cL_cut : ByteArray := method_5_code
def yL_cut : MethodName := ⟨RL, "cut", "(LGloveCutters;IIZI)I"⟩
abbrev cL_sew : ByteArray := method_6_code
def yL_sew : MethodName := ⟨RL, "sew", "(LGloveCutters;I)I"⟩
abbrev cL_rip : ByteArray := method_7_code
def yL_rip : MethodName := ⟨RL, "rip", "(LGloveCutters;I)I"⟩
abbrev cL_law : ByteArray := code
def yL_law : MethodName := ⟨RL, "law", "([I)Z"⟩
def wsX0_init : List Cond := .code yX0_init cX0_init 1 none :: ([.methodLink RX0 3 objectInit, .instanceMethod objectInit, .code objectInit ⟨#[0xb1]⟩ 1 none, .arrayClass .int, .fieldLink RX0 9 "GloveCutters" "skinColour" "[I", .fieldLink RX0 13 "GloveCutters" "skinPieces" "[I", .classLink RX0 16 "[[I", .fieldLink RX0 18 "GloveCutters" "skinCells" "[[I", .fieldLink RX0 21 "GloveCutters" "pieceSkin" "[I", .fieldLink RX0 24 "GloveCutters" "pieceKind" "[I", .fieldLink RX0 27 "GloveCutters" "pieceWhere" "[I", .fieldLink RX0 30 "GloveCutters" "pieceThin" "[I", .fieldLink RX0 33 "GloveCutters" "pairColour" "[I", .fieldLink RX0 36 "GloveCutters" "pairTrankSkin" "[I", .fieldLink RX0 39 "GloveCutters" "pairSkins" "[I", .fieldLink RX0 42 "GloveCutters" "pairThin" "[I", .arrayClass .boolean, .fieldLink RX0 45 "GloveCutters" "pairRipped" "[Z", .fieldLink RX0 49 "GloveCutters" "trialCells" "[I"] ++ wsX00)
def wsX0_needColour : List Cond := .code yX0_needColour cX0_needColour 1 none :: ([.classLink RX0 74 "java/lang/IllegalArgumentException", .initialized "java/lang/IllegalArgumentException"] ++ (vx_atS RX0 78 "java/lang/IllegalArgumentException" ["java/lang/RuntimeException", "java/lang/Exception"]).filter goodWord)
def wsX0_lay : List Cond := .code yX0_lay cX0_lay 2 (some .int) :: ([.classLink RX0 60 "java/lang/IllegalStateException", .initialized "java/lang/IllegalStateException", .fieldLink RX0 56 "GloveCutters" "skins" "I", .fieldLink RX0 9 "GloveCutters" "skinColour" "[I", .methodLink RX0 52 yX0_needColour, .static yX0_needColour, .initialized RX0, .code yX0_needColour cX0_needColour 1 none, .classLink RX0 74 "java/lang/IllegalArgumentException", .initialized "java/lang/IllegalArgumentException"] ++ wsX00 ++ (vx_atS RX0 64 "java/lang/IllegalStateException" ["java/lang/RuntimeException", "java/lang/Exception"]).filter goodWord ++ (vx_atS RX0 78 "java/lang/IllegalArgumentException" ["java/lang/RuntimeException", "java/lang/Exception"]).filter goodWord)
def wsX0_needSkin : List Cond := .code yX0_needSkin cX0_needSkin 2 none :: ([.classLink RX0 123 "java/lang/IndexOutOfBoundsException", .initialized "java/lang/IndexOutOfBoundsException", .fieldLink RX0 56 "GloveCutters" "skins" "I"] ++ wsX00 ++ (vx_atS RX0 127 "java/lang/IndexOutOfBoundsException" ["java/lang/RuntimeException", "java/lang/Exception"]).filter goodWord)
def wsX0_needCell : List Cond := .code yX0_needCell cX0_needCell 2 none :: ([.classLink RX0 123 "java/lang/IndexOutOfBoundsException", .initialized "java/lang/IndexOutOfBoundsException"] ++ (vx_atS RX0 127 "java/lang/IndexOutOfBoundsException" ["java/lang/RuntimeException", "java/lang/Exception"]).filter goodWord)
def wsX0_tally : List Cond := .code yX0_tally cX0_tally 9 (some .int) :: ([])
def wsX0_paint : List Cond := .code yX0_paint cX0_paint 8 none :: ([])
def wsX0_mark : List Cond := .code yX0_mark cX0_mark 9 (some .int) :: ([.classLink RX0 74 "java/lang/IllegalArgumentException", .initialized "java/lang/IllegalArgumentException", .classLink RX0 60 "java/lang/IllegalStateException", .initialized "java/lang/IllegalStateException", .fieldLink RX0 18 "GloveCutters" "skinCells" "[[I", .methodLink RX0 67 yX0_needSkin, .instanceMethod yX0_needSkin, .selects RX0 yX0_needSkin yX0_needSkin, .initialized RX0, .code yX0_needSkin cX0_needSkin 2 none, .classLink RX0 123 "java/lang/IndexOutOfBoundsException", .initialized "java/lang/IndexOutOfBoundsException", .fieldLink RX0 56 "GloveCutters" "skins" "I", .methodLink RX0 70 yX0_needCell, .static yX0_needCell, .code yX0_needCell cX0_needCell 2 none, .methodLink RX0 81 yX0_tally, .static yX0_tally, .code yX0_tally cX0_tally 9 (some .int), .methodLink RX0 87 yX0_paint, .static yX0_paint, .code yX0_paint cX0_paint 8 none] ++ wsX00 ++ (vx_atS RX0 78 "java/lang/IllegalArgumentException" ["java/lang/RuntimeException", "java/lang/Exception"]).filter goodWord ++ (vx_atS RX0 64 "java/lang/IllegalStateException" ["java/lang/RuntimeException", "java/lang/Exception"]).filter goodWord ++ (vx_atS RX0 127 "java/lang/IndexOutOfBoundsException" ["java/lang/RuntimeException", "java/lang/Exception"]).filter goodWord)
def wsX0_cell : List Cond := .code yX0_cell cX0_cell 4 (some .int) :: ([.fieldLink RX0 18 "GloveCutters" "skinCells" "[[I", .methodLink RX0 67 yX0_needSkin, .instanceMethod yX0_needSkin, .selects RX0 yX0_needSkin yX0_needSkin, .initialized RX0, .code yX0_needSkin cX0_needSkin 2 none, .classLink RX0 123 "java/lang/IndexOutOfBoundsException", .initialized "java/lang/IndexOutOfBoundsException", .fieldLink RX0 56 "GloveCutters" "skins" "I", .methodLink RX0 70 yX0_needCell, .static yX0_needCell, .code yX0_needCell cX0_needCell 2 none] ++ wsX00 ++ (vx_atS RX0 127 "java/lang/IndexOutOfBoundsException" ["java/lang/RuntimeException", "java/lang/Exception"]).filter goodWord)
def wsX0_needWhat : List Cond := .code yX0_needWhat cX0_needWhat 2 none :: ([.classLink RX0 123 "java/lang/IndexOutOfBoundsException", .initialized "java/lang/IndexOutOfBoundsException"] ++ (vx_atS RX0 127 "java/lang/IndexOutOfBoundsException" ["java/lang/RuntimeException", "java/lang/Exception"]).filter goodWord)
def wsX0_tallySkin : List Cond := .code yX0_tallySkin cX0_tallySkin 3 (some .int) :: ([.fieldLink RX0 18 "GloveCutters" "skinCells" "[[I", .methodLink RX0 81 yX0_tally, .static yX0_tally, .initialized RX0, .code yX0_tally cX0_tally 9 (some .int)] ++ wsX00)
def wsX0_tellSkin : List Cond := .code yX0_tellSkin cX0_tellSkin 3 (some .int) :: ([.fieldLink RX0 9 "GloveCutters" "skinColour" "[I", .fieldLink RX0 13 "GloveCutters" "skinPieces" "[I", .methodLink RX0 174 yX0_tallySkin, .instanceMethod yX0_tallySkin, .selects RX0 yX0_tallySkin yX0_tallySkin, .initialized RX0, .code yX0_tallySkin cX0_tallySkin 3 (some .int), .fieldLink RX0 18 "GloveCutters" "skinCells" "[[I", .methodLink RX0 81 yX0_tally, .static yX0_tally, .code yX0_tally cX0_tally 9 (some .int)] ++ wsX00)
def wsX0_skin_r1 : List Cond := [Cond.methodLink RX0 67 yX0_needSkin, Cond.instanceMethod yX0_needSkin, Cond.selects RX0 yX0_needSkin yX0_needSkin, Cond.initialized RX0, Cond.code yX0_needSkin cX0_needSkin 2 none, Cond.classLink RX0 123 "java/lang/IndexOutOfBoundsException", Cond.initialized "java/lang/IndexOutOfBoundsException", Cond.fieldLink RX0 56 "GloveCutters" "skins" "I", Cond.methodLink RX0 91 yX0_needWhat, Cond.static yX0_needWhat, Cond.code yX0_needWhat cX0_needWhat 2 none, Cond.methodLink RX0 94 yX0_tellSkin, Cond.instanceMethod yX0_tellSkin, Cond.selects RX0 yX0_tellSkin yX0_tellSkin, Cond.code yX0_tellSkin cX0_tellSkin 3 (some .int), Cond.fieldLink RX0 9 "GloveCutters" "skinColour" "[I", Cond.fieldLink RX0 13 "GloveCutters" "skinPieces" "[I", Cond.methodLink RX0 174 yX0_tallySkin, Cond.instanceMethod yX0_tallySkin, Cond.selects RX0 yX0_tallySkin yX0_tallySkin, Cond.code yX0_tallySkin cX0_tallySkin 3 (some .int), Cond.fieldLink RX0 18 "GloveCutters" "skinCells" "[[I", Cond.methodLink RX0 81 yX0_tally, Cond.static yX0_tally]
def wsX0_skin_r2 : List Cond := [Cond.code yX0_tally cX0_tally 9 (some .int)]
def wsX0_skin : List Cond := .code yX0_skin cX0_skin 3 (some .int) :: ((wsX0_skin_r1 ++ wsX0_skin_r2) ++ wsX00 ++ (vx_atS RX0 127 "java/lang/IndexOutOfBoundsException" ["java/lang/RuntimeException", "java/lang/Exception"]).filter goodWord)
def wsX0_needKind : List Cond := .code yX0_needKind cX0_needKind 1 none :: ([.classLink RX0 74 "java/lang/IllegalArgumentException", .initialized "java/lang/IllegalArgumentException"] ++ (vx_atS RX0 78 "java/lang/IllegalArgumentException" ["java/lang/RuntimeException", "java/lang/Exception"]).filter goodWord)
def wsX0_wideOf : List Cond := .code yX0_wideOf cX0_wideOf 2 (some .int) :: ([.fieldLink RX0 204 "GloveCutters" "KIND_HIGH" "[I", .fieldLink RX0 207 "GloveCutters" "KIND_WIDE" "[I"])
def wsX0_highOf : List Cond := .code yX0_highOf cX0_highOf 2 (some .int) :: ([.fieldLink RX0 207 "GloveCutters" "KIND_WIDE" "[I", .fieldLink RX0 204 "GloveCutters" "KIND_HIGH" "[I"])
def wsX0_fits : List Cond := .code yX0_fits cX0_fits 7 (some .boolean) :: ([.fieldLink RX0 210 "GloveCutters" "KIND_MOST_THIN" "[I", .methodLink RX0 112 yX0_wideOf, .static yX0_wideOf, .initialized RX0, .code yX0_wideOf cX0_wideOf 2 (some .int), .fieldLink RX0 204 "GloveCutters" "KIND_HIGH" "[I", .fieldLink RX0 207 "GloveCutters" "KIND_WIDE" "[I", .methodLink RX0 116 yX0_highOf, .static yX0_highOf, .code yX0_highOf cX0_highOf 2 (some .int), .methodLink RX0 81 yX0_tally, .static yX0_tally, .code yX0_tally cX0_tally 9 (some .int)])
def wsX0_cut_r1 : List Cond := [Cond.classLink RX0 60 "java/lang/IllegalStateException", Cond.initialized "java/lang/IllegalStateException", Cond.fieldLink RX0 18 "GloveCutters" "skinCells" "[[I", Cond.fieldLink RX0 107 "GloveCutters" "pieces" "I", Cond.fieldLink RX0 21 "GloveCutters" "pieceSkin" "[I", Cond.fieldLink RX0 24 "GloveCutters" "pieceKind" "[I", Cond.fieldLink RX0 27 "GloveCutters" "pieceWhere" "[I", Cond.fieldLink RX0 30 "GloveCutters" "pieceThin" "[I", Cond.fieldLink RX0 13 "GloveCutters" "skinPieces" "[I", Cond.methodLink RX0 67 yX0_needSkin, Cond.instanceMethod yX0_needSkin, Cond.selects RX0 yX0_needSkin yX0_needSkin, Cond.initialized RX0, Cond.code yX0_needSkin cX0_needSkin 2 none, Cond.classLink RX0 123 "java/lang/IndexOutOfBoundsException", Cond.initialized "java/lang/IndexOutOfBoundsException", Cond.fieldLink RX0 56 "GloveCutters" "skins" "I", Cond.methodLink RX0 70 yX0_needCell, Cond.static yX0_needCell, Cond.code yX0_needCell cX0_needCell 2 none, Cond.methodLink RX0 98 yX0_needKind, Cond.static yX0_needKind, Cond.code yX0_needKind cX0_needKind 1 none, Cond.classLink RX0 74 "java/lang/IllegalArgumentException"]
def wsX0_cut_r2 : List Cond := [Cond.initialized "java/lang/IllegalArgumentException", Cond.methodLink RX0 101 yX0_fits, Cond.static yX0_fits, Cond.code yX0_fits cX0_fits 7 (some .boolean), Cond.fieldLink RX0 210 "GloveCutters" "KIND_MOST_THIN" "[I", Cond.methodLink RX0 112 yX0_wideOf, Cond.static yX0_wideOf, Cond.code yX0_wideOf cX0_wideOf 2 (some .int), Cond.fieldLink RX0 204 "GloveCutters" "KIND_HIGH" "[I", Cond.fieldLink RX0 207 "GloveCutters" "KIND_WIDE" "[I", Cond.methodLink RX0 116 yX0_highOf, Cond.static yX0_highOf, Cond.code yX0_highOf cX0_highOf 2 (some .int), Cond.methodLink RX0 81 yX0_tally, Cond.static yX0_tally, Cond.code yX0_tally cX0_tally 9 (some .int), Cond.methodLink RX0 87 yX0_paint, Cond.static yX0_paint, Cond.code yX0_paint cX0_paint 8 none]
def wsX0_cut : List Cond := .code yX0_cut cX0_cut 9 (some .int) :: ((wsX0_cut_r1 ++ wsX0_cut_r2) ++ wsX00 ++ (vx_atS RX0 64 "java/lang/IllegalStateException" ["java/lang/RuntimeException", "java/lang/Exception"]).filter goodWord ++ (vx_atS RX0 127 "java/lang/IndexOutOfBoundsException" ["java/lang/RuntimeException", "java/lang/Exception"]).filter goodWord ++ (vx_atS RX0 78 "java/lang/IllegalArgumentException" ["java/lang/RuntimeException", "java/lang/Exception"]).filter goodWord)
def wsX0_firstFit : List Cond := .code yX0_firstFit cX0_firstFit 5 (some .int) :: ([.methodLink RX0 101 yX0_fits, .static yX0_fits, .initialized RX0, .code yX0_fits cX0_fits 7 (some .boolean), .fieldLink RX0 210 "GloveCutters" "KIND_MOST_THIN" "[I", .methodLink RX0 112 yX0_wideOf, .static yX0_wideOf, .code yX0_wideOf cX0_wideOf 2 (some .int), .fieldLink RX0 204 "GloveCutters" "KIND_HIGH" "[I", .fieldLink RX0 207 "GloveCutters" "KIND_WIDE" "[I", .methodLink RX0 116 yX0_highOf, .static yX0_highOf, .code yX0_highOf cX0_highOf 2 (some .int), .methodLink RX0 81 yX0_tally, .static yX0_tally, .code yX0_tally cX0_tally 9 (some .int)])
def wsX0_place_r1 : List Cond := [Cond.fieldLink RX0 18 "GloveCutters" "skinCells" "[[I", Cond.methodLink RX0 67 yX0_needSkin, Cond.instanceMethod yX0_needSkin, Cond.selects RX0 yX0_needSkin yX0_needSkin, Cond.initialized RX0, Cond.code yX0_needSkin cX0_needSkin 2 none, Cond.classLink RX0 123 "java/lang/IndexOutOfBoundsException", Cond.initialized "java/lang/IndexOutOfBoundsException", Cond.fieldLink RX0 56 "GloveCutters" "skins" "I", Cond.methodLink RX0 98 yX0_needKind, Cond.static yX0_needKind, Cond.code yX0_needKind cX0_needKind 1 none, Cond.classLink RX0 74 "java/lang/IllegalArgumentException", Cond.initialized "java/lang/IllegalArgumentException", Cond.methodLink RX0 119 yX0_firstFit, Cond.static yX0_firstFit, Cond.code yX0_firstFit cX0_firstFit 5 (some .int), Cond.methodLink RX0 101 yX0_fits, Cond.static yX0_fits, Cond.code yX0_fits cX0_fits 7 (some .boolean), Cond.fieldLink RX0 210 "GloveCutters" "KIND_MOST_THIN" "[I", Cond.methodLink RX0 112 yX0_wideOf, Cond.static yX0_wideOf, Cond.code yX0_wideOf cX0_wideOf 2 (some .int)]
def wsX0_place_r2 : List Cond := [Cond.fieldLink RX0 204 "GloveCutters" "KIND_HIGH" "[I", Cond.fieldLink RX0 207 "GloveCutters" "KIND_WIDE" "[I", Cond.methodLink RX0 116 yX0_highOf, Cond.static yX0_highOf, Cond.code yX0_highOf cX0_highOf 2 (some .int), Cond.methodLink RX0 81 yX0_tally, Cond.static yX0_tally, Cond.code yX0_tally cX0_tally 9 (some .int)]
def wsX0_place : List Cond := .code yX0_place cX0_place 4 (some .int) :: ((wsX0_place_r1 ++ wsX0_place_r2) ++ wsX00 ++ (vx_atS RX0 127 "java/lang/IndexOutOfBoundsException" ["java/lang/RuntimeException", "java/lang/Exception"]).filter goodWord ++ (vx_atS RX0 78 "java/lang/IllegalArgumentException" ["java/lang/RuntimeException", "java/lang/Exception"]).filter goodWord)
def wsX0_tellPiece : List Cond := .code yX0_tellPiece cX0_tellPiece 3 (some .int) :: ([.fieldLink RX0 21 "GloveCutters" "pieceSkin" "[I", .fieldLink RX0 24 "GloveCutters" "pieceKind" "[I", .fieldLink RX0 27 "GloveCutters" "pieceWhere" "[I", .fieldLink RX0 30 "GloveCutters" "pieceThin" "[I"] ++ wsX00)
def wsX0_piece : List Cond := .code yX0_piece cX0_piece 3 (some .int) :: ([.classLink RX0 123 "java/lang/IndexOutOfBoundsException", .initialized "java/lang/IndexOutOfBoundsException", .fieldLink RX0 107 "GloveCutters" "pieces" "I", .methodLink RX0 91 yX0_needWhat, .static yX0_needWhat, .initialized RX0, .code yX0_needWhat cX0_needWhat 2 none, .methodLink RX0 128 yX0_tellPiece, .instanceMethod yX0_tellPiece, .selects RX0 yX0_tellPiece yX0_tellPiece, .code yX0_tellPiece cX0_tellPiece 3 (some .int), .fieldLink RX0 21 "GloveCutters" "pieceSkin" "[I", .fieldLink RX0 24 "GloveCutters" "pieceKind" "[I", .fieldLink RX0 27 "GloveCutters" "pieceWhere" "[I", .fieldLink RX0 30 "GloveCutters" "pieceThin" "[I"] ++ wsX00 ++ (vx_atS RX0 127 "java/lang/IndexOutOfBoundsException" ["java/lang/RuntimeException", "java/lang/Exception"]).filter goodWord)
def wsX0_freeTranks : List Cond := .code yX0_freeTranks cX0_freeTranks 4 (some .int) :: ([.fieldLink RX0 107 "GloveCutters" "pieces" "I", .fieldLink RX0 27 "GloveCutters" "pieceWhere" "[I", .fieldLink RX0 24 "GloveCutters" "pieceKind" "[I", .fieldLink RX0 21 "GloveCutters" "pieceSkin" "[I"] ++ wsX00)
def wsX0_mostTranksOfOneSkin : List Cond := .code yX0_mostTranksOfOneSkin cX0_mostTranksOfOneSkin 4 (some .int) :: ([.fieldLink RX0 56 "GloveCutters" "skins" "I", .fieldLink RX0 9 "GloveCutters" "skinColour" "[I", .methodLink RX0 226 Lib.Math.max.name, .static Lib.Math.max.name, .initialized "java/lang/Math", .code Lib.Math.max.name Lib.Math.max.code 2 (some .int), .methodLink RX0 223 yX0_freeTranks, .instanceMethod yX0_freeTranks, .selects RX0 yX0_freeTranks yX0_freeTranks, .initialized RX0, .code yX0_freeTranks cX0_freeTranks 4 (some .int), .fieldLink RX0 107 "GloveCutters" "pieces" "I", .fieldLink RX0 27 "GloveCutters" "pieceWhere" "[I", .fieldLink RX0 24 "GloveCutters" "pieceKind" "[I", .fieldLink RX0 21 "GloveCutters" "pieceSkin" "[I"] ++ wsX00)
def wsX0_isFreeOfColour : List Cond := .code yX0_isFreeOfColour cX0_isFreeOfColour 4 (some .boolean) :: ([.fieldLink RX0 27 "GloveCutters" "pieceWhere" "[I", .fieldLink RX0 24 "GloveCutters" "pieceKind" "[I", .fieldLink RX0 9 "GloveCutters" "skinColour" "[I", .fieldLink RX0 21 "GloveCutters" "pieceSkin" "[I"] ++ wsX00)
def wsX0_freeOfColour : List Cond := .code yX0_freeOfColour cX0_freeOfColour 5 (some .int) :: ([.fieldLink RX0 107 "GloveCutters" "pieces" "I", .methodLink RX0 219 yX0_isFreeOfColour, .instanceMethod yX0_isFreeOfColour, .selects RX0 yX0_isFreeOfColour yX0_isFreeOfColour, .initialized RX0, .code yX0_isFreeOfColour cX0_isFreeOfColour 4 (some .boolean), .fieldLink RX0 27 "GloveCutters" "pieceWhere" "[I", .fieldLink RX0 24 "GloveCutters" "pieceKind" "[I", .fieldLink RX0 9 "GloveCutters" "skinColour" "[I", .fieldLink RX0 21 "GloveCutters" "pieceSkin" "[I"] ++ wsX00)
def wsX0_lacking_r1 : List Cond := [Cond.fieldLink RX0 229 "GloveCutters" "KIND_IN_PAIR" "[I", Cond.methodLink RX0 226 Lib.Math.max.name, Cond.static Lib.Math.max.name, Cond.initialized "java/lang/Math", Cond.code Lib.Math.max.name Lib.Math.max.code 2 (some .int), Cond.methodLink RX0 232 yX0_mostTranksOfOneSkin, Cond.instanceMethod yX0_mostTranksOfOneSkin, Cond.selects RX0 yX0_mostTranksOfOneSkin yX0_mostTranksOfOneSkin, Cond.initialized RX0, Cond.code yX0_mostTranksOfOneSkin cX0_mostTranksOfOneSkin 4 (some .int), Cond.fieldLink RX0 56 "GloveCutters" "skins" "I", Cond.fieldLink RX0 9 "GloveCutters" "skinColour" "[I", Cond.methodLink RX0 223 yX0_freeTranks, Cond.instanceMethod yX0_freeTranks, Cond.selects RX0 yX0_freeTranks yX0_freeTranks, Cond.code yX0_freeTranks cX0_freeTranks 4 (some .int), Cond.fieldLink RX0 107 "GloveCutters" "pieces" "I", Cond.fieldLink RX0 27 "GloveCutters" "pieceWhere" "[I", Cond.fieldLink RX0 24 "GloveCutters" "pieceKind" "[I", Cond.fieldLink RX0 21 "GloveCutters" "pieceSkin" "[I", Cond.methodLink RX0 163 yX0_freeOfColour, Cond.instanceMethod yX0_freeOfColour, Cond.selects RX0 yX0_freeOfColour yX0_freeOfColour, Cond.code yX0_freeOfColour cX0_freeOfColour 5 (some .int)]
def wsX0_lacking_r2 : List Cond := [Cond.methodLink RX0 219 yX0_isFreeOfColour, Cond.instanceMethod yX0_isFreeOfColour, Cond.selects RX0 yX0_isFreeOfColour yX0_isFreeOfColour, Cond.code yX0_isFreeOfColour cX0_isFreeOfColour 4 (some .boolean)]
def wsX0_lacking : List Cond := .code yX0_lacking cX0_lacking 4 (some .int) :: ((wsX0_lacking_r1 ++ wsX0_lacking_r2) ++ wsX00)
def wsX0_firstSkinWithTranks : List Cond := .code yX0_firstSkinWithTranks cX0_firstSkinWithTranks 3 (some .int) :: ([.fieldLink RX0 56 "GloveCutters" "skins" "I", .fieldLink RX0 9 "GloveCutters" "skinColour" "[I", .fieldLink RX0 229 "GloveCutters" "KIND_IN_PAIR" "[I", .methodLink RX0 223 yX0_freeTranks, .instanceMethod yX0_freeTranks, .selects RX0 yX0_freeTranks yX0_freeTranks, .initialized RX0, .code yX0_freeTranks cX0_freeTranks 4 (some .int), .fieldLink RX0 107 "GloveCutters" "pieces" "I", .fieldLink RX0 27 "GloveCutters" "pieceWhere" "[I", .fieldLink RX0 24 "GloveCutters" "pieceKind" "[I", .fieldLink RX0 21 "GloveCutters" "pieceSkin" "[I"] ++ wsX00)
def wsJ6_bitCount_0f7a4 : List Cond := .code yJ6_bitCount_0f7a4 cJ6_bitCount_0f7a4 1 (some .int) :: ([.constant RJ6 265 (1431655765), .constant RJ6 266 (858993459), .constant RJ6 267 (252645135)])
def wsX0_enterPair_r1 : List Cond := [Cond.fieldLink RX0 33 "GloveCutters" "pairColour" "[I", Cond.fieldLink RX0 136 "GloveCutters" "sewn" "I", Cond.fieldLink RX0 36 "GloveCutters" "pairTrankSkin" "[I", Cond.fieldLink RX0 229 "GloveCutters" "KIND_IN_PAIR" "[I", Cond.fieldLink RX0 107 "GloveCutters" "pieces" "I", Cond.fieldLink RX0 21 "GloveCutters" "pieceSkin" "[I", Cond.fieldLink RX0 27 "GloveCutters" "pieceWhere" "[I", Cond.fieldLink RX0 42 "GloveCutters" "pairThin" "[I", Cond.fieldLink RX0 30 "GloveCutters" "pieceThin" "[I", Cond.fieldLink RX0 39 "GloveCutters" "pairSkins" "[I", Cond.methodLink RX0 235 yX0_firstSkinWithTranks, Cond.instanceMethod yX0_firstSkinWithTranks, Cond.selects RX0 yX0_firstSkinWithTranks yX0_firstSkinWithTranks, Cond.initialized RX0, Cond.code yX0_firstSkinWithTranks cX0_firstSkinWithTranks 3 (some .int), Cond.fieldLink RX0 56 "GloveCutters" "skins" "I", Cond.fieldLink RX0 9 "GloveCutters" "skinColour" "[I", Cond.methodLink RX0 223 yX0_freeTranks, Cond.instanceMethod yX0_freeTranks, Cond.selects RX0 yX0_freeTranks yX0_freeTranks, Cond.code yX0_freeTranks cX0_freeTranks 4 (some .int), Cond.fieldLink RX0 24 "GloveCutters" "pieceKind" "[I", Cond.methodLink RX0 219 yX0_isFreeOfColour, Cond.instanceMethod yX0_isFreeOfColour]
def wsX0_enterPair_r2 : List Cond := [Cond.selects RX0 yX0_isFreeOfColour yX0_isFreeOfColour, Cond.code yX0_isFreeOfColour cX0_isFreeOfColour 4 (some .boolean), Cond.methodLink RX0 238 yJ6_bitCount_0f7a4, Cond.static yJ6_bitCount_0f7a4, Cond.initialized RJ6, Cond.code yJ6_bitCount_0f7a4 cJ6_bitCount_0f7a4 1 (some .int), Cond.constant RJ6 265 (1431655765), Cond.constant RJ6 266 (858993459), Cond.constant RJ6 267 (252645135)]
def wsX0_enterPair : List Cond := .code yX0_enterPair cX0_enterPair 8 none :: ((wsX0_enterPair_r1 ++ wsX0_enterPair_r2) ++ wsX00)
def wsX0_sew_r1 : List Cond := [Cond.classLink RX0 60 "java/lang/IllegalStateException", Cond.initialized "java/lang/IllegalStateException", Cond.fieldLink RX0 136 "GloveCutters" "sewn" "I", Cond.methodLink RX0 52 yX0_needColour, Cond.static yX0_needColour, Cond.initialized RX0, Cond.code yX0_needColour cX0_needColour 1 none, Cond.classLink RX0 74 "java/lang/IllegalArgumentException", Cond.initialized "java/lang/IllegalArgumentException", Cond.methodLink RX0 131 yX0_lacking, Cond.instanceMethod yX0_lacking, Cond.selects RX0 yX0_lacking yX0_lacking, Cond.code yX0_lacking cX0_lacking 4 (some .int), Cond.fieldLink RX0 229 "GloveCutters" "KIND_IN_PAIR" "[I", Cond.methodLink RX0 226 Lib.Math.max.name, Cond.static Lib.Math.max.name, Cond.initialized "java/lang/Math", Cond.code Lib.Math.max.name Lib.Math.max.code 2 (some .int), Cond.methodLink RX0 232 yX0_mostTranksOfOneSkin, Cond.instanceMethod yX0_mostTranksOfOneSkin, Cond.selects RX0 yX0_mostTranksOfOneSkin yX0_mostTranksOfOneSkin, Cond.code yX0_mostTranksOfOneSkin cX0_mostTranksOfOneSkin 4 (some .int), Cond.fieldLink RX0 56 "GloveCutters" "skins" "I", Cond.fieldLink RX0 9 "GloveCutters" "skinColour" "[I"]
def wsX0_sew_r2 : List Cond := [Cond.methodLink RX0 223 yX0_freeTranks, Cond.instanceMethod yX0_freeTranks, Cond.selects RX0 yX0_freeTranks yX0_freeTranks, Cond.code yX0_freeTranks cX0_freeTranks 4 (some .int), Cond.fieldLink RX0 107 "GloveCutters" "pieces" "I", Cond.fieldLink RX0 27 "GloveCutters" "pieceWhere" "[I", Cond.fieldLink RX0 24 "GloveCutters" "pieceKind" "[I", Cond.fieldLink RX0 21 "GloveCutters" "pieceSkin" "[I", Cond.methodLink RX0 163 yX0_freeOfColour, Cond.instanceMethod yX0_freeOfColour, Cond.selects RX0 yX0_freeOfColour yX0_freeOfColour, Cond.code yX0_freeOfColour cX0_freeOfColour 5 (some .int), Cond.methodLink RX0 219 yX0_isFreeOfColour, Cond.instanceMethod yX0_isFreeOfColour, Cond.selects RX0 yX0_isFreeOfColour yX0_isFreeOfColour, Cond.code yX0_isFreeOfColour cX0_isFreeOfColour 4 (some .boolean), Cond.methodLink RX0 141 yX0_enterPair, Cond.instanceMethod yX0_enterPair, Cond.selects RX0 yX0_enterPair yX0_enterPair, Cond.code yX0_enterPair cX0_enterPair 8 none, Cond.fieldLink RX0 33 "GloveCutters" "pairColour" "[I", Cond.fieldLink RX0 36 "GloveCutters" "pairTrankSkin" "[I", Cond.fieldLink RX0 42 "GloveCutters" "pairThin" "[I", Cond.fieldLink RX0 30 "GloveCutters" "pieceThin" "[I"]
def wsX0_sew_r3 : List Cond := [Cond.fieldLink RX0 39 "GloveCutters" "pairSkins" "[I", Cond.methodLink RX0 235 yX0_firstSkinWithTranks, Cond.instanceMethod yX0_firstSkinWithTranks, Cond.selects RX0 yX0_firstSkinWithTranks yX0_firstSkinWithTranks, Cond.code yX0_firstSkinWithTranks cX0_firstSkinWithTranks 3 (some .int), Cond.methodLink RX0 238 yJ6_bitCount_0f7a4, Cond.static yJ6_bitCount_0f7a4, Cond.initialized RJ6, Cond.code yJ6_bitCount_0f7a4 cJ6_bitCount_0f7a4 1 (some .int), Cond.constant RJ6 265 (1431655765), Cond.constant RJ6 266 (858993459), Cond.constant RJ6 267 (252645135)]
def wsX0_sew : List Cond := .code yX0_sew cX0_sew 3 (some .int) :: ((wsX0_sew_r1 ++ (wsX0_sew_r2 ++ wsX0_sew_r3)) ++ wsX00 ++ (vx_atS RX0 64 "java/lang/IllegalStateException" ["java/lang/RuntimeException", "java/lang/Exception"]).filter goodWord ++ (vx_atS RX0 78 "java/lang/IllegalArgumentException" ["java/lang/RuntimeException", "java/lang/Exception"]).filter goodWord)
def wsX0_needPair : List Cond := .code yX0_needPair cX0_needPair 2 none :: ([.classLink RX0 123 "java/lang/IndexOutOfBoundsException", .initialized "java/lang/IndexOutOfBoundsException", .fieldLink RX0 136 "GloveCutters" "sewn" "I"] ++ wsX00 ++ (vx_atS RX0 127 "java/lang/IndexOutOfBoundsException" ["java/lang/RuntimeException", "java/lang/Exception"]).filter goodWord)
def wsX0_rip : List Cond := .code yX0_rip cX0_rip 5 (some .int) :: ([.classLink RX0 60 "java/lang/IllegalStateException", .initialized "java/lang/IllegalStateException", .fieldLink RX0 45 "GloveCutters" "pairRipped" "[Z", .fieldLink RX0 107 "GloveCutters" "pieces" "I", .fieldLink RX0 27 "GloveCutters" "pieceWhere" "[I", .fieldLink RX0 24 "GloveCutters" "pieceKind" "[I", .methodLink RX0 144 yX0_needPair, .instanceMethod yX0_needPair, .selects RX0 yX0_needPair yX0_needPair, .initialized RX0, .code yX0_needPair cX0_needPair 2 none, .classLink RX0 123 "java/lang/IndexOutOfBoundsException", .initialized "java/lang/IndexOutOfBoundsException", .fieldLink RX0 136 "GloveCutters" "sewn" "I"] ++ wsX00 ++ (vx_atS RX0 64 "java/lang/IllegalStateException" ["java/lang/RuntimeException", "java/lang/Exception"]).filter goodWord ++ (vx_atS RX0 127 "java/lang/IndexOutOfBoundsException" ["java/lang/RuntimeException", "java/lang/Exception"]).filter goodWord)
def wsX0_tellPair : List Cond := .code yX0_tellPair cX0_tellPair 3 (some .int) :: ([.fieldLink RX0 33 "GloveCutters" "pairColour" "[I", .fieldLink RX0 36 "GloveCutters" "pairTrankSkin" "[I", .fieldLink RX0 39 "GloveCutters" "pairSkins" "[I", .fieldLink RX0 42 "GloveCutters" "pairThin" "[I", .fieldLink RX0 45 "GloveCutters" "pairRipped" "[Z"] ++ wsX00)
def wsX0_pair : List Cond := .code yX0_pair cX0_pair 3 (some .int) :: ([.methodLink RX0 144 yX0_needPair, .instanceMethod yX0_needPair, .selects RX0 yX0_needPair yX0_needPair, .initialized RX0, .code yX0_needPair cX0_needPair 2 none, .classLink RX0 123 "java/lang/IndexOutOfBoundsException", .initialized "java/lang/IndexOutOfBoundsException", .fieldLink RX0 136 "GloveCutters" "sewn" "I", .methodLink RX0 91 yX0_needWhat, .static yX0_needWhat, .code yX0_needWhat cX0_needWhat 2 none, .methodLink RX0 149 yX0_tellPair, .instanceMethod yX0_tellPair, .selects RX0 yX0_tellPair yX0_tellPair, .code yX0_tellPair cX0_tellPair 3 (some .int), .fieldLink RX0 33 "GloveCutters" "pairColour" "[I", .fieldLink RX0 36 "GloveCutters" "pairTrankSkin" "[I", .fieldLink RX0 39 "GloveCutters" "pairSkins" "[I", .fieldLink RX0 42 "GloveCutters" "pairThin" "[I", .fieldLink RX0 45 "GloveCutters" "pairRipped" "[Z"] ++ wsX00 ++ (vx_atS RX0 127 "java/lang/IndexOutOfBoundsException" ["java/lang/RuntimeException", "java/lang/Exception"]).filter goodWord)
def wsX0_piecesAt : List Cond := .code yX0_piecesAt cX0_piecesAt 4 (some .int) :: ([.fieldLink RX0 107 "GloveCutters" "pieces" "I", .fieldLink RX0 27 "GloveCutters" "pieceWhere" "[I"] ++ wsX00)
def wsX0_pairsInUse : List Cond := .code yX0_pairsInUse cX0_pairsInUse 3 (some .int) :: ([.fieldLink RX0 136 "GloveCutters" "sewn" "I", .fieldLink RX0 45 "GloveCutters" "pairRipped" "[Z"] ++ wsX00)
def wsX0_tellCount : List Cond := .code yX0_tellCount cX0_tellCount 2 (some .int) :: ([.fieldLink RX0 56 "GloveCutters" "skins" "I", .fieldLink RX0 107 "GloveCutters" "pieces" "I", .fieldLink RX0 136 "GloveCutters" "sewn" "I", .methodLink RX0 197 yX0_piecesAt, .instanceMethod yX0_piecesAt, .selects RX0 yX0_piecesAt yX0_piecesAt, .initialized RX0, .code yX0_piecesAt cX0_piecesAt 4 (some .int), .fieldLink RX0 27 "GloveCutters" "pieceWhere" "[I", .methodLink RX0 200 yX0_pairsInUse, .instanceMethod yX0_pairsInUse, .selects RX0 yX0_pairsInUse yX0_pairsInUse, .code yX0_pairsInUse cX0_pairsInUse 3 (some .int), .fieldLink RX0 45 "GloveCutters" "pairRipped" "[Z"] ++ wsX00)
def wsX0_count : List Cond := .code yX0_count cX0_count 2 (some .int) :: ([.methodLink RX0 91 yX0_needWhat, .static yX0_needWhat, .initialized RX0, .code yX0_needWhat cX0_needWhat 2 none, .classLink RX0 123 "java/lang/IndexOutOfBoundsException", .initialized "java/lang/IndexOutOfBoundsException", .methodLink RX0 152 yX0_tellCount, .instanceMethod yX0_tellCount, .selects RX0 yX0_tellCount yX0_tellCount, .code yX0_tellCount cX0_tellCount 2 (some .int), .fieldLink RX0 56 "GloveCutters" "skins" "I", .fieldLink RX0 107 "GloveCutters" "pieces" "I", .fieldLink RX0 136 "GloveCutters" "sewn" "I", .methodLink RX0 197 yX0_piecesAt, .instanceMethod yX0_piecesAt, .selects RX0 yX0_piecesAt yX0_piecesAt, .code yX0_piecesAt cX0_piecesAt 4 (some .int), .fieldLink RX0 27 "GloveCutters" "pieceWhere" "[I", .methodLink RX0 200 yX0_pairsInUse, .instanceMethod yX0_pairsInUse, .selects RX0 yX0_pairsInUse yX0_pairsInUse, .code yX0_pairsInUse cX0_pairsInUse 3 (some .int), .fieldLink RX0 45 "GloveCutters" "pairRipped" "[Z"] ++ wsX00 ++ (vx_atS RX0 127 "java/lang/IndexOutOfBoundsException" ["java/lang/RuntimeException", "java/lang/Exception"]).filter goodWord)
def wsX0_givenBy_r1 : List Cond := [Cond.fieldLink RX0 18 "GloveCutters" "skinCells" "[[I", Cond.fieldLink RX0 49 "GloveCutters" "trialCells" "[I", Cond.methodLink RX0 213 arraycopyName, Cond.native arraycopyName, Cond.static arraycopyName, Cond.initialized "java/lang/System", Cond.methodLink RX0 112 yX0_wideOf, Cond.static yX0_wideOf, Cond.initialized RX0, Cond.code yX0_wideOf cX0_wideOf 2 (some .int), Cond.fieldLink RX0 204 "GloveCutters" "KIND_HIGH" "[I", Cond.fieldLink RX0 207 "GloveCutters" "KIND_WIDE" "[I", Cond.methodLink RX0 116 yX0_highOf, Cond.static yX0_highOf, Cond.code yX0_highOf cX0_highOf 2 (some .int), Cond.methodLink RX0 119 yX0_firstFit, Cond.static yX0_firstFit, Cond.code yX0_firstFit cX0_firstFit 5 (some .int), Cond.methodLink RX0 101 yX0_fits, Cond.static yX0_fits, Cond.code yX0_fits cX0_fits 7 (some .boolean), Cond.fieldLink RX0 210 "GloveCutters" "KIND_MOST_THIN" "[I", Cond.methodLink RX0 81 yX0_tally, Cond.static yX0_tally]
def wsX0_givenBy_r2 : List Cond := [Cond.code yX0_tally cX0_tally 9 (some .int), Cond.methodLink RX0 87 yX0_paint, Cond.static yX0_paint, Cond.code yX0_paint cX0_paint 8 none]
def wsX0_givenBy : List Cond := .code yX0_givenBy cX0_givenBy 8 (some .int) :: ((wsX0_givenBy_r1 ++ wsX0_givenBy_r2) ++ wsX00)
def wsX0_gives_r1 : List Cond := [Cond.methodLink RX0 67 yX0_needSkin, Cond.instanceMethod yX0_needSkin, Cond.selects RX0 yX0_needSkin yX0_needSkin, Cond.initialized RX0, Cond.code yX0_needSkin cX0_needSkin 2 none, Cond.classLink RX0 123 "java/lang/IndexOutOfBoundsException", Cond.initialized "java/lang/IndexOutOfBoundsException", Cond.fieldLink RX0 56 "GloveCutters" "skins" "I", Cond.methodLink RX0 98 yX0_needKind, Cond.static yX0_needKind, Cond.code yX0_needKind cX0_needKind 1 none, Cond.classLink RX0 74 "java/lang/IllegalArgumentException", Cond.initialized "java/lang/IllegalArgumentException", Cond.methodLink RX0 156 yX0_givenBy, Cond.instanceMethod yX0_givenBy, Cond.selects RX0 yX0_givenBy yX0_givenBy, Cond.code yX0_givenBy cX0_givenBy 8 (some .int), Cond.fieldLink RX0 18 "GloveCutters" "skinCells" "[[I", Cond.fieldLink RX0 49 "GloveCutters" "trialCells" "[I", Cond.methodLink RX0 213 arraycopyName, Cond.native arraycopyName, Cond.static arraycopyName, Cond.initialized "java/lang/System", Cond.methodLink RX0 112 yX0_wideOf]
def wsX0_gives_r2 : List Cond := [Cond.static yX0_wideOf, Cond.code yX0_wideOf cX0_wideOf 2 (some .int), Cond.fieldLink RX0 204 "GloveCutters" "KIND_HIGH" "[I", Cond.fieldLink RX0 207 "GloveCutters" "KIND_WIDE" "[I", Cond.methodLink RX0 116 yX0_highOf, Cond.static yX0_highOf, Cond.code yX0_highOf cX0_highOf 2 (some .int), Cond.methodLink RX0 119 yX0_firstFit, Cond.static yX0_firstFit, Cond.code yX0_firstFit cX0_firstFit 5 (some .int), Cond.methodLink RX0 101 yX0_fits, Cond.static yX0_fits, Cond.code yX0_fits cX0_fits 7 (some .boolean), Cond.fieldLink RX0 210 "GloveCutters" "KIND_MOST_THIN" "[I", Cond.methodLink RX0 81 yX0_tally, Cond.static yX0_tally, Cond.code yX0_tally cX0_tally 9 (some .int), Cond.methodLink RX0 87 yX0_paint, Cond.static yX0_paint, Cond.code yX0_paint cX0_paint 8 none]
def wsX0_gives : List Cond := .code yX0_gives cX0_gives 4 (some .int) :: ((wsX0_gives_r1 ++ wsX0_gives_r2) ++ wsX00 ++ (vx_atS RX0 127 "java/lang/IndexOutOfBoundsException" ["java/lang/RuntimeException", "java/lang/Exception"]).filter goodWord ++ (vx_atS RX0 78 "java/lang/IllegalArgumentException" ["java/lang/RuntimeException", "java/lang/Exception"]).filter goodWord)
def wsX0_best_r1 : List Cond := [Cond.fieldLink RX0 56 "GloveCutters" "skins" "I", Cond.methodLink RX0 98 yX0_needKind, Cond.static yX0_needKind, Cond.initialized RX0, Cond.code yX0_needKind cX0_needKind 1 none, Cond.classLink RX0 74 "java/lang/IllegalArgumentException", Cond.initialized "java/lang/IllegalArgumentException", Cond.methodLink RX0 156 yX0_givenBy, Cond.instanceMethod yX0_givenBy, Cond.selects RX0 yX0_givenBy yX0_givenBy, Cond.code yX0_givenBy cX0_givenBy 8 (some .int), Cond.fieldLink RX0 18 "GloveCutters" "skinCells" "[[I", Cond.fieldLink RX0 49 "GloveCutters" "trialCells" "[I", Cond.methodLink RX0 213 arraycopyName, Cond.native arraycopyName, Cond.static arraycopyName, Cond.initialized "java/lang/System", Cond.methodLink RX0 112 yX0_wideOf, Cond.static yX0_wideOf, Cond.code yX0_wideOf cX0_wideOf 2 (some .int), Cond.fieldLink RX0 204 "GloveCutters" "KIND_HIGH" "[I", Cond.fieldLink RX0 207 "GloveCutters" "KIND_WIDE" "[I", Cond.methodLink RX0 116 yX0_highOf, Cond.static yX0_highOf]
def wsX0_best_r2 : List Cond := [Cond.code yX0_highOf cX0_highOf 2 (some .int), Cond.methodLink RX0 119 yX0_firstFit, Cond.static yX0_firstFit, Cond.code yX0_firstFit cX0_firstFit 5 (some .int), Cond.methodLink RX0 101 yX0_fits, Cond.static yX0_fits, Cond.code yX0_fits cX0_fits 7 (some .boolean), Cond.fieldLink RX0 210 "GloveCutters" "KIND_MOST_THIN" "[I", Cond.methodLink RX0 81 yX0_tally, Cond.static yX0_tally, Cond.code yX0_tally cX0_tally 9 (some .int), Cond.methodLink RX0 87 yX0_paint, Cond.static yX0_paint, Cond.code yX0_paint cX0_paint 8 none]
def wsX0_best : List Cond := .code yX0_best cX0_best 7 (some .int) :: ((wsX0_best_r1 ++ wsX0_best_r2) ++ wsX00 ++ (vx_atS RX0 78 "java/lang/IllegalArgumentException" ["java/lang/RuntimeException", "java/lang/Exception"]).filter goodWord)
def wsX0_lacks_r1 : List Cond := [Cond.methodLink RX0 52 yX0_needColour, Cond.static yX0_needColour, Cond.initialized RX0, Cond.code yX0_needColour cX0_needColour 1 none, Cond.classLink RX0 74 "java/lang/IllegalArgumentException", Cond.initialized "java/lang/IllegalArgumentException", Cond.methodLink RX0 98 yX0_needKind, Cond.static yX0_needKind, Cond.code yX0_needKind cX0_needKind 1 none, Cond.methodLink RX0 131 yX0_lacking, Cond.instanceMethod yX0_lacking, Cond.selects RX0 yX0_lacking yX0_lacking, Cond.code yX0_lacking cX0_lacking 4 (some .int), Cond.fieldLink RX0 229 "GloveCutters" "KIND_IN_PAIR" "[I", Cond.methodLink RX0 226 Lib.Math.max.name, Cond.static Lib.Math.max.name, Cond.initialized "java/lang/Math", Cond.code Lib.Math.max.name Lib.Math.max.code 2 (some .int), Cond.methodLink RX0 232 yX0_mostTranksOfOneSkin, Cond.instanceMethod yX0_mostTranksOfOneSkin, Cond.selects RX0 yX0_mostTranksOfOneSkin yX0_mostTranksOfOneSkin, Cond.code yX0_mostTranksOfOneSkin cX0_mostTranksOfOneSkin 4 (some .int), Cond.fieldLink RX0 56 "GloveCutters" "skins" "I", Cond.fieldLink RX0 9 "GloveCutters" "skinColour" "[I"]
def wsX0_lacks_r2 : List Cond := [Cond.methodLink RX0 223 yX0_freeTranks, Cond.instanceMethod yX0_freeTranks, Cond.selects RX0 yX0_freeTranks yX0_freeTranks, Cond.code yX0_freeTranks cX0_freeTranks 4 (some .int), Cond.fieldLink RX0 107 "GloveCutters" "pieces" "I", Cond.fieldLink RX0 27 "GloveCutters" "pieceWhere" "[I", Cond.fieldLink RX0 24 "GloveCutters" "pieceKind" "[I", Cond.fieldLink RX0 21 "GloveCutters" "pieceSkin" "[I", Cond.methodLink RX0 163 yX0_freeOfColour, Cond.instanceMethod yX0_freeOfColour, Cond.selects RX0 yX0_freeOfColour yX0_freeOfColour, Cond.code yX0_freeOfColour cX0_freeOfColour 5 (some .int), Cond.methodLink RX0 219 yX0_isFreeOfColour, Cond.instanceMethod yX0_isFreeOfColour, Cond.selects RX0 yX0_isFreeOfColour yX0_isFreeOfColour, Cond.code yX0_isFreeOfColour cX0_isFreeOfColour 4 (some .boolean)]
def wsX0_lacks : List Cond := .code yX0_lacks cX0_lacks 3 (some .int) :: ((wsX0_lacks_r1 ++ wsX0_lacks_r2) ++ wsX00 ++ (vx_atS RX0 78 "java/lang/IllegalArgumentException" ["java/lang/RuntimeException", "java/lang/Exception"]).filter goodWord)
def wsX0_pairsFrom : List Cond := .code yX0_pairsFrom cX0_pairsFrom 3 (some .int) :: ([.fieldLink RX0 229 "GloveCutters" "KIND_IN_PAIR" "[I"])
def wsX0_trankPairs : List Cond := .code yX0_trankPairs cX0_trankPairs 4 (some .int) :: ([.fieldLink RX0 56 "GloveCutters" "skins" "I", .fieldLink RX0 9 "GloveCutters" "skinColour" "[I", .methodLink RX0 223 yX0_freeTranks, .instanceMethod yX0_freeTranks, .selects RX0 yX0_freeTranks yX0_freeTranks, .initialized RX0, .code yX0_freeTranks cX0_freeTranks 4 (some .int), .fieldLink RX0 107 "GloveCutters" "pieces" "I", .fieldLink RX0 27 "GloveCutters" "pieceWhere" "[I", .fieldLink RX0 24 "GloveCutters" "pieceKind" "[I", .fieldLink RX0 21 "GloveCutters" "pieceSkin" "[I", .methodLink RX0 166 yX0_pairsFrom, .static yX0_pairsFrom, .code yX0_pairsFrom cX0_pairsFrom 3 (some .int), .fieldLink RX0 229 "GloveCutters" "KIND_IN_PAIR" "[I"] ++ wsX00)
def wsX0_pairs_r1 : List Cond := [Cond.methodLink RX0 169 Lib.Math.min.name, Cond.static Lib.Math.min.name, Cond.initialized "java/lang/Math", Cond.code Lib.Math.min.name Lib.Math.min.code 2 (some .int), Cond.methodLink RX0 52 yX0_needColour, Cond.static yX0_needColour, Cond.initialized RX0, Cond.code yX0_needColour cX0_needColour 1 none, Cond.classLink RX0 74 "java/lang/IllegalArgumentException", Cond.initialized "java/lang/IllegalArgumentException", Cond.methodLink RX0 160 yX0_trankPairs, Cond.instanceMethod yX0_trankPairs, Cond.selects RX0 yX0_trankPairs yX0_trankPairs, Cond.code yX0_trankPairs cX0_trankPairs 4 (some .int), Cond.fieldLink RX0 56 "GloveCutters" "skins" "I", Cond.fieldLink RX0 9 "GloveCutters" "skinColour" "[I", Cond.methodLink RX0 223 yX0_freeTranks, Cond.instanceMethod yX0_freeTranks, Cond.selects RX0 yX0_freeTranks yX0_freeTranks, Cond.code yX0_freeTranks cX0_freeTranks 4 (some .int), Cond.fieldLink RX0 107 "GloveCutters" "pieces" "I", Cond.fieldLink RX0 27 "GloveCutters" "pieceWhere" "[I", Cond.fieldLink RX0 24 "GloveCutters" "pieceKind" "[I", Cond.fieldLink RX0 21 "GloveCutters" "pieceSkin" "[I"]
def wsX0_pairs_r2 : List Cond := [Cond.methodLink RX0 166 yX0_pairsFrom, Cond.static yX0_pairsFrom, Cond.code yX0_pairsFrom cX0_pairsFrom 3 (some .int), Cond.fieldLink RX0 229 "GloveCutters" "KIND_IN_PAIR" "[I", Cond.methodLink RX0 163 yX0_freeOfColour, Cond.instanceMethod yX0_freeOfColour, Cond.selects RX0 yX0_freeOfColour yX0_freeOfColour, Cond.code yX0_freeOfColour cX0_freeOfColour 5 (some .int), Cond.methodLink RX0 219 yX0_isFreeOfColour, Cond.instanceMethod yX0_isFreeOfColour, Cond.selects RX0 yX0_isFreeOfColour yX0_isFreeOfColour, Cond.code yX0_isFreeOfColour cX0_isFreeOfColour 4 (some .boolean)]
def wsX0_pairs : List Cond := .code yX0_pairs cX0_pairs 4 (some .int) :: ((wsX0_pairs_r1 ++ wsX0_pairs_r2) ++ wsX00 ++ (vx_atS RX0 78 "java/lang/IllegalArgumentException" ["java/lang/RuntimeException", "java/lang/Exception"]).filter goodWord)
def wsX0_share : List Cond := .code yX0_share cX0_share 4 (some .double) :: ([.fieldLink RX0 56 "GloveCutters" "skins" "I", .methodLink RX0 174 yX0_tallySkin, .instanceMethod yX0_tallySkin, .selects RX0 yX0_tallySkin yX0_tallySkin, .initialized RX0, .code yX0_tallySkin cX0_tallySkin 3 (some .int), .fieldLink RX0 18 "GloveCutters" "skinCells" "[[I", .methodLink RX0 81 yX0_tally, .static yX0_tally, .code yX0_tally cX0_tally 9 (some .int)] ++ wsX00)
def wsX0_digestSkin : List Cond := .code yX0_digestSkin cX0_digestSkin 7 (some .long) :: ([.constantLong RX0 179 (31), .fieldLink RX0 18 "GloveCutters" "skinCells" "[[I", .methodLink RX0 94 yX0_tellSkin, .instanceMethod yX0_tellSkin, .selects RX0 yX0_tellSkin yX0_tellSkin, .initialized RX0, .code yX0_tellSkin cX0_tellSkin 3 (some .int), .fieldLink RX0 9 "GloveCutters" "skinColour" "[I", .fieldLink RX0 13 "GloveCutters" "skinPieces" "[I", .methodLink RX0 174 yX0_tallySkin, .instanceMethod yX0_tallySkin, .selects RX0 yX0_tallySkin yX0_tallySkin, .code yX0_tallySkin cX0_tallySkin 3 (some .int), .methodLink RX0 81 yX0_tally, .static yX0_tally, .code yX0_tally cX0_tally 9 (some .int)] ++ wsX00)
def wsX0_digest_r1 : List Cond := [Cond.constantLong RX0 177 (1087), Cond.constantLong RX0 179 (31), Cond.fieldLink RX0 56 "GloveCutters" "skins" "I", Cond.fieldLink RX0 107 "GloveCutters" "pieces" "I", Cond.fieldLink RX0 136 "GloveCutters" "sewn" "I", Cond.methodLink RX0 152 yX0_tellCount, Cond.instanceMethod yX0_tellCount, Cond.selects RX0 yX0_tellCount yX0_tellCount, Cond.initialized RX0, Cond.code yX0_tellCount cX0_tellCount 2 (some .int), Cond.methodLink RX0 197 yX0_piecesAt, Cond.instanceMethod yX0_piecesAt, Cond.selects RX0 yX0_piecesAt yX0_piecesAt, Cond.code yX0_piecesAt cX0_piecesAt 4 (some .int), Cond.fieldLink RX0 27 "GloveCutters" "pieceWhere" "[I", Cond.methodLink RX0 200 yX0_pairsInUse, Cond.instanceMethod yX0_pairsInUse, Cond.selects RX0 yX0_pairsInUse yX0_pairsInUse, Cond.code yX0_pairsInUse cX0_pairsInUse 3 (some .int), Cond.fieldLink RX0 45 "GloveCutters" "pairRipped" "[Z", Cond.methodLink RX0 181 yX0_digestSkin, Cond.instanceMethod yX0_digestSkin, Cond.selects RX0 yX0_digestSkin yX0_digestSkin, Cond.code yX0_digestSkin cX0_digestSkin 7 (some .long)]
def wsX0_digest_r2 : List Cond := [Cond.fieldLink RX0 18 "GloveCutters" "skinCells" "[[I", Cond.methodLink RX0 94 yX0_tellSkin, Cond.instanceMethod yX0_tellSkin, Cond.selects RX0 yX0_tellSkin yX0_tellSkin, Cond.code yX0_tellSkin cX0_tellSkin 3 (some .int), Cond.fieldLink RX0 9 "GloveCutters" "skinColour" "[I", Cond.fieldLink RX0 13 "GloveCutters" "skinPieces" "[I", Cond.methodLink RX0 174 yX0_tallySkin, Cond.instanceMethod yX0_tallySkin, Cond.selects RX0 yX0_tallySkin yX0_tallySkin, Cond.code yX0_tallySkin cX0_tallySkin 3 (some .int), Cond.methodLink RX0 81 yX0_tally, Cond.static yX0_tally, Cond.code yX0_tally cX0_tally 9 (some .int), Cond.methodLink RX0 128 yX0_tellPiece, Cond.instanceMethod yX0_tellPiece, Cond.selects RX0 yX0_tellPiece yX0_tellPiece, Cond.code yX0_tellPiece cX0_tellPiece 3 (some .int), Cond.fieldLink RX0 21 "GloveCutters" "pieceSkin" "[I", Cond.fieldLink RX0 24 "GloveCutters" "pieceKind" "[I", Cond.fieldLink RX0 30 "GloveCutters" "pieceThin" "[I", Cond.methodLink RX0 149 yX0_tellPair, Cond.instanceMethod yX0_tellPair, Cond.selects RX0 yX0_tellPair yX0_tellPair]
def wsX0_digest_r3 : List Cond := [Cond.code yX0_tellPair cX0_tellPair 3 (some .int), Cond.fieldLink RX0 33 "GloveCutters" "pairColour" "[I", Cond.fieldLink RX0 36 "GloveCutters" "pairTrankSkin" "[I", Cond.fieldLink RX0 39 "GloveCutters" "pairSkins" "[I", Cond.fieldLink RX0 42 "GloveCutters" "pairThin" "[I"]
def wsX0_digest : List Cond := .code yX0_digest cX0_digest 5 (some .long) :: ((wsX0_digest_r1 ++ (wsX0_digest_r2 ++ wsX0_digest_r3)) ++ wsX00)
def wsJ9_max_7cf53 : List Cond := .code yJ9_max_7cf53 cJ9_max_7cf53 2 (some .int) :: ([])
def wsJ9_min_7cf53 : List Cond := .code yJ9_min_7cf53 cJ9_min_7cf53 2 (some .int) :: ([])
def wsL_below : List Cond := .code yL_below cL_below 2 (some .int) :: ([.constant RL 7 (2147483647)])
def wsL_cell : List Cond := .code yL_cell cL_cell 2 (some .int) :: ([.constant RL 8 (790386105)])
def wsL_cut_r1 : List Cond := [Cond.classLink RL 59 "java/lang/IllegalStateException", Cond.methodLink RL 56 yX0_cut, Cond.instanceMethod yX0_cut, Cond.selects RX0 yX0_cut yX0_cut, Cond.initialized RX0, Cond.code yX0_cut cX0_cut 9 (some .int), Cond.classLink RX0 60 "java/lang/IllegalStateException", Cond.initialized "java/lang/IllegalStateException", Cond.fieldLink RX0 18 "GloveCutters" "skinCells" "[[I", Cond.fieldLink RX0 107 "GloveCutters" "pieces" "I", Cond.fieldLink RX0 21 "GloveCutters" "pieceSkin" "[I", Cond.fieldLink RX0 24 "GloveCutters" "pieceKind" "[I", Cond.fieldLink RX0 27 "GloveCutters" "pieceWhere" "[I", Cond.fieldLink RX0 30 "GloveCutters" "pieceThin" "[I", Cond.fieldLink RX0 13 "GloveCutters" "skinPieces" "[I", Cond.methodLink RX0 67 yX0_needSkin, Cond.instanceMethod yX0_needSkin, Cond.selects RX0 yX0_needSkin yX0_needSkin, Cond.code yX0_needSkin cX0_needSkin 2 none, Cond.classLink RX0 123 "java/lang/IndexOutOfBoundsException", Cond.initialized "java/lang/IndexOutOfBoundsException", Cond.fieldLink RX0 56 "GloveCutters" "skins" "I", Cond.methodLink RX0 70 yX0_needCell, Cond.static yX0_needCell]
def wsL_cut_r2 : List Cond := [Cond.code yX0_needCell cX0_needCell 2 none, Cond.methodLink RX0 98 yX0_needKind, Cond.static yX0_needKind, Cond.code yX0_needKind cX0_needKind 1 none, Cond.classLink RX0 74 "java/lang/IllegalArgumentException", Cond.initialized "java/lang/IllegalArgumentException", Cond.methodLink RX0 101 yX0_fits, Cond.static yX0_fits, Cond.code yX0_fits cX0_fits 7 (some .boolean), Cond.fieldLink RX0 210 "GloveCutters" "KIND_MOST_THIN" "[I", Cond.methodLink RX0 112 yX0_wideOf, Cond.static yX0_wideOf, Cond.code yX0_wideOf cX0_wideOf 2 (some .int), Cond.fieldLink RX0 204 "GloveCutters" "KIND_HIGH" "[I", Cond.fieldLink RX0 207 "GloveCutters" "KIND_WIDE" "[I", Cond.methodLink RX0 116 yX0_highOf, Cond.static yX0_highOf, Cond.code yX0_highOf cX0_highOf 2 (some .int), Cond.methodLink RX0 81 yX0_tally, Cond.static yX0_tally, Cond.code yX0_tally cX0_tally 9 (some .int), Cond.methodLink RX0 87 yX0_paint, Cond.static yX0_paint, Cond.code yX0_paint cX0_paint 8 none]
def wsL_cut : List Cond := .codeWith yL_cut cL_cut 6 (some .int) [(0, 17, 18, 59)] :: ((wsL_cut_r1 ++ wsL_cut_r2) ++ wsX00 ++ (vx_atS RX0 64 "java/lang/IllegalStateException" ["java/lang/RuntimeException", "java/lang/Exception"]).filter goodWord ++ (vx_atS RX0 127 "java/lang/IndexOutOfBoundsException" ["java/lang/RuntimeException", "java/lang/Exception"]).filter goodWord ++ (vx_atS RX0 78 "java/lang/IllegalArgumentException" ["java/lang/RuntimeException", "java/lang/Exception"]).filter goodWord)
def wsL_sew_r1 : List Cond := [Cond.classLink RL 59 "java/lang/IllegalStateException", Cond.methodLink RL 61 yX0_sew, Cond.instanceMethod yX0_sew, Cond.selects RX0 yX0_sew yX0_sew, Cond.initialized RX0, Cond.code yX0_sew cX0_sew 3 (some .int), Cond.classLink RX0 60 "java/lang/IllegalStateException", Cond.initialized "java/lang/IllegalStateException", Cond.fieldLink RX0 136 "GloveCutters" "sewn" "I", Cond.methodLink RX0 52 yX0_needColour, Cond.static yX0_needColour, Cond.code yX0_needColour cX0_needColour 1 none, Cond.classLink RX0 74 "java/lang/IllegalArgumentException", Cond.initialized "java/lang/IllegalArgumentException", Cond.methodLink RX0 131 yX0_lacking, Cond.instanceMethod yX0_lacking, Cond.selects RX0 yX0_lacking yX0_lacking, Cond.code yX0_lacking cX0_lacking 4 (some .int), Cond.fieldLink RX0 229 "GloveCutters" "KIND_IN_PAIR" "[I", Cond.methodLink RX0 226 Lib.Math.max.name, Cond.static Lib.Math.max.name, Cond.initialized "java/lang/Math", Cond.code Lib.Math.max.name Lib.Math.max.code 2 (some .int), Cond.methodLink RX0 232 yX0_mostTranksOfOneSkin]
def wsL_sew_r2 : List Cond := [Cond.instanceMethod yX0_mostTranksOfOneSkin, Cond.selects RX0 yX0_mostTranksOfOneSkin yX0_mostTranksOfOneSkin, Cond.code yX0_mostTranksOfOneSkin cX0_mostTranksOfOneSkin 4 (some .int), Cond.fieldLink RX0 56 "GloveCutters" "skins" "I", Cond.fieldLink RX0 9 "GloveCutters" "skinColour" "[I", Cond.methodLink RX0 223 yX0_freeTranks, Cond.instanceMethod yX0_freeTranks, Cond.selects RX0 yX0_freeTranks yX0_freeTranks, Cond.code yX0_freeTranks cX0_freeTranks 4 (some .int), Cond.fieldLink RX0 107 "GloveCutters" "pieces" "I", Cond.fieldLink RX0 27 "GloveCutters" "pieceWhere" "[I", Cond.fieldLink RX0 24 "GloveCutters" "pieceKind" "[I", Cond.fieldLink RX0 21 "GloveCutters" "pieceSkin" "[I", Cond.methodLink RX0 163 yX0_freeOfColour, Cond.instanceMethod yX0_freeOfColour, Cond.selects RX0 yX0_freeOfColour yX0_freeOfColour, Cond.code yX0_freeOfColour cX0_freeOfColour 5 (some .int), Cond.methodLink RX0 219 yX0_isFreeOfColour, Cond.instanceMethod yX0_isFreeOfColour, Cond.selects RX0 yX0_isFreeOfColour yX0_isFreeOfColour, Cond.code yX0_isFreeOfColour cX0_isFreeOfColour 4 (some .boolean), Cond.methodLink RX0 141 yX0_enterPair, Cond.instanceMethod yX0_enterPair, Cond.selects RX0 yX0_enterPair yX0_enterPair]
def wsL_sew_r3 : List Cond := [Cond.code yX0_enterPair cX0_enterPair 8 none, Cond.fieldLink RX0 33 "GloveCutters" "pairColour" "[I", Cond.fieldLink RX0 36 "GloveCutters" "pairTrankSkin" "[I", Cond.fieldLink RX0 42 "GloveCutters" "pairThin" "[I", Cond.fieldLink RX0 30 "GloveCutters" "pieceThin" "[I", Cond.fieldLink RX0 39 "GloveCutters" "pairSkins" "[I", Cond.methodLink RX0 235 yX0_firstSkinWithTranks, Cond.instanceMethod yX0_firstSkinWithTranks, Cond.selects RX0 yX0_firstSkinWithTranks yX0_firstSkinWithTranks, Cond.code yX0_firstSkinWithTranks cX0_firstSkinWithTranks 3 (some .int), Cond.methodLink RX0 238 yJ6_bitCount_0f7a4, Cond.static yJ6_bitCount_0f7a4, Cond.initialized RJ6, Cond.code yJ6_bitCount_0f7a4 cJ6_bitCount_0f7a4 1 (some .int), Cond.constant RJ6 265 (1431655765), Cond.constant RJ6 266 (858993459), Cond.constant RJ6 267 (252645135)]
def wsL_sew : List Cond := .codeWith yL_sew cL_sew 3 (some .int) [(0, 5, 6, 59)] :: ((wsL_sew_r1 ++ (wsL_sew_r2 ++ wsL_sew_r3)) ++ wsX00 ++ (vx_atS RX0 64 "java/lang/IllegalStateException" ["java/lang/RuntimeException", "java/lang/Exception"]).filter goodWord ++ (vx_atS RX0 78 "java/lang/IllegalArgumentException" ["java/lang/RuntimeException", "java/lang/Exception"]).filter goodWord)
def wsL_rip : List Cond := .codeWith yL_rip cL_rip 3 (some .int) [(0, 5, 6, 59), (0, 5, 6, 65)] :: ([.classLink RL 59 "java/lang/IllegalStateException", .classLink RL 65 "java/lang/IndexOutOfBoundsException", .methodLink RL 63 yX0_rip, .instanceMethod yX0_rip, .selects RX0 yX0_rip yX0_rip, .initialized RX0, .code yX0_rip cX0_rip 5 (some .int), .classLink RX0 60 "java/lang/IllegalStateException", .initialized "java/lang/IllegalStateException", .fieldLink RX0 45 "GloveCutters" "pairRipped" "[Z", .fieldLink RX0 107 "GloveCutters" "pieces" "I", .fieldLink RX0 27 "GloveCutters" "pieceWhere" "[I", .fieldLink RX0 24 "GloveCutters" "pieceKind" "[I", .methodLink RX0 144 yX0_needPair, .instanceMethod yX0_needPair, .selects RX0 yX0_needPair yX0_needPair, .code yX0_needPair cX0_needPair 2 none, .classLink RX0 123 "java/lang/IndexOutOfBoundsException", .initialized "java/lang/IndexOutOfBoundsException", .fieldLink RX0 136 "GloveCutters" "sewn" "I"] ++ wsX00 ++ (vx_atS RX0 64 "java/lang/IllegalStateException" ["java/lang/RuntimeException", "java/lang/Exception"]).filter goodWord ++ (vx_atS RX0 127 "java/lang/IndexOutOfBoundsException" ["java/lang/RuntimeException", "java/lang/Exception"]).filter goodWord)
def wsL_shop_r1 : List Cond := [Cond.classLink RL 9 RX0, Cond.instantiable RX0 16, Cond.initialized RX0, Cond.methodLink RL 26 Lib.Math.min.name, Cond.static Lib.Math.min.name, Cond.initialized "java/lang/Math", Cond.code Lib.Math.min.name Lib.Math.min.code 2 (some .int), Cond.methodLink RL 50 Lib.Math.max.name, Cond.static Lib.Math.max.name, Cond.code Lib.Math.max.name Lib.Math.max.code 2 (some .int), Cond.methodLink RL 11 yX0_init, Cond.instanceMethod yX0_init, Cond.code yX0_init cX0_init 1 none, Cond.methodLink RX0 3 objectInit, Cond.instanceMethod objectInit, Cond.code objectInit ⟨#[0xb1]⟩ 1 none, Cond.arrayClass .int, Cond.fieldLink RX0 9 "GloveCutters" "skinColour" "[I", Cond.fieldLink RX0 13 "GloveCutters" "skinPieces" "[I", Cond.classLink RX0 16 "[[I", Cond.fieldLink RX0 18 "GloveCutters" "skinCells" "[[I", Cond.fieldLink RX0 21 "GloveCutters" "pieceSkin" "[I", Cond.fieldLink RX0 24 "GloveCutters" "pieceKind" "[I", Cond.fieldLink RX0 27 "GloveCutters" "pieceWhere" "[I"]
def wsL_shop_r2 : List Cond := [Cond.fieldLink RX0 30 "GloveCutters" "pieceThin" "[I", Cond.fieldLink RX0 33 "GloveCutters" "pairColour" "[I", Cond.fieldLink RX0 36 "GloveCutters" "pairTrankSkin" "[I", Cond.fieldLink RX0 39 "GloveCutters" "pairSkins" "[I", Cond.fieldLink RX0 42 "GloveCutters" "pairThin" "[I", Cond.arrayClass .boolean, Cond.fieldLink RX0 45 "GloveCutters" "pairRipped" "[Z", Cond.fieldLink RX0 49 "GloveCutters" "trialCells" "[I", Cond.methodLink RL 12 yL_cell, Cond.static yL_cell, Cond.initialized RL, Cond.code yL_cell cL_cell 2 (some .int), Cond.constant RL 8 (790386105), Cond.methodLink RL 18 yL_below, Cond.static yL_below, Cond.code yL_below cL_below 2 (some .int), Cond.constant RL 7 (2147483647), Cond.methodLink RL 22 yX0_lay, Cond.instanceMethod yX0_lay, Cond.selects RX0 yX0_lay yX0_lay, Cond.code yX0_lay cX0_lay 2 (some .int), Cond.classLink RX0 60 "java/lang/IllegalStateException", Cond.initialized "java/lang/IllegalStateException", Cond.fieldLink RX0 56 "GloveCutters" "skins" "I"]
def wsL_shop_r3 : List Cond := [Cond.methodLink RX0 52 yX0_needColour, Cond.static yX0_needColour, Cond.code yX0_needColour cX0_needColour 1 none, Cond.classLink RX0 74 "java/lang/IllegalArgumentException", Cond.initialized "java/lang/IllegalArgumentException", Cond.methodLink RL 31 yX0_mark, Cond.instanceMethod yX0_mark, Cond.selects RX0 yX0_mark yX0_mark, Cond.code yX0_mark cX0_mark 9 (some .int), Cond.methodLink RX0 67 yX0_needSkin, Cond.instanceMethod yX0_needSkin, Cond.selects RX0 yX0_needSkin yX0_needSkin, Cond.code yX0_needSkin cX0_needSkin 2 none, Cond.classLink RX0 123 "java/lang/IndexOutOfBoundsException", Cond.initialized "java/lang/IndexOutOfBoundsException", Cond.methodLink RX0 70 yX0_needCell, Cond.static yX0_needCell, Cond.code yX0_needCell cX0_needCell 2 none, Cond.methodLink RX0 81 yX0_tally, Cond.static yX0_tally, Cond.code yX0_tally cX0_tally 9 (some .int), Cond.methodLink RX0 87 yX0_paint, Cond.static yX0_paint, Cond.code yX0_paint cX0_paint 8 none]
def wsL_shop_r4 : List Cond := [Cond.methodLink RL 35 yX0_place, Cond.instanceMethod yX0_place, Cond.selects RX0 yX0_place yX0_place, Cond.code yX0_place cX0_place 4 (some .int), Cond.methodLink RX0 98 yX0_needKind, Cond.static yX0_needKind, Cond.code yX0_needKind cX0_needKind 1 none, Cond.methodLink RX0 119 yX0_firstFit, Cond.static yX0_firstFit, Cond.code yX0_firstFit cX0_firstFit 5 (some .int), Cond.methodLink RX0 101 yX0_fits, Cond.static yX0_fits, Cond.code yX0_fits cX0_fits 7 (some .boolean), Cond.fieldLink RX0 210 "GloveCutters" "KIND_MOST_THIN" "[I", Cond.methodLink RX0 112 yX0_wideOf, Cond.static yX0_wideOf, Cond.code yX0_wideOf cX0_wideOf 2 (some .int), Cond.fieldLink RX0 204 "GloveCutters" "KIND_HIGH" "[I", Cond.fieldLink RX0 207 "GloveCutters" "KIND_WIDE" "[I", Cond.methodLink RX0 116 yX0_highOf, Cond.static yX0_highOf, Cond.code yX0_highOf cX0_highOf 2 (some .int), Cond.methodLink RL 39 yL_cut, Cond.static yL_cut]
def wsL_shop_r5 : List Cond := [Cond.codeWith yL_cut cL_cut 6 (some .int) [(0, 17, 18, 59)], Cond.classLink RL 59 "java/lang/IllegalStateException", Cond.methodLink RL 56 yX0_cut, Cond.instanceMethod yX0_cut, Cond.selects RX0 yX0_cut yX0_cut, Cond.code yX0_cut cX0_cut 9 (some .int), Cond.fieldLink RX0 107 "GloveCutters" "pieces" "I", Cond.methodLink RL 43 yL_sew, Cond.static yL_sew, Cond.codeWith yL_sew cL_sew 3 (some .int) [(0, 5, 6, 59)], Cond.methodLink RL 61 yX0_sew, Cond.instanceMethod yX0_sew, Cond.selects RX0 yX0_sew yX0_sew, Cond.code yX0_sew cX0_sew 3 (some .int), Cond.fieldLink RX0 136 "GloveCutters" "sewn" "I", Cond.methodLink RX0 131 yX0_lacking, Cond.instanceMethod yX0_lacking, Cond.selects RX0 yX0_lacking yX0_lacking, Cond.code yX0_lacking cX0_lacking 4 (some .int), Cond.fieldLink RX0 229 "GloveCutters" "KIND_IN_PAIR" "[I", Cond.methodLink RX0 226 Lib.Math.max.name, Cond.methodLink RX0 232 yX0_mostTranksOfOneSkin, Cond.instanceMethod yX0_mostTranksOfOneSkin, Cond.selects RX0 yX0_mostTranksOfOneSkin yX0_mostTranksOfOneSkin]
def wsL_shop_r6 : List Cond := [Cond.code yX0_mostTranksOfOneSkin cX0_mostTranksOfOneSkin 4 (some .int), Cond.methodLink RX0 223 yX0_freeTranks, Cond.instanceMethod yX0_freeTranks, Cond.selects RX0 yX0_freeTranks yX0_freeTranks, Cond.code yX0_freeTranks cX0_freeTranks 4 (some .int), Cond.methodLink RX0 163 yX0_freeOfColour, Cond.instanceMethod yX0_freeOfColour, Cond.selects RX0 yX0_freeOfColour yX0_freeOfColour, Cond.code yX0_freeOfColour cX0_freeOfColour 5 (some .int), Cond.methodLink RX0 219 yX0_isFreeOfColour, Cond.instanceMethod yX0_isFreeOfColour, Cond.selects RX0 yX0_isFreeOfColour yX0_isFreeOfColour, Cond.code yX0_isFreeOfColour cX0_isFreeOfColour 4 (some .boolean), Cond.methodLink RX0 141 yX0_enterPair, Cond.instanceMethod yX0_enterPair, Cond.selects RX0 yX0_enterPair yX0_enterPair, Cond.code yX0_enterPair cX0_enterPair 8 none, Cond.methodLink RX0 235 yX0_firstSkinWithTranks, Cond.instanceMethod yX0_firstSkinWithTranks, Cond.selects RX0 yX0_firstSkinWithTranks yX0_firstSkinWithTranks, Cond.code yX0_firstSkinWithTranks cX0_firstSkinWithTranks 3 (some .int), Cond.methodLink RX0 238 yJ6_bitCount_0f7a4, Cond.static yJ6_bitCount_0f7a4, Cond.initialized RJ6]
def wsL_shop_r7 : List Cond := [Cond.code yJ6_bitCount_0f7a4 cJ6_bitCount_0f7a4 1 (some .int), Cond.constant RJ6 265 (1431655765), Cond.constant RJ6 266 (858993459), Cond.constant RJ6 267 (252645135), Cond.methodLink RL 47 yX0_count, Cond.instanceMethod yX0_count, Cond.selects RX0 yX0_count yX0_count, Cond.code yX0_count cX0_count 2 (some .int), Cond.methodLink RX0 91 yX0_needWhat, Cond.static yX0_needWhat, Cond.code yX0_needWhat cX0_needWhat 2 none, Cond.methodLink RX0 152 yX0_tellCount, Cond.instanceMethod yX0_tellCount, Cond.selects RX0 yX0_tellCount yX0_tellCount, Cond.code yX0_tellCount cX0_tellCount 2 (some .int), Cond.methodLink RX0 197 yX0_piecesAt, Cond.instanceMethod yX0_piecesAt, Cond.selects RX0 yX0_piecesAt yX0_piecesAt, Cond.code yX0_piecesAt cX0_piecesAt 4 (some .int), Cond.methodLink RX0 200 yX0_pairsInUse, Cond.instanceMethod yX0_pairsInUse, Cond.selects RX0 yX0_pairsInUse yX0_pairsInUse, Cond.code yX0_pairsInUse cX0_pairsInUse 3 (some .int), Cond.methodLink RL 53 yL_rip]
def wsL_shop_r8 : List Cond := [Cond.static yL_rip, Cond.codeWith yL_rip cL_rip 3 (some .int) [(0, 5, 6, 59), (0, 5, 6, 65)], Cond.classLink RL 65 "java/lang/IndexOutOfBoundsException", Cond.methodLink RL 63 yX0_rip, Cond.instanceMethod yX0_rip, Cond.selects RX0 yX0_rip yX0_rip, Cond.code yX0_rip cX0_rip 5 (some .int), Cond.methodLink RX0 144 yX0_needPair, Cond.instanceMethod yX0_needPair, Cond.selects RX0 yX0_needPair yX0_needPair, Cond.code yX0_needPair cX0_needPair 2 none]
def wsL_shop : List Cond := .code yL_shop cL_shop 11 (some (.object "GloveCutters")) :: ((wsL_shop_r1 ++ (wsL_shop_r2 ++ (wsL_shop_r3 ++ (wsL_shop_r4 ++ (wsL_shop_r5 ++ (wsL_shop_r6 ++ (wsL_shop_r7 ++ wsL_shop_r8))))))) ++ wsX00 ++ (vx_atS RX0 64 "java/lang/IllegalStateException" ["java/lang/RuntimeException", "java/lang/Exception"]).filter goodWord ++ (vx_atS RX0 78 "java/lang/IllegalArgumentException" ["java/lang/RuntimeException", "java/lang/Exception"]).filter goodWord ++ (vx_atS RX0 127 "java/lang/IndexOutOfBoundsException" ["java/lang/RuntimeException", "java/lang/Exception"]).filter goodWord)
def wsL_law0_r1 : List Cond := [Cond.arrayClass .int, Cond.classLink RL 88 "[[I", Cond.methodLink RL 67 yL_shop, Cond.static yL_shop, Cond.initialized RL, Cond.code yL_shop cL_shop 11 (some (.object "GloveCutters")), Cond.classLink RL 9 RX0, Cond.instantiable RX0 16, Cond.initialized RX0, Cond.methodLink RL 26 Lib.Math.min.name, Cond.static Lib.Math.min.name, Cond.initialized "java/lang/Math", Cond.code Lib.Math.min.name Lib.Math.min.code 2 (some .int), Cond.methodLink RL 50 Lib.Math.max.name, Cond.static Lib.Math.max.name, Cond.code Lib.Math.max.name Lib.Math.max.code 2 (some .int), Cond.methodLink RL 11 yX0_init, Cond.instanceMethod yX0_init, Cond.code yX0_init cX0_init 1 none, Cond.methodLink RX0 3 objectInit, Cond.instanceMethod objectInit, Cond.code objectInit ⟨#[0xb1]⟩ 1 none, Cond.fieldLink RX0 9 "GloveCutters" "skinColour" "[I", Cond.fieldLink RX0 13 "GloveCutters" "skinPieces" "[I"]
def wsL_law0_r2 : List Cond := [Cond.classLink RX0 16 "[[I", Cond.fieldLink RX0 18 "GloveCutters" "skinCells" "[[I", Cond.fieldLink RX0 21 "GloveCutters" "pieceSkin" "[I", Cond.fieldLink RX0 24 "GloveCutters" "pieceKind" "[I", Cond.fieldLink RX0 27 "GloveCutters" "pieceWhere" "[I", Cond.fieldLink RX0 30 "GloveCutters" "pieceThin" "[I", Cond.fieldLink RX0 33 "GloveCutters" "pairColour" "[I", Cond.fieldLink RX0 36 "GloveCutters" "pairTrankSkin" "[I", Cond.fieldLink RX0 39 "GloveCutters" "pairSkins" "[I", Cond.fieldLink RX0 42 "GloveCutters" "pairThin" "[I", Cond.arrayClass .boolean, Cond.fieldLink RX0 45 "GloveCutters" "pairRipped" "[Z", Cond.fieldLink RX0 49 "GloveCutters" "trialCells" "[I", Cond.methodLink RL 12 yL_cell, Cond.static yL_cell, Cond.code yL_cell cL_cell 2 (some .int), Cond.constant RL 8 (790386105), Cond.methodLink RL 18 yL_below, Cond.static yL_below, Cond.code yL_below cL_below 2 (some .int), Cond.constant RL 7 (2147483647), Cond.methodLink RL 22 yX0_lay, Cond.instanceMethod yX0_lay, Cond.selects RX0 yX0_lay yX0_lay]
def wsL_law0_r3 : List Cond := [Cond.code yX0_lay cX0_lay 2 (some .int), Cond.classLink RX0 60 "java/lang/IllegalStateException", Cond.initialized "java/lang/IllegalStateException", Cond.fieldLink RX0 56 "GloveCutters" "skins" "I", Cond.methodLink RX0 52 yX0_needColour, Cond.static yX0_needColour, Cond.code yX0_needColour cX0_needColour 1 none, Cond.classLink RX0 74 "java/lang/IllegalArgumentException", Cond.initialized "java/lang/IllegalArgumentException", Cond.methodLink RL 31 yX0_mark, Cond.instanceMethod yX0_mark, Cond.selects RX0 yX0_mark yX0_mark, Cond.code yX0_mark cX0_mark 9 (some .int), Cond.methodLink RX0 67 yX0_needSkin, Cond.instanceMethod yX0_needSkin, Cond.selects RX0 yX0_needSkin yX0_needSkin, Cond.code yX0_needSkin cX0_needSkin 2 none, Cond.classLink RX0 123 "java/lang/IndexOutOfBoundsException", Cond.initialized "java/lang/IndexOutOfBoundsException", Cond.methodLink RX0 70 yX0_needCell, Cond.static yX0_needCell, Cond.code yX0_needCell cX0_needCell 2 none, Cond.methodLink RX0 81 yX0_tally, Cond.static yX0_tally]
def wsL_law0_r4 : List Cond := [Cond.code yX0_tally cX0_tally 9 (some .int), Cond.methodLink RX0 87 yX0_paint, Cond.static yX0_paint, Cond.code yX0_paint cX0_paint 8 none, Cond.methodLink RL 35 yX0_place, Cond.instanceMethod yX0_place, Cond.selects RX0 yX0_place yX0_place, Cond.code yX0_place cX0_place 4 (some .int), Cond.methodLink RX0 98 yX0_needKind, Cond.static yX0_needKind, Cond.code yX0_needKind cX0_needKind 1 none, Cond.methodLink RX0 119 yX0_firstFit, Cond.static yX0_firstFit, Cond.code yX0_firstFit cX0_firstFit 5 (some .int), Cond.methodLink RX0 101 yX0_fits, Cond.static yX0_fits, Cond.code yX0_fits cX0_fits 7 (some .boolean), Cond.fieldLink RX0 210 "GloveCutters" "KIND_MOST_THIN" "[I", Cond.methodLink RX0 112 yX0_wideOf, Cond.static yX0_wideOf, Cond.code yX0_wideOf cX0_wideOf 2 (some .int), Cond.fieldLink RX0 204 "GloveCutters" "KIND_HIGH" "[I", Cond.fieldLink RX0 207 "GloveCutters" "KIND_WIDE" "[I", Cond.methodLink RX0 116 yX0_highOf]
def wsL_law0_r5 : List Cond := [Cond.static yX0_highOf, Cond.code yX0_highOf cX0_highOf 2 (some .int), Cond.methodLink RL 39 yL_cut, Cond.static yL_cut, Cond.codeWith yL_cut cL_cut 6 (some .int) [(0, 17, 18, 59)], Cond.classLink RL 59 "java/lang/IllegalStateException", Cond.methodLink RL 56 yX0_cut, Cond.instanceMethod yX0_cut, Cond.selects RX0 yX0_cut yX0_cut, Cond.code yX0_cut cX0_cut 9 (some .int), Cond.fieldLink RX0 107 "GloveCutters" "pieces" "I", Cond.methodLink RL 43 yL_sew, Cond.static yL_sew, Cond.codeWith yL_sew cL_sew 3 (some .int) [(0, 5, 6, 59)], Cond.methodLink RL 61 yX0_sew, Cond.instanceMethod yX0_sew, Cond.selects RX0 yX0_sew yX0_sew, Cond.code yX0_sew cX0_sew 3 (some .int), Cond.fieldLink RX0 136 "GloveCutters" "sewn" "I", Cond.methodLink RX0 131 yX0_lacking, Cond.instanceMethod yX0_lacking, Cond.selects RX0 yX0_lacking yX0_lacking, Cond.code yX0_lacking cX0_lacking 4 (some .int), Cond.fieldLink RX0 229 "GloveCutters" "KIND_IN_PAIR" "[I"]
def wsL_law0_r6 : List Cond := [Cond.methodLink RX0 226 Lib.Math.max.name, Cond.methodLink RX0 232 yX0_mostTranksOfOneSkin, Cond.instanceMethod yX0_mostTranksOfOneSkin, Cond.selects RX0 yX0_mostTranksOfOneSkin yX0_mostTranksOfOneSkin, Cond.code yX0_mostTranksOfOneSkin cX0_mostTranksOfOneSkin 4 (some .int), Cond.methodLink RX0 223 yX0_freeTranks, Cond.instanceMethod yX0_freeTranks, Cond.selects RX0 yX0_freeTranks yX0_freeTranks, Cond.code yX0_freeTranks cX0_freeTranks 4 (some .int), Cond.methodLink RX0 163 yX0_freeOfColour, Cond.instanceMethod yX0_freeOfColour, Cond.selects RX0 yX0_freeOfColour yX0_freeOfColour, Cond.code yX0_freeOfColour cX0_freeOfColour 5 (some .int), Cond.methodLink RX0 219 yX0_isFreeOfColour, Cond.instanceMethod yX0_isFreeOfColour, Cond.selects RX0 yX0_isFreeOfColour yX0_isFreeOfColour, Cond.code yX0_isFreeOfColour cX0_isFreeOfColour 4 (some .boolean), Cond.methodLink RX0 141 yX0_enterPair, Cond.instanceMethod yX0_enterPair, Cond.selects RX0 yX0_enterPair yX0_enterPair, Cond.code yX0_enterPair cX0_enterPair 8 none, Cond.methodLink RX0 235 yX0_firstSkinWithTranks, Cond.instanceMethod yX0_firstSkinWithTranks, Cond.selects RX0 yX0_firstSkinWithTranks yX0_firstSkinWithTranks]
def wsL_law0_r7 : List Cond := [Cond.code yX0_firstSkinWithTranks cX0_firstSkinWithTranks 3 (some .int), Cond.methodLink RX0 238 yJ6_bitCount_0f7a4, Cond.static yJ6_bitCount_0f7a4, Cond.initialized RJ6, Cond.code yJ6_bitCount_0f7a4 cJ6_bitCount_0f7a4 1 (some .int), Cond.constant RJ6 265 (1431655765), Cond.constant RJ6 266 (858993459), Cond.constant RJ6 267 (252645135), Cond.methodLink RL 47 yX0_count, Cond.instanceMethod yX0_count, Cond.selects RX0 yX0_count yX0_count, Cond.code yX0_count cX0_count 2 (some .int), Cond.methodLink RX0 91 yX0_needWhat, Cond.static yX0_needWhat, Cond.code yX0_needWhat cX0_needWhat 2 none, Cond.methodLink RX0 152 yX0_tellCount, Cond.instanceMethod yX0_tellCount, Cond.selects RX0 yX0_tellCount yX0_tellCount, Cond.code yX0_tellCount cX0_tellCount 2 (some .int), Cond.methodLink RX0 197 yX0_piecesAt, Cond.instanceMethod yX0_piecesAt, Cond.selects RX0 yX0_piecesAt yX0_piecesAt, Cond.code yX0_piecesAt cX0_piecesAt 4 (some .int), Cond.methodLink RX0 200 yX0_pairsInUse]
def wsL_law0_r8 : List Cond := [Cond.instanceMethod yX0_pairsInUse, Cond.selects RX0 yX0_pairsInUse yX0_pairsInUse, Cond.code yX0_pairsInUse cX0_pairsInUse 3 (some .int), Cond.methodLink RL 53 yL_rip, Cond.static yL_rip, Cond.codeWith yL_rip cL_rip 3 (some .int) [(0, 5, 6, 59), (0, 5, 6, 65)], Cond.classLink RL 65 "java/lang/IndexOutOfBoundsException", Cond.methodLink RL 63 yX0_rip, Cond.instanceMethod yX0_rip, Cond.selects RX0 yX0_rip yX0_rip, Cond.code yX0_rip cX0_rip 5 (some .int), Cond.methodLink RX0 144 yX0_needPair, Cond.instanceMethod yX0_needPair, Cond.selects RX0 yX0_needPair yX0_needPair, Cond.code yX0_needPair cX0_needPair 2 none, Cond.methodLink RL 71 yX0_digest, Cond.instanceMethod yX0_digest, Cond.selects RX0 yX0_digest yX0_digest, Cond.code yX0_digest cX0_digest 5 (some .long), Cond.constantLong RX0 177 (1087), Cond.constantLong RX0 179 (31), Cond.methodLink RX0 181 yX0_digestSkin, Cond.instanceMethod yX0_digestSkin, Cond.selects RX0 yX0_digestSkin yX0_digestSkin]
def wsL_law0_r9 : List Cond := [Cond.code yX0_digestSkin cX0_digestSkin 7 (some .long), Cond.methodLink RX0 94 yX0_tellSkin, Cond.instanceMethod yX0_tellSkin, Cond.selects RX0 yX0_tellSkin yX0_tellSkin, Cond.code yX0_tellSkin cX0_tellSkin 3 (some .int), Cond.methodLink RX0 174 yX0_tallySkin, Cond.instanceMethod yX0_tallySkin, Cond.selects RX0 yX0_tallySkin yX0_tallySkin, Cond.code yX0_tallySkin cX0_tallySkin 3 (some .int), Cond.methodLink RX0 128 yX0_tellPiece, Cond.instanceMethod yX0_tellPiece, Cond.selects RX0 yX0_tellPiece yX0_tellPiece, Cond.code yX0_tellPiece cX0_tellPiece 3 (some .int), Cond.methodLink RX0 149 yX0_tellPair, Cond.instanceMethod yX0_tellPair, Cond.selects RX0 yX0_tellPair yX0_tellPair, Cond.code yX0_tellPair cX0_tellPair 3 (some .int), Cond.methodLink RL 75 yX0_gives, Cond.instanceMethod yX0_gives, Cond.selects RX0 yX0_gives yX0_gives, Cond.code yX0_gives cX0_gives 4 (some .int), Cond.methodLink RX0 156 yX0_givenBy, Cond.instanceMethod yX0_givenBy, Cond.selects RX0 yX0_givenBy yX0_givenBy]
def wsL_law0_r10 : List Cond := [Cond.code yX0_givenBy cX0_givenBy 8 (some .int), Cond.methodLink RX0 213 arraycopyName, Cond.native arraycopyName, Cond.static arraycopyName, Cond.initialized "java/lang/System", Cond.methodLink RL 78 yX0_best, Cond.instanceMethod yX0_best, Cond.selects RX0 yX0_best yX0_best, Cond.code yX0_best cX0_best 7 (some .int), Cond.methodLink RL 82 yX0_pairs, Cond.instanceMethod yX0_pairs, Cond.selects RX0 yX0_pairs yX0_pairs, Cond.code yX0_pairs cX0_pairs 4 (some .int), Cond.methodLink RX0 169 Lib.Math.min.name, Cond.methodLink RX0 160 yX0_trankPairs, Cond.instanceMethod yX0_trankPairs, Cond.selects RX0 yX0_trankPairs yX0_trankPairs, Cond.code yX0_trankPairs cX0_trankPairs 4 (some .int), Cond.methodLink RX0 166 yX0_pairsFrom, Cond.static yX0_pairsFrom, Cond.code yX0_pairsFrom cX0_pairsFrom 3 (some .int), Cond.methodLink RL 85 yX0_skin, Cond.instanceMethod yX0_skin, Cond.selects RX0 yX0_skin yX0_skin]
def wsL_law0_r11 : List Cond := [Cond.code yX0_skin cX0_skin 3 (some .int), Cond.methodLink RL 90 yX0_piece, Cond.instanceMethod yX0_piece, Cond.selects RX0 yX0_piece yX0_piece, Cond.code yX0_piece cX0_piece 3 (some .int), Cond.methodLink RL 93 yX0_cell, Cond.instanceMethod yX0_cell, Cond.selects RX0 yX0_cell yX0_cell, Cond.code yX0_cell cX0_cell 4 (some .int), Cond.methodLink RL 96 yX0_pair, Cond.instanceMethod yX0_pair, Cond.selects RX0 yX0_pair yX0_pair, Cond.code yX0_pair cX0_pair 3 (some .int), Cond.methodLink RL 99 yX0_share, Cond.instanceMethod yX0_share, Cond.selects RX0 yX0_share yX0_share, Cond.code yX0_share cX0_share 4 (some .double), Cond.methodLink RL 103 yX0_lacks, Cond.instanceMethod yX0_lacks, Cond.selects RX0 yX0_lacks yX0_lacks, Cond.code yX0_lacks cX0_lacks 3 (some .int)]
def wsL_law0 : List Cond := (wsL_law0_r1 ++ (wsL_law0_r2 ++ (wsL_law0_r3 ++ (wsL_law0_r4 ++ (wsL_law0_r5 ++ (wsL_law0_r6 ++ (wsL_law0_r7 ++ (wsL_law0_r8 ++ (wsL_law0_r9 ++ (wsL_law0_r10 ++ wsL_law0_r11)))))))))) ++ wsX00 ++ ([] : List Cond)
def wsL_law : List Cond := wsL_law0 ++ (vx_atS RX0 64 "java/lang/IllegalStateException" ["java/lang/RuntimeException", "java/lang/Exception"]).filter goodWord ++ (vx_atS RX0 78 "java/lang/IllegalArgumentException" ["java/lang/RuntimeException", "java/lang/Exception"]).filter goodWord ++ (vx_atS RX0 127 "java/lang/IndexOutOfBoundsException" ["java/lang/RuntimeException", "java/lang/Exception"]).filter goodWord
set_option maxRecDepth 20000 in
theorem ggX0_lay_X0_needColour : GoodIn wsX0_lay wsX0_needColour := goodIn_ca (goodIn_r _ [8, 9, 10] (by decide +kernel) (by decide +kernel)) (goodIn_sub (fun _ h => List.mem_cons_of_mem _ (List.mem_append_right _ h)) (by decide +kernel))
set_option maxRecDepth 20000 in
theorem gX0_lay_X0_needColour : GoodIn wsX0_lay (va_wsS RX0 52 yX0_needColour wsX0_needColour) := goodIn_app (goodIn_of _ (by decide +kernel)) ggX0_lay_X0_needColour
set_option maxRecDepth 20000 in
theorem ggX0_mark_X0_needSkin : GoodIn wsX0_mark wsX0_needSkin := goodIn_ca (goodIn_r _ [10, 11, 12, 13, 23, 24, 25, 26, 27, 28, 29, 30, 31, 32, 33, 34, 35, 36, 37, 38] (by decide +kernel) (by decide +kernel)) (goodIn_sub (fun _ h => List.mem_cons_of_mem _ (List.mem_append_right _ h)) (by decide +kernel))
set_option maxRecDepth 20000 in
theorem gX0_mark_X0_needSkin : GoodIn wsX0_mark (wsV RX0 67 RX0 yX0_needSkin wsX0_needSkin) := goodIn_app (goodIn_of _ (by decide +kernel)) ggX0_mark_X0_needSkin
set_option maxRecDepth 20000 in
theorem ggX0_mark_X0_needCell : GoodIn wsX0_mark wsX0_needCell := goodIn_ca (goodIn_r _ [16, 11, 12] (by decide +kernel) (by decide +kernel)) (goodIn_sub (fun _ h => List.mem_cons_of_mem _ (List.mem_append_right _ h)) (by decide +kernel))
set_option maxRecDepth 20000 in
theorem gX0_mark_X0_needCell : GoodIn wsX0_mark (va_wsS RX0 70 yX0_needCell wsX0_needCell) := goodIn_app (goodIn_of _ (by decide +kernel)) ggX0_mark_X0_needCell
set_option maxRecDepth 20000 in
theorem ggX0_mark_X0_tally : GoodIn wsX0_mark wsX0_tally := goodIn_r _ [19] (by decide +kernel) (by decide +kernel)
set_option maxRecDepth 20000 in
theorem gX0_mark_X0_tally : GoodIn wsX0_mark (va_wsS RX0 81 yX0_tally wsX0_tally) := goodIn_app (goodIn_of _ (by decide +kernel)) ggX0_mark_X0_tally
set_option maxRecDepth 20000 in
theorem ggX0_mark_X0_paint : GoodIn wsX0_mark wsX0_paint := goodIn_r _ [22] (by decide +kernel) (by decide +kernel)
set_option maxRecDepth 20000 in
theorem gX0_mark_X0_paint : GoodIn wsX0_mark (va_wsS RX0 87 yX0_paint wsX0_paint) := goodIn_app (goodIn_of _ (by decide +kernel)) ggX0_mark_X0_paint
set_option maxRecDepth 20000 in
theorem ggX0_cell_X0_needSkin : GoodIn wsX0_cell wsX0_needSkin := goodIn_ca (goodIn_r _ [6, 7, 8, 9, 13, 14, 15, 16, 17, 18, 19, 20, 21, 22, 23, 24, 25, 26, 27, 28] (by decide +kernel) (by decide +kernel)) (goodIn_sub (fun _ h => List.mem_cons_of_mem _ (List.mem_append_right _ h)) (by decide +kernel))
set_option maxRecDepth 20000 in
theorem gX0_cell_X0_needSkin : GoodIn wsX0_cell (wsV RX0 67 RX0 yX0_needSkin wsX0_needSkin) := goodIn_app (goodIn_of _ (by decide +kernel)) ggX0_cell_X0_needSkin
set_option maxRecDepth 20000 in
theorem ggX0_cell_X0_needCell : GoodIn wsX0_cell wsX0_needCell := goodIn_ca (goodIn_r _ [12, 7, 8] (by decide +kernel) (by decide +kernel)) (goodIn_sub (fun _ h => List.mem_cons_of_mem _ (List.mem_append_right _ h)) (by decide +kernel))
set_option maxRecDepth 20000 in
theorem gX0_cell_X0_needCell : GoodIn wsX0_cell (va_wsS RX0 70 yX0_needCell wsX0_needCell) := goodIn_app (goodIn_of _ (by decide +kernel)) ggX0_cell_X0_needCell
set_option maxRecDepth 20000 in
theorem ggX0_skin_X0_needSkin : GoodIn wsX0_skin wsX0_needSkin := goodIn_ca (goodIn_r _ [5, 6, 7, 8, 26, 27, 28, 29, 30, 31, 32, 33, 34, 35, 36, 37, 38, 39, 40, 41] (by decide +kernel) (by decide +kernel)) (goodIn_sub (fun _ h => List.mem_cons_of_mem _ (List.mem_append_right _ h)) (by decide +kernel))
set_option maxRecDepth 20000 in
theorem gX0_skin_X0_needSkin : GoodIn wsX0_skin (wsV RX0 67 RX0 yX0_needSkin wsX0_needSkin) := goodIn_app (goodIn_of _ (by decide +kernel)) ggX0_skin_X0_needSkin
set_option maxRecDepth 20000 in
theorem ggX0_skin_X0_needWhat : GoodIn wsX0_skin wsX0_needWhat := goodIn_ca (goodIn_r _ [11, 6, 7] (by decide +kernel) (by decide +kernel)) (goodIn_sub (fun _ h => List.mem_cons_of_mem _ (List.mem_append_right _ h)) (by decide +kernel))
set_option maxRecDepth 20000 in
theorem gX0_skin_X0_needWhat : GoodIn wsX0_skin (va_wsS RX0 91 yX0_needWhat wsX0_needWhat) := goodIn_app (goodIn_of _ (by decide +kernel)) ggX0_skin_X0_needWhat
set_option maxRecDepth 20000 in
theorem ggX0_skin_X0_tellSkin : GoodIn wsX0_skin wsX0_tellSkin := goodIn_r _ [15, 16, 17, 18, 19, 20, 4, 21, 22, 23, 24, 25, 26, 27, 28, 29, 30, 31, 32, 33, 34, 35, 36, 37, 38, 39, 40, 41] (by decide +kernel) (by decide +kernel)
set_option maxRecDepth 20000 in
theorem gX0_skin_X0_tellSkin : GoodIn wsX0_skin (wsV RX0 94 RX0 yX0_tellSkin wsX0_tellSkin) := goodIn_app (goodIn_of _ (by decide +kernel)) ggX0_skin_X0_tellSkin
set_option maxRecDepth 20000 in
theorem ggX0_cut_X0_needSkin : GoodIn wsX0_cut wsX0_needSkin := goodIn_ca (goodIn_r _ [14, 15, 16, 17, 44, 45, 46, 47, 48, 49, 50, 51, 52, 53, 54, 55, 56, 57, 58, 59] (by decide +kernel) (by decide +kernel)) (goodIn_sub (fun _ h => List.mem_cons_of_mem _ (List.mem_append_left _ (List.mem_append_right _ h))) (by decide +kernel))
set_option maxRecDepth 20000 in
theorem gX0_cut_X0_needSkin : GoodIn wsX0_cut (wsV RX0 67 RX0 yX0_needSkin wsX0_needSkin) := goodIn_app (goodIn_of _ (by decide +kernel)) ggX0_cut_X0_needSkin
set_option maxRecDepth 20000 in
theorem ggX0_cut_X0_needCell : GoodIn wsX0_cut wsX0_needCell := goodIn_ca (goodIn_r _ [20, 15, 16] (by decide +kernel) (by decide +kernel)) (goodIn_sub (fun _ h => List.mem_cons_of_mem _ (List.mem_append_left _ (List.mem_append_right _ h))) (by decide +kernel))
set_option maxRecDepth 20000 in
theorem gX0_cut_X0_needCell : GoodIn wsX0_cut (va_wsS RX0 70 yX0_needCell wsX0_needCell) := goodIn_app (goodIn_of _ (by decide +kernel)) ggX0_cut_X0_needCell
set_option maxRecDepth 20000 in
theorem ggX0_cut_X0_needKind : GoodIn wsX0_cut wsX0_needKind := goodIn_ca (goodIn_r _ [23, 24, 25] (by decide +kernel) (by decide +kernel)) (goodIn_sub (fun _ h => List.mem_cons_of_mem _ (List.mem_append_right _ h)) (by decide +kernel))
set_option maxRecDepth 20000 in
theorem gX0_cut_X0_needKind : GoodIn wsX0_cut (va_wsS RX0 98 yX0_needKind wsX0_needKind) := goodIn_app (goodIn_of _ (by decide +kernel)) ggX0_cut_X0_needKind
set_option maxRecDepth 20000 in
theorem ggX0_cut_X0_fits : GoodIn wsX0_cut wsX0_fits := goodIn_r _ [28, 29, 30, 31, 13, 32, 33, 34, 35, 36, 37, 38, 39, 40] (by decide +kernel) (by decide +kernel)
set_option maxRecDepth 20000 in
theorem gX0_cut_X0_fits : GoodIn wsX0_cut (va_wsS RX0 101 yX0_fits wsX0_fits) := goodIn_app (goodIn_of _ (by decide +kernel)) ggX0_cut_X0_fits
set_option maxRecDepth 20000 in
theorem ggX0_cut_X0_wideOf : GoodIn wsX0_cut wsX0_wideOf := goodIn_r _ [32, 33, 34] (by decide +kernel) (by decide +kernel)
set_option maxRecDepth 20000 in
theorem gX0_cut_X0_wideOf : GoodIn wsX0_cut (va_wsS RX0 112 yX0_wideOf wsX0_wideOf) := goodIn_app (goodIn_of _ (by decide +kernel)) ggX0_cut_X0_wideOf
set_option maxRecDepth 20000 in
theorem ggX0_cut_X0_highOf : GoodIn wsX0_cut wsX0_highOf := goodIn_r _ [37, 34, 33] (by decide +kernel) (by decide +kernel)
set_option maxRecDepth 20000 in
theorem gX0_cut_X0_highOf : GoodIn wsX0_cut (va_wsS RX0 116 yX0_highOf wsX0_highOf) := goodIn_app (goodIn_of _ (by decide +kernel)) ggX0_cut_X0_highOf
set_option maxRecDepth 20000 in
theorem ggX0_cut_X0_tally : GoodIn wsX0_cut wsX0_tally := goodIn_r _ [40] (by decide +kernel) (by decide +kernel)
set_option maxRecDepth 20000 in
theorem gX0_cut_X0_tally : GoodIn wsX0_cut (va_wsS RX0 81 yX0_tally wsX0_tally) := goodIn_app (goodIn_of _ (by decide +kernel)) ggX0_cut_X0_tally
set_option maxRecDepth 20000 in
theorem ggX0_cut_X0_paint : GoodIn wsX0_cut wsX0_paint := goodIn_r _ [43] (by decide +kernel) (by decide +kernel)
set_option maxRecDepth 20000 in
theorem gX0_cut_X0_paint : GoodIn wsX0_cut (va_wsS RX0 87 yX0_paint wsX0_paint) := goodIn_app (goodIn_of _ (by decide +kernel)) ggX0_cut_X0_paint
set_option maxRecDepth 20000 in
theorem ggX0_place_X0_needSkin : GoodIn wsX0_place wsX0_needSkin := goodIn_ca (goodIn_r _ [6, 7, 8, 9, 33, 34, 35, 36, 37, 38, 39, 40, 41, 42, 43, 44, 45, 46, 47, 48] (by decide +kernel) (by decide +kernel)) (goodIn_sub (fun _ h => List.mem_cons_of_mem _ (List.mem_append_left _ (List.mem_append_right _ h))) (by decide +kernel))
set_option maxRecDepth 20000 in
theorem gX0_place_X0_needSkin : GoodIn wsX0_place (wsV RX0 67 RX0 yX0_needSkin wsX0_needSkin) := goodIn_app (goodIn_of _ (by decide +kernel)) ggX0_place_X0_needSkin
set_option maxRecDepth 20000 in
theorem ggX0_place_X0_needKind : GoodIn wsX0_place wsX0_needKind := goodIn_ca (goodIn_r _ [12, 13, 14] (by decide +kernel) (by decide +kernel)) (goodIn_sub (fun _ h => List.mem_cons_of_mem _ (List.mem_append_right _ h)) (by decide +kernel))
set_option maxRecDepth 20000 in
theorem gX0_place_X0_needKind : GoodIn wsX0_place (va_wsS RX0 98 yX0_needKind wsX0_needKind) := goodIn_app (goodIn_of _ (by decide +kernel)) ggX0_place_X0_needKind
set_option maxRecDepth 20000 in
theorem ggX0_place_X0_firstFit : GoodIn wsX0_place wsX0_firstFit := goodIn_r _ [17, 18, 19, 5, 20, 21, 22, 23, 24, 25, 26, 27, 28, 29, 30, 31, 32] (by decide +kernel) (by decide +kernel)
set_option maxRecDepth 20000 in
theorem gX0_place_X0_firstFit : GoodIn wsX0_place (va_wsS RX0 119 yX0_firstFit wsX0_firstFit) := goodIn_app (goodIn_of _ (by decide +kernel)) ggX0_place_X0_firstFit
set_option maxRecDepth 20000 in
theorem ggX0_piece_X0_needWhat : GoodIn wsX0_piece wsX0_needWhat := goodIn_ca (goodIn_r _ [7, 1, 2] (by decide +kernel) (by decide +kernel)) (goodIn_sub (fun _ h => List.mem_cons_of_mem _ (List.mem_append_right _ h)) (by decide +kernel))
set_option maxRecDepth 20000 in
theorem gX0_piece_X0_needWhat : GoodIn wsX0_piece (va_wsS RX0 91 yX0_needWhat wsX0_needWhat) := goodIn_app (goodIn_of _ (by decide +kernel)) ggX0_piece_X0_needWhat
set_option maxRecDepth 20000 in
theorem ggX0_piece_X0_tellPiece : GoodIn wsX0_piece wsX0_tellPiece := goodIn_r _ [11, 12, 13, 14, 15, 16, 17, 18, 19, 20, 21, 22, 23, 24, 25, 26, 27, 28, 29, 30, 31] (by decide +kernel) (by decide +kernel)
set_option maxRecDepth 20000 in
theorem gX0_piece_X0_tellPiece : GoodIn wsX0_piece (wsV RX0 128 RX0 yX0_tellPiece wsX0_tellPiece) := goodIn_app (goodIn_of _ (by decide +kernel)) ggX0_piece_X0_tellPiece
set_option maxRecDepth 20000 in
theorem ggX0_sew_X0_needColour : GoodIn wsX0_sew wsX0_needColour := goodIn_ca (goodIn_r _ [7, 8, 9] (by decide +kernel) (by decide +kernel)) (goodIn_sub (fun _ h => List.mem_cons_of_mem _ (List.mem_append_right _ h)) (by decide +kernel))
set_option maxRecDepth 20000 in
theorem gX0_sew_X0_needColour : GoodIn wsX0_sew (va_wsS RX0 52 yX0_needColour wsX0_needColour) := goodIn_app (goodIn_of _ (by decide +kernel)) ggX0_sew_X0_needColour
set_option maxRecDepth 20000 in
theorem ggX0_sew_X0_lacking : GoodIn wsX0_sew wsX0_lacking := goodIn_r _ [13, 14, 15, 16, 17, 18, 19, 20, 21, 6, 22, 23, 24, 25, 26, 27, 28, 29, 30, 31, 32, 33, 34, 35, 36, 37, 38, 39, 40, 61, 62, 63, 64, 65, 66, 67, 68, 69, 70, 71, 72, 73, 74, 75, 76] (by decide +kernel) (by decide +kernel)
set_option maxRecDepth 20000 in
theorem gX0_sew_X0_lacking : GoodIn wsX0_sew (wsV RX0 131 RX0 yX0_lacking wsX0_lacking) := goodIn_app (goodIn_of _ (by decide +kernel)) ggX0_sew_X0_lacking
set_option maxRecDepth 20000 in
theorem ggX0_sew_X0_enterPair : GoodIn wsX0_sew wsX0_enterPair := goodIn_r _ [44, 45, 3, 46, 14, 29, 32, 30, 47, 48, 49, 50, 51, 52, 6, 53, 23, 24, 25, 26, 27, 28, 31, 37, 38, 39, 40, 54, 55, 56, 57, 58, 59, 60, 61, 62, 63, 64, 65, 66, 67, 68, 69, 70, 71, 72, 73, 74, 75, 76] (by decide +kernel) (by decide +kernel)
set_option maxRecDepth 20000 in
theorem gX0_sew_X0_enterPair : GoodIn wsX0_sew (wsV RX0 141 RX0 yX0_enterPair wsX0_enterPair) := goodIn_app (goodIn_of _ (by decide +kernel)) ggX0_sew_X0_enterPair
set_option maxRecDepth 20000 in
theorem ggX0_rip_X0_needPair : GoodIn wsX0_rip wsX0_needPair := goodIn_ca (goodIn_r _ [11, 12, 13, 14, 15, 16, 17, 18, 19, 20, 21, 22, 23, 24, 25, 26, 27, 28, 29, 30] (by decide +kernel) (by decide +kernel)) (goodIn_sub (fun _ h => List.mem_cons_of_mem _ (List.mem_append_right _ h)) (by decide +kernel))
set_option maxRecDepth 20000 in
theorem gX0_rip_X0_needPair : GoodIn wsX0_rip (wsV RX0 144 RX0 yX0_needPair wsX0_needPair) := goodIn_app (goodIn_of _ (by decide +kernel)) ggX0_rip_X0_needPair
set_option maxRecDepth 20000 in
theorem ggX0_pair_X0_needPair : GoodIn wsX0_pair wsX0_needPair := goodIn_ca (goodIn_r _ [5, 6, 7, 8, 21, 22, 23, 24, 25, 26, 27, 28, 29, 30, 31, 32, 33, 34, 35, 36] (by decide +kernel) (by decide +kernel)) (goodIn_sub (fun _ h => List.mem_cons_of_mem _ (List.mem_append_right _ h)) (by decide +kernel))
set_option maxRecDepth 20000 in
theorem gX0_pair_X0_needPair : GoodIn wsX0_pair (wsV RX0 144 RX0 yX0_needPair wsX0_needPair) := goodIn_app (goodIn_of _ (by decide +kernel)) ggX0_pair_X0_needPair
set_option maxRecDepth 20000 in
theorem ggX0_pair_X0_needWhat : GoodIn wsX0_pair wsX0_needWhat := goodIn_ca (goodIn_r _ [11, 6, 7] (by decide +kernel) (by decide +kernel)) (goodIn_sub (fun _ h => List.mem_cons_of_mem _ (List.mem_append_right _ h)) (by decide +kernel))
set_option maxRecDepth 20000 in
theorem gX0_pair_X0_needWhat : GoodIn wsX0_pair (va_wsS RX0 91 yX0_needWhat wsX0_needWhat) := goodIn_app (goodIn_of _ (by decide +kernel)) ggX0_pair_X0_needWhat
set_option maxRecDepth 20000 in
theorem ggX0_pair_X0_tellPair : GoodIn wsX0_pair wsX0_tellPair := goodIn_r _ [15, 16, 17, 18, 19, 20, 21, 22, 23, 24, 25, 26, 27, 28, 29, 30, 31, 32, 33, 34, 35, 36] (by decide +kernel) (by decide +kernel)
set_option maxRecDepth 20000 in
theorem gX0_pair_X0_tellPair : GoodIn wsX0_pair (wsV RX0 149 RX0 yX0_tellPair wsX0_tellPair) := goodIn_app (goodIn_of _ (by decide +kernel)) ggX0_pair_X0_tellPair
set_option maxRecDepth 20000 in
theorem ggX0_count_X0_needWhat : GoodIn wsX0_count wsX0_needWhat := goodIn_ca (goodIn_r _ [4, 5, 6] (by decide +kernel) (by decide +kernel)) (goodIn_sub (fun _ h => List.mem_cons_of_mem _ (List.mem_append_right _ h)) (by decide +kernel))
set_option maxRecDepth 20000 in
theorem gX0_count_X0_needWhat : GoodIn wsX0_count (va_wsS RX0 91 yX0_needWhat wsX0_needWhat) := goodIn_app (goodIn_of _ (by decide +kernel)) ggX0_count_X0_needWhat
set_option maxRecDepth 20000 in
theorem ggX0_count_X0_tellCount : GoodIn wsX0_count wsX0_tellCount := goodIn_r _ [10, 11, 12, 13, 14, 15, 16, 3, 17, 18, 19, 20, 21, 22, 23, 24, 25, 26, 27, 28, 29, 30, 31, 32, 33, 34, 35, 36, 37, 38, 39] (by decide +kernel) (by decide +kernel)
set_option maxRecDepth 20000 in
theorem gX0_count_X0_tellCount : GoodIn wsX0_count (wsV RX0 152 RX0 yX0_tellCount wsX0_tellCount) := goodIn_app (goodIn_of _ (by decide +kernel)) ggX0_count_X0_tellCount
set_option maxRecDepth 20000 in
theorem ggX0_gives_X0_needSkin : GoodIn wsX0_gives wsX0_needSkin := goodIn_ca (goodIn_r _ [5, 6, 7, 8, 45, 46, 47, 48, 49, 50, 51, 52, 53, 54, 55, 56, 57, 58, 59, 60] (by decide +kernel) (by decide +kernel)) (goodIn_sub (fun _ h => List.mem_cons_of_mem _ (List.mem_append_left _ (List.mem_append_right _ h))) (by decide +kernel))
set_option maxRecDepth 20000 in
theorem gX0_gives_X0_needSkin : GoodIn wsX0_gives (wsV RX0 67 RX0 yX0_needSkin wsX0_needSkin) := goodIn_app (goodIn_of _ (by decide +kernel)) ggX0_gives_X0_needSkin
set_option maxRecDepth 20000 in
theorem ggX0_gives_X0_needKind : GoodIn wsX0_gives wsX0_needKind := goodIn_ca (goodIn_r _ [11, 12, 13] (by decide +kernel) (by decide +kernel)) (goodIn_sub (fun _ h => List.mem_cons_of_mem _ (List.mem_append_right _ h)) (by decide +kernel))
set_option maxRecDepth 20000 in
theorem gX0_gives_X0_needKind : GoodIn wsX0_gives (va_wsS RX0 98 yX0_needKind wsX0_needKind) := goodIn_app (goodIn_of _ (by decide +kernel)) ggX0_gives_X0_needKind
set_option maxRecDepth 20000 in
theorem ggX0_gives_X0_givenBy : GoodIn wsX0_gives wsX0_givenBy := goodIn_r _ [17, 18, 19, 20, 21, 22, 23, 24, 25, 4, 26, 27, 28, 29, 30, 31, 32, 33, 34, 35, 36, 37, 38, 39, 40, 41, 42, 43, 44, 45, 46, 47, 48, 49, 50, 51, 52, 53, 54, 55, 56, 57, 58, 59, 60] (by decide +kernel) (by decide +kernel)
set_option maxRecDepth 20000 in
theorem gX0_gives_X0_givenBy : GoodIn wsX0_gives (wsV RX0 156 RX0 yX0_givenBy wsX0_givenBy) := goodIn_app (goodIn_of _ (by decide +kernel)) ggX0_gives_X0_givenBy
set_option maxRecDepth 20000 in
theorem ggX0_best_X0_needKind : GoodIn wsX0_best wsX0_needKind := goodIn_ca (goodIn_r _ [5, 6, 7] (by decide +kernel) (by decide +kernel)) (goodIn_sub (fun _ h => List.mem_cons_of_mem _ (List.mem_append_right _ h)) (by decide +kernel))
set_option maxRecDepth 20000 in
theorem gX0_best_X0_needKind : GoodIn wsX0_best (va_wsS RX0 98 yX0_needKind wsX0_needKind) := goodIn_app (goodIn_of _ (by decide +kernel)) ggX0_best_X0_needKind
set_option maxRecDepth 20000 in
theorem ggX0_best_X0_givenBy : GoodIn wsX0_best wsX0_givenBy := goodIn_r _ [11, 12, 13, 14, 15, 16, 17, 18, 19, 4, 20, 21, 22, 23, 24, 25, 26, 27, 28, 29, 30, 31, 32, 33, 34, 35, 36, 37, 38, 39, 40, 41, 42, 43, 44, 45, 46, 47, 48, 49, 50, 51, 52, 53, 54] (by decide +kernel) (by decide +kernel)
set_option maxRecDepth 20000 in
theorem gX0_best_X0_givenBy : GoodIn wsX0_best (wsV RX0 156 RX0 yX0_givenBy wsX0_givenBy) := goodIn_app (goodIn_of _ (by decide +kernel)) ggX0_best_X0_givenBy
set_option maxRecDepth 20000 in
theorem ggX0_lacks_X0_needColour : GoodIn wsX0_lacks wsX0_needColour := goodIn_ca (goodIn_r _ [4, 5, 6] (by decide +kernel) (by decide +kernel)) (goodIn_sub (fun _ h => List.mem_cons_of_mem _ (List.mem_append_right _ h)) (by decide +kernel))
set_option maxRecDepth 20000 in
theorem gX0_lacks_X0_needColour : GoodIn wsX0_lacks (va_wsS RX0 52 yX0_needColour wsX0_needColour) := goodIn_app (goodIn_of _ (by decide +kernel)) ggX0_lacks_X0_needColour
set_option maxRecDepth 20000 in
theorem ggX0_lacks_X0_needKind : GoodIn wsX0_lacks wsX0_needKind := goodIn_ca (goodIn_r _ [9, 5, 6] (by decide +kernel) (by decide +kernel)) (goodIn_sub (fun _ h => List.mem_cons_of_mem _ (List.mem_append_right _ h)) (by decide +kernel))
set_option maxRecDepth 20000 in
theorem gX0_lacks_X0_needKind : GoodIn wsX0_lacks (va_wsS RX0 98 yX0_needKind wsX0_needKind) := goodIn_app (goodIn_of _ (by decide +kernel)) ggX0_lacks_X0_needKind
set_option maxRecDepth 20000 in
theorem ggX0_lacks_X0_lacking : GoodIn wsX0_lacks wsX0_lacking := goodIn_r _ [13, 14, 15, 16, 17, 18, 19, 20, 21, 3, 22, 23, 24, 25, 26, 27, 28, 29, 30, 31, 32, 33, 34, 35, 36, 37, 38, 39, 40, 41, 42, 43, 44, 45, 46, 47, 48, 49, 50, 51, 52, 53, 54, 55, 56] (by decide +kernel) (by decide +kernel)
set_option maxRecDepth 20000 in
theorem gX0_lacks_X0_lacking : GoodIn wsX0_lacks (wsV RX0 131 RX0 yX0_lacking wsX0_lacking) := goodIn_app (goodIn_of _ (by decide +kernel)) ggX0_lacks_X0_lacking
set_option maxRecDepth 20000 in
theorem ggX0_pairs_X0_needColour : GoodIn wsX0_pairs wsX0_needColour := goodIn_ca (goodIn_r _ [8, 9, 10] (by decide +kernel) (by decide +kernel)) (goodIn_sub (fun _ h => List.mem_cons_of_mem _ (List.mem_append_right _ h)) (by decide +kernel))
set_option maxRecDepth 20000 in
theorem gX0_pairs_X0_needColour : GoodIn wsX0_pairs (va_wsS RX0 52 yX0_needColour wsX0_needColour) := goodIn_app (goodIn_of _ (by decide +kernel)) ggX0_pairs_X0_needColour
set_option maxRecDepth 20000 in
theorem ggX0_pairs_X0_trankPairs : GoodIn wsX0_pairs wsX0_trankPairs := goodIn_r _ [14, 15, 16, 17, 18, 19, 7, 20, 21, 22, 23, 24, 25, 26, 27, 28, 37, 38, 39, 40, 41, 42, 43, 44, 45, 46, 47, 48, 49, 50, 51, 52] (by decide +kernel) (by decide +kernel)
set_option maxRecDepth 20000 in
theorem gX0_pairs_X0_trankPairs : GoodIn wsX0_pairs (wsV RX0 160 RX0 yX0_trankPairs wsX0_trankPairs) := goodIn_app (goodIn_of _ (by decide +kernel)) ggX0_pairs_X0_trankPairs
set_option maxRecDepth 20000 in
theorem ggX0_pairs_X0_freeOfColour : GoodIn wsX0_pairs wsX0_freeOfColour := goodIn_r _ [32, 21, 33, 34, 35, 7, 36, 22, 23, 16, 24, 37, 38, 39, 40, 41, 42, 43, 44, 45, 46, 47, 48, 49, 50, 51, 52] (by decide +kernel) (by decide +kernel)
set_option maxRecDepth 20000 in
theorem gX0_pairs_X0_freeOfColour : GoodIn wsX0_pairs (wsV RX0 163 RX0 yX0_freeOfColour wsX0_freeOfColour) := goodIn_app (goodIn_of _ (by decide +kernel)) ggX0_pairs_X0_freeOfColour
set_option maxRecDepth 20000 in
theorem ggX0_pairs_X0_pairsFrom : GoodIn wsX0_pairs wsX0_pairsFrom := goodIn_r _ [27, 28] (by decide +kernel) (by decide +kernel)
set_option maxRecDepth 20000 in
theorem gX0_pairs_X0_pairsFrom : GoodIn wsX0_pairs (va_wsS RX0 166 yX0_pairsFrom wsX0_pairsFrom) := goodIn_app (goodIn_of _ (by decide +kernel)) ggX0_pairs_X0_pairsFrom
set_option maxRecDepth 20000 in
theorem ggX0_share_X0_tallySkin : GoodIn wsX0_share wsX0_tallySkin := goodIn_r _ [6, 7, 8, 9, 5, 10, 11, 12, 13, 14, 15, 16, 17, 18, 19, 20, 21, 22, 23, 24, 25, 26] (by decide +kernel) (by decide +kernel)
set_option maxRecDepth 20000 in
theorem gX0_share_X0_tallySkin : GoodIn wsX0_share (wsV RX0 174 RX0 yX0_tallySkin wsX0_tallySkin) := goodIn_app (goodIn_of _ (by decide +kernel)) ggX0_share_X0_tallySkin
set_option maxRecDepth 20000 in
theorem ggX0_digest_X0_tellCount : GoodIn wsX0_digest wsX0_tellCount := goodIn_r _ [10, 3, 4, 5, 11, 12, 13, 9, 14, 15, 16, 17, 18, 19, 20, 54, 55, 56, 57, 58, 59, 60, 61, 62, 63, 64, 65, 66, 67, 68, 69] (by decide +kernel) (by decide +kernel)
set_option maxRecDepth 20000 in
theorem gX0_digest_X0_tellCount : GoodIn wsX0_digest (wsV RX0 152 RX0 yX0_tellCount wsX0_tellCount) := goodIn_app (goodIn_of _ (by decide +kernel)) ggX0_digest_X0_tellCount
set_option maxRecDepth 20000 in
theorem ggX0_digest_X0_digestSkin : GoodIn wsX0_digest wsX0_digestSkin := goodIn_r _ [24, 2, 25, 26, 27, 28, 9, 29, 30, 31, 32, 33, 34, 35, 36, 37, 38, 54, 55, 56, 57, 58, 59, 60, 61, 62, 63, 64, 65, 66, 67, 68, 69] (by decide +kernel) (by decide +kernel)
set_option maxRecDepth 20000 in
theorem gX0_digest_X0_digestSkin : GoodIn wsX0_digest (wsV RX0 181 RX0 yX0_digestSkin wsX0_digestSkin) := goodIn_app (goodIn_of _ (by decide +kernel)) ggX0_digest_X0_digestSkin
set_option maxRecDepth 20000 in
theorem ggX0_digest_X0_tellPiece : GoodIn wsX0_digest wsX0_tellPiece := goodIn_r _ [42, 43, 44, 15, 45, 54, 55, 56, 57, 58, 59, 60, 61, 62, 63, 64, 65, 66, 67, 68, 69] (by decide +kernel) (by decide +kernel)
set_option maxRecDepth 20000 in
theorem gX0_digest_X0_tellPiece : GoodIn wsX0_digest (wsV RX0 128 RX0 yX0_tellPiece wsX0_tellPiece) := goodIn_app (goodIn_of _ (by decide +kernel)) ggX0_digest_X0_tellPiece
set_option maxRecDepth 20000 in
theorem ggX0_digest_X0_tellPair : GoodIn wsX0_digest wsX0_tellPair := goodIn_r _ [49, 50, 51, 52, 53, 20, 54, 55, 56, 57, 58, 59, 60, 61, 62, 63, 64, 65, 66, 67, 68, 69] (by decide +kernel) (by decide +kernel)
set_option maxRecDepth 20000 in
theorem gX0_digest_X0_tellPair : GoodIn wsX0_digest (wsV RX0 149 RX0 yX0_tellPair wsX0_tellPair) := goodIn_app (goodIn_of _ (by decide +kernel)) ggX0_digest_X0_tellPair
set_option maxRecDepth 20000 in
theorem ggX0_digestSkin_X0_tellSkin : GoodIn wsX0_digestSkin wsX0_tellSkin := goodIn_r _ [7, 8, 9, 10, 11, 12, 6, 13, 2, 14, 15, 16, 17, 18, 19, 20, 21, 22, 23, 24, 25, 26, 27, 28, 29, 30, 31, 32] (by decide +kernel) (by decide +kernel)
set_option maxRecDepth 20000 in
theorem gX0_digestSkin_X0_tellSkin : GoodIn wsX0_digestSkin (wsV RX0 94 RX0 yX0_tellSkin wsX0_tellSkin) := goodIn_app (goodIn_of _ (by decide +kernel)) ggX0_digestSkin_X0_tellSkin
set_option maxRecDepth 20000 in
theorem ggX0_tellSkin_X0_tallySkin : GoodIn wsX0_tellSkin wsX0_tallySkin := goodIn_r _ [7, 8, 9, 10, 6, 11, 12, 13, 14, 15, 16, 17, 18, 19, 20, 21, 22, 23, 24, 25, 26, 27] (by decide +kernel) (by decide +kernel)
set_option maxRecDepth 20000 in
theorem gX0_tellSkin_X0_tallySkin : GoodIn wsX0_tellSkin (wsV RX0 174 RX0 yX0_tallySkin wsX0_tallySkin) := goodIn_app (goodIn_of _ (by decide +kernel)) ggX0_tellSkin_X0_tallySkin
set_option maxRecDepth 20000 in
theorem ggX0_tellCount_X0_piecesAt : GoodIn wsX0_tellCount wsX0_piecesAt := goodIn_r _ [8, 2, 9, 15, 16, 17, 18, 19, 20, 21, 22, 23, 24, 25, 26, 27, 28, 29, 30] (by decide +kernel) (by decide +kernel)
set_option maxRecDepth 20000 in
theorem gX0_tellCount_X0_piecesAt : GoodIn wsX0_tellCount (wsV RX0 197 RX0 yX0_piecesAt wsX0_piecesAt) := goodIn_app (goodIn_of _ (by decide +kernel)) ggX0_tellCount_X0_piecesAt
set_option maxRecDepth 20000 in
theorem ggX0_tellCount_X0_pairsInUse : GoodIn wsX0_tellCount wsX0_pairsInUse := goodIn_r _ [13, 3, 14, 15, 16, 17, 18, 19, 20, 21, 22, 23, 24, 25, 26, 27, 28, 29, 30] (by decide +kernel) (by decide +kernel)
set_option maxRecDepth 20000 in
theorem gX0_tellCount_X0_pairsInUse : GoodIn wsX0_tellCount (wsV RX0 200 RX0 yX0_pairsInUse wsX0_pairsInUse) := goodIn_app (goodIn_of _ (by decide +kernel)) ggX0_tellCount_X0_pairsInUse
set_option maxRecDepth 20000 in
theorem ggX0_tallySkin_X0_tally : GoodIn wsX0_tallySkin wsX0_tally := goodIn_r _ [5] (by decide +kernel) (by decide +kernel)
set_option maxRecDepth 20000 in
theorem gX0_tallySkin_X0_tally : GoodIn wsX0_tallySkin (va_wsS RX0 81 yX0_tally wsX0_tally) := goodIn_app (goodIn_of _ (by decide +kernel)) ggX0_tallySkin_X0_tally
set_option maxRecDepth 20000 in
theorem ggX0_fits_X0_wideOf : GoodIn wsX0_fits wsX0_wideOf := goodIn_r _ [5, 6, 7] (by decide +kernel) (by decide +kernel)
set_option maxRecDepth 20000 in
theorem gX0_fits_X0_wideOf : GoodIn wsX0_fits (va_wsS RX0 112 yX0_wideOf wsX0_wideOf) := goodIn_app (goodIn_of _ (by decide +kernel)) ggX0_fits_X0_wideOf
set_option maxRecDepth 20000 in
theorem ggX0_fits_X0_highOf : GoodIn wsX0_fits wsX0_highOf := goodIn_r _ [10, 7, 6] (by decide +kernel) (by decide +kernel)
set_option maxRecDepth 20000 in
theorem gX0_fits_X0_highOf : GoodIn wsX0_fits (va_wsS RX0 116 yX0_highOf wsX0_highOf) := goodIn_app (goodIn_of _ (by decide +kernel)) ggX0_fits_X0_highOf
set_option maxRecDepth 20000 in
theorem ggX0_fits_X0_tally : GoodIn wsX0_fits wsX0_tally := goodIn_r _ [13] (by decide +kernel) (by decide +kernel)
set_option maxRecDepth 20000 in
theorem gX0_fits_X0_tally : GoodIn wsX0_fits (va_wsS RX0 81 yX0_tally wsX0_tally) := goodIn_app (goodIn_of _ (by decide +kernel)) ggX0_fits_X0_tally
set_option maxRecDepth 20000 in
theorem ggX0_firstFit_X0_fits : GoodIn wsX0_firstFit wsX0_fits := goodIn_r _ [4, 5, 6, 7, 3, 8, 9, 10, 11, 12, 13, 14, 15, 16] (by decide +kernel) (by decide +kernel)
set_option maxRecDepth 20000 in
theorem gX0_firstFit_X0_fits : GoodIn wsX0_firstFit (va_wsS RX0 101 yX0_fits wsX0_fits) := goodIn_app (goodIn_of _ (by decide +kernel)) ggX0_firstFit_X0_fits
set_option maxRecDepth 20000 in
theorem ggX0_givenBy_X0_wideOf : GoodIn wsX0_givenBy wsX0_wideOf := goodIn_r _ [10, 11, 12] (by decide +kernel) (by decide +kernel)
set_option maxRecDepth 20000 in
theorem gX0_givenBy_X0_wideOf : GoodIn wsX0_givenBy (va_wsS RX0 112 yX0_wideOf wsX0_wideOf) := goodIn_app (goodIn_of _ (by decide +kernel)) ggX0_givenBy_X0_wideOf
set_option maxRecDepth 20000 in
theorem ggX0_givenBy_X0_highOf : GoodIn wsX0_givenBy wsX0_highOf := goodIn_r _ [15, 12, 11] (by decide +kernel) (by decide +kernel)
set_option maxRecDepth 20000 in
theorem gX0_givenBy_X0_highOf : GoodIn wsX0_givenBy (va_wsS RX0 116 yX0_highOf wsX0_highOf) := goodIn_app (goodIn_of _ (by decide +kernel)) ggX0_givenBy_X0_highOf
set_option maxRecDepth 20000 in
theorem ggX0_givenBy_X0_firstFit : GoodIn wsX0_givenBy wsX0_firstFit := goodIn_r _ [18, 19, 20, 9, 21, 22, 7, 8, 10, 11, 12, 13, 14, 15, 23, 24, 25] (by decide +kernel) (by decide +kernel)
set_option maxRecDepth 20000 in
theorem gX0_givenBy_X0_firstFit : GoodIn wsX0_givenBy (va_wsS RX0 119 yX0_firstFit wsX0_firstFit) := goodIn_app (goodIn_of _ (by decide +kernel)) ggX0_givenBy_X0_firstFit
set_option maxRecDepth 20000 in
theorem ggX0_givenBy_X0_paint : GoodIn wsX0_givenBy wsX0_paint := goodIn_r _ [28] (by decide +kernel) (by decide +kernel)
set_option maxRecDepth 20000 in
theorem gX0_givenBy_X0_paint : GoodIn wsX0_givenBy (va_wsS RX0 87 yX0_paint wsX0_paint) := goodIn_app (goodIn_of _ (by decide +kernel)) ggX0_givenBy_X0_paint
set_option maxRecDepth 20000 in
theorem ggX0_freeOfColour_X0_isFreeOfColour : GoodIn wsX0_freeOfColour wsX0_isFreeOfColour := goodIn_r _ [6, 7, 8, 9, 10, 11, 12, 13, 14, 15, 16, 17, 18, 19, 20, 21, 22, 23, 24, 25, 26] (by decide +kernel) (by decide +kernel)
set_option maxRecDepth 20000 in
theorem gX0_freeOfColour_X0_isFreeOfColour : GoodIn wsX0_freeOfColour (wsV RX0 219 RX0 yX0_isFreeOfColour wsX0_isFreeOfColour) := goodIn_app (goodIn_of _ (by decide +kernel)) ggX0_freeOfColour_X0_isFreeOfColour
set_option maxRecDepth 20000 in
theorem ggX0_mostTranksOfOneSkin_X0_freeTranks : GoodIn wsX0_mostTranksOfOneSkin wsX0_freeTranks := goodIn_r _ [11, 12, 13, 14, 15, 16, 17, 18, 19, 20, 21, 22, 23, 24, 25, 26, 27, 28, 29, 30, 31] (by decide +kernel) (by decide +kernel)
set_option maxRecDepth 20000 in
theorem gX0_mostTranksOfOneSkin_X0_freeTranks : GoodIn wsX0_mostTranksOfOneSkin (wsV RX0 223 RX0 yX0_freeTranks wsX0_freeTranks) := goodIn_app (goodIn_of _ (by decide +kernel)) ggX0_mostTranksOfOneSkin_X0_freeTranks
set_option maxRecDepth 20000 in
theorem ggX0_trankPairs_X0_freeTranks : GoodIn wsX0_trankPairs wsX0_freeTranks := goodIn_r _ [7, 8, 9, 10, 11, 16, 17, 18, 19, 20, 21, 22, 23, 24, 25, 26, 27, 28, 29, 30, 31] (by decide +kernel) (by decide +kernel)
set_option maxRecDepth 20000 in
theorem gX0_trankPairs_X0_freeTranks : GoodIn wsX0_trankPairs (wsV RX0 223 RX0 yX0_freeTranks wsX0_freeTranks) := goodIn_app (goodIn_of _ (by decide +kernel)) ggX0_trankPairs_X0_freeTranks
set_option maxRecDepth 20000 in
theorem ggX0_trankPairs_X0_pairsFrom : GoodIn wsX0_trankPairs wsX0_pairsFrom := goodIn_r _ [14, 15] (by decide +kernel) (by decide +kernel)
set_option maxRecDepth 20000 in
theorem gX0_trankPairs_X0_pairsFrom : GoodIn wsX0_trankPairs (va_wsS RX0 166 yX0_pairsFrom wsX0_pairsFrom) := goodIn_app (goodIn_of _ (by decide +kernel)) ggX0_trankPairs_X0_pairsFrom
set_option maxRecDepth 20000 in
theorem ggX0_lacking_X0_mostTranksOfOneSkin : GoodIn wsX0_lacking wsX0_mostTranksOfOneSkin := goodIn_r _ [10, 11, 12, 2, 3, 4, 5, 13, 14, 15, 9, 16, 17, 18, 19, 20, 29, 30, 31, 32, 33, 34, 35, 36, 37, 38, 39, 40, 41, 42, 43, 44] (by decide +kernel) (by decide +kernel)
set_option maxRecDepth 20000 in
theorem gX0_lacking_X0_mostTranksOfOneSkin : GoodIn wsX0_lacking (wsV RX0 232 RX0 yX0_mostTranksOfOneSkin wsX0_mostTranksOfOneSkin) := goodIn_app (goodIn_of _ (by decide +kernel)) ggX0_lacking_X0_mostTranksOfOneSkin
set_option maxRecDepth 20000 in
theorem ggX0_lacking_X0_freeOfColour : GoodIn wsX0_lacking wsX0_freeOfColour := goodIn_r _ [24, 17, 25, 26, 27, 9, 28, 18, 19, 12, 20, 29, 30, 31, 32, 33, 34, 35, 36, 37, 38, 39, 40, 41, 42, 43, 44] (by decide +kernel) (by decide +kernel)
set_option maxRecDepth 20000 in
theorem gX0_lacking_X0_freeOfColour : GoodIn wsX0_lacking (wsV RX0 163 RX0 yX0_freeOfColour wsX0_freeOfColour) := goodIn_app (goodIn_of _ (by decide +kernel)) ggX0_lacking_X0_freeOfColour
set_option maxRecDepth 20000 in
theorem ggX0_firstSkinWithTranks_X0_freeTranks : GoodIn wsX0_firstSkinWithTranks wsX0_freeTranks := goodIn_r _ [8, 9, 10, 11, 12, 13, 14, 15, 16, 17, 18, 19, 20, 21, 22, 23, 24, 25, 26, 27, 28] (by decide +kernel) (by decide +kernel)
set_option maxRecDepth 20000 in
theorem gX0_firstSkinWithTranks_X0_freeTranks : GoodIn wsX0_firstSkinWithTranks (wsV RX0 223 RX0 yX0_freeTranks wsX0_freeTranks) := goodIn_app (goodIn_of _ (by decide +kernel)) ggX0_firstSkinWithTranks_X0_freeTranks
set_option maxRecDepth 20000 in
theorem ggX0_enterPair_X0_firstSkinWithTranks : GoodIn wsX0_enterPair wsX0_firstSkinWithTranks := goodIn_r _ [15, 16, 17, 4, 18, 19, 20, 14, 21, 5, 7, 22, 6, 34, 35, 36, 37, 38, 39, 40, 41, 42, 43, 44, 45, 46, 47, 48, 49] (by decide +kernel) (by decide +kernel)
set_option maxRecDepth 20000 in
theorem gX0_enterPair_X0_firstSkinWithTranks : GoodIn wsX0_enterPair (wsV RX0 235 RX0 yX0_firstSkinWithTranks wsX0_firstSkinWithTranks) := goodIn_app (goodIn_of _ (by decide +kernel)) ggX0_enterPair_X0_firstSkinWithTranks
set_option maxRecDepth 20000 in
theorem ggX0_enterPair_X0_isFreeOfColour : GoodIn wsX0_enterPair wsX0_isFreeOfColour := goodIn_r _ [26, 7, 22, 17, 6, 34, 35, 36, 37, 38, 39, 40, 41, 42, 43, 44, 45, 46, 47, 48, 49] (by decide +kernel) (by decide +kernel)
set_option maxRecDepth 20000 in
theorem gX0_enterPair_X0_isFreeOfColour : GoodIn wsX0_enterPair (wsV RX0 219 RX0 yX0_isFreeOfColour wsX0_isFreeOfColour) := goodIn_app (goodIn_of _ (by decide +kernel)) ggX0_enterPair_X0_isFreeOfColour
set_option maxRecDepth 20000 in
theorem ggX0_enterPair_J6_bitCount_0f7a4 : GoodIn wsX0_enterPair wsJ6_bitCount_0f7a4 := goodIn_r _ [30, 31, 32, 33] (by decide +kernel) (by decide +kernel)
set_option maxRecDepth 20000 in
theorem gX0_enterPair_J6_bitCount_0f7a4 : GoodIn wsX0_enterPair (va_wsS RX0 238 yJ6_bitCount_0f7a4 wsJ6_bitCount_0f7a4) := goodIn_app (goodIn_of _ (by decide +kernel)) ggX0_enterPair_J6_bitCount_0f7a4
set_option maxRecDepth 20000 in
theorem ggL_shop_X0_init : GoodIn wsL_shop wsX0_init := goodIn_r _ [13, 14, 15, 16, 17, 18, 19, 20, 21, 22, 23, 24, 25, 26, 27, 28, 29, 30, 31, 32, 180, 181, 182, 183, 184, 185, 186, 187, 188, 189, 190, 191, 192, 193, 194, 195] (by decide +kernel) (by decide +kernel)
set_option maxRecDepth 20000 in
theorem gL_shop_X0_init : GoodIn wsL_shop (wsX0_init) := ggL_shop_X0_init
set_option maxRecDepth 20000 in
theorem ggL_shop_L_cell : GoodIn wsL_shop wsL_cell := goodIn_r _ [36, 37] (by decide +kernel) (by decide +kernel)
set_option maxRecDepth 20000 in
theorem gL_shop_L_cell : GoodIn wsL_shop (va_wsS RL 12 yL_cell wsL_cell) := goodIn_app (goodIn_of _ (by decide +kernel)) ggL_shop_L_cell
set_option maxRecDepth 20000 in
theorem ggL_shop_L_below : GoodIn wsL_shop wsL_below := goodIn_r _ [40, 41] (by decide +kernel) (by decide +kernel)
set_option maxRecDepth 20000 in
theorem gL_shop_L_below : GoodIn wsL_shop (va_wsS RL 18 yL_below wsL_below) := goodIn_app (goodIn_of _ (by decide +kernel)) ggL_shop_L_below
set_option maxRecDepth 20000 in
theorem ggL_shop_X0_lay : GoodIn wsL_shop wsX0_lay := goodIn_ca (goodIn_ca (goodIn_r _ [45, 46, 47, 48, 18, 49, 50, 3, 51, 52, 53, 180, 181, 182, 183, 184, 185, 186, 187, 188, 189, 190, 191, 192, 193, 194, 195] (by decide +kernel) (by decide +kernel)) (goodIn_sub (fun _ h => List.mem_cons_of_mem _ (List.mem_append_left _ (List.mem_append_left _ (List.mem_append_right _ h)))) (by decide +kernel))) (goodIn_sub (fun _ h => List.mem_cons_of_mem _ (List.mem_append_left _ (List.mem_append_right _ h))) (by decide +kernel))
set_option maxRecDepth 20000 in
theorem gL_shop_X0_lay : GoodIn wsL_shop (wsV RL 22 RX0 yX0_lay wsX0_lay) := goodIn_app (goodIn_of _ (by decide +kernel)) ggL_shop_X0_lay
set_option maxRecDepth 20000 in
theorem ggL_shop_X0_mark : GoodIn wsL_shop wsX0_mark := goodIn_ca (goodIn_ca (goodIn_ca (goodIn_r _ [57, 52, 53, 46, 47, 21, 58, 59, 60, 3, 61, 62, 63, 48, 64, 65, 66, 67, 68, 69, 70, 71, 72, 180, 181, 182, 183, 184, 185, 186, 187, 188, 189, 190, 191, 192, 193, 194, 195] (by decide +kernel) (by decide +kernel)) (goodIn_sub (fun _ h => List.mem_cons_of_mem _ (List.mem_append_left _ (List.mem_append_right _ h))) (by decide +kernel))) (goodIn_sub (fun _ h => List.mem_cons_of_mem _ (List.mem_append_left _ (List.mem_append_left _ (List.mem_append_right _ h)))) (by decide +kernel))) (goodIn_sub (fun _ h => List.mem_cons_of_mem _ (List.mem_append_right _ h)) (by decide +kernel))
set_option maxRecDepth 20000 in
theorem gL_shop_X0_mark : GoodIn wsL_shop (wsV RL 31 RX0 yX0_mark wsX0_mark) := goodIn_app (goodIn_of _ (by decide +kernel)) ggL_shop_X0_mark
set_option maxRecDepth 20000 in
theorem ggL_shop_X0_place : GoodIn wsL_shop wsX0_place := goodIn_ca (goodIn_ca (goodIn_r _ [76, 21, 58, 59, 60, 3, 61, 62, 63, 48, 77, 78, 79, 52, 53, 80, 81, 82, 83, 84, 85, 86, 87, 88, 89, 90, 91, 92, 93, 94, 67, 68, 69, 180, 181, 182, 183, 184, 185, 186, 187, 188, 189, 190, 191, 192, 193, 194, 195] (by decide +kernel) (by decide +kernel)) (goodIn_sub (fun _ h => List.mem_cons_of_mem _ (List.mem_append_right _ h)) (by decide +kernel))) (goodIn_sub (fun _ h => List.mem_cons_of_mem _ (List.mem_append_left _ (List.mem_append_right _ h))) (by decide +kernel))
set_option maxRecDepth 20000 in
theorem gL_shop_X0_place : GoodIn wsL_shop (wsV RL 35 RX0 yX0_place wsX0_place) := goodIn_app (goodIn_of _ (by decide +kernel)) ggL_shop_X0_place
set_option maxRecDepth 20000 in
theorem ggL_shop_L_cut : GoodIn wsL_shop wsL_cut := goodIn_ca (goodIn_ca (goodIn_ca (goodIn_r _ [97, 98, 99, 100, 101, 3, 102, 46, 47, 21, 103, 22, 23, 24, 25, 19, 58, 59, 60, 61, 62, 63, 48, 64, 65, 66, 77, 78, 79, 52, 53, 83, 84, 85, 86, 87, 88, 89, 90, 91, 92, 93, 94, 67, 68, 69, 70, 71, 72, 180, 181, 182, 183, 184, 185, 186, 187, 188, 189, 190, 191, 192, 193, 194, 195] (by decide +kernel) (by decide +kernel)) (goodIn_sub (fun _ h => List.mem_cons_of_mem _ (List.mem_append_left _ (List.mem_append_left _ (List.mem_append_right _ h)))) (by decide +kernel))) (goodIn_sub (fun _ h => List.mem_cons_of_mem _ (List.mem_append_right _ h)) (by decide +kernel))) (goodIn_sub (fun _ h => List.mem_cons_of_mem _ (List.mem_append_left _ (List.mem_append_right _ h))) (by decide +kernel))
set_option maxRecDepth 20000 in
theorem gL_shop_L_cut : GoodIn wsL_shop (va_wsS RL 39 yL_cut wsL_cut) := goodIn_app (goodIn_of _ (by decide +kernel)) ggL_shop_L_cut
set_option maxRecDepth 20000 in
theorem ggL_shop_L_sew : GoodIn wsL_shop wsL_sew := goodIn_ca (goodIn_ca (goodIn_r _ [106, 98, 107, 108, 109, 3, 110, 46, 47, 111, 49, 50, 51, 52, 53, 112, 113, 114, 115, 116, 117, 9, 6, 10, 118, 119, 120, 121, 48, 18, 122, 123, 124, 125, 103, 24, 23, 22, 126, 127, 128, 129, 130, 131, 132, 133, 134, 135, 136, 137, 26, 27, 29, 25, 28, 138, 139, 140, 141, 142, 143, 144, 145, 146, 147, 148, 180, 181, 182, 183, 184, 185, 186, 187, 188, 189, 190, 191, 192, 193, 194, 195] (by decide +kernel) (by decide +kernel)) (goodIn_sub (fun _ h => List.mem_cons_of_mem _ (List.mem_append_left _ (List.mem_append_left _ (List.mem_append_right _ h)))) (by decide +kernel))) (goodIn_sub (fun _ h => List.mem_cons_of_mem _ (List.mem_append_left _ (List.mem_append_right _ h))) (by decide +kernel))
set_option maxRecDepth 20000 in
theorem gL_shop_L_sew : GoodIn wsL_shop (va_wsS RL 43 yL_sew wsL_sew) := goodIn_app (goodIn_of _ (by decide +kernel)) ggL_shop_L_sew
set_option maxRecDepth 20000 in
theorem ggL_shop_X0_count : GoodIn wsL_shop wsX0_count := goodIn_ca (goodIn_r _ [152, 153, 154, 3, 155, 62, 63, 156, 157, 158, 159, 48, 103, 111, 160, 161, 162, 163, 24, 164, 165, 166, 167, 31, 180, 181, 182, 183, 184, 185, 186, 187, 188, 189, 190, 191, 192, 193, 194, 195] (by decide +kernel) (by decide +kernel)) (goodIn_sub (fun _ h => List.mem_cons_of_mem _ (List.mem_append_right _ h)) (by decide +kernel))
set_option maxRecDepth 20000 in
theorem gL_shop_X0_count : GoodIn wsL_shop (wsV RL 47 RX0 yX0_count wsX0_count) := goodIn_app (goodIn_of _ (by decide +kernel)) ggL_shop_X0_count
set_option maxRecDepth 20000 in
theorem ggL_shop_L_rip : GoodIn wsL_shop wsL_rip := goodIn_ca (goodIn_ca (goodIn_r _ [170, 98, 171, 172, 173, 174, 3, 175, 46, 47, 31, 103, 24, 23, 176, 177, 178, 179, 62, 63, 111, 180, 181, 182, 183, 184, 185, 186, 187, 188, 189, 190, 191, 192, 193, 194, 195] (by decide +kernel) (by decide +kernel)) (goodIn_sub (fun _ h => List.mem_cons_of_mem _ (List.mem_append_left _ (List.mem_append_left _ (List.mem_append_right _ h)))) (by decide +kernel))) (goodIn_sub (fun _ h => List.mem_cons_of_mem _ (List.mem_append_right _ h)) (by decide +kernel))
set_option maxRecDepth 20000 in
theorem gL_shop_L_rip : GoodIn wsL_shop (va_wsS RL 53 yL_rip wsL_rip) := goodIn_app (goodIn_of _ (by decide +kernel)) ggL_shop_L_rip
set_option maxRecDepth 20000 in
theorem ggL_cut_X0_cut : GoodIn wsL_cut wsX0_cut := goodIn_ca (goodIn_ca (goodIn_ca (goodIn_r _ [6, 7, 8, 9, 10, 11, 12, 13, 14, 15, 16, 17, 18, 5, 19, 20, 21, 22, 23, 24, 25, 26, 27, 28, 29, 30, 31, 32, 33, 34, 35, 36, 37, 38, 39, 40, 41, 42, 43, 44, 45, 46, 47, 48, 49, 50, 51, 52, 53, 54, 55, 56, 57, 58, 59, 60, 61, 62, 63, 64] (by decide +kernel) (by decide +kernel)) (goodIn_sub (fun _ h => List.mem_cons_of_mem _ (List.mem_append_left _ (List.mem_append_left _ (List.mem_append_right _ h)))) (by decide +kernel))) (goodIn_sub (fun _ h => List.mem_cons_of_mem _ (List.mem_append_left _ (List.mem_append_right _ h))) (by decide +kernel))) (goodIn_sub (fun _ h => List.mem_cons_of_mem _ (List.mem_append_right _ h)) (by decide +kernel))
set_option maxRecDepth 20000 in
theorem gL_cut_X0_cut : GoodIn wsL_cut (wsV RL 56 RX0 yX0_cut wsX0_cut) := goodIn_app (goodIn_of _ (by decide +kernel)) ggL_cut_X0_cut
set_option maxRecDepth 20000 in
theorem ggL_sew_X0_sew : GoodIn wsL_sew wsX0_sew := goodIn_ca (goodIn_ca (goodIn_r _ [6, 7, 8, 9, 10, 11, 5, 12, 13, 14, 15, 16, 17, 18, 19, 20, 21, 22, 23, 24, 25, 26, 27, 28, 29, 30, 31, 32, 33, 34, 35, 36, 37, 38, 39, 40, 41, 42, 43, 44, 45, 46, 47, 48, 49, 50, 51, 52, 53, 54, 55, 56, 57, 58, 59, 60, 61, 62, 63, 64, 65, 66, 67, 68, 69, 70, 71, 72, 73, 74, 75, 76, 77, 78, 79, 80, 81] (by decide +kernel) (by decide +kernel)) (goodIn_sub (fun _ h => List.mem_cons_of_mem _ (List.mem_append_left _ (List.mem_append_right _ h))) (by decide +kernel))) (goodIn_sub (fun _ h => List.mem_cons_of_mem _ (List.mem_append_right _ h)) (by decide +kernel))
set_option maxRecDepth 20000 in
theorem gL_sew_X0_sew : GoodIn wsL_sew (wsV RL 61 RX0 yX0_sew wsX0_sew) := goodIn_app (goodIn_of _ (by decide +kernel)) ggL_sew_X0_sew
set_option maxRecDepth 20000 in
theorem ggL_rip_X0_rip : GoodIn wsL_rip wsX0_rip := goodIn_ca (goodIn_ca (goodIn_r _ [7, 8, 9, 10, 11, 12, 13, 14, 15, 16, 6, 17, 18, 19, 20, 21, 22, 23, 24, 25, 26, 27, 28, 29, 30, 31, 32, 33, 34, 35, 36] (by decide +kernel) (by decide +kernel)) (goodIn_sub (fun _ h => List.mem_cons_of_mem _ (List.mem_append_left _ (List.mem_append_right _ h))) (by decide +kernel))) (goodIn_sub (fun _ h => List.mem_cons_of_mem _ (List.mem_append_right _ h)) (by decide +kernel))
set_option maxRecDepth 20000 in
theorem gL_rip_X0_rip : GoodIn wsL_rip (wsV RL 63 RX0 yX0_rip wsX0_rip) := goodIn_app (goodIn_of _ (by decide +kernel)) ggL_rip_X0_rip
set_option maxRecDepth 20000 in
theorem ggL_law_X0_count : GoodIn wsL_law wsX0_count := goodIn_ca (goodIn_r _ [155, 156, 157, 8, 158, 65, 66, 159, 160, 161, 162, 51, 106, 114, 163, 164, 165, 166, 28, 167, 168, 169, 170, 35, 261, 262, 263, 264, 265, 266, 267, 268, 269, 270, 271, 272, 273, 274, 275, 276] (by decide +kernel) (by decide +kernel)) (goodIn_sub (fun _ h => List.mem_append_right _ h) (by decide +kernel))
set_option maxRecDepth 20000 in
theorem gL_law_X0_count : GoodIn wsL_law (wsV RL 47 RX0 yX0_count wsX0_count) := goodIn_app (goodIn_of _ (by decide +kernel)) ggL_law_X0_count
set_option maxRecDepth 20000 in
theorem ggL_law_L_cell : GoodIn wsL_law wsL_cell := goodIn_r _ [39, 40] (by decide +kernel) (by decide +kernel)
set_option maxRecDepth 20000 in
theorem gL_law_L_cell : GoodIn wsL_law (va_wsS RL 12 yL_cell wsL_cell) := goodIn_app (goodIn_of _ (by decide +kernel)) ggL_law_L_cell
set_option maxRecDepth 20000 in
theorem ggL_law_L_below : GoodIn wsL_law wsL_below := goodIn_r _ [43, 44] (by decide +kernel) (by decide +kernel)
set_option maxRecDepth 20000 in
theorem gL_law_L_below : GoodIn wsL_law (va_wsS RL 18 yL_below wsL_below) := goodIn_app (goodIn_of _ (by decide +kernel)) ggL_law_L_below
set_option maxRecDepth 20000 in
theorem ggL_law_X0_digest : GoodIn wsL_law wsX0_digest := goodIn_r _ [186, 187, 188, 51, 106, 114, 159, 160, 161, 8, 162, 163, 164, 165, 166, 28, 167, 168, 169, 170, 35, 189, 190, 191, 192, 25, 193, 194, 195, 196, 22, 23, 197, 198, 199, 200, 70, 71, 72, 201, 202, 203, 204, 26, 27, 29, 205, 206, 207, 208, 30, 31, 32, 33, 261, 262, 263, 264, 265, 266, 267, 268, 269, 270, 271, 272, 273, 274, 275, 276] (by decide +kernel) (by decide +kernel)
set_option maxRecDepth 20000 in
theorem gL_law_X0_digest : GoodIn wsL_law (wsV RL 71 RX0 yX0_digest wsX0_digest) := goodIn_app (goodIn_of _ (by decide +kernel)) ggL_law_X0_digest
set_option maxRecDepth 20000 in
theorem ggL_law_X0_gives : GoodIn wsL_law wsX0_gives := goodIn_ca (goodIn_ca (goodIn_r _ [212, 61, 62, 63, 8, 64, 65, 66, 51, 80, 81, 82, 55, 56, 213, 214, 215, 216, 25, 36, 217, 218, 219, 220, 90, 91, 92, 93, 94, 95, 96, 97, 83, 84, 85, 86, 87, 88, 89, 70, 71, 72, 73, 74, 75, 261, 262, 263, 264, 265, 266, 267, 268, 269, 270, 271, 272, 273, 274, 275, 276] (by decide +kernel) (by decide +kernel)) (goodIn_sub (fun _ h => List.mem_append_right _ h) (by decide +kernel))) (goodIn_sub (fun _ h => List.mem_append_left _ (List.mem_append_right _ h)) (by decide +kernel))
set_option maxRecDepth 20000 in
theorem gL_law_X0_gives : GoodIn wsL_law (wsV RL 75 RX0 yX0_gives wsX0_gives) := goodIn_app (goodIn_of _ (by decide +kernel)) ggL_law_X0_gives
set_option maxRecDepth 20000 in
theorem ggL_law_X0_best : GoodIn wsL_law wsX0_best := goodIn_ca (goodIn_r _ [224, 51, 80, 81, 8, 82, 55, 56, 213, 214, 215, 216, 25, 36, 217, 218, 219, 220, 90, 91, 92, 93, 94, 95, 96, 97, 83, 84, 85, 86, 87, 88, 89, 70, 71, 72, 73, 74, 75, 261, 262, 263, 264, 265, 266, 267, 268, 269, 270, 271, 272, 273, 274, 275, 276] (by decide +kernel) (by decide +kernel)) (goodIn_sub (fun _ h => List.mem_append_left _ (List.mem_append_right _ h)) (by decide +kernel))
set_option maxRecDepth 20000 in
theorem gL_law_X0_best : GoodIn wsL_law (wsV RL 78 RX0 yX0_best wsX0_best) := goodIn_app (goodIn_of _ (by decide +kernel)) ggL_law_X0_best
set_option maxRecDepth 20000 in
theorem ggL_law_X0_place : GoodIn wsL_law wsX0_place := goodIn_ca (goodIn_ca (goodIn_r _ [79, 25, 61, 62, 63, 8, 64, 65, 66, 51, 80, 81, 82, 55, 56, 83, 84, 85, 86, 87, 88, 89, 90, 91, 92, 93, 94, 95, 96, 97, 70, 71, 72, 261, 262, 263, 264, 265, 266, 267, 268, 269, 270, 271, 272, 273, 274, 275, 276] (by decide +kernel) (by decide +kernel)) (goodIn_sub (fun _ h => List.mem_append_right _ h) (by decide +kernel))) (goodIn_sub (fun _ h => List.mem_append_left _ (List.mem_append_right _ h)) (by decide +kernel))
set_option maxRecDepth 20000 in
theorem gL_law_X0_place : GoodIn wsL_law (wsV RL 35 RX0 yX0_place wsX0_place) := goodIn_app (goodIn_of _ (by decide +kernel)) ggL_law_X0_place
set_option maxRecDepth 20000 in
theorem ggL_law_X0_pairs : GoodIn wsL_law wsX0_pairs := goodIn_ca (goodIn_r _ [228, 229, 10, 11, 12, 52, 53, 8, 54, 55, 56, 230, 231, 232, 233, 51, 22, 125, 126, 127, 128, 106, 28, 27, 26, 234, 235, 236, 119, 129, 130, 131, 132, 133, 134, 135, 136, 261, 262, 263, 264, 265, 266, 267, 268, 269, 270, 271, 272, 273, 274, 275, 276] (by decide +kernel) (by decide +kernel)) (goodIn_sub (fun _ h => List.mem_append_left _ (List.mem_append_right _ h)) (by decide +kernel))
set_option maxRecDepth 20000 in
theorem gL_law_X0_pairs : GoodIn wsL_law (wsV RL 82 RX0 yX0_pairs wsX0_pairs) := goodIn_app (goodIn_of _ (by decide +kernel)) ggL_law_X0_pairs
set_option maxRecDepth 20000 in
theorem ggL_law_X0_skin : GoodIn wsL_law wsX0_skin := goodIn_ca (goodIn_r _ [240, 61, 62, 63, 8, 64, 65, 66, 51, 156, 157, 158, 193, 194, 195, 196, 22, 23, 197, 198, 199, 200, 25, 70, 71, 72, 261, 262, 263, 264, 265, 266, 267, 268, 269, 270, 271, 272, 273, 274, 275, 276] (by decide +kernel) (by decide +kernel)) (goodIn_sub (fun _ h => List.mem_append_right _ h) (by decide +kernel))
set_option maxRecDepth 20000 in
theorem gL_law_X0_skin : GoodIn wsL_law (wsV RL 85 RX0 yX0_skin wsX0_skin) := goodIn_app (goodIn_of _ (by decide +kernel)) ggL_law_X0_skin
set_option maxRecDepth 20000 in
theorem ggL_law_X0_piece : GoodIn wsL_law wsX0_piece := goodIn_ca (goodIn_r _ [244, 65, 66, 106, 156, 157, 8, 158, 201, 202, 203, 204, 26, 27, 28, 29, 261, 262, 263, 264, 265, 266, 267, 268, 269, 270, 271, 272, 273, 274, 275, 276] (by decide +kernel) (by decide +kernel)) (goodIn_sub (fun _ h => List.mem_append_right _ h) (by decide +kernel))
set_option maxRecDepth 20000 in
theorem gL_law_X0_piece : GoodIn wsL_law (wsV RL 90 RX0 yX0_piece wsX0_piece) := goodIn_app (goodIn_of _ (by decide +kernel)) ggL_law_X0_piece
set_option maxRecDepth 20000 in
theorem ggL_law_L_cut : GoodIn wsL_law wsL_cut := goodIn_ca (goodIn_ca (goodIn_ca (goodIn_r _ [100, 101, 102, 103, 104, 8, 105, 49, 50, 25, 106, 26, 27, 28, 29, 23, 61, 62, 63, 64, 65, 66, 51, 67, 68, 69, 80, 81, 82, 55, 56, 86, 87, 88, 89, 90, 91, 92, 93, 94, 95, 96, 97, 70, 71, 72, 73, 74, 75, 261, 262, 263, 264, 265, 266, 267, 268, 269, 270, 271, 272, 273, 274, 275, 276] (by decide +kernel) (by decide +kernel)) (goodIn_sub (fun _ h => List.mem_append_left _ (List.mem_append_left _ (List.mem_append_right _ h))) (by decide +kernel))) (goodIn_sub (fun _ h => List.mem_append_right _ h) (by decide +kernel))) (goodIn_sub (fun _ h => List.mem_append_left _ (List.mem_append_right _ h)) (by decide +kernel))
set_option maxRecDepth 20000 in
theorem gL_law_L_cut : GoodIn wsL_law (va_wsS RL 39 yL_cut wsL_cut) := goodIn_app (goodIn_of _ (by decide +kernel)) ggL_law_L_cut
set_option maxRecDepth 20000 in
theorem ggL_law_X0_cell : GoodIn wsL_law wsX0_cell := goodIn_ca (goodIn_r _ [248, 25, 61, 62, 63, 8, 64, 65, 66, 51, 67, 68, 69, 261, 262, 263, 264, 265, 266, 267, 268, 269, 270, 271, 272, 273, 274, 275, 276] (by decide +kernel) (by decide +kernel)) (goodIn_sub (fun _ h => List.mem_append_right _ h) (by decide +kernel))
set_option maxRecDepth 20000 in
theorem gL_law_X0_cell : GoodIn wsL_law (wsV RL 93 RX0 yX0_cell wsX0_cell) := goodIn_app (goodIn_of _ (by decide +kernel)) ggL_law_X0_cell
set_option maxRecDepth 20000 in
theorem ggL_law_L_sew : GoodIn wsL_law wsL_sew := goodIn_ca (goodIn_ca (goodIn_r _ [109, 101, 110, 111, 112, 8, 113, 49, 50, 114, 52, 53, 54, 55, 56, 115, 116, 117, 118, 119, 120, 14, 11, 15, 121, 122, 123, 124, 51, 22, 125, 126, 127, 128, 106, 28, 27, 26, 129, 130, 131, 132, 133, 134, 135, 136, 137, 138, 139, 140, 30, 31, 33, 29, 32, 141, 142, 143, 144, 145, 146, 147, 148, 149, 150, 151, 261, 262, 263, 264, 265, 266, 267, 268, 269, 270, 271, 272, 273, 274, 275, 276] (by decide +kernel) (by decide +kernel)) (goodIn_sub (fun _ h => List.mem_append_left _ (List.mem_append_left _ (List.mem_append_right _ h))) (by decide +kernel))) (goodIn_sub (fun _ h => List.mem_append_left _ (List.mem_append_right _ h)) (by decide +kernel))
set_option maxRecDepth 20000 in
theorem gL_law_L_sew : GoodIn wsL_law (va_wsS RL 43 yL_sew wsL_sew) := goodIn_app (goodIn_of _ (by decide +kernel)) ggL_law_L_sew
set_option maxRecDepth 20000 in
theorem ggL_law_X0_pair : GoodIn wsL_law wsX0_pair := goodIn_ca (goodIn_r _ [252, 179, 180, 181, 8, 182, 65, 66, 114, 156, 157, 158, 205, 206, 207, 208, 30, 31, 32, 33, 35, 261, 262, 263, 264, 265, 266, 267, 268, 269, 270, 271, 272, 273, 274, 275, 276] (by decide +kernel) (by decide +kernel)) (goodIn_sub (fun _ h => List.mem_append_right _ h) (by decide +kernel))
set_option maxRecDepth 20000 in
theorem gL_law_X0_pair : GoodIn wsL_law (wsV RL 96 RX0 yX0_pair wsX0_pair) := goodIn_app (goodIn_of _ (by decide +kernel)) ggL_law_X0_pair
set_option maxRecDepth 20000 in
theorem ggL_law_L_rip : GoodIn wsL_law wsL_rip := goodIn_ca (goodIn_ca (goodIn_r _ [173, 101, 174, 175, 176, 177, 8, 178, 49, 50, 35, 106, 28, 27, 179, 180, 181, 182, 65, 66, 114, 261, 262, 263, 264, 265, 266, 267, 268, 269, 270, 271, 272, 273, 274, 275, 276] (by decide +kernel) (by decide +kernel)) (goodIn_sub (fun _ h => List.mem_append_left _ (List.mem_append_left _ (List.mem_append_right _ h))) (by decide +kernel))) (goodIn_sub (fun _ h => List.mem_append_right _ h) (by decide +kernel))
set_option maxRecDepth 20000 in
theorem gL_law_L_rip : GoodIn wsL_law (va_wsS RL 53 yL_rip wsL_rip) := goodIn_app (goodIn_of _ (by decide +kernel)) ggL_law_L_rip
set_option maxRecDepth 20000 in
theorem ggL_law_X0_share : GoodIn wsL_law wsX0_share := goodIn_r _ [256, 51, 197, 198, 199, 8, 200, 25, 70, 71, 72, 261, 262, 263, 264, 265, 266, 267, 268, 269, 270, 271, 272, 273, 274, 275, 276] (by decide +kernel) (by decide +kernel)
set_option maxRecDepth 20000 in
theorem gL_law_X0_share : GoodIn wsL_law (wsV RL 99 RX0 yX0_share wsX0_share) := goodIn_app (goodIn_of _ (by decide +kernel)) ggL_law_X0_share
set_option maxRecDepth 20000 in
theorem ggL_law_X0_lacks : GoodIn wsL_law wsX0_lacks := goodIn_ca (goodIn_r _ [260, 52, 53, 8, 54, 55, 56, 80, 81, 82, 115, 116, 117, 118, 119, 120, 14, 11, 15, 121, 122, 123, 124, 51, 22, 125, 126, 127, 128, 106, 28, 27, 26, 129, 130, 131, 132, 133, 134, 135, 136, 261, 262, 263, 264, 265, 266, 267, 268, 269, 270, 271, 272, 273, 274, 275, 276] (by decide +kernel) (by decide +kernel)) (goodIn_sub (fun _ h => List.mem_append_left _ (List.mem_append_right _ h)) (by decide +kernel))
set_option maxRecDepth 20000 in
theorem gL_law_X0_lacks : GoodIn wsL_law (wsV RL 103 RX0 yX0_lacks wsX0_lacks) := goodIn_app (goodIn_of _ (by decide +kernel)) ggL_law_X0_lacks
abbrev vwCl : List vw_C := [(RX0, TX0, 16)]
