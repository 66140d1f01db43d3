def RX0 : String := "BracketDesk$Elimination"
def TX0 : u_T := fun k => match k with
  | 0 => ("BracketDesk$Elimination", "columns", "[J", true)
  | 1 => ("BracketDesk$Elimination", "rows", "[[I", true)
  | 2 => ("BracketDesk$Elimination", "width", "I", false)
  | _ => ("BracketDesk$Elimination", "height", "I", false)
def tyX0 : Nat → FieldType := fun k => match k with
  | 0 => .array .long
  | 1 => .array (.array .int)
  | 2 => .int
  | _ => .int
theorem nmX0 : ∀ a, a < 4 → ∀ b, b < 4 → a ≠ b → (TX0 a).2.1 ≠ (TX0 b).2.1 := by decide +kernel
theorem tyX0_ok : ∀ k, k < 4 → parseFieldDescriptor (TX0 k).2.2.1 = some (tyX0 k) := by decide +kernel
abbrev cX0_init : ByteArray := prog_2_method_1_code
def yX0_init : MethodName := ⟨RX0, "<init>", "()V"⟩
abbrev cX0_begin : ByteArray := prog_2_method_2_code
def yX0_begin : MethodName := ⟨RX0, "begin", "()V"⟩
abbrev cX0_takeRow : ByteArray := prog_2_method_3_code
def yX0_takeRow : MethodName := ⟨RX0, "takeRow", "(LBracketDesk$Poly;)V"⟩
abbrev cX0_independentRows : ByteArray := prog_2_method_4_code
def yX0_independentRows : MethodName := ⟨RX0, "independentRows", "()I"⟩
abbrev cX0_bringUp : ByteArray := prog_2_method_5_code
def yX0_bringUp : MethodName := ⟨RX0, "bringUp", "(II)Z"⟩
abbrev cX0_clearColumn : ByteArray := prog_2_method_6_code
def yX0_clearColumn : MethodName := ⟨RX0, "clearColumn", "(III)V"⟩
abbrev cX0_columnOf : ByteArray := prog_2_method_7_code
def yX0_columnOf : MethodName := ⟨RX0, "columnOf", "(J)I"⟩
def RX1 : String := "BracketDesk$Factors"
def TX1 : u_T := fun k => match k with
  | 0 => ("BracketDesk$Factors", "multiple", "I", false)
  | 1 => ("BracketDesk$Factors", "letters", "[I", true)
  | 2 => ("BracketDesk$Factors", "row", "[I", true)
  | 3 => ("BracketDesk$Factors", "forms", "[J", true)
  | 4 => ("BracketDesk$Factors", "straight", "[I", true)
  | _ => ("BracketDesk$Factors", "asked", "[I", true)
def tyX1 : Nat → FieldType := fun k => match k with
  | 0 => .int
  | 1 => .array .int
  | 2 => .array .int
  | 3 => .array .long
  | 4 => .array .int
  | _ => .array .int
theorem nmX1 : ∀ a, a < 6 → ∀ b, b < 6 → a ≠ b → (TX1 a).2.1 ≠ (TX1 b).2.1 := by decide +kernel
theorem tyX1_ok : ∀ k, k < 6 → parseFieldDescriptor (TX1 k).2.2.1 = some (tyX1 k) := by decide +kernel
abbrev cX1_init : ByteArray := prog_3_method_1_code
def yX1_init : MethodName := ⟨RX1, "<init>", "()V"⟩
abbrev cX1_takeLetters : ByteArray := prog_3_method_2_code
def yX1_takeLetters : MethodName := ⟨RX1, "takeLetters", "(J)Z"⟩
abbrev cX1_letterOfRow : ByteArray := prog_3_method_3_code
def yX1_letterOfRow : MethodName := ⟨RX1, "letterOfRow", "(I)I"⟩
abbrev cX1_search : ByteArray := prog_3_method_4_code
def yX1_search : MethodName := ⟨RX1, "search", "(LBracketDesk$Poly;)Z"⟩
abbrev cX1_takeAsked : ByteArray := prog_3_method_5_code
def yX1_takeAsked : MethodName := ⟨RX1, "takeAsked", "(LBracketDesk$Poly;)Z"⟩
abbrev cX1_byPlaces : ByteArray := prog_3_method_6_code
def yX1_byPlaces : MethodName := ⟨RX1, "byPlaces", "(J)J"⟩
abbrev cX1_placeOf : ByteArray := prog_3_method_7_code
def yX1_placeOf : MethodName := ⟨RX1, "placeOf", "(I)I"⟩
abbrev cX1_formOf : ByteArray := prog_3_method_8_code
def yX1_formOf : MethodName := ⟨RX1, "formOf", "(J)I"⟩
abbrev cX1_keyOf : ByteArray := prog_3_method_9_code
def yX1_keyOf : MethodName := ⟨RX1, "keyOf", "(I)J"⟩
abbrev cX1_isMultiple : ByteArray := prog_3_method_10_code
def yX1_isMultiple : MethodName := ⟨RX1, "isMultiple", "()Z"⟩
abbrev cX1_signOf : ByteArray := prog_3_method_11_code
def yX1_signOf : MethodName := ⟨RX1, "signOf", "(III)I"⟩
abbrev cX1_besideFirst : ByteArray := prog_3_method_12_code
def yX1_besideFirst : MethodName := ⟨RX1, "besideFirst", "(III)I"⟩
abbrev cX1_nextRow : ByteArray := prog_3_method_13_code
def yX1_nextRow : MethodName := ⟨RX1, "nextRow", "()V"⟩
abbrev cX1_swap : ByteArray := prog_3_method_14_code
def yX1_swap : MethodName := ⟨RX1, "swap", "(II)V"⟩
def RX2 : String := "BracketDesk$Figures"
def TX2 : u_T := fun k => match k with
  | 0 => ("BracketDesk$Figures", "polys", "[LBracketDesk$Poly;", true)
  | 1 => ("BracketDesk$Figures", "stack", "[I", true)
  | 2 => ("BracketDesk$Figures", "top", "I", false)
  | 3 => ("BracketDesk$Figures", "spare", "I", false)
  | 4 => ("BracketDesk$Figures", "first", "LBracketDesk$Poly;", true)
  | 5 => ("BracketDesk$Figures", "second", "LBracketDesk$Poly;", true)
  | 6 => ("BracketDesk$Figures", "firstBracket", "LBracketDesk$Poly;", true)
  | 7 => ("BracketDesk$Figures", "secondBracket", "LBracketDesk$Poly;", true)
  | _ => ("BracketDesk$Figures", "term", "LBracketDesk$Term;", true)
def tyX2 : Nat → FieldType := fun k => match k with
  | 0 => .array (.object "BracketDesk$Poly")
  | 1 => .array .int
  | 2 => .int
  | 3 => .int
  | 4 => .object "BracketDesk$Poly"
  | 5 => .object "BracketDesk$Poly"
  | 6 => .object "BracketDesk$Poly"
  | 7 => .object "BracketDesk$Poly"
  | _ => .object "BracketDesk$Term"
theorem nmX2 : ∀ a, a < 9 → ∀ b, b < 9 → a ≠ b → (TX2 a).2.1 ≠ (TX2 b).2.1 := by decide +kernel
theorem tyX2_ok : ∀ k, k < 9 → parseFieldDescriptor (TX2 k).2.2.1 = some (tyX2 k) := by decide +kernel
abbrev cX2_init : ByteArray := prog_4_method_1_code
def yX2_init : MethodName := ⟨RX2, "<init>", "()V"⟩
abbrev cX2_begin : ByteArray := prog_4_method_2_code
def yX2_begin : MethodName := ⟨RX2, "begin", "()V"⟩
abbrev cX2_take : ByteArray := prog_4_method_3_code
def yX2_take : MethodName := ⟨RX2, "take", "(I)I"⟩
abbrev cX2_makeFigure : ByteArray := prog_4_method_4_code
def yX2_makeFigure : MethodName := ⟨RX2, "makeFigure", "(LBracketDesk$Poly;)I"⟩
abbrev cX2_empty : ByteArray := prog_4_method_5_code
def yX2_empty : MethodName := ⟨RX2, "empty", "(I)V"⟩
abbrev cX2_makeSpare : ByteArray := prog_4_method_6_code
def yX2_makeSpare : MethodName := ⟨RX2, "makeSpare", "(II)I"⟩
abbrev cX2_makeBracket : ByteArray := prog_4_method_7_code
def yX2_makeBracket : MethodName := ⟨RX2, "makeBracket", "(LBracketDesk$Poly;III)I"⟩
abbrev cX2_layTimesThree : ByteArray := prog_4_method_8_code
def yX2_layTimesThree : MethodName := ⟨RX2, "layTimesThree", "(LBracketDesk$Poly;LBracketDesk$Poly;LBracketDesk$Poly;LBracketDesk$Poly;)I"⟩
def RX3 : String := "BracketDesk$Forms"
def TX3 : u_T := fun k => match k with
  | 0 => ("BracketDesk$Forms", "unused", "[I", true)
  | 1 => ("BracketDesk$Forms", "cells", "[I", true)
  | 2 => ("BracketDesk$Forms", "size", "I", false)
  | 3 => ("BracketDesk$Forms", "wanted", "I", false)
  | _ => ("BracketDesk$Forms", "found", "I", false)
def tyX3 : Nat → FieldType := fun k => match k with
  | 0 => .array .int
  | 1 => .array .int
  | 2 => .int
  | 3 => .int
  | _ => .int
theorem nmX3 : ∀ a, a < 5 → ∀ b, b < 5 → a ≠ b → (TX3 a).2.1 ≠ (TX3 b).2.1 := by decide +kernel
theorem tyX3_ok : ∀ k, k < 5 → parseFieldDescriptor (TX3 k).2.2.1 = some (tyX3 k) := by decide +kernel
abbrev cX3_init : ByteArray := prog_5_method_1_code
def yX3_init : MethodName := ⟨RX3, "<init>", "()V"⟩
abbrev cX3_countAll : ByteArray := prog_5_method_2_code
def yX3_countAll : MethodName := ⟨RX3, "countAll", "(J)I"⟩
abbrev cX3_letterOf : ByteArray := prog_5_method_3_code
def yX3_letterOf : MethodName := ⟨RX3, "letterOf", "(JII)I"⟩
abbrev cX3_begin : ByteArray := prog_5_method_4_code
def yX3_begin : MethodName := ⟨RX3, "begin", "(JI)V"⟩
abbrev cX3_fill : ByteArray := prog_5_method_5_code
def yX3_fill : MethodName := ⟨RX3, "fill", "(I)Z"⟩
def RX4 : String := "BracketDesk$History"
def TX4 : u_T := fun k => match k with
  | 0 => ("BracketDesk$History", "size", "I", false)
  | 1 => ("BracketDesk$History", "kept", "[LBracketDesk$State;", true)
  | _ => ("BracketDesk$History", "next", "I", false)
def tyX4 : Nat → FieldType := fun k => match k with
  | 0 => .int
  | 1 => .array (.object "BracketDesk$State")
  | _ => .int
theorem nmX4 : ∀ a, a < 3 → ∀ b, b < 3 → a ≠ b → (TX4 a).2.1 ≠ (TX4 b).2.1 := by decide +kernel
theorem tyX4_ok : ∀ k, k < 3 → parseFieldDescriptor (TX4 k).2.2.1 = some (tyX4 k) := by decide +kernel
abbrev cX4_init : ByteArray := prog_6_method_1_code
def yX4_init : MethodName := ⟨RX4, "<init>", "()V"⟩
abbrev cX4_keep : ByteArray := prog_6_method_2_code
def yX4_keep : MethodName := ⟨RX4, "keep", "(LBracketDesk$State;)V"⟩
abbrev cX4_goBack : ByteArray := prog_6_method_3_code
def yX4_goBack : MethodName := ⟨RX4, "goBack", "(ILBracketDesk$State;)V"⟩
abbrev cX4_forget : ByteArray := prog_6_method_4_code
def yX4_forget : MethodName := ⟨RX4, "forget", "()V"⟩
def RX5 : String := "BracketDesk$Poly"
def TX5 : u_T := fun k => match k with
  | 0 => ("BracketDesk$Poly", "keys", "[J", true)
  | 1 => ("BracketDesk$Poly", "numbers", "[I", true)
  | _ => ("BracketDesk$Poly", "size", "I", false)
def tyX5 : Nat → FieldType := fun k => match k with
  | 0 => .array .long
  | 1 => .array .int
  | _ => .int
theorem nmX5 : ∀ a, a < 3 → ∀ b, b < 3 → a ≠ b → (TX5 a).2.1 ≠ (TX5 b).2.1 := by decide +kernel
theorem tyX5_ok : ∀ k, k < 3 → parseFieldDescriptor (TX5 k).2.2.1 = some (tyX5 k) := by decide +kernel
abbrev cX5_init : ByteArray := prog_7_method_1_code
def yX5_init : MethodName := ⟨RX5, "<init>", "()V"⟩
abbrev cX5_empty : ByteArray := prog_7_method_2_code
def yX5_empty : MethodName := ⟨RX5, "empty", "()V"⟩
abbrev cX5_take : ByteArray := prog_7_method_3_code
def yX5_take : MethodName := ⟨RX5, "take", "(LBracketDesk$Poly;)V"⟩
abbrev cX5_isLike : ByteArray := prog_7_method_4_code
def yX5_isLike : MethodName := ⟨RX5, "isLike", "(LBracketDesk$Poly;)Z"⟩
abbrev cX5_lay : ByteArray := prog_7_method_5_code
def yX5_lay : MethodName := ⟨RX5, "lay", "(JJ)I"⟩
abbrev cX5_laySum : ByteArray := prog_7_method_6_code
def yX5_laySum : MethodName := ⟨RX5, "laySum", "(LBracketDesk$Poly;I)I"⟩
abbrev cX5_layProduct : ByteArray := prog_7_method_7_code
def yX5_layProduct : MethodName := ⟨RX5, "layProduct", "(LBracketDesk$Poly;LBracketDesk$Poly;)I"⟩
abbrev cX5_layUpon : ByteArray := prog_7_method_8_code
def yX5_layUpon : MethodName := ⟨RX5, "layUpon", "(IJ)I"⟩
abbrev cX5_find : ByteArray := prog_7_method_9_code
def yX5_find : MethodName := ⟨RX5, "find", "(J)I"⟩
def RX6 : String := "BracketDesk$Rows"
def TX6 : u_T := fun k => match k with
  | _ => ("", "", "", false)
def tyX6 : Nat → FieldType := fun k => match k with
  | _ => .int
theorem nmX6 : ∀ a, a < 0 → ∀ b, b < 0 → a ≠ b → (TX6 a).2.1 ≠ (TX6 b).2.1 := by decide +kernel
theorem tyX6_ok : ∀ k, k < 0 → parseFieldDescriptor (TX6 k).2.2.1 = some (tyX6 k) := by decide +kernel
abbrev cX6_row : ByteArray := prog_8_method_2_code
def yX6_row : MethodName := ⟨RX6, "row", "(III)I"⟩
abbrev cX6_letter : ByteArray := prog_8_method_3_code
def yX6_letter : MethodName := ⟨RX6, "letter", "(II)I"⟩
abbrev cX6_ordered : ByteArray := prog_8_method_4_code
def yX6_ordered : MethodName := ⟨RX6, "ordered", "(I)I"⟩
abbrev cX6_indexOf : ByteArray := prog_8_method_5_code
def yX6_indexOf : MethodName := ⟨RX6, "indexOf", "(I)I"⟩
abbrev cX6_bracketAt : ByteArray := prog_8_method_6_code
def yX6_bracketAt : MethodName := ⟨RX6, "bracketAt", "(JI)I"⟩
abbrev cX6_bracketsIn : ByteArray := prog_8_method_7_code
def yX6_bracketsIn : MethodName := ⟨RX6, "bracketsIn", "(J)I"⟩
abbrev cX6_letterOfKey : ByteArray := prog_8_method_8_code
def yX6_letterOfKey : MethodName := ⟨RX6, "letterOfKey", "(JI)I"⟩
abbrev cX6_timesOf : ByteArray := prog_8_method_9_code
def yX6_timesOf : MethodName := ⟨RX6, "timesOf", "(JI)I"⟩
abbrev cX6_with : ByteArray := prog_8_method_10_code
def yX6_with : MethodName := ⟨RX6, "with", "(JI)J"⟩
abbrev cX6_withoutTwo : ByteArray := prog_8_method_11_code
def yX6_withoutTwo : MethodName := ⟨RX6, "withoutTwo", "(JI)J"⟩
abbrev cX6_joined : ByteArray := prog_8_method_12_code
def yX6_joined : MethodName := ⟨RX6, "joined", "(JJ)J"⟩
abbrev cX6_breakOf : ByteArray := prog_8_method_13_code
def yX6_breakOf : MethodName := ⟨RX6, "breakOf", "(J)I"⟩
abbrev cX6_bracketOfBreak : ByteArray := prog_8_method_14_code
def yX6_bracketOfBreak : MethodName := ⟨RX6, "bracketOfBreak", "(I)I"⟩
abbrev cX6_placeOfBreak : ByteArray := prog_8_method_15_code
def yX6_placeOfBreak : MethodName := ⟨RX6, "placeOfBreak", "(I)I"⟩
abbrev cX6_breakBetween : ByteArray := prog_8_method_16_code
def yX6_breakBetween : MethodName := ⟨RX6, "breakBetween", "(II)I"⟩
def RX7 : String := "BracketDesk$State"
def TX7 : u_T := fun k => match k with
  | 0 => ("BracketDesk$State", "shelves", "[LBracketDesk$Poly;", true)
  | 1 => ("BracketDesk$State", "places", "[I", true)
  | _ => ("BracketDesk$State", "facts", "[I", true)
def tyX7 : Nat → FieldType := fun k => match k with
  | 0 => .array (.object "BracketDesk$Poly")
  | 1 => .array .int
  | _ => .array .int
theorem nmX7 : ∀ a, a < 3 → ∀ b, b < 3 → a ≠ b → (TX7 a).2.1 ≠ (TX7 b).2.1 := by decide +kernel
theorem tyX7_ok : ∀ k, k < 3 → parseFieldDescriptor (TX7 k).2.2.1 = some (tyX7 k) := by decide +kernel
abbrev cX7_init : ByteArray := prog_9_method_1_code
def yX7_init : MethodName := ⟨RX7, "<init>", "()V"⟩
abbrev cX7_take : ByteArray := prog_9_method_2_code
def yX7_take : MethodName := ⟨RX7, "take", "(LBracketDesk$State;)V"⟩
abbrev cX7_allTerms : ByteArray := prog_9_method_3_code
def yX7_allTerms : MethodName := ⟨RX7, "allTerms", "()I"⟩
abbrev cX7_factOf : ByteArray := prog_9_method_4_code
def yX7_factOf : MethodName := ⟨RX7, "factOf", "(I)I"⟩
abbrev cX7_tellFact : ByteArray := prog_9_method_5_code
def yX7_tellFact : MethodName := ⟨RX7, "tellFact", "(II)V"⟩
abbrev cX7_factsThatAre : ByteArray := prog_9_method_6_code
def yX7_factsThatAre : MethodName := ⟨RX7, "factsThatAre", "(I)I"⟩
abbrev cX7_reduceTo : ByteArray := prog_9_method_7_code
def yX7_reduceTo : MethodName := ⟨RX7, "reduceTo", "(LBracketDesk$Poly;LBracketDesk$Poly;)V"⟩
abbrev cX7_cannotVanish : ByteArray := prog_9_method_8_code
def yX7_cannotVanish : MethodName := ⟨RX7, "cannotVanish", "(J)Z"⟩
abbrev cX7_bracketsThatAre : ByteArray := prog_9_method_9_code
def yX7_bracketsThatAre : MethodName := ⟨RX7, "bracketsThatAre", "(JI)I"⟩
abbrev cX7_determinant : ByteArray := prog_9_method_10_code
def yX7_determinant : MethodName := ⟨RX7, "determinant", "(III)I"⟩
abbrev cX7_bracketsWorthZero : ByteArray := prog_9_method_11_code
def yX7_bracketsWorthZero : MethodName := ⟨RX7, "bracketsWorthZero", "()I"⟩
abbrev cX7_worthOf : ByteArray := prog_9_method_12_code
def yX7_worthOf : MethodName := ⟨RX7, "worthOf", "(LBracketDesk$Poly;)J"⟩
abbrev cX7_isTooGreat : ByteArray := prog_9_method_13_code
def yX7_isTooGreat : MethodName := ⟨RX7, "isTooGreat", "(JI)Z"⟩
def RX8 : String := "BracketDesk$Straightener"
def TX8 : u_T := fun k => match k with
  | 0 => ("BracketDesk$Straightener", "steps", "I", false)
  | _ => ("BracketDesk$Straightener", "term", "LBracketDesk$Term;", true)
def tyX8 : Nat → FieldType := fun k => match k with
  | 0 => .int
  | _ => .object "BracketDesk$Term"
theorem nmX8 : ∀ a, a < 2 → ∀ b, b < 2 → a ≠ b → (TX8 a).2.1 ≠ (TX8 b).2.1 := by decide +kernel
theorem tyX8_ok : ∀ k, k < 2 → parseFieldDescriptor (TX8 k).2.2.1 = some (tyX8 k) := by decide +kernel
abbrev cX8_init : ByteArray := prog_10_method_1_code
def yX8_init : MethodName := ⟨RX8, "<init>", "()V"⟩
abbrev cX8_straighten : ByteArray := prog_10_method_2_code
def yX8_straighten : MethodName := ⟨RX8, "straighten", "(LBracketDesk$Poly;LBracketDesk$Poly;)I"⟩
abbrev cX8_layExchange : ByteArray := prog_10_method_3_code
def yX8_layExchange : MethodName := ⟨RX8, "layExchange", "(LBracketDesk$Poly;IIIJJ)I"⟩
abbrev cX8_attachWay : ByteArray := prog_10_method_4_code
def yX8_attachWay : MethodName := ⟨RX8, "attachWay", "(IIIII)I"⟩
abbrev cX8_lastBroken : ByteArray := prog_10_method_5_code
def yX8_lastBroken : MethodName := ⟨RX8, "lastBroken", "(LBracketDesk$Poly;I)I"⟩
def RX9 : String := "BracketDesk$Tape"
def TX9 : u_T := fun k => match k with
  | 0 => ("BracketDesk$Tape", "bytes", "[I", true)
  | 1 => ("BracketDesk$Tape", "size", "I", false)
  | 2 => ("BracketDesk$Tape", "fault", "I", false)
  | 3 => ("BracketDesk$Tape", "faultPlace", "I", false)
  | 4 => ("BracketDesk$Tape", "due", "[I", true)
  | _ => ("BracketDesk$Tape", "term", "LBracketDesk$Term;", true)
def tyX9 : Nat → FieldType := fun k => match k with
  | 0 => .array .int
  | 1 => .int
  | 2 => .int
  | 3 => .int
  | 4 => .array .int
  | _ => .object "BracketDesk$Term"
theorem nmX9 : ∀ a, a < 6 → ∀ b, b < 6 → a ≠ b → (TX9 a).2.1 ≠ (TX9 b).2.1 := by decide +kernel
theorem tyX9_ok : ∀ k, k < 6 → parseFieldDescriptor (TX9 k).2.2.1 = some (tyX9 k) := by decide +kernel
abbrev cX9_init : ByteArray := prog_11_method_1_code
def yX9_init : MethodName := ⟨RX9, "<init>", "()V"⟩
abbrev cX9_take : ByteArray := prog_11_method_2_code
def yX9_take : MethodName := ⟨RX9, "take", "(I)V"⟩
abbrev cX9_isLetterByte : ByteArray := prog_11_method_3_code
def yX9_isLetterByte : MethodName := ⟨RX9, "isLetterByte", "(I)Z"⟩
abbrev cX9_isSign : ByteArray := prog_11_method_4_code
def yX9_isSign : MethodName := ⟨RX9, "isSign", "(I)Z"⟩
abbrev cX9_isDigit : ByteArray := prog_11_method_5_code
def yX9_isDigit : MethodName := ⟨RX9, "isDigit", "(I)Z"⟩
abbrev cX9_note : ByteArray := prog_11_method_6_code
def yX9_note : MethodName := ⟨RX9, "note", "(II)Z"⟩
abbrev cX9_tellsPolynomial : ByteArray := prog_11_method_7_code
def yX9_tellsPolynomial : MethodName := ⟨RX9, "tellsPolynomial", "(I)Z"⟩
abbrev cX9_behind : ByteArray := prog_11_method_8_code
def yX9_behind : MethodName := ⟨RX9, "behind", "(II)I"⟩
abbrev cX9_readPolynomial : ByteArray := prog_11_method_9_code
def yX9_readPolynomial : MethodName := ⟨RX9, "readPolynomial", "(ILBracketDesk$Poly;)I"⟩
abbrev cX9_layRead : ByteArray := prog_11_method_10_code
def yX9_layRead : MethodName := ⟨RX9, "layRead", "(LBracketDesk$Poly;II)I"⟩
abbrev cX9_tellsFigure : ByteArray := prog_11_method_11_code
def yX9_tellsFigure : MethodName := ⟨RX9, "tellsFigure", "(I)Z"⟩
abbrev cX9_isPointDue : ByteArray := prog_11_method_12_code
def yX9_isPointDue : MethodName := ⟨RX9, "isPointDue", "(I)Z"⟩
def RX10 : String := "BracketDesk$Term"
def TX10 : u_T := fun k => match k with
  | 0 => ("BracketDesk$Term", "key", "J", false)
  | _ => ("BracketDesk$Term", "sign", "I", false)
def tyX10 : Nat → FieldType := fun k => match k with
  | 0 => .long
  | _ => .int
theorem nmX10 : ∀ a, a < 2 → ∀ b, b < 2 → a ≠ b → (TX10 a).2.1 ≠ (TX10 b).2.1 := by decide +kernel
theorem tyX10_ok : ∀ k, k < 2 → parseFieldDescriptor (TX10 k).2.2.1 = some (tyX10 k) := by decide +kernel
abbrev cX10_init : ByteArray := prog_12_method_1_code
def yX10_init : MethodName := ⟨RX10, "<init>", "()V"⟩
abbrev cX10_begin : ByteArray := prog_12_method_2_code
def yX10_begin : MethodName := ⟨RX10, "begin", "(J)V"⟩
abbrev cX10_attach : ByteArray := prog_12_method_3_code
def yX10_attach : MethodName := ⟨RX10, "attach", "(I)V"⟩
abbrev cX10_rename : ByteArray := prog_12_method_4_code
def yX10_rename : MethodName := ⟨RX10, "rename", "(JIIZ)V"⟩
abbrev cX10_renamed : ByteArray := prog_12_method_5_code
def yX10_renamed : MethodName := ⟨RX10, "renamed", "(IIIZ)I"⟩
def RX11 : String := "BracketDesk"
def TX11 : u_T := fun k => match k with
  | 0 => ("BracketDesk", "now", "LBracketDesk$State;", true)
  | 1 => ("BracketDesk", "history", "LBracketDesk$History;", true)
  | 2 => ("BracketDesk", "images", "[LBracketDesk$State;", true)
  | 3 => ("BracketDesk", "made", "[Z", true)
  | 4 => ("BracketDesk", "tape", "LBracketDesk$Tape;", true)
  | 5 => ("BracketDesk", "straightener", "LBracketDesk$Straightener;", true)
  | 6 => ("BracketDesk", "figures", "LBracketDesk$Figures;", true)
  | 7 => ("BracketDesk", "forms", "LBracketDesk$Forms;", true)
  | 8 => ("BracketDesk", "elimination", "LBracketDesk$Elimination;", true)
  | 9 => ("BracketDesk", "factors", "LBracketDesk$Factors;", true)
  | 10 => ("BracketDesk", "term", "LBracketDesk$Term;", true)
  | 11 => ("BracketDesk", "work", "LBracketDesk$Poly;", true)
  | 12 => ("BracketDesk", "other", "LBracketDesk$Poly;", true)
  | _ => ("BracketDesk", "why", "I", false)
def tyX11 : Nat → FieldType := fun k => match k with
  | 0 => .object "BracketDesk$State"
  | 1 => .object "BracketDesk$History"
  | 2 => .array (.object "BracketDesk$State")
  | 3 => .array .boolean
  | 4 => .object "BracketDesk$Tape"
  | 5 => .object "BracketDesk$Straightener"
  | 6 => .object "BracketDesk$Figures"
  | 7 => .object "BracketDesk$Forms"
  | 8 => .object "BracketDesk$Elimination"
  | 9 => .object "BracketDesk$Factors"
  | 10 => .object "BracketDesk$Term"
  | 11 => .object "BracketDesk$Poly"
  | 12 => .object "BracketDesk$Poly"
  | _ => .int
theorem nmX11 : ∀ a, a < 14 → ∀ b, b < 14 → a ≠ b → (TX11 a).2.1 ≠ (TX11 b).2.1 := by decide +kernel
theorem tyX11_ok : ∀ k, k < 14 → parseFieldDescriptor (TX11 k).2.2.1 = some (tyX11 k) := by decide +kernel
abbrev cX11_init : ByteArray := prog_1_method_1_code
def yX11_init : MethodName := ⟨RX11, "<init>", "()V"⟩
abbrev cX11_feed : ByteArray := prog_1_method_2_code
def yX11_feed : MethodName := ⟨RX11, "feed", "(IIIII)I"⟩
abbrev cX11_told : ByteArray := prog_1_method_3_code
def yX11_told : MethodName := ⟨RX11, "told", "(II)I"⟩
abbrev cX11_figure : ByteArray := prog_1_method_4_code
def yX11_figure : MethodName := ⟨RX11, "figure", "(II)I"⟩
abbrev cX11_fault : ByteArray := prog_1_method_5_code
def yX11_fault : MethodName := ⟨RX11, "fault", "(I)I"⟩
abbrev cX11_why : ByteArray := prog_1_method_6_code
def yX11_why : MethodName := ⟨RX11, "why", "()I"⟩
abbrev cX11_clear : ByteArray := prog_1_method_7_code
def yX11_clear : MethodName := ⟨RX11, "clear", "(I)I"⟩
abbrev cX11_copy : ByteArray := prog_1_method_8_code
def yX11_copy : MethodName := ⟨RX11, "copy", "(II)I"⟩
abbrev cX11_bracket : ByteArray := prog_1_method_9_code
def yX11_bracket : MethodName := ⟨RX11, "bracket", "(IIII)I"⟩
abbrev cX11_exchange : ByteArray := prog_1_method_10_code
def yX11_exchange : MethodName := ⟨RX11, "exchange", "(IIII)I"⟩
abbrev cX11_add : ByteArray := prog_1_method_11_code
def yX11_add : MethodName := ⟨RX11, "add", "(IIIII)I"⟩
abbrev cX11_times : ByteArray := prog_1_method_12_code
def yX11_times : MethodName := ⟨RX11, "times", "(III)I"⟩
abbrev cX11_put : ByteArray := prog_1_method_13_code
def yX11_put : MethodName := ⟨RX11, "put", "(IIII)I"⟩
abbrev cX11_turn : ByteArray := prog_1_method_14_code
def yX11_turn : MethodName := ⟨RX11, "turn", "(IIII)I"⟩
abbrev cX11_straight : ByteArray := prog_1_method_15_code
def yX11_straight : MethodName := ⟨RX11, "straight", "(II)I"⟩
abbrev cX11_reduce : ByteArray := prog_1_method_16_code
def yX11_reduce : MethodName := ⟨RX11, "reduce", "(II)I"⟩
abbrev cX11_fact : ByteArray := prog_1_method_17_code
def yX11_fact : MethodName := ⟨RX11, "fact", "(IIII)I"⟩
abbrev cX11_place : ByteArray := prog_1_method_18_code
def yX11_place : MethodName := ⟨RX11, "place", "(IIII)I"⟩
abbrev cX11_terms : ByteArray := prog_1_method_19_code
def yX11_terms : MethodName := ⟨RX11, "terms", "(I)I"⟩
abbrev cX11_term : ByteArray := prog_1_method_20_code
def yX11_term : MethodName := ⟨RX11, "term", "(III)I"⟩
abbrev cX11_degree : ByteArray := prog_1_method_21_code
def yX11_degree : MethodName := ⟨RX11, "degree", "(II)I"⟩
abbrev cX11_steps : ByteArray := prog_1_method_22_code
def yX11_steps : MethodName := ⟨RX11, "steps", "(I)I"⟩
abbrev cX11_left : ByteArray := prog_1_method_23_code
def yX11_left : MethodName := ⟨RX11, "left", "(I)I"⟩
abbrev cX11_equal : ByteArray := prog_1_method_24_code
def yX11_equal : MethodName := ⟨RX11, "equal", "(II)I"⟩
abbrev cX11_forms : ByteArray := prog_1_method_25_code
def yX11_forms : MethodName := ⟨RX11, "forms", "(I)I"⟩
abbrev cX11_form : ByteArray := prog_1_method_26_code
def yX11_form : MethodName := ⟨RX11, "form", "(III)I"⟩
abbrev cX11_rank : ByteArray := prog_1_method_27_code
def yX11_rank : MethodName := ⟨RX11, "rank", "(I)I"⟩
abbrev cX11_factor : ByteArray := prog_1_method_28_code
def yX11_factor : MethodName := ⟨RX11, "factor", "(II)I"⟩
abbrev cX11_isFinal : ByteArray := prog_1_method_29_code
def yX11_isFinal : MethodName := ⟨RX11, "isFinal", "(I)I"⟩
abbrev cX11_known : ByteArray := prog_1_method_30_code
def yX11_known : MethodName := ⟨RX11, "known", "(III)I"⟩
abbrev cX11_at : ByteArray := prog_1_method_31_code
def yX11_at : MethodName := ⟨RX11, "at", "(II)I"⟩
abbrev cX11_worth : ByteArray := prog_1_method_32_code
def yX11_worth : MethodName := ⟨RX11, "worth", "(III)I"⟩
abbrev cX11_value : ByteArray := prog_1_method_33_code
def yX11_value : MethodName := ⟨RX11, "value", "(I)J"⟩
abbrev cX11_undo : ByteArray := prog_1_method_34_code
def yX11_undo : MethodName := ⟨RX11, "undo", "(I)I"⟩
abbrev cX11_image : ByteArray := prog_1_method_35_code
def yX11_image : MethodName := ⟨RX11, "image", "(I)I"⟩
abbrev cX11_restore : ByteArray := prog_1_method_36_code
def yX11_restore : MethodName := ⟨RX11, "restore", "(I)I"⟩
abbrev cX11_count : ByteArray := prog_1_method_37_code
def yX11_count : MethodName := ⟨RX11, "count", "(I)I"⟩
abbrev cX11_isShelf : ByteArray := prog_1_method_38_code
def yX11_isShelf : MethodName := ⟨RX11, "isShelf", "(I)Z"⟩
abbrev cX11_isLetter : ByteArray := prog_1_method_39_code
def yX11_isLetter : MethodName := ⟨RX11, "isLetter", "(I)Z"⟩
abbrev cX11_areLetters : ByteArray := prog_1_method_40_code
def yX11_areLetters : MethodName := ⟨RX11, "areLetters", "(III)Z"⟩
abbrev cX11_isNear : ByteArray := prog_1_method_41_code
def yX11_isNear : MethodName := ⟨RX11, "isNear", "(I)Z"⟩
abbrev cX11_rowOfDigits : ByteArray := prog_1_method_42_code
def yX11_rowOfDigits : MethodName := ⟨RX11, "rowOfDigits", "(I)I"⟩
abbrev cX11_askedOfTape : ByteArray := prog_1_method_43_code
def yX11_askedOfTape : MethodName := ⟨RX11, "askedOfTape", "(II)I"⟩
abbrev cX11_badText : ByteArray := prog_1_method_44_code
def yX11_badText : MethodName := ⟨RX11, "badText", "()I"⟩
abbrev cX11_keepText : ByteArray := prog_1_method_45_code
def yX11_keepText : MethodName := ⟨RX11, "keepText", "(II)I"⟩
abbrev cX11_keep : ByteArray := prog_1_method_46_code
def yX11_keep : MethodName := ⟨RX11, "keep", "(II)I"⟩
abbrev cX11_refused : ByteArray := prog_1_method_47_code
def yX11_refused : MethodName := ⟨RX11, "refused", "(I)I"⟩
abbrev cX11_rename : ByteArray := prog_1_method_48_code
def yX11_rename : MethodName := ⟨RX11, "rename", "(LBracketDesk$Poly;IIZ)I"⟩
def RX12 : String := "BracketDeskModel"
def TX12 : u_T := fun k => match k with
  | 0 => ("BracketDeskModel", "thrown", "I", false)
  | 1 => ("BracketDeskModel", "rankOf", "[I", true)
  | 2 => ("BracketDeskModel", "letterOf", "[I", true)
  | 3 => ("BracketDeskModel", "state", "[I", true)
  | 4 => ("BracketDeskModel", "deeds", "[I", true)
  | 5 => ("BracketDeskModel", "deedMany", "I", false)
  | 6 => ("BracketDeskModel", "hasImage", "[Z", true)
  | 7 => ("BracketDeskModel", "pool", "[I", true)
  | 8 => ("BracketDeskModel", "bad", "I", false)
  | 9 => ("BracketDeskModel", "ranks", "[I", true)
  | 10 => ("BracketDeskModel", "rowX", "[I", true)
  | 11 => ("BracketDeskModel", "rowY", "[I", true)
  | 12 => ("BracketDeskModel", "four", "[I", true)
  | 13 => ("BracketDeskModel", "newX", "[I", true)
  | 14 => ("BracketDeskModel", "newY", "[I", true)
  | 15 => ("BracketDeskModel", "kept", "[I", true)
  | 16 => ("BracketDeskModel", "why", "I", false)
  | 17 => ("BracketDeskModel", "row", "[I", true)
  | 18 => ("BracketDeskModel", "tape", "[B", true)
  | 19 => ("BracketDeskModel", "taped", "I", false)
  | 20 => ("BracketDeskModel", "size", "I", false)
  | 21 => ("BracketDeskModel", "spot", "I", false)
  | 22 => ("BracketDeskModel", "wrong", "I", false)
  | 23 => ("BracketDeskModel", "wrongAt", "I", false)
  | 24 => ("BracketDeskModel", "stepMany", "I", false)
  | 25 => ("BracketDeskModel", "counts", "[I", true)
  | 26 => ("BracketDeskModel", "formRank", "[I", true)
  | 27 => ("BracketDeskModel", "formsLeft", "I", false)
  | 28 => ("BracketDeskModel", "formRows", "I", false)
  | 29 => ("BracketDeskModel", "formsFound", "I", false)
  | 30 => ("BracketDeskModel", "keys", "[I", true)
  | 31 => ("BracketDeskModel", "matrix", "[J", true)
  | 32 => ("BracketDeskModel", "keyMany", "I", false)
  | 33 => ("BracketDeskModel", "six", "[I", true)
  | 34 => ("BracketDeskModel", "taken", "[I", true)
  | _ => ("BracketDeskModel", "found", "[I", true)
def tyX12 : Nat → FieldType := fun k => match k with
  | 0 => .int
  | 1 => .array .int
  | 2 => .array .int
  | 3 => .array .int
  | 4 => .array .int
  | 5 => .int
  | 6 => .array .boolean
  | 7 => .array .int
  | 8 => .int
  | 9 => .array .int
  | 10 => .array .int
  | 11 => .array .int
  | 12 => .array .int
  | 13 => .array .int
  | 14 => .array .int
  | 15 => .array .int
  | 16 => .int
  | 17 => .array .int
  | 18 => .array .byte
  | 19 => .int
  | 20 => .int
  | 21 => .int
  | 22 => .int
  | 23 => .int
  | 24 => .int
  | 25 => .array .int
  | 26 => .array .int
  | 27 => .int
  | 28 => .int
  | 29 => .int
  | 30 => .array .int
  | 31 => .array .long
  | 32 => .int
  | 33 => .array .int
  | 34 => .array .int
  | _ => .array .int
theorem nmX12 : ∀ a, a < 36 → ∀ b, b < 36 → a ≠ b → (TX12 a).2.1 ≠ (TX12 b).2.1 := by decide +kernel
theorem tyX12_ok : ∀ k, k < 36 → parseFieldDescriptor (TX12 k).2.2.1 = some (tyX12 k) := by decide +kernel
abbrev cX12_within : ByteArray := prog_14_method_2_code
def yX12_within : MethodName := ⟨RX12, "within", "(JJJ)Z"⟩
abbrev cX12_init : ByteArray := prog_14_method_3_code
def yX12_init : MethodName := ⟨RX12, "<init>", "()V"⟩
abbrev cX12_ranks : ByteArray := prog_14_method_4_code
def yX12_ranks : MethodName := ⟨RX12, "ranks", "(IIII)V"⟩
abbrev cX12_isLetter : ByteArray := prog_14_method_5_code
def yX12_isLetter : MethodName := ⟨RX12, "isLetter", "(I)Z"⟩
abbrev cX12_sizeOf : ByteArray := prog_14_method_6_code
def yX12_sizeOf : MethodName := ⟨RX12, "sizeOf", "(I)I"⟩
abbrev cX12_copies : ByteArray := prog_14_method_7_code
def yX12_copies : MethodName := ⟨RX12, "copies", "([II[III)V"⟩
abbrev cX12_notes : ByteArray := prog_14_method_8_code
def yX12_notes : MethodName := ⟨RX12, "notes", "()V"⟩
abbrev cX12_begins : ByteArray := prog_14_method_9_code
def yX12_begins : MethodName := ⟨RX12, "begins", "()V"⟩
abbrev cX12_empties : ByteArray := prog_14_method_10_code
def yX12_empties : MethodName := ⟨RX12, "empties", "(I)V"⟩
abbrev cX12_many : ByteArray := prog_14_method_11_code
def yX12_many : MethodName := ⟨RX12, "many", "(I)I"⟩
abbrev cX12_key : ByteArray := prog_14_method_12_code
def yX12_key : MethodName := ⟨RX12, "key", "(II)I"⟩
abbrev cX12_number : ByteArray := prog_14_method_13_code
def yX12_number : MethodName := ⟨RX12, "number", "(II)I"⟩
abbrev cX12_takes : ByteArray := prog_14_method_14_code
def yX12_takes : MethodName := ⟨RX12, "takes", "(II)V"⟩
abbrev cX12_copiesRow : ByteArray := prog_14_method_15_code
def yX12_copiesRow : MethodName := ⟨RX12, "copiesRow", "(II)V"⟩
abbrev cX12_fails : ByteArray := prog_14_method_16_code
def yX12_fails : MethodName := ⟨RX12, "fails", "(I)Z"⟩
abbrev cX12_isInt : ByteArray := prog_14_method_17_code
def yX12_isInt : MethodName := ⟨RX12, "isInt", "(J)Z"⟩
abbrev cX12_placeOf : ByteArray := prog_14_method_18_code
def yX12_placeOf : MethodName := ⟨RX12, "placeOf", "(II)I"⟩
abbrev cX12_puts : ByteArray := prog_14_method_19_code
def yX12_puts : MethodName := ⟨RX12, "puts", "(IIJ)Z"⟩
abbrev cX12_rankIn : ByteArray := prog_14_method_20_code
def yX12_rankIn : MethodName := ⟨RX12, "rankIn", "(II)I"⟩
abbrev cX12_degreeOf : ByteArray := prog_14_method_21_code
def yX12_degreeOf : MethodName := ⟨RX12, "degreeOf", "(I)I"⟩
abbrev cX12_keyOf : ByteArray := prog_14_method_22_code
def yX12_keyOf : MethodName := ⟨RX12, "keyOf", "(I)I"⟩
abbrev cX12_keyTimes : ByteArray := prog_14_method_23_code
def yX12_keyTimes : MethodName := ⟨RX12, "keyTimes", "(II)I"⟩
abbrev cX12_multiplies : ByteArray := prog_14_method_24_code
def yX12_multiplies : MethodName := ⟨RX12, "multiplies", "(IIII)V"⟩
abbrev cX12_isBroken : ByteArray := prog_14_method_25_code
def yX12_isBroken : MethodName := ⟨RX12, "isBroken", "(II)Z"⟩
abbrev cX12_breakOf : ByteArray := prog_14_method_26_code
def yX12_breakOf : MethodName := ⟨RX12, "breakOf", "(II)I"⟩
abbrev cX12_brokenIn : ByteArray := prog_14_method_27_code
def yX12_brokenIn : MethodName := ⟨RX12, "brokenIn", "(I)I"⟩
abbrev cX12_exchanges : ByteArray := prog_14_method_28_code
def yX12_exchanges : MethodName := ⟨RX12, "exchanges", "(IIJI)V"⟩
abbrev cX12_layWay : ByteArray := prog_14_method_29_code
def yX12_layWay : MethodName := ⟨RX12, "layWay", "(II)I"⟩
abbrev cX12_lastBroken : ByteArray := prog_14_method_30_code
def yX12_lastBroken : MethodName := ⟨RX12, "lastBroken", "(I)I"⟩
abbrev cX12_steps : ByteArray := prog_14_method_31_code
def yX12_steps : MethodName := ⟨RX12, "steps", "(II)V"⟩
abbrev cX12_straightens : ByteArray := prog_14_method_32_code
def yX12_straightens : MethodName := ⟨RX12, "straightens", "(I)I"⟩
abbrev cX12_areAlike : ByteArray := prog_14_method_33_code
def yX12_areAlike : MethodName := ⟨RX12, "areAlike", "(II)Z"⟩
abbrev cX12_isShelf : ByteArray := prog_14_method_34_code
def yX12_isShelf : MethodName := ⟨RX12, "isShelf", "(I)Z"⟩
abbrev cX12_codeOf : ByteArray := prog_14_method_35_code
def yX12_codeOf : MethodName := ⟨RX12, "codeOf", "(I)I"⟩
abbrev cX12_ends : ByteArray := prog_14_method_36_code
def yX12_ends : MethodName := ⟨RX12, "ends", "(I)I"⟩
abbrev cX12_becomes : ByteArray := prog_14_method_37_code
def yX12_becomes : MethodName := ⟨RX12, "becomes", "(I)I"⟩
abbrev cX12_refused : ByteArray := prog_14_method_38_code
def yX12_refused : MethodName := ⟨RX12, "refused", "(I)I"⟩
abbrev cX12_why : ByteArray := prog_14_method_39_code
def yX12_why : MethodName := ⟨RX12, "why", "()I"⟩
abbrev cX12_clear : ByteArray := prog_14_method_40_code
def yX12_clear : MethodName := ⟨RX12, "clear", "(I)I"⟩
abbrev cX12_copy : ByteArray := prog_14_method_41_code
def yX12_copy : MethodName := ⟨RX12, "copy", "(II)I"⟩
abbrev cX12_putsBracket : ByteArray := prog_14_method_42_code
def yX12_putsBracket : MethodName := ⟨RX12, "putsBracket", "(IIII)V"⟩
abbrev cX12_bracket : ByteArray := prog_14_method_43_code
def yX12_bracket : MethodName := ⟨RX12, "bracket", "(IIII)I"⟩
abbrev cX12_exchange : ByteArray := prog_14_method_44_code
def yX12_exchange : MethodName := ⟨RX12, "exchange", "(IIII)I"⟩
abbrev cX12_putsTimes : ByteArray := prog_14_method_45_code
def yX12_putsTimes : MethodName := ⟨RX12, "putsTimes", "(II)V"⟩
abbrev cX12_add : ByteArray := prog_14_method_46_code
def yX12_add : MethodName := ⟨RX12, "add", "(IIIII)I"⟩
abbrev cX12_times : ByteArray := prog_14_method_47_code
def yX12_times : MethodName := ⟨RX12, "times", "(III)I"⟩
abbrev cX12_putsOther : ByteArray := prog_14_method_48_code
def yX12_putsOther : MethodName := ⟨RX12, "putsOther", "(II[I)V"⟩
abbrev cX12_puts_ : ByteArray := prog_14_method_49_code
def yX12_puts_ : MethodName := ⟨RX12, "puts", "(IIIIZ)I"⟩
abbrev cX12_put : ByteArray := prog_14_method_50_code
def yX12_put : MethodName := ⟨RX12, "put", "(IIII)I"⟩
abbrev cX12_turn : ByteArray := prog_14_method_51_code
def yX12_turn : MethodName := ⟨RX12, "turn", "(IIII)I"⟩
abbrev cX12_straight : ByteArray := prog_14_method_52_code
def yX12_straight : MethodName := ⟨RX12, "straight", "(II)I"⟩
abbrev cX12_factOf : ByteArray := prog_14_method_53_code
def yX12_factOf : MethodName := ⟨RX12, "factOf", "(I)I"⟩
abbrev cX12_reduces : ByteArray := prog_14_method_54_code
def yX12_reduces : MethodName := ⟨RX12, "reduces", "(I)V"⟩
abbrev cX12_reduce : ByteArray := prog_14_method_55_code
def yX12_reduce : MethodName := ⟨RX12, "reduce", "(II)I"⟩
abbrev cX12_fact : ByteArray := prog_14_method_56_code
def yX12_fact : MethodName := ⟨RX12, "fact", "(IIII)I"⟩
abbrev cX12_place : ByteArray := prog_14_method_57_code
def yX12_place : MethodName := ⟨RX12, "place", "(IIII)I"⟩
abbrev cX12_feed : ByteArray := prog_14_method_58_code
def yX12_feed : MethodName := ⟨RX12, "feed", "(IIIII)I"⟩
abbrev cX12_see : ByteArray := prog_14_method_59_code
def yX12_see : MethodName := ⟨RX12, "see", "()I"⟩
abbrev cX12_wrongs : ByteArray := prog_14_method_60_code
def yX12_wrongs : MethodName := ⟨RX12, "wrongs", "(II)V"⟩
abbrev cX12_isDigit : ByteArray := prog_14_method_61_code
def yX12_isDigit : MethodName := ⟨RX12, "isDigit", "()Z"⟩
abbrev cX12_seesLetter : ByteArray := prog_14_method_62_code
def yX12_seesLetter : MethodName := ⟨RX12, "seesLetter", "()Z"⟩
abbrev cX12_must : ByteArray := prog_14_method_63_code
def yX12_must : MethodName := ⟨RX12, "must", "(Z)V"⟩
abbrev cX12_letterAt : ByteArray := prog_14_method_64_code
def yX12_letterAt : MethodName := ⟨RX12, "letterAt", "(I)I"⟩
abbrev cX12_term : ByteArray := prog_14_method_65_code
def yX12_term : MethodName := ⟨RX12, "term", "(IZ)V"⟩
abbrev cX12_polynomial : ByteArray := prog_14_method_66_code
def yX12_polynomial : MethodName := ⟨RX12, "polynomial", "(Z)V"⟩
abbrev cX12_opensText : ByteArray := prog_14_method_67_code
def yX12_opensText : MethodName := ⟨RX12, "opensText", "(II)I"⟩
abbrev cX12_told : ByteArray := prog_14_method_68_code
def yX12_told : MethodName := ⟨RX12, "told", "(II)I"⟩
abbrev cX12_fault : ByteArray := prog_14_method_69_code
def yX12_fault : MethodName := ⟨RX12, "fault", "(I)I"⟩
abbrev cX12_figureText : ByteArray := prog_14_method_70_code
def yX12_figureText : MethodName := ⟨RX12, "figureText", "()V"⟩
abbrev cX12_pointText : ByteArray := prog_14_method_71_code
def yX12_pointText : MethodName := ⟨RX12, "pointText", "(I)V"⟩
abbrev cX12_rowOf : ByteArray := prog_14_method_72_code
def yX12_rowOf : MethodName := ⟨RX12, "rowOf", "(II)I"⟩
abbrev cX12_point : ByteArray := prog_14_method_73_code
def yX12_point : MethodName := ⟨RX12, "point", "(II)V"⟩
abbrev cX12_meets : ByteArray := prog_14_method_74_code
def yX12_meets : MethodName := ⟨RX12, "meets", "(II)V"⟩
abbrev cX12_putsProduct : ByteArray := prog_14_method_75_code
def yX12_putsProduct : MethodName := ⟨RX12, "putsProduct", "(IIJI)V"⟩
abbrev cX12_brackets : ByteArray := prog_14_method_76_code
def yX12_brackets : MethodName := ⟨RX12, "brackets", "(IIII)V"⟩
abbrev cX12_addsBracket : ByteArray := prog_14_method_77_code
def yX12_addsBracket : MethodName := ⟨RX12, "addsBracket", "(IIIII)V"⟩
abbrev cX12_timesRow : ByteArray := prog_14_method_78_code
def yX12_timesRow : MethodName := ⟨RX12, "timesRow", "(I)V"⟩
abbrev cX12_figure : ByteArray := prog_14_method_79_code
def yX12_figure : MethodName := ⟨RX12, "figure", "(II)I"⟩
abbrev cX12_terms : ByteArray := prog_14_method_80_code
def yX12_terms : MethodName := ⟨RX12, "terms", "(I)I"⟩
abbrev cX12_term_ : ByteArray := prog_14_method_81_code
def yX12_term_ : MethodName := ⟨RX12, "term", "(III)I"⟩
abbrev cX12_keyOn : ByteArray := prog_14_method_82_code
def yX12_keyOn : MethodName := ⟨RX12, "keyOn", "([III)I"⟩
abbrev cX12_often : ByteArray := prog_14_method_83_code
def yX12_often : MethodName := ⟨RX12, "often", "(II)I"⟩
abbrev cX12_degree : ByteArray := prog_14_method_84_code
def yX12_degree : MethodName := ⟨RX12, "degree", "(II)I"⟩
abbrev cX12_straightInto : ByteArray := prog_14_method_85_code
def yX12_straightInto : MethodName := ⟨RX12, "straightInto", "(II)I"⟩
abbrev cX12_steps_ : ByteArray := prog_14_method_86_code
def yX12_steps_ : MethodName := ⟨RX12, "steps", "(I)I"⟩
abbrev cX12_left : ByteArray := prog_14_method_87_code
def yX12_left : MethodName := ⟨RX12, "left", "(I)I"⟩
abbrev cX12_equal : ByteArray := prog_14_method_88_code
def yX12_equal : MethodName := ⟨RX12, "equal", "(II)I"⟩
abbrev cX12_counts : ByteArray := prog_14_method_89_code
def yX12_counts : MethodName := ⟨RX12, "counts", "(II)V"⟩
abbrev cX12_goesOn : ByteArray := prog_14_method_90_code
def yX12_goesOn : MethodName := ⟨RX12, "goesOn", "(I)Z"⟩
abbrev cX12_laysForms : ByteArray := prog_14_method_91_code
def yX12_laysForms : MethodName := ⟨RX12, "laysForms", "(II)Z"⟩
abbrev cX12_forms : ByteArray := prog_14_method_92_code
def yX12_forms : MethodName := ⟨RX12, "forms", "(I)I"⟩
abbrev cX12_form : ByteArray := prog_14_method_93_code
def yX12_form : MethodName := ⟨RX12, "form", "(III)I"⟩
abbrev cX12_columnOf : ByteArray := prog_14_method_94_code
def yX12_columnOf : MethodName := ⟨RX12, "columnOf", "(I)I"⟩
abbrev cX12_modulo : ByteArray := prog_14_method_95_code
def yX12_modulo : MethodName := ⟨RX12, "modulo", "(J)J"⟩
abbrev cX12_inverse : ByteArray := prog_14_method_96_code
def yX12_inverse : MethodName := ⟨RX12, "inverse", "(J)J"⟩
abbrev cX12_clears : ByteArray := prog_14_method_97_code
def yX12_clears : MethodName := ⟨RX12, "clears", "(III)V"⟩
abbrev cX12_swapsRows : ByteArray := prog_14_method_98_code
def yX12_swapsRows : MethodName := ⟨RX12, "swapsRows", "(II)V"⟩
abbrev cX12_rank : ByteArray := prog_14_method_99_code
def yX12_rank : MethodName := ⟨RX12, "rank", "(I)I"⟩
abbrev cX12_areSix : ByteArray := prog_14_method_100_code
def yX12_areSix : MethodName := ⟨RX12, "areSix", "(I)Z"⟩
abbrev cX12_laysSix : ByteArray := prog_14_method_101_code
def yX12_laysSix : MethodName := ⟨RX12, "laysSix", "(I)V"⟩
abbrev cX12_multiple : ByteArray := prog_14_method_102_code
def yX12_multiple : MethodName := ⟨RX12, "multiple", "(II)I"⟩
abbrev cX12_isFound : ByteArray := prog_14_method_103_code
def yX12_isFound : MethodName := ⟨RX12, "isFound", "(II)Z"⟩
abbrev cX12_factor : ByteArray := prog_14_method_104_code
def yX12_factor : MethodName := ⟨RX12, "factor", "(II)I"⟩
abbrev cX12_isFinal : ByteArray := prog_14_method_105_code
def yX12_isFinal : MethodName := ⟨RX12, "isFinal", "(I)I"⟩
abbrev cX12_known : ByteArray := prog_14_method_106_code
def yX12_known : MethodName := ⟨RX12, "known", "(III)I"⟩
abbrev cX12_at : ByteArray := prog_14_method_107_code
def yX12_at : MethodName := ⟨RX12, "at", "(II)I"⟩
abbrev cX12_worthOf : ByteArray := prog_14_method_108_code
def yX12_worthOf : MethodName := ⟨RX12, "worthOf", "(III)I"⟩
abbrev cX12_worth : ByteArray := prog_14_method_109_code
def yX12_worth : MethodName := ⟨RX12, "worth", "(III)I"⟩
abbrev cX12_worthOfRank : ByteArray := prog_14_method_110_code
def yX12_worthOfRank : MethodName := ⟨RX12, "worthOfRank", "(I)I"⟩
abbrev cX12_fits : ByteArray := prog_14_method_111_code
def yX12_fits : MethodName := ⟨RX12, "fits", "(JJ)Z"⟩
abbrev cX12_value : ByteArray := prog_14_method_112_code
def yX12_value : MethodName := ⟨RX12, "value", "(I)J"⟩
abbrev cX12_undo : ByteArray := prog_14_method_113_code
def yX12_undo : MethodName := ⟨RX12, "undo", "(I)I"⟩
abbrev cX12_image : ByteArray := prog_14_method_114_code
def yX12_image : MethodName := ⟨RX12, "image", "(I)I"⟩
abbrev cX12_restore : ByteArray := prog_14_method_115_code
def yX12_restore : MethodName := ⟨RX12, "restore", "(I)I"⟩
abbrev cX12_facts : ByteArray := prog_14_method_116_code
def yX12_facts : MethodName := ⟨RX12, "facts", "(I)I"⟩
abbrev cX12_count : ByteArray := prog_14_method_117_code
def yX12_count : MethodName := ⟨RX12, "count", "(I)I"⟩
def RJ6 : String := "java/lang/Integer"
def TJ6 : u_T := fun k => match k with
  | _ => ("", "", "", false)
def tyJ6 : Nat → FieldType := fun k => match k with
  | _ => .int
theorem nmJ6 : ∀ a, a < 0 → ∀ b, b < 0 → a ≠ b → (TJ6 a).2.1 ≠ (TJ6 b).2.1 := by decide +kernel
theorem tyJ6_ok : ∀ k, k < 0 → parseFieldDescriptor (TJ6 k).2.2.1 = some (tyJ6 k) := by decide +kernel
abbrev cJ6_bitCount_0f7a4 : ByteArray := prog_15_method_49_code
def yJ6_bitCount_0f7a4 : MethodName := ⟨RJ6, "bitCount", "(I)I"⟩
def RJ9 : String := "java/lang/Math"
def TJ9 : u_T := fun k => match k with
  | _ => ("", "", "", false)
def tyJ9 : Nat → FieldType := fun k => match k with
  | _ => .int
theorem nmJ9 : ∀ a, a < 0 → ∀ b, b < 0 → a ≠ b → (TJ9 a).2.1 ≠ (TJ9 b).2.1 := by decide +kernel
theorem tyJ9_ok : ∀ k, k < 0 → parseFieldDescriptor (TJ9 k).2.2.1 = some (tyJ9 k) := by decide +kernel
abbrev cJ9_floorMod_7cf53 : ByteArray := prog_16_method_50_code
def yJ9_floorMod_7cf53 : MethodName := ⟨RJ9, "floorMod", "(II)I"⟩
abbrev cJ9_floorMod_f86c9 : ByteArray := prog_16_method_52_code
def yJ9_floorMod_f86c9 : MethodName := ⟨RJ9, "floorMod", "(JJ)J"⟩
abbrev cJ9_abs_0f7a4 : ByteArray := prog_16_method_59_code
def yJ9_abs_0f7a4 : MethodName := ⟨RJ9, "abs", "(I)I"⟩
abbrev cJ9_max_7cf53 : ByteArray := prog_16_method_65_code
def yJ9_max_7cf53 : MethodName := ⟨RJ9, "max", "(II)I"⟩
abbrev cJ9_min_7cf53 : ByteArray := prog_16_method_69_code
def yJ9_min_7cf53 : MethodName := ⟨RJ9, "min", "(II)I"⟩
def RJ10 : String := "java/lang/System"
def TJ10 : u_T := fun k => match k with
  | _ => ("", "", "", false)
def tyJ10 : Nat → FieldType := fun k => match k with
  | _ => .int
theorem nmJ10 : ∀ a, a < 0 → ∀ b, b < 0 → a ≠ b → (TJ10 a).2.1 ≠ (TJ10 b).2.1 := by decide +kernel
theorem tyJ10_ok : ∀ k, k < 0 → parseFieldDescriptor (TJ10 k).2.2.1 = some (tyJ10 k) := by decide +kernel
def RJ7 : String := "java/util/Arrays"
def TJ7 : u_T := fun k => match k with
  | _ => ("", "", "", false)
def tyJ7 : Nat → FieldType := fun k => match k with
  | _ => .int
theorem nmJ7 : ∀ a, a < 0 → ∀ b, b < 0 → a ≠ b → (TJ7 a).2.1 ≠ (TJ7 b).2.1 := by decide +kernel
theorem tyJ7_ok : ∀ k, k < 0 → parseFieldDescriptor (TJ7 k).2.2.1 = some (tyJ7 k) := by decide +kernel
abbrev cJ7_fill_53178 : ByteArray := prog_18_method_103_code
def yJ7_fill_53178 : MethodName := ⟨RJ7, "fill", "([II)V"⟩
def RL : String := "BracketDeskLaw"
abbrev cL_law : ByteArray := code
def yL_law : MethodName := ⟨RL, "law", "([I)Z"⟩
abbrev vwCl : List vw_C := [(RX0, TX0, 4), (RX1, TX1, 6), (RX2, TX2, 9), (RX3, TX3, 5), (RX4, TX4, 3), (RX5, TX5, 3), (RX7, TX7, 3), (RX8, TX8, 2), (RX9, TX9, 6), (RX10, TX10, 2), (RX11, TX11, 14), (RX12, TX12, 36)]
def lw_g : List Cond := lw_tbl.filter goodWord
theorem mg {w : Cond} (h : w ∈ lw_tbl) (g : goodWord w = true) : w ∈ lw_g := List.mem_filter.mpr ⟨h, g⟩
theorem up_0 : ∀ w ∈ k2_sels lw_privs, w ∈ lw_tbl := fun w h => List.mem_append_left _ h
theorem up_1 : ∀ w ∈ tables_1_1, w ∈ lw_tbl := fun w h => List.mem_append_right _ (List.mem_append_left _ h)
theorem up_2 : ∀ w ∈ tables_1_2, w ∈ lw_tbl := fun w h => List.mem_append_right _ (List.mem_append_right _ (List.mem_append_left _ h))
theorem up_3 : ∀ w ∈ tables_1_3, w ∈ lw_tbl := fun w h => List.mem_append_right _ (List.mem_append_right _ (List.mem_append_right _ (List.mem_append_left _ h)))
theorem up_4 : ∀ w ∈ tables_1_4, w ∈ lw_tbl := fun w h => List.mem_append_right _ (List.mem_append_right _ (List.mem_append_right _ (List.mem_append_right _ (List.mem_append_left _ h))))
theorem up_5 : ∀ w ∈ tables_1_5, w ∈ lw_tbl := fun w h => List.mem_append_right _ (List.mem_append_right _ (List.mem_append_right _ (List.mem_append_right _ (List.mem_append_right _ (List.mem_append_left _ h)))))
theorem up_6 : ∀ w ∈ tables_1_6, w ∈ lw_tbl := fun w h => List.mem_append_right _ (List.mem_append_right _ (List.mem_append_right _ (List.mem_append_right _ (List.mem_append_right _ (List.mem_append_right _ (List.mem_append_left _ h))))))
theorem up_7 : ∀ w ∈ tables_1_7, w ∈ lw_tbl := fun w h => List.mem_append_right _ (List.mem_append_right _ (List.mem_append_right _ (List.mem_append_right _ (List.mem_append_right _ (List.mem_append_right _ (List.mem_append_right _ h))))))
theorem good_g : GoodIn lw_g lw_g := fun w h => ⟨h, good_of_word (List.mem_filter.mp h).2⟩
abbrev MD : Type := MethodName × ByteArray × Nat × Option FieldType × Nat
def mN (Y : MD) : MethodName := Y.1
def mC (Y : MD) : ByteArray := Y.2.1
def mL (Y : MD) : Nat := Y.2.2.1
def mR (Y : MD) : Option FieldType := Y.2.2.2.1
def mA (Y : MD) : Nat := Y.2.2.2.2
/-- what the tables say of a method -/
def okY (Y : MD) : Prop := Cond.code (mN Y) (mC Y) (mL Y) (mR Y) ∈ lw_g ∧ Cond.initialized (mN Y).cls ∈ lw_g ∧ plainFor (mN Y) = true ∧ ((mN Y).cls ≠ "java/lang/invoke/MethodHandle" ∧ (mN Y).cls ≠ "java/lang/invoke/VarHandle") ∧ (parseMethodDescriptor (mN Y).desc).map (fun d => d.parameters.length) = some (mA Y)
def okV (Y : MD) : Prop := okY Y ∧ Cond.instanceMethod (mN Y) ∈ lw_g ∧ Cond.selects (mN Y).cls (mN Y) (mN Y) ∈ lw_g
def okS (Y : MD) : Prop := okY Y ∧ Cond.static (mN Y) ∈ lw_g
def okI (Y : MD) : Prop := okY Y ∧ Cond.instanceMethod (mN Y) ∈ lw_g ∧ (mN Y).name = "<init>"
theorem mem_ixs {big : List Cond} (ws : List Cond) (ixs : List Nat) (h : ws = ixs.filterMap (fun i => big[i]?)) : ∀ w ∈ ws, w ∈ big := by
  intro w hw
  rw [h] at hw
  obtain ⟨i, -, hi⟩ := List.mem_filterMap.mp hw
  exact List.mem_of_getElem? hi
def mX0_init : MD := (yX0_init, cX0_init, 1, none, 0)
theorem ok_mX0_init : okI mX0_init := ⟨⟨mg (up_1 _ (List.mem_of_getElem? (i := 234) (by decide +kernel))) rfl, mg (up_1 _ (List.mem_of_getElem? (i := 11) (by decide +kernel))) rfl, by decide +kernel, ⟨by decide +kernel, by decide +kernel⟩, by decide +kernel⟩, mg (up_1 _ (List.mem_of_getElem? (i := 233) (by decide +kernel))) rfl, rfl⟩
def mX0_begin : MD := (yX0_begin, cX0_begin, 1, none, 0)
theorem ok_mX0_begin : okV mX0_begin := ⟨⟨mg (up_4 _ (List.mem_of_getElem? (i := 45) (by decide +kernel))) rfl, mg (up_1 _ (List.mem_of_getElem? (i := 11) (by decide +kernel))) rfl, by decide +kernel, ⟨by decide +kernel, by decide +kernel⟩, by decide +kernel⟩, mg (up_4 _ (List.mem_of_getElem? (i := 43) (by decide +kernel))) rfl, mg (up_4 _ (List.mem_of_getElem? (i := 44) (by decide +kernel))) rfl⟩
def mX0_takeRow : MD := (yX0_takeRow, cX0_takeRow, 4, none, 1)
theorem ok_mX0_takeRow : okV mX0_takeRow := ⟨⟨mg (up_4 _ (List.mem_of_getElem? (i := 49) (by decide +kernel))) rfl, mg (up_1 _ (List.mem_of_getElem? (i := 11) (by decide +kernel))) rfl, by decide +kernel, ⟨by decide +kernel, by decide +kernel⟩, by decide +kernel⟩, mg (up_4 _ (List.mem_of_getElem? (i := 47) (by decide +kernel))) rfl, mg (up_4 _ (List.mem_of_getElem? (i := 48) (by decide +kernel))) rfl⟩
def mX0_independentRows : MD := (yX0_independentRows, cX0_independentRows, 4, some .int, 0)
theorem ok_mX0_independentRows : okV mX0_independentRows := ⟨⟨mg (up_4 _ (List.mem_of_getElem? (i := 62) (by decide +kernel))) rfl, mg (up_1 _ (List.mem_of_getElem? (i := 11) (by decide +kernel))) rfl, by decide +kernel, ⟨by decide +kernel, by decide +kernel⟩, by decide +kernel⟩, mg (up_4 _ (List.mem_of_getElem? (i := 60) (by decide +kernel))) rfl, mg (up_4 _ (List.mem_of_getElem? (i := 61) (by decide +kernel))) rfl⟩
def mX0_bringUp : MD := (yX0_bringUp, cX0_bringUp, 5, some .boolean, 2)
theorem ok_mX0_bringUp : okV mX0_bringUp := ⟨⟨mg (up_4 _ (List.mem_of_getElem? (i := 66) (by decide +kernel))) rfl, mg (up_1 _ (List.mem_of_getElem? (i := 11) (by decide +kernel))) rfl, by decide +kernel, ⟨by decide +kernel, by decide +kernel⟩, by decide +kernel⟩, mg (up_4 _ (List.mem_of_getElem? (i := 65) (by decide +kernel))) rfl, mg (up_0 _ (List.mem_of_getElem? (i := 21) (by decide +kernel))) rfl⟩
def mX0_clearColumn : MD := (yX0_clearColumn, cX0_clearColumn, 9, none, 3)
theorem ok_mX0_clearColumn : okV mX0_clearColumn := ⟨⟨mg (up_4 _ (List.mem_of_getElem? (i := 70) (by decide +kernel))) rfl, mg (up_1 _ (List.mem_of_getElem? (i := 11) (by decide +kernel))) rfl, by decide +kernel, ⟨by decide +kernel, by decide +kernel⟩, by decide +kernel⟩, mg (up_4 _ (List.mem_of_getElem? (i := 69) (by decide +kernel))) rfl, mg (up_0 _ (List.mem_of_getElem? (i := 22) (by decide +kernel))) rfl⟩
def mX0_columnOf : MD := (yX0_columnOf, cX0_columnOf, 4, some .int, 1)
theorem ok_mX0_columnOf : okV mX0_columnOf := ⟨⟨mg (up_4 _ (List.mem_of_getElem? (i := 54) (by decide +kernel))) rfl, mg (up_1 _ (List.mem_of_getElem? (i := 11) (by decide +kernel))) rfl, by decide +kernel, ⟨by decide +kernel, by decide +kernel⟩, by decide +kernel⟩, mg (up_4 _ (List.mem_of_getElem? (i := 53) (by decide +kernel))) rfl, mg (up_0 _ (List.mem_of_getElem? (i := 20) (by decide +kernel))) rfl⟩
def mX1_init : MD := (yX1_init, cX1_init, 8, none, 0)
theorem ok_mX1_init : okI mX1_init := ⟨⟨mg (up_2 _ (List.mem_of_getElem? (i := 15) (by decide +kernel))) rfl, mg (up_1 _ (List.mem_of_getElem? (i := 12) (by decide +kernel))) rfl, by decide +kernel, ⟨by decide +kernel, by decide +kernel⟩, by decide +kernel⟩, mg (up_2 _ (List.mem_of_getElem? (i := 14) (by decide +kernel))) rfl, rfl⟩
def mX1_takeLetters : MD := (yX1_takeLetters, cX1_takeLetters, 5, some .boolean, 1)
theorem ok_mX1_takeLetters : okV mX1_takeLetters := ⟨⟨mg (up_4 _ (List.mem_of_getElem? (i := 82) (by decide +kernel))) rfl, mg (up_1 _ (List.mem_of_getElem? (i := 12) (by decide +kernel))) rfl, by decide +kernel, ⟨by decide +kernel, by decide +kernel⟩, by decide +kernel⟩, mg (up_4 _ (List.mem_of_getElem? (i := 80) (by decide +kernel))) rfl, mg (up_4 _ (List.mem_of_getElem? (i := 81) (by decide +kernel))) rfl⟩
def mX1_letterOfRow : MD := (yX1_letterOfRow, cX1_letterOfRow, 2, some .int, 1)
theorem ok_mX1_letterOfRow : okV mX1_letterOfRow := ⟨⟨mg (up_4 _ (List.mem_of_getElem? (i := 128) (by decide +kernel))) rfl, mg (up_1 _ (List.mem_of_getElem? (i := 12) (by decide +kernel))) rfl, by decide +kernel, ⟨by decide +kernel, by decide +kernel⟩, by decide +kernel⟩, mg (up_4 _ (List.mem_of_getElem? (i := 126) (by decide +kernel))) rfl, mg (up_4 _ (List.mem_of_getElem? (i := 127) (by decide +kernel))) rfl⟩
def mX1_search : MD := (yX1_search, cX1_search, 3, some .boolean, 1)
theorem ok_mX1_search : okV mX1_search := ⟨⟨mg (up_4 _ (List.mem_of_getElem? (i := 88) (by decide +kernel))) rfl, mg (up_1 _ (List.mem_of_getElem? (i := 12) (by decide +kernel))) rfl, by decide +kernel, ⟨by decide +kernel, by decide +kernel⟩, by decide +kernel⟩, mg (up_4 _ (List.mem_of_getElem? (i := 86) (by decide +kernel))) rfl, mg (up_4 _ (List.mem_of_getElem? (i := 87) (by decide +kernel))) rfl⟩
def mX1_takeAsked : MD := (yX1_takeAsked, cX1_takeAsked, 4, some .boolean, 1)
theorem ok_mX1_takeAsked : okV mX1_takeAsked := ⟨⟨mg (up_4 _ (List.mem_of_getElem? (i := 92) (by decide +kernel))) rfl, mg (up_1 _ (List.mem_of_getElem? (i := 12) (by decide +kernel))) rfl, by decide +kernel, ⟨by decide +kernel, by decide +kernel⟩, by decide +kernel⟩, mg (up_4 _ (List.mem_of_getElem? (i := 91) (by decide +kernel))) rfl, mg (up_0 _ (List.mem_of_getElem? (i := 23) (by decide +kernel))) rfl⟩
def mX1_byPlaces : MD := (yX1_byPlaces, cX1_byPlaces, 9, some .long, 1)
theorem ok_mX1_byPlaces : okV mX1_byPlaces := ⟨⟨mg (up_4 _ (List.mem_of_getElem? (i := 97) (by decide +kernel))) rfl, mg (up_1 _ (List.mem_of_getElem? (i := 12) (by decide +kernel))) rfl, by decide +kernel, ⟨by decide +kernel, by decide +kernel⟩, by decide +kernel⟩, mg (up_4 _ (List.mem_of_getElem? (i := 96) (by decide +kernel))) rfl, mg (up_0 _ (List.mem_of_getElem? (i := 24) (by decide +kernel))) rfl⟩
def mX1_placeOf : MD := (yX1_placeOf, cX1_placeOf, 3, some .int, 1)
theorem ok_mX1_placeOf : okV mX1_placeOf := ⟨⟨mg (up_4 _ (List.mem_of_getElem? (i := 102) (by decide +kernel))) rfl, mg (up_1 _ (List.mem_of_getElem? (i := 12) (by decide +kernel))) rfl, by decide +kernel, ⟨by decide +kernel, by decide +kernel⟩, by decide +kernel⟩, mg (up_4 _ (List.mem_of_getElem? (i := 101) (by decide +kernel))) rfl, mg (up_0 _ (List.mem_of_getElem? (i := 25) (by decide +kernel))) rfl⟩
def mX1_formOf : MD := (yX1_formOf, cX1_formOf, 4, some .int, 1)
theorem ok_mX1_formOf : okV mX1_formOf := ⟨⟨mg (up_2 _ (List.mem_of_getElem? (i := 116) (by decide +kernel))) rfl, mg (up_1 _ (List.mem_of_getElem? (i := 12) (by decide +kernel))) rfl, by decide +kernel, ⟨by decide +kernel, by decide +kernel⟩, by decide +kernel⟩, mg (up_2 _ (List.mem_of_getElem? (i := 115) (by decide +kernel))) rfl, mg (up_0 _ (List.mem_of_getElem? (i := 3) (by decide +kernel))) rfl⟩
def mX1_keyOf : MD := (yX1_keyOf, cX1_keyOf, 4, some .long, 1)
theorem ok_mX1_keyOf : okS mX1_keyOf := ⟨⟨mg (up_2 _ (List.mem_of_getElem? (i := 19) (by decide +kernel))) rfl, mg (up_1 _ (List.mem_of_getElem? (i := 12) (by decide +kernel))) rfl, by decide +kernel, ⟨by decide +kernel, by decide +kernel⟩, by decide +kernel⟩, mg (up_2 _ (List.mem_of_getElem? (i := 18) (by decide +kernel))) rfl⟩
def mX1_isMultiple : MD := (yX1_isMultiple, cX1_isMultiple, 9, some .boolean, 0)
theorem ok_mX1_isMultiple : okV mX1_isMultiple := ⟨⟨mg (up_4 _ (List.mem_of_getElem? (i := 106) (by decide +kernel))) rfl, mg (up_1 _ (List.mem_of_getElem? (i := 12) (by decide +kernel))) rfl, by decide +kernel, ⟨by decide +kernel, by decide +kernel⟩, by decide +kernel⟩, mg (up_4 _ (List.mem_of_getElem? (i := 105) (by decide +kernel))) rfl, mg (up_0 _ (List.mem_of_getElem? (i := 26) (by decide +kernel))) rfl⟩
def mX1_signOf : MD := (yX1_signOf, cX1_signOf, 4, some .int, 3)
theorem ok_mX1_signOf : okV mX1_signOf := ⟨⟨mg (up_4 _ (List.mem_of_getElem? (i := 110) (by decide +kernel))) rfl, mg (up_1 _ (List.mem_of_getElem? (i := 12) (by decide +kernel))) rfl, by decide +kernel, ⟨by decide +kernel, by decide +kernel⟩, by decide +kernel⟩, mg (up_4 _ (List.mem_of_getElem? (i := 109) (by decide +kernel))) rfl, mg (up_0 _ (List.mem_of_getElem? (i := 27) (by decide +kernel))) rfl⟩
def mX1_besideFirst : MD := (yX1_besideFirst, cX1_besideFirst, 5, some .int, 3)
theorem ok_mX1_besideFirst : okV mX1_besideFirst := ⟨⟨mg (up_4 _ (List.mem_of_getElem? (i := 116) (by decide +kernel))) rfl, mg (up_1 _ (List.mem_of_getElem? (i := 12) (by decide +kernel))) rfl, by decide +kernel, ⟨by decide +kernel, by decide +kernel⟩, by decide +kernel⟩, mg (up_4 _ (List.mem_of_getElem? (i := 115) (by decide +kernel))) rfl, mg (up_0 _ (List.mem_of_getElem? (i := 28) (by decide +kernel))) rfl⟩
def mX1_nextRow : MD := (yX1_nextRow, cX1_nextRow, 5, none, 0)
theorem ok_mX1_nextRow : okV mX1_nextRow := ⟨⟨mg (up_4 _ (List.mem_of_getElem? (i := 120) (by decide +kernel))) rfl, mg (up_1 _ (List.mem_of_getElem? (i := 12) (by decide +kernel))) rfl, by decide +kernel, ⟨by decide +kernel, by decide +kernel⟩, by decide +kernel⟩, mg (up_4 _ (List.mem_of_getElem? (i := 119) (by decide +kernel))) rfl, mg (up_0 _ (List.mem_of_getElem? (i := 29) (by decide +kernel))) rfl⟩
def mX1_swap : MD := (yX1_swap, cX1_swap, 4, none, 2)
theorem ok_mX1_swap : okV mX1_swap := ⟨⟨mg (up_4 _ (List.mem_of_getElem? (i := 124) (by decide +kernel))) rfl, mg (up_1 _ (List.mem_of_getElem? (i := 12) (by decide +kernel))) rfl, by decide +kernel, ⟨by decide +kernel, by decide +kernel⟩, by decide +kernel⟩, mg (up_4 _ (List.mem_of_getElem? (i := 123) (by decide +kernel))) rfl, mg (up_0 _ (List.mem_of_getElem? (i := 30) (by decide +kernel))) rfl⟩
def mX2_init : MD := (yX2_init, cX2_init, 2, none, 0)
theorem ok_mX2_init : okI mX2_init := ⟨⟨mg (up_1 _ (List.mem_of_getElem? (i := 173) (by decide +kernel))) rfl, mg (up_1 _ (List.mem_of_getElem? (i := 9) (by decide +kernel))) rfl, by decide +kernel, ⟨by decide +kernel, by decide +kernel⟩, by decide +kernel⟩, mg (up_1 _ (List.mem_of_getElem? (i := 172) (by decide +kernel))) rfl, rfl⟩
def mX2_begin : MD := (yX2_begin, cX2_begin, 1, none, 0)
theorem ok_mX2_begin : okV mX2_begin := ⟨⟨mg (up_3 _ (List.mem_of_getElem? (i := 46) (by decide +kernel))) rfl, mg (up_1 _ (List.mem_of_getElem? (i := 9) (by decide +kernel))) rfl, by decide +kernel, ⟨by decide +kernel, by decide +kernel⟩, by decide +kernel⟩, mg (up_3 _ (List.mem_of_getElem? (i := 44) (by decide +kernel))) rfl, mg (up_3 _ (List.mem_of_getElem? (i := 45) (by decide +kernel))) rfl⟩
def mX2_take : MD := (yX2_take, cX2_take, 7, some .int, 1)
theorem ok_mX2_take : okV mX2_take := ⟨⟨mg (up_3 _ (List.mem_of_getElem? (i := 50) (by decide +kernel))) rfl, mg (up_1 _ (List.mem_of_getElem? (i := 9) (by decide +kernel))) rfl, by decide +kernel, ⟨by decide +kernel, by decide +kernel⟩, by decide +kernel⟩, mg (up_3 _ (List.mem_of_getElem? (i := 48) (by decide +kernel))) rfl, mg (up_3 _ (List.mem_of_getElem? (i := 49) (by decide +kernel))) rfl⟩
def mX2_makeFigure : MD := (yX2_makeFigure, cX2_makeFigure, 2, some .int, 1)
theorem ok_mX2_makeFigure : okV mX2_makeFigure := ⟨⟨mg (up_3 _ (List.mem_of_getElem? (i := 91) (by decide +kernel))) rfl, mg (up_1 _ (List.mem_of_getElem? (i := 9) (by decide +kernel))) rfl, by decide +kernel, ⟨by decide +kernel, by decide +kernel⟩, by decide +kernel⟩, mg (up_3 _ (List.mem_of_getElem? (i := 89) (by decide +kernel))) rfl, mg (up_3 _ (List.mem_of_getElem? (i := 90) (by decide +kernel))) rfl⟩
def mX2_empty : MD := (yX2_empty, cX2_empty, 3, none, 1)
theorem ok_mX2_empty : okV mX2_empty := ⟨⟨mg (up_3 _ (List.mem_of_getElem? (i := 55) (by decide +kernel))) rfl, mg (up_1 _ (List.mem_of_getElem? (i := 9) (by decide +kernel))) rfl, by decide +kernel, ⟨by decide +kernel, by decide +kernel⟩, by decide +kernel⟩, mg (up_3 _ (List.mem_of_getElem? (i := 54) (by decide +kernel))) rfl, mg (up_0 _ (List.mem_of_getElem? (i := 12) (by decide +kernel))) rfl⟩
def mX2_makeSpare : MD := (yX2_makeSpare, cX2_makeSpare, 5, some .int, 2)
theorem ok_mX2_makeSpare : okV mX2_makeSpare := ⟨⟨mg (up_3 _ (List.mem_of_getElem? (i := 87) (by decide +kernel))) rfl, mg (up_1 _ (List.mem_of_getElem? (i := 9) (by decide +kernel))) rfl, by decide +kernel, ⟨by decide +kernel, by decide +kernel⟩, by decide +kernel⟩, mg (up_3 _ (List.mem_of_getElem? (i := 86) (by decide +kernel))) rfl, mg (up_0 _ (List.mem_of_getElem? (i := 15) (by decide +kernel))) rfl⟩
def mX2_makeBracket : MD := (yX2_makeBracket, cX2_makeBracket, 9, some .int, 4)
theorem ok_mX2_makeBracket : okV mX2_makeBracket := ⟨⟨mg (up_3 _ (List.mem_of_getElem? (i := 61) (by decide +kernel))) rfl, mg (up_1 _ (List.mem_of_getElem? (i := 9) (by decide +kernel))) rfl, by decide +kernel, ⟨by decide +kernel, by decide +kernel⟩, by decide +kernel⟩, mg (up_3 _ (List.mem_of_getElem? (i := 60) (by decide +kernel))) rfl, mg (up_0 _ (List.mem_of_getElem? (i := 13) (by decide +kernel))) rfl⟩
def mX2_layTimesThree : MD := (yX2_layTimesThree, cX2_layTimesThree, 6, some .int, 4)
theorem ok_mX2_layTimesThree : okV mX2_layTimesThree := ⟨⟨mg (up_3 _ (List.mem_of_getElem? (i := 68) (by decide +kernel))) rfl, mg (up_1 _ (List.mem_of_getElem? (i := 9) (by decide +kernel))) rfl, by decide +kernel, ⟨by decide +kernel, by decide +kernel⟩, by decide +kernel⟩, mg (up_3 _ (List.mem_of_getElem? (i := 67) (by decide +kernel))) rfl, mg (up_0 _ (List.mem_of_getElem? (i := 14) (by decide +kernel))) rfl⟩
def mX3_init : MD := (yX3_init, cX3_init, 1, none, 0)
theorem ok_mX3_init : okI mX3_init := ⟨⟨mg (up_1 _ (List.mem_of_getElem? (i := 211) (by decide +kernel))) rfl, mg (up_1 _ (List.mem_of_getElem? (i := 10) (by decide +kernel))) rfl, by decide +kernel, ⟨by decide +kernel, by decide +kernel⟩, by decide +kernel⟩, mg (up_1 _ (List.mem_of_getElem? (i := 210) (by decide +kernel))) rfl, rfl⟩
def mX3_countAll : MD := (yX3_countAll, cX3_countAll, 3, some .int, 1)
theorem ok_mX3_countAll : okV mX3_countAll := ⟨⟨mg (up_4 _ (List.mem_of_getElem? (i := 18) (by decide +kernel))) rfl, mg (up_1 _ (List.mem_of_getElem? (i := 10) (by decide +kernel))) rfl, by decide +kernel, ⟨by decide +kernel, by decide +kernel⟩, by decide +kernel⟩, mg (up_4 _ (List.mem_of_getElem? (i := 16) (by decide +kernel))) rfl, mg (up_4 _ (List.mem_of_getElem? (i := 17) (by decide +kernel))) rfl⟩
def mX3_letterOf : MD := (yX3_letterOf, cX3_letterOf, 5, some .int, 3)
theorem ok_mX3_letterOf : okV mX3_letterOf := ⟨⟨mg (up_4 _ (List.mem_of_getElem? (i := 37) (by decide +kernel))) rfl, mg (up_1 _ (List.mem_of_getElem? (i := 10) (by decide +kernel))) rfl, by decide +kernel, ⟨by decide +kernel, by decide +kernel⟩, by decide +kernel⟩, mg (up_4 _ (List.mem_of_getElem? (i := 35) (by decide +kernel))) rfl, mg (up_4 _ (List.mem_of_getElem? (i := 36) (by decide +kernel))) rfl⟩
def mX3_begin : MD := (yX3_begin, cX3_begin, 5, none, 2)
theorem ok_mX3_begin : okV mX3_begin := ⟨⟨mg (up_4 _ (List.mem_of_getElem? (i := 22) (by decide +kernel))) rfl, mg (up_1 _ (List.mem_of_getElem? (i := 10) (by decide +kernel))) rfl, by decide +kernel, ⟨by decide +kernel, by decide +kernel⟩, by decide +kernel⟩, mg (up_4 _ (List.mem_of_getElem? (i := 21) (by decide +kernel))) rfl, mg (up_0 _ (List.mem_of_getElem? (i := 18) (by decide +kernel))) rfl⟩
def mX3_fill : MD := (yX3_fill, cX3_fill, 5, some .boolean, 1)
theorem ok_mX3_fill : okV mX3_fill := ⟨⟨mg (up_4 _ (List.mem_of_getElem? (i := 28) (by decide +kernel))) rfl, mg (up_1 _ (List.mem_of_getElem? (i := 10) (by decide +kernel))) rfl, by decide +kernel, ⟨by decide +kernel, by decide +kernel⟩, by decide +kernel⟩, mg (up_4 _ (List.mem_of_getElem? (i := 27) (by decide +kernel))) rfl, mg (up_0 _ (List.mem_of_getElem? (i := 19) (by decide +kernel))) rfl⟩
def mX4_init : MD := (yX4_init, cX4_init, 2, none, 0)
theorem ok_mX4_init : okI mX4_init := ⟨⟨mg (up_1 _ (List.mem_of_getElem? (i := 86) (by decide +kernel))) rfl, mg (up_1 _ (List.mem_of_getElem? (i := 5) (by decide +kernel))) rfl, by decide +kernel, ⟨by decide +kernel, by decide +kernel⟩, by decide +kernel⟩, mg (up_1 _ (List.mem_of_getElem? (i := 85) (by decide +kernel))) rfl, rfl⟩
def mX4_keep : MD := (yX4_keep, cX4_keep, 2, none, 1)
theorem ok_mX4_keep : okV mX4_keep := ⟨⟨mg (up_3 _ (List.mem_of_getElem? (i := 20) (by decide +kernel))) rfl, mg (up_1 _ (List.mem_of_getElem? (i := 5) (by decide +kernel))) rfl, by decide +kernel, ⟨by decide +kernel, by decide +kernel⟩, by decide +kernel⟩, mg (up_3 _ (List.mem_of_getElem? (i := 18) (by decide +kernel))) rfl, mg (up_3 _ (List.mem_of_getElem? (i := 19) (by decide +kernel))) rfl⟩
def mX4_goBack : MD := (yX4_goBack, cX4_goBack, 3, none, 2)
theorem ok_mX4_goBack : okV mX4_goBack := ⟨⟨mg (up_4 _ (List.mem_of_getElem? (i := 175) (by decide +kernel))) rfl, mg (up_1 _ (List.mem_of_getElem? (i := 5) (by decide +kernel))) rfl, by decide +kernel, ⟨by decide +kernel, by decide +kernel⟩, by decide +kernel⟩, mg (up_4 _ (List.mem_of_getElem? (i := 173) (by decide +kernel))) rfl, mg (up_4 _ (List.mem_of_getElem? (i := 174) (by decide +kernel))) rfl⟩
def mX4_forget : MD := (yX4_forget, cX4_forget, 1, none, 0)
theorem ok_mX4_forget : okV mX4_forget := ⟨⟨mg (up_4 _ (List.mem_of_getElem? (i := 189) (by decide +kernel))) rfl, mg (up_1 _ (List.mem_of_getElem? (i := 5) (by decide +kernel))) rfl, by decide +kernel, ⟨by decide +kernel, by decide +kernel⟩, by decide +kernel⟩, mg (up_4 _ (List.mem_of_getElem? (i := 187) (by decide +kernel))) rfl, mg (up_4 _ (List.mem_of_getElem? (i := 188) (by decide +kernel))) rfl⟩
def mX5_init : MD := (yX5_init, cX5_init, 1, none, 0)
theorem ok_mX5_init : okI mX5_init := ⟨⟨mg (up_1 _ (List.mem_of_getElem? (i := 37) (by decide +kernel))) rfl, mg (up_1 _ (List.mem_of_getElem? (i := 3) (by decide +kernel))) rfl, by decide +kernel, ⟨by decide +kernel, by decide +kernel⟩, by decide +kernel⟩, mg (up_1 _ (List.mem_of_getElem? (i := 36) (by decide +kernel))) rfl, rfl⟩
def mX5_empty : MD := (yX5_empty, cX5_empty, 1, none, 0)
theorem ok_mX5_empty : okV mX5_empty := ⟨⟨mg (up_2 _ (List.mem_of_getElem? (i := 48) (by decide +kernel))) rfl, mg (up_1 _ (List.mem_of_getElem? (i := 3) (by decide +kernel))) rfl, by decide +kernel, ⟨by decide +kernel, by decide +kernel⟩, by decide +kernel⟩, mg (up_2 _ (List.mem_of_getElem? (i := 46) (by decide +kernel))) rfl, mg (up_2 _ (List.mem_of_getElem? (i := 47) (by decide +kernel))) rfl⟩
def mX5_take : MD := (yX5_take, cX5_take, 2, none, 1)
theorem ok_mX5_take : okV mX5_take := ⟨⟨mg (up_2 _ (List.mem_of_getElem? (i := 71) (by decide +kernel))) rfl, mg (up_1 _ (List.mem_of_getElem? (i := 3) (by decide +kernel))) rfl, by decide +kernel, ⟨by decide +kernel, by decide +kernel⟩, by decide +kernel⟩, mg (up_2 _ (List.mem_of_getElem? (i := 69) (by decide +kernel))) rfl, mg (up_2 _ (List.mem_of_getElem? (i := 70) (by decide +kernel))) rfl⟩
def mX5_isLike : MD := (yX5_isLike, cX5_isLike, 3, some .boolean, 1)
theorem ok_mX5_isLike : okV mX5_isLike := ⟨⟨mg (up_4 _ (List.mem_of_getElem? (i := 10) (by decide +kernel))) rfl, mg (up_1 _ (List.mem_of_getElem? (i := 3) (by decide +kernel))) rfl, by decide +kernel, ⟨by decide +kernel, by decide +kernel⟩, by decide +kernel⟩, mg (up_4 _ (List.mem_of_getElem? (i := 8) (by decide +kernel))) rfl, mg (up_4 _ (List.mem_of_getElem? (i := 9) (by decide +kernel))) rfl⟩
def mX5_lay : MD := (yX5_lay, cX5_lay, 6, some .int, 2)
theorem ok_mX5_lay : okV mX5_lay := ⟨⟨mg (up_2 _ (List.mem_of_getElem? (i := 52) (by decide +kernel))) rfl, mg (up_1 _ (List.mem_of_getElem? (i := 3) (by decide +kernel))) rfl, by decide +kernel, ⟨by decide +kernel, by decide +kernel⟩, by decide +kernel⟩, mg (up_2 _ (List.mem_of_getElem? (i := 50) (by decide +kernel))) rfl, mg (up_2 _ (List.mem_of_getElem? (i := 51) (by decide +kernel))) rfl⟩
def mX5_laySum : MD := (yX5_laySum, cX5_laySum, 5, some .int, 2)
theorem ok_mX5_laySum : okV mX5_laySum := ⟨⟨mg (up_3 _ (List.mem_of_getElem? (i := 83) (by decide +kernel))) rfl, mg (up_1 _ (List.mem_of_getElem? (i := 3) (by decide +kernel))) rfl, by decide +kernel, ⟨by decide +kernel, by decide +kernel⟩, by decide +kernel⟩, mg (up_3 _ (List.mem_of_getElem? (i := 81) (by decide +kernel))) rfl, mg (up_3 _ (List.mem_of_getElem? (i := 82) (by decide +kernel))) rfl⟩
def mX5_layProduct : MD := (yX5_layProduct, cX5_layProduct, 8, some .int, 2)
theorem ok_mX5_layProduct : okV mX5_layProduct := ⟨⟨mg (up_3 _ (List.mem_of_getElem? (i := 72) (by decide +kernel))) rfl, mg (up_1 _ (List.mem_of_getElem? (i := 3) (by decide +kernel))) rfl, by decide +kernel, ⟨by decide +kernel, by decide +kernel⟩, by decide +kernel⟩, mg (up_3 _ (List.mem_of_getElem? (i := 70) (by decide +kernel))) rfl, mg (up_3 _ (List.mem_of_getElem? (i := 71) (by decide +kernel))) rfl⟩
def mX5_layUpon : MD := (yX5_layUpon, cX5_layUpon, 4, some .int, 2)
theorem ok_mX5_layUpon : okV mX5_layUpon := ⟨⟨mg (up_2 _ (List.mem_of_getElem? (i := 60) (by decide +kernel))) rfl, mg (up_1 _ (List.mem_of_getElem? (i := 3) (by decide +kernel))) rfl, by decide +kernel, ⟨by decide +kernel, by decide +kernel⟩, by decide +kernel⟩, mg (up_2 _ (List.mem_of_getElem? (i := 59) (by decide +kernel))) rfl, mg (up_0 _ (List.mem_of_getElem? (i := 1) (by decide +kernel))) rfl⟩
def mX5_find : MD := (yX5_find, cX5_find, 5, some .int, 1)
theorem ok_mX5_find : okV mX5_find := ⟨⟨mg (up_2 _ (List.mem_of_getElem? (i := 56) (by decide +kernel))) rfl, mg (up_1 _ (List.mem_of_getElem? (i := 3) (by decide +kernel))) rfl, by decide +kernel, ⟨by decide +kernel, by decide +kernel⟩, by decide +kernel⟩, mg (up_2 _ (List.mem_of_getElem? (i := 55) (by decide +kernel))) rfl, mg (up_0 _ (List.mem_of_getElem? (i := 0) (by decide +kernel))) rfl⟩
def mX6_row : MD := (yX6_row, cX6_row, 3, some .int, 3)
theorem ok_mX6_row : okS mX6_row := ⟨⟨mg (up_3 _ (List.mem_of_getElem? (i := 3) (by decide +kernel))) rfl, mg (up_1 _ (List.mem_of_getElem? (i := 14) (by decide +kernel))) rfl, by decide +kernel, ⟨by decide +kernel, by decide +kernel⟩, by decide +kernel⟩, mg (up_3 _ (List.mem_of_getElem? (i := 2) (by decide +kernel))) rfl⟩
def mX6_letter : MD := (yX6_letter, cX6_letter, 2, some .int, 2)
theorem ok_mX6_letter : okS mX6_letter := ⟨⟨mg (up_2 _ (List.mem_of_getElem? (i := 40) (by decide +kernel))) rfl, mg (up_1 _ (List.mem_of_getElem? (i := 14) (by decide +kernel))) rfl, by decide +kernel, ⟨by decide +kernel, by decide +kernel⟩, by decide +kernel⟩, mg (up_2 _ (List.mem_of_getElem? (i := 39) (by decide +kernel))) rfl⟩
def mX6_ordered : MD := (yX6_ordered, cX6_ordered, 8, some .int, 1)
theorem ok_mX6_ordered : okS mX6_ordered := ⟨⟨mg (up_2 _ (List.mem_of_getElem? (i := 107) (by decide +kernel))) rfl, mg (up_1 _ (List.mem_of_getElem? (i := 14) (by decide +kernel))) rfl, by decide +kernel, ⟨by decide +kernel, by decide +kernel⟩, by decide +kernel⟩, mg (up_2 _ (List.mem_of_getElem? (i := 106) (by decide +kernel))) rfl⟩
def mX6_indexOf : MD := (yX6_indexOf, cX6_indexOf, 4, some .int, 1)
theorem ok_mX6_indexOf : okS mX6_indexOf := ⟨⟨mg (up_3 _ (List.mem_of_getElem? (i := 194) (by decide +kernel))) rfl, mg (up_1 _ (List.mem_of_getElem? (i := 14) (by decide +kernel))) rfl, by decide +kernel, ⟨by decide +kernel, by decide +kernel⟩, by decide +kernel⟩, mg (up_3 _ (List.mem_of_getElem? (i := 193) (by decide +kernel))) rfl⟩
def mX6_bracketAt : MD := (yX6_bracketAt, cX6_bracketAt, 3, some .int, 2)
theorem ok_mX6_bracketAt : okS mX6_bracketAt := ⟨⟨mg (up_2 _ (List.mem_of_getElem? (i := 34) (by decide +kernel))) rfl, mg (up_1 _ (List.mem_of_getElem? (i := 14) (by decide +kernel))) rfl, by decide +kernel, ⟨by decide +kernel, by decide +kernel⟩, by decide +kernel⟩, mg (up_2 _ (List.mem_of_getElem? (i := 33) (by decide +kernel))) rfl⟩
def mX6_bracketsIn : MD := (yX6_bracketsIn, cX6_bracketsIn, 3, some .int, 1)
theorem ok_mX6_bracketsIn : okS mX6_bracketsIn := ⟨⟨mg (up_3 _ (List.mem_of_getElem? (i := 75) (by decide +kernel))) rfl, mg (up_1 _ (List.mem_of_getElem? (i := 14) (by decide +kernel))) rfl, by decide +kernel, ⟨by decide +kernel, by decide +kernel⟩, by decide +kernel⟩, mg (up_3 _ (List.mem_of_getElem? (i := 74) (by decide +kernel))) rfl⟩
def mX6_letterOfKey : MD := (yX6_letterOfKey, cX6_letterOfKey, 4, some .int, 2)
theorem ok_mX6_letterOfKey : okS mX6_letterOfKey := ⟨⟨mg (up_3 _ (List.mem_of_getElem? (i := 226) (by decide +kernel))) rfl, mg (up_1 _ (List.mem_of_getElem? (i := 14) (by decide +kernel))) rfl, by decide +kernel, ⟨by decide +kernel, by decide +kernel⟩, by decide +kernel⟩, mg (up_3 _ (List.mem_of_getElem? (i := 225) (by decide +kernel))) rfl⟩
def mX6_timesOf : MD := (yX6_timesOf, cX6_timesOf, 5, some .int, 2)
theorem ok_mX6_timesOf : okS mX6_timesOf := ⟨⟨mg (up_3 _ (List.mem_of_getElem? (i := 233) (by decide +kernel))) rfl, mg (up_1 _ (List.mem_of_getElem? (i := 14) (by decide +kernel))) rfl, by decide +kernel, ⟨by decide +kernel, by decide +kernel⟩, by decide +kernel⟩, mg (up_3 _ (List.mem_of_getElem? (i := 232) (by decide +kernel))) rfl⟩
def mX6_with : MD := (yX6_with, cX6_with, 7, some .long, 2)
theorem ok_mX6_with : okS mX6_with := ⟨⟨mg (up_2 _ (List.mem_of_getElem? (i := 28) (by decide +kernel))) rfl, mg (up_1 _ (List.mem_of_getElem? (i := 14) (by decide +kernel))) rfl, by decide +kernel, ⟨by decide +kernel, by decide +kernel⟩, by decide +kernel⟩, mg (up_2 _ (List.mem_of_getElem? (i := 27) (by decide +kernel))) rfl⟩
def mX6_withoutTwo : MD := (yX6_withoutTwo, cX6_withoutTwo, 7, some .long, 2)
theorem ok_mX6_withoutTwo : okS mX6_withoutTwo := ⟨⟨mg (up_2 _ (List.mem_of_getElem? (i := 85) (by decide +kernel))) rfl, mg (up_1 _ (List.mem_of_getElem? (i := 14) (by decide +kernel))) rfl, by decide +kernel, ⟨by decide +kernel, by decide +kernel⟩, by decide +kernel⟩, mg (up_2 _ (List.mem_of_getElem? (i := 84) (by decide +kernel))) rfl⟩
def mX6_joined : MD := (yX6_joined, cX6_joined, 8, some .long, 2)
theorem ok_mX6_joined : okS mX6_joined := ⟨⟨mg (up_3 _ (List.mem_of_getElem? (i := 78) (by decide +kernel))) rfl, mg (up_1 _ (List.mem_of_getElem? (i := 14) (by decide +kernel))) rfl, by decide +kernel, ⟨by decide +kernel, by decide +kernel⟩, by decide +kernel⟩, mg (up_3 _ (List.mem_of_getElem? (i := 77) (by decide +kernel))) rfl⟩
def mX6_breakOf : MD := (yX6_breakOf, cX6_breakOf, 5, some .int, 1)
theorem ok_mX6_breakOf : okS mX6_breakOf := ⟨⟨mg (up_2 _ (List.mem_of_getElem? (i := 31) (by decide +kernel))) rfl, mg (up_1 _ (List.mem_of_getElem? (i := 14) (by decide +kernel))) rfl, by decide +kernel, ⟨by decide +kernel, by decide +kernel⟩, by decide +kernel⟩, mg (up_2 _ (List.mem_of_getElem? (i := 30) (by decide +kernel))) rfl⟩
def mX6_bracketOfBreak : MD := (yX6_bracketOfBreak, cX6_bracketOfBreak, 1, some .int, 1)
theorem ok_mX6_bracketOfBreak : okS mX6_bracketOfBreak := ⟨⟨mg (up_2 _ (List.mem_of_getElem? (i := 78) (by decide +kernel))) rfl, mg (up_1 _ (List.mem_of_getElem? (i := 14) (by decide +kernel))) rfl, by decide +kernel, ⟨by decide +kernel, by decide +kernel⟩, by decide +kernel⟩, mg (up_2 _ (List.mem_of_getElem? (i := 77) (by decide +kernel))) rfl⟩
def mX6_placeOfBreak : MD := (yX6_placeOfBreak, cX6_placeOfBreak, 1, some .int, 1)
theorem ok_mX6_placeOfBreak : okS mX6_placeOfBreak := ⟨⟨mg (up_2 _ (List.mem_of_getElem? (i := 82) (by decide +kernel))) rfl, mg (up_1 _ (List.mem_of_getElem? (i := 14) (by decide +kernel))) rfl, by decide +kernel, ⟨by decide +kernel, by decide +kernel⟩, by decide +kernel⟩, mg (up_2 _ (List.mem_of_getElem? (i := 81) (by decide +kernel))) rfl⟩
def mX6_breakBetween : MD := (yX6_breakBetween, cX6_breakBetween, 3, some .int, 2)
theorem ok_mX6_breakBetween : okS mX6_breakBetween := ⟨⟨mg (up_2 _ (List.mem_of_getElem? (i := 37) (by decide +kernel))) rfl, mg (up_1 _ (List.mem_of_getElem? (i := 14) (by decide +kernel))) rfl, by decide +kernel, ⟨by decide +kernel, by decide +kernel⟩, by decide +kernel⟩, mg (up_2 _ (List.mem_of_getElem? (i := 36) (by decide +kernel))) rfl⟩
def mX7_init : MD := (yX7_init, cX7_init, 2, none, 0)
theorem ok_mX7_init : okI mX7_init := ⟨⟨mg (up_1 _ (List.mem_of_getElem? (i := 30) (by decide +kernel))) rfl, mg (up_1 _ (List.mem_of_getElem? (i := 2) (by decide +kernel))) rfl, by decide +kernel, ⟨by decide +kernel, by decide +kernel⟩, by decide +kernel⟩, mg (up_1 _ (List.mem_of_getElem? (i := 29) (by decide +kernel))) rfl, rfl⟩
def mX7_take : MD := (yX7_take, cX7_take, 3, none, 1)
theorem ok_mX7_take : okV mX7_take := ⟨⟨mg (up_3 _ (List.mem_of_getElem? (i := 24) (by decide +kernel))) rfl, mg (up_1 _ (List.mem_of_getElem? (i := 2) (by decide +kernel))) rfl, by decide +kernel, ⟨by decide +kernel, by decide +kernel⟩, by decide +kernel⟩, mg (up_3 _ (List.mem_of_getElem? (i := 22) (by decide +kernel))) rfl, mg (up_3 _ (List.mem_of_getElem? (i := 23) (by decide +kernel))) rfl⟩
def mX7_allTerms : MD := (yX7_allTerms, cX7_allTerms, 3, some .int, 0)
theorem ok_mX7_allTerms : okV mX7_allTerms := ⟨⟨mg (up_4 _ (List.mem_of_getElem? (i := 197) (by decide +kernel))) rfl, mg (up_1 _ (List.mem_of_getElem? (i := 2) (by decide +kernel))) rfl, by decide +kernel, ⟨by decide +kernel, by decide +kernel⟩, by decide +kernel⟩, mg (up_4 _ (List.mem_of_getElem? (i := 195) (by decide +kernel))) rfl, mg (up_4 _ (List.mem_of_getElem? (i := 196) (by decide +kernel))) rfl⟩
def mX7_factOf : MD := (yX7_factOf, cX7_factOf, 2, some .int, 1)
theorem ok_mX7_factOf : okV mX7_factOf := ⟨⟨mg (up_3 _ (List.mem_of_getElem? (i := 191) (by decide +kernel))) rfl, mg (up_1 _ (List.mem_of_getElem? (i := 2) (by decide +kernel))) rfl, by decide +kernel, ⟨by decide +kernel, by decide +kernel⟩, by decide +kernel⟩, mg (up_3 _ (List.mem_of_getElem? (i := 189) (by decide +kernel))) rfl, mg (up_3 _ (List.mem_of_getElem? (i := 190) (by decide +kernel))) rfl⟩
def mX7_tellFact : MD := (yX7_tellFact, cX7_tellFact, 3, none, 2)
theorem ok_mX7_tellFact : okV mX7_tellFact := ⟨⟨mg (up_3 _ (List.mem_of_getElem? (i := 206) (by decide +kernel))) rfl, mg (up_1 _ (List.mem_of_getElem? (i := 2) (by decide +kernel))) rfl, by decide +kernel, ⟨by decide +kernel, by decide +kernel⟩, by decide +kernel⟩, mg (up_3 _ (List.mem_of_getElem? (i := 204) (by decide +kernel))) rfl, mg (up_3 _ (List.mem_of_getElem? (i := 205) (by decide +kernel))) rfl⟩
def mX7_factsThatAre : MD := (yX7_factsThatAre, cX7_factsThatAre, 4, some .int, 1)
theorem ok_mX7_factsThatAre : okV mX7_factsThatAre := ⟨⟨mg (up_4 _ (List.mem_of_getElem? (i := 201) (by decide +kernel))) rfl, mg (up_1 _ (List.mem_of_getElem? (i := 2) (by decide +kernel))) rfl, by decide +kernel, ⟨by decide +kernel, by decide +kernel⟩, by decide +kernel⟩, mg (up_4 _ (List.mem_of_getElem? (i := 199) (by decide +kernel))) rfl, mg (up_4 _ (List.mem_of_getElem? (i := 200) (by decide +kernel))) rfl⟩
def mX7_reduceTo : MD := (yX7_reduceTo, cX7_reduceTo, 4, none, 2)
theorem ok_mX7_reduceTo : okV mX7_reduceTo := ⟨⟨mg (up_3 _ (List.mem_of_getElem? (i := 180) (by decide +kernel))) rfl, mg (up_1 _ (List.mem_of_getElem? (i := 2) (by decide +kernel))) rfl, by decide +kernel, ⟨by decide +kernel, by decide +kernel⟩, by decide +kernel⟩, mg (up_3 _ (List.mem_of_getElem? (i := 178) (by decide +kernel))) rfl, mg (up_3 _ (List.mem_of_getElem? (i := 179) (by decide +kernel))) rfl⟩
def mX7_cannotVanish : MD := (yX7_cannotVanish, cX7_cannotVanish, 4, some .boolean, 1)
theorem ok_mX7_cannotVanish : okV mX7_cannotVanish := ⟨⟨mg (up_4 _ (List.mem_of_getElem? (i := 136) (by decide +kernel))) rfl, mg (up_1 _ (List.mem_of_getElem? (i := 2) (by decide +kernel))) rfl, by decide +kernel, ⟨by decide +kernel, by decide +kernel⟩, by decide +kernel⟩, mg (up_4 _ (List.mem_of_getElem? (i := 134) (by decide +kernel))) rfl, mg (up_4 _ (List.mem_of_getElem? (i := 135) (by decide +kernel))) rfl⟩
def mX7_bracketsThatAre : MD := (yX7_bracketsThatAre, cX7_bracketsThatAre, 7, some .int, 2)
theorem ok_mX7_bracketsThatAre : okV mX7_bracketsThatAre := ⟨⟨mg (up_3 _ (List.mem_of_getElem? (i := 185) (by decide +kernel))) rfl, mg (up_1 _ (List.mem_of_getElem? (i := 2) (by decide +kernel))) rfl, by decide +kernel, ⟨by decide +kernel, by decide +kernel⟩, by decide +kernel⟩, mg (up_3 _ (List.mem_of_getElem? (i := 184) (by decide +kernel))) rfl, mg (up_0 _ (List.mem_of_getElem? (i := 17) (by decide +kernel))) rfl⟩
def mX7_determinant : MD := (yX7_determinant, cX7_determinant, 7, some .int, 3)
theorem ok_mX7_determinant : okV mX7_determinant := ⟨⟨mg (up_4 _ (List.mem_of_getElem? (i := 152) (by decide +kernel))) rfl, mg (up_1 _ (List.mem_of_getElem? (i := 2) (by decide +kernel))) rfl, by decide +kernel, ⟨by decide +kernel, by decide +kernel⟩, by decide +kernel⟩, mg (up_4 _ (List.mem_of_getElem? (i := 150) (by decide +kernel))) rfl, mg (up_4 _ (List.mem_of_getElem? (i := 151) (by decide +kernel))) rfl⟩
def mX7_bracketsWorthZero : MD := (yX7_bracketsWorthZero, cX7_bracketsWorthZero, 5, some .int, 0)
theorem ok_mX7_bracketsWorthZero : okV mX7_bracketsWorthZero := ⟨⟨mg (up_4 _ (List.mem_of_getElem? (i := 205) (by decide +kernel))) rfl, mg (up_1 _ (List.mem_of_getElem? (i := 2) (by decide +kernel))) rfl, by decide +kernel, ⟨by decide +kernel, by decide +kernel⟩, by decide +kernel⟩, mg (up_4 _ (List.mem_of_getElem? (i := 203) (by decide +kernel))) rfl, mg (up_4 _ (List.mem_of_getElem? (i := 204) (by decide +kernel))) rfl⟩
def mX7_worthOf : MD := (yX7_worthOf, cX7_worthOf, 11, some .long, 1)
theorem ok_mX7_worthOf : okV mX7_worthOf := ⟨⟨mg (up_4 _ (List.mem_of_getElem? (i := 161) (by decide +kernel))) rfl, mg (up_1 _ (List.mem_of_getElem? (i := 2) (by decide +kernel))) rfl, by decide +kernel, ⟨by decide +kernel, by decide +kernel⟩, by decide +kernel⟩, mg (up_4 _ (List.mem_of_getElem? (i := 159) (by decide +kernel))) rfl, mg (up_4 _ (List.mem_of_getElem? (i := 160) (by decide +kernel))) rfl⟩
def mX7_isTooGreat : MD := (yX7_isTooGreat, cX7_isTooGreat, 3, some .boolean, 2)
theorem ok_mX7_isTooGreat : okS mX7_isTooGreat := ⟨⟨mg (up_4 _ (List.mem_of_getElem? (i := 166) (by decide +kernel))) rfl, mg (up_1 _ (List.mem_of_getElem? (i := 2) (by decide +kernel))) rfl, by decide +kernel, ⟨by decide +kernel, by decide +kernel⟩, by decide +kernel⟩, mg (up_4 _ (List.mem_of_getElem? (i := 165) (by decide +kernel))) rfl⟩
def mX8_init : MD := (yX8_init, cX8_init, 1, none, 0)
theorem ok_mX8_init : okI mX8_init := ⟨⟨mg (up_1 _ (List.mem_of_getElem? (i := 157) (by decide +kernel))) rfl, mg (up_1 _ (List.mem_of_getElem? (i := 8) (by decide +kernel))) rfl, by decide +kernel, ⟨by decide +kernel, by decide +kernel⟩, by decide +kernel⟩, mg (up_1 _ (List.mem_of_getElem? (i := 156) (by decide +kernel))) rfl, rfl⟩
def mX8_straighten : MD := (yX8_straighten, cX8_straighten, 14, some .int, 2)
theorem ok_mX8_straighten : okV mX8_straighten := ⟨⟨mg (up_2 _ (List.mem_of_getElem? (i := 67) (by decide +kernel))) rfl, mg (up_1 _ (List.mem_of_getElem? (i := 8) (by decide +kernel))) rfl, by decide +kernel, ⟨by decide +kernel, by decide +kernel⟩, by decide +kernel⟩, mg (up_2 _ (List.mem_of_getElem? (i := 65) (by decide +kernel))) rfl, mg (up_2 _ (List.mem_of_getElem? (i := 66) (by decide +kernel))) rfl⟩
def mX8_layExchange : MD := (yX8_layExchange, cX8_layExchange, 14, some .int, 6)
theorem ok_mX8_layExchange : okV mX8_layExchange := ⟨⟨mg (up_2 _ (List.mem_of_getElem? (i := 90) (by decide +kernel))) rfl, mg (up_1 _ (List.mem_of_getElem? (i := 8) (by decide +kernel))) rfl, by decide +kernel, ⟨by decide +kernel, by decide +kernel⟩, by decide +kernel⟩, mg (up_2 _ (List.mem_of_getElem? (i := 88) (by decide +kernel))) rfl, mg (up_2 _ (List.mem_of_getElem? (i := 89) (by decide +kernel))) rfl⟩
def mX8_attachWay : MD := (yX8_attachWay, cX8_attachWay, 12, some .int, 5)
theorem ok_mX8_attachWay : okV mX8_attachWay := ⟨⟨mg (up_2 _ (List.mem_of_getElem? (i := 100) (by decide +kernel))) rfl, mg (up_1 _ (List.mem_of_getElem? (i := 8) (by decide +kernel))) rfl, by decide +kernel, ⟨by decide +kernel, by decide +kernel⟩, by decide +kernel⟩, mg (up_2 _ (List.mem_of_getElem? (i := 99) (by decide +kernel))) rfl, mg (up_0 _ (List.mem_of_getElem? (i := 2) (by decide +kernel))) rfl⟩
def mX8_lastBroken : MD := (yX8_lastBroken, cX8_lastBroken, 3, some .int, 2)
theorem ok_mX8_lastBroken : okS mX8_lastBroken := ⟨⟨mg (up_2 _ (List.mem_of_getElem? (i := 74) (by decide +kernel))) rfl, mg (up_1 _ (List.mem_of_getElem? (i := 8) (by decide +kernel))) rfl, by decide +kernel, ⟨by decide +kernel, by decide +kernel⟩, by decide +kernel⟩, mg (up_2 _ (List.mem_of_getElem? (i := 73) (by decide +kernel))) rfl⟩
def mX9_init : MD := (yX9_init, cX9_init, 1, none, 0)
theorem ok_mX9_init : okI mX9_init := ⟨⟨mg (up_1 _ (List.mem_of_getElem? (i := 106) (by decide +kernel))) rfl, mg (up_1 _ (List.mem_of_getElem? (i := 6) (by decide +kernel))) rfl, by decide +kernel, ⟨by decide +kernel, by decide +kernel⟩, by decide +kernel⟩, mg (up_1 _ (List.mem_of_getElem? (i := 105) (by decide +kernel))) rfl, rfl⟩
def mX9_take : MD := (yX9_take, cX9_take, 3, none, 1)
theorem ok_mX9_take : okV mX9_take := ⟨⟨mg (up_2 _ (List.mem_of_getElem? (i := 191) (by decide +kernel))) rfl, mg (up_1 _ (List.mem_of_getElem? (i := 6) (by decide +kernel))) rfl, by decide +kernel, ⟨by decide +kernel, by decide +kernel⟩, by decide +kernel⟩, mg (up_2 _ (List.mem_of_getElem? (i := 189) (by decide +kernel))) rfl, mg (up_2 _ (List.mem_of_getElem? (i := 190) (by decide +kernel))) rfl⟩
def mX9_isLetterByte : MD := (yX9_isLetterByte, cX9_isLetterByte, 1, some .boolean, 1)
theorem ok_mX9_isLetterByte : okS mX9_isLetterByte := ⟨⟨mg (up_2 _ (List.mem_of_getElem? (i := 212) (by decide +kernel))) rfl, mg (up_1 _ (List.mem_of_getElem? (i := 6) (by decide +kernel))) rfl, by decide +kernel, ⟨by decide +kernel, by decide +kernel⟩, by decide +kernel⟩, mg (up_2 _ (List.mem_of_getElem? (i := 211) (by decide +kernel))) rfl⟩
def mX9_isSign : MD := (yX9_isSign, cX9_isSign, 1, some .boolean, 1)
theorem ok_mX9_isSign : okS mX9_isSign := ⟨⟨mg (up_2 _ (List.mem_of_getElem? (i := 215) (by decide +kernel))) rfl, mg (up_1 _ (List.mem_of_getElem? (i := 6) (by decide +kernel))) rfl, by decide +kernel, ⟨by decide +kernel, by decide +kernel⟩, by decide +kernel⟩, mg (up_2 _ (List.mem_of_getElem? (i := 214) (by decide +kernel))) rfl⟩
def mX9_isDigit : MD := (yX9_isDigit, cX9_isDigit, 1, some .boolean, 1)
theorem ok_mX9_isDigit : okS mX9_isDigit := ⟨⟨mg (up_2 _ (List.mem_of_getElem? (i := 218) (by decide +kernel))) rfl, mg (up_1 _ (List.mem_of_getElem? (i := 6) (by decide +kernel))) rfl, by decide +kernel, ⟨by decide +kernel, by decide +kernel⟩, by decide +kernel⟩, mg (up_2 _ (List.mem_of_getElem? (i := 217) (by decide +kernel))) rfl⟩
def mX9_note : MD := (yX9_note, cX9_note, 3, some .boolean, 2)
theorem ok_mX9_note : okV mX9_note := ⟨⟨mg (up_2 _ (List.mem_of_getElem? (i := 222) (by decide +kernel))) rfl, mg (up_1 _ (List.mem_of_getElem? (i := 6) (by decide +kernel))) rfl, by decide +kernel, ⟨by decide +kernel, by decide +kernel⟩, by decide +kernel⟩, mg (up_2 _ (List.mem_of_getElem? (i := 221) (by decide +kernel))) rfl, mg (up_0 _ (List.mem_of_getElem? (i := 5) (by decide +kernel))) rfl⟩
def mX9_tellsPolynomial : MD := (yX9_tellsPolynomial, cX9_tellsPolynomial, 7, some .boolean, 1)
theorem ok_mX9_tellsPolynomial : okV mX9_tellsPolynomial := ⟨⟨mg (up_2 _ (List.mem_of_getElem? (i := 206) (by decide +kernel))) rfl, mg (up_1 _ (List.mem_of_getElem? (i := 6) (by decide +kernel))) rfl, by decide +kernel, ⟨by decide +kernel, by decide +kernel⟩, by decide +kernel⟩, mg (up_2 _ (List.mem_of_getElem? (i := 204) (by decide +kernel))) rfl, mg (up_2 _ (List.mem_of_getElem? (i := 205) (by decide +kernel))) rfl⟩
def mX9_behind : MD := (yX9_behind, cX9_behind, 2, some .int, 2)
theorem ok_mX9_behind : okS mX9_behind := ⟨⟨mg (up_2 _ (List.mem_of_getElem? (i := 209) (by decide +kernel))) rfl, mg (up_1 _ (List.mem_of_getElem? (i := 6) (by decide +kernel))) rfl, by decide +kernel, ⟨by decide +kernel, by decide +kernel⟩, by decide +kernel⟩, mg (up_2 _ (List.mem_of_getElem? (i := 208) (by decide +kernel))) rfl⟩
def mX9_readPolynomial : MD := (yX9_readPolynomial, cX9_readPolynomial, 8, some .int, 2)
theorem ok_mX9_readPolynomial : okV mX9_readPolynomial := ⟨⟨mg (up_2 _ (List.mem_of_getElem? (i := 230) (by decide +kernel))) rfl, mg (up_1 _ (List.mem_of_getElem? (i := 6) (by decide +kernel))) rfl, by decide +kernel, ⟨by decide +kernel, by decide +kernel⟩, by decide +kernel⟩, mg (up_2 _ (List.mem_of_getElem? (i := 228) (by decide +kernel))) rfl, mg (up_2 _ (List.mem_of_getElem? (i := 229) (by decide +kernel))) rfl⟩
def mX9_layRead : MD := (yX9_layRead, cX9_layRead, 6, some .int, 3)
theorem ok_mX9_layRead : okV mX9_layRead := ⟨⟨mg (up_2 _ (List.mem_of_getElem? (i := 236) (by decide +kernel))) rfl, mg (up_1 _ (List.mem_of_getElem? (i := 6) (by decide +kernel))) rfl, by decide +kernel, ⟨by decide +kernel, by decide +kernel⟩, by decide +kernel⟩, mg (up_2 _ (List.mem_of_getElem? (i := 235) (by decide +kernel))) rfl, mg (up_0 _ (List.mem_of_getElem? (i := 7) (by decide +kernel))) rfl⟩
def mX9_tellsFigure : MD := (yX9_tellsFigure, cX9_tellsFigure, 6, some .boolean, 1)
theorem ok_mX9_tellsFigure : okV mX9_tellsFigure := ⟨⟨mg (up_3 _ (List.mem_of_getElem? (i := 38) (by decide +kernel))) rfl, mg (up_1 _ (List.mem_of_getElem? (i := 6) (by decide +kernel))) rfl, by decide +kernel, ⟨by decide +kernel, by decide +kernel⟩, by decide +kernel⟩, mg (up_3 _ (List.mem_of_getElem? (i := 36) (by decide +kernel))) rfl, mg (up_3 _ (List.mem_of_getElem? (i := 37) (by decide +kernel))) rfl⟩
def mX9_isPointDue : MD := (yX9_isPointDue, cX9_isPointDue, 2, some .boolean, 1)
theorem ok_mX9_isPointDue : okV mX9_isPointDue := ⟨⟨mg (up_3 _ (List.mem_of_getElem? (i := 42) (by decide +kernel))) rfl, mg (up_1 _ (List.mem_of_getElem? (i := 6) (by decide +kernel))) rfl, by decide +kernel, ⟨by decide +kernel, by decide +kernel⟩, by decide +kernel⟩, mg (up_3 _ (List.mem_of_getElem? (i := 41) (by decide +kernel))) rfl, mg (up_0 _ (List.mem_of_getElem? (i := 11) (by decide +kernel))) rfl⟩
def mX10_init : MD := (yX10_init, cX10_init, 1, none, 0)
theorem ok_mX10_init : okI mX10_init := ⟨⟨mg (up_1 _ (List.mem_of_getElem? (i := 112) (by decide +kernel))) rfl, mg (up_1 _ (List.mem_of_getElem? (i := 7) (by decide +kernel))) rfl, by decide +kernel, ⟨by decide +kernel, by decide +kernel⟩, by decide +kernel⟩, mg (up_1 _ (List.mem_of_getElem? (i := 111) (by decide +kernel))) rfl, rfl⟩
def mX10_begin : MD := (yX10_begin, cX10_begin, 3, none, 1)
theorem ok_mX10_begin : okV mX10_begin := ⟨⟨mg (up_2 _ (List.mem_of_getElem? (i := 96) (by decide +kernel))) rfl, mg (up_1 _ (List.mem_of_getElem? (i := 7) (by decide +kernel))) rfl, by decide +kernel, ⟨by decide +kernel, by decide +kernel⟩, by decide +kernel⟩, mg (up_2 _ (List.mem_of_getElem? (i := 94) (by decide +kernel))) rfl, mg (up_2 _ (List.mem_of_getElem? (i := 95) (by decide +kernel))) rfl⟩
def mX10_attach : MD := (yX10_attach, cX10_attach, 3, none, 1)
theorem ok_mX10_attach : okV mX10_attach := ⟨⟨mg (up_2 _ (List.mem_of_getElem? (i := 104) (by decide +kernel))) rfl, mg (up_1 _ (List.mem_of_getElem? (i := 7) (by decide +kernel))) rfl, by decide +kernel, ⟨by decide +kernel, by decide +kernel⟩, by decide +kernel⟩, mg (up_2 _ (List.mem_of_getElem? (i := 102) (by decide +kernel))) rfl, mg (up_2 _ (List.mem_of_getElem? (i := 103) (by decide +kernel))) rfl⟩
def mX10_rename : MD := (yX10_rename, cX10_rename, 11, none, 4)
theorem ok_mX10_rename : okV mX10_rename := ⟨⟨mg (up_3 _ (List.mem_of_getElem? (i := 155) (by decide +kernel))) rfl, mg (up_1 _ (List.mem_of_getElem? (i := 7) (by decide +kernel))) rfl, by decide +kernel, ⟨by decide +kernel, by decide +kernel⟩, by decide +kernel⟩, mg (up_3 _ (List.mem_of_getElem? (i := 153) (by decide +kernel))) rfl, mg (up_3 _ (List.mem_of_getElem? (i := 154) (by decide +kernel))) rfl⟩
def mX10_renamed : MD := (yX10_renamed, cX10_renamed, 4, some .int, 4)
theorem ok_mX10_renamed : okS mX10_renamed := ⟨⟨mg (up_3 _ (List.mem_of_getElem? (i := 162) (by decide +kernel))) rfl, mg (up_1 _ (List.mem_of_getElem? (i := 7) (by decide +kernel))) rfl, by decide +kernel, ⟨by decide +kernel, by decide +kernel⟩, by decide +kernel⟩, mg (up_3 _ (List.mem_of_getElem? (i := 161) (by decide +kernel))) rfl⟩
def mX11_init : MD := (yX11_init, cX11_init, 2, none, 0)
theorem ok_mX11_init : okI mX11_init := ⟨⟨mg (up_1 _ (List.mem_of_getElem? (i := 22) (by decide +kernel))) rfl, mg (up_1 _ (List.mem_of_getElem? (i := 1) (by decide +kernel))) rfl, by decide +kernel, ⟨by decide +kernel, by decide +kernel⟩, by decide +kernel⟩, mg (up_1 _ (List.mem_of_getElem? (i := 21) (by decide +kernel))) rfl, rfl⟩
def mX11_feed : MD := (yX11_feed, cX11_feed, 6, some .int, 5)
theorem ok_mX11_feed : okV mX11_feed := ⟨⟨mg (up_2 _ (List.mem_of_getElem? (i := 187) (by decide +kernel))) rfl, mg (up_1 _ (List.mem_of_getElem? (i := 1) (by decide +kernel))) rfl, by decide +kernel, ⟨by decide +kernel, by decide +kernel⟩, by decide +kernel⟩, mg (up_2 _ (List.mem_of_getElem? (i := 185) (by decide +kernel))) rfl, mg (up_2 _ (List.mem_of_getElem? (i := 186) (by decide +kernel))) rfl⟩
def mX11_told : MD := (yX11_told, cX11_told, 4, some .int, 2)
theorem ok_mX11_told : okV mX11_told := ⟨⟨mg (up_2 _ (List.mem_of_getElem? (i := 195) (by decide +kernel))) rfl, mg (up_1 _ (List.mem_of_getElem? (i := 1) (by decide +kernel))) rfl, by decide +kernel, ⟨by decide +kernel, by decide +kernel⟩, by decide +kernel⟩, mg (up_2 _ (List.mem_of_getElem? (i := 193) (by decide +kernel))) rfl, mg (up_2 _ (List.mem_of_getElem? (i := 194) (by decide +kernel))) rfl⟩
def mX11_figure : MD := (yX11_figure, cX11_figure, 6, some .int, 2)
theorem ok_mX11_figure : okV mX11_figure := ⟨⟨mg (up_3 _ (List.mem_of_getElem? (i := 34) (by decide +kernel))) rfl, mg (up_1 _ (List.mem_of_getElem? (i := 1) (by decide +kernel))) rfl, by decide +kernel, ⟨by decide +kernel, by decide +kernel⟩, by decide +kernel⟩, mg (up_3 _ (List.mem_of_getElem? (i := 32) (by decide +kernel))) rfl, mg (up_3 _ (List.mem_of_getElem? (i := 33) (by decide +kernel))) rfl⟩
def mX11_fault : MD := (yX11_fault, cX11_fault, 2, some .int, 1)
theorem ok_mX11_fault : okV mX11_fault := ⟨⟨mg (up_3 _ (List.mem_of_getElem? (i := 95) (by decide +kernel))) rfl, mg (up_1 _ (List.mem_of_getElem? (i := 1) (by decide +kernel))) rfl, by decide +kernel, ⟨by decide +kernel, by decide +kernel⟩, by decide +kernel⟩, mg (up_3 _ (List.mem_of_getElem? (i := 93) (by decide +kernel))) rfl, mg (up_3 _ (List.mem_of_getElem? (i := 94) (by decide +kernel))) rfl⟩
def mX11_why : MD := (yX11_why, cX11_why, 1, some .int, 0)
theorem ok_mX11_why : okV mX11_why := ⟨⟨mg (up_3 _ (List.mem_of_getElem? (i := 99) (by decide +kernel))) rfl, mg (up_1 _ (List.mem_of_getElem? (i := 1) (by decide +kernel))) rfl, by decide +kernel, ⟨by decide +kernel, by decide +kernel⟩, by decide +kernel⟩, mg (up_3 _ (List.mem_of_getElem? (i := 97) (by decide +kernel))) rfl, mg (up_3 _ (List.mem_of_getElem? (i := 98) (by decide +kernel))) rfl⟩
def mX11_clear : MD := (yX11_clear, cX11_clear, 3, some .int, 1)
theorem ok_mX11_clear : okV mX11_clear := ⟨⟨mg (up_3 _ (List.mem_of_getElem? (i := 103) (by decide +kernel))) rfl, mg (up_1 _ (List.mem_of_getElem? (i := 1) (by decide +kernel))) rfl, by decide +kernel, ⟨by decide +kernel, by decide +kernel⟩, by decide +kernel⟩, mg (up_3 _ (List.mem_of_getElem? (i := 101) (by decide +kernel))) rfl, mg (up_3 _ (List.mem_of_getElem? (i := 102) (by decide +kernel))) rfl⟩
def mX11_copy : MD := (yX11_copy, cX11_copy, 3, some .int, 2)
theorem ok_mX11_copy : okV mX11_copy := ⟨⟨mg (up_3 _ (List.mem_of_getElem? (i := 108) (by decide +kernel))) rfl, mg (up_1 _ (List.mem_of_getElem? (i := 1) (by decide +kernel))) rfl, by decide +kernel, ⟨by decide +kernel, by decide +kernel⟩, by decide +kernel⟩, mg (up_3 _ (List.mem_of_getElem? (i := 106) (by decide +kernel))) rfl, mg (up_3 _ (List.mem_of_getElem? (i := 107) (by decide +kernel))) rfl⟩
def mX11_bracket : MD := (yX11_bracket, cX11_bracket, 5, some .int, 4)
theorem ok_mX11_bracket : okV mX11_bracket := ⟨⟨mg (up_3 _ (List.mem_of_getElem? (i := 112) (by decide +kernel))) rfl, mg (up_1 _ (List.mem_of_getElem? (i := 1) (by decide +kernel))) rfl, by decide +kernel, ⟨by decide +kernel, by decide +kernel⟩, by decide +kernel⟩, mg (up_3 _ (List.mem_of_getElem? (i := 110) (by decide +kernel))) rfl, mg (up_3 _ (List.mem_of_getElem? (i := 111) (by decide +kernel))) rfl⟩
def mX11_exchange : MD := (yX11_exchange, cX11_exchange, 5, some .int, 4)
theorem ok_mX11_exchange : okV mX11_exchange := ⟨⟨mg (up_3 _ (List.mem_of_getElem? (i := 126) (by decide +kernel))) rfl, mg (up_1 _ (List.mem_of_getElem? (i := 1) (by decide +kernel))) rfl, by decide +kernel, ⟨by decide +kernel, by decide +kernel⟩, by decide +kernel⟩, mg (up_3 _ (List.mem_of_getElem? (i := 124) (by decide +kernel))) rfl, mg (up_3 _ (List.mem_of_getElem? (i := 125) (by decide +kernel))) rfl⟩
def mX11_add : MD := (yX11_add, cX11_add, 7, some .int, 5)
theorem ok_mX11_add : okV mX11_add := ⟨⟨mg (up_3 _ (List.mem_of_getElem? (i := 134) (by decide +kernel))) rfl, mg (up_1 _ (List.mem_of_getElem? (i := 1) (by decide +kernel))) rfl, by decide +kernel, ⟨by decide +kernel, by decide +kernel⟩, by decide +kernel⟩, mg (up_3 _ (List.mem_of_getElem? (i := 132) (by decide +kernel))) rfl, mg (up_3 _ (List.mem_of_getElem? (i := 133) (by decide +kernel))) rfl⟩
def mX11_times : MD := (yX11_times, cX11_times, 4, some .int, 3)
theorem ok_mX11_times : okV mX11_times := ⟨⟨mg (up_3 _ (List.mem_of_getElem? (i := 142) (by decide +kernel))) rfl, mg (up_1 _ (List.mem_of_getElem? (i := 1) (by decide +kernel))) rfl, by decide +kernel, ⟨by decide +kernel, by decide +kernel⟩, by decide +kernel⟩, mg (up_3 _ (List.mem_of_getElem? (i := 140) (by decide +kernel))) rfl, mg (up_3 _ (List.mem_of_getElem? (i := 141) (by decide +kernel))) rfl⟩
def mX11_put : MD := (yX11_put, cX11_put, 5, some .int, 4)
theorem ok_mX11_put : okV mX11_put := ⟨⟨mg (up_3 _ (List.mem_of_getElem? (i := 147) (by decide +kernel))) rfl, mg (up_1 _ (List.mem_of_getElem? (i := 1) (by decide +kernel))) rfl, by decide +kernel, ⟨by decide +kernel, by decide +kernel⟩, by decide +kernel⟩, mg (up_3 _ (List.mem_of_getElem? (i := 145) (by decide +kernel))) rfl, mg (up_3 _ (List.mem_of_getElem? (i := 146) (by decide +kernel))) rfl⟩
def mX11_turn : MD := (yX11_turn, cX11_turn, 5, some .int, 4)
theorem ok_mX11_turn : okV mX11_turn := ⟨⟨mg (up_3 _ (List.mem_of_getElem? (i := 167) (by decide +kernel))) rfl, mg (up_1 _ (List.mem_of_getElem? (i := 1) (by decide +kernel))) rfl, by decide +kernel, ⟨by decide +kernel, by decide +kernel⟩, by decide +kernel⟩, mg (up_3 _ (List.mem_of_getElem? (i := 165) (by decide +kernel))) rfl, mg (up_3 _ (List.mem_of_getElem? (i := 166) (by decide +kernel))) rfl⟩
def mX11_straight : MD := (yX11_straight, cX11_straight, 3, some .int, 2)
theorem ok_mX11_straight : okV mX11_straight := ⟨⟨mg (up_3 _ (List.mem_of_getElem? (i := 171) (by decide +kernel))) rfl, mg (up_1 _ (List.mem_of_getElem? (i := 1) (by decide +kernel))) rfl, by decide +kernel, ⟨by decide +kernel, by decide +kernel⟩, by decide +kernel⟩, mg (up_3 _ (List.mem_of_getElem? (i := 169) (by decide +kernel))) rfl, mg (up_3 _ (List.mem_of_getElem? (i := 170) (by decide +kernel))) rfl⟩
def mX11_reduce : MD := (yX11_reduce, cX11_reduce, 3, some .int, 2)
theorem ok_mX11_reduce : okV mX11_reduce := ⟨⟨mg (up_3 _ (List.mem_of_getElem? (i := 176) (by decide +kernel))) rfl, mg (up_1 _ (List.mem_of_getElem? (i := 1) (by decide +kernel))) rfl, by decide +kernel, ⟨by decide +kernel, by decide +kernel⟩, by decide +kernel⟩, mg (up_3 _ (List.mem_of_getElem? (i := 174) (by decide +kernel))) rfl, mg (up_3 _ (List.mem_of_getElem? (i := 175) (by decide +kernel))) rfl⟩
def mX11_fact : MD := (yX11_fact, cX11_fact, 7, some .int, 4)
theorem ok_mX11_fact : okV mX11_fact := ⟨⟨mg (up_3 _ (List.mem_of_getElem? (i := 199) (by decide +kernel))) rfl, mg (up_1 _ (List.mem_of_getElem? (i := 1) (by decide +kernel))) rfl, by decide +kernel, ⟨by decide +kernel, by decide +kernel⟩, by decide +kernel⟩, mg (up_3 _ (List.mem_of_getElem? (i := 197) (by decide +kernel))) rfl, mg (up_3 _ (List.mem_of_getElem? (i := 198) (by decide +kernel))) rfl⟩
def mX11_place : MD := (yX11_place, cX11_place, 5, some .int, 4)
theorem ok_mX11_place : okV mX11_place := ⟨⟨mg (up_3 _ (List.mem_of_getElem? (i := 210) (by decide +kernel))) rfl, mg (up_1 _ (List.mem_of_getElem? (i := 1) (by decide +kernel))) rfl, by decide +kernel, ⟨by decide +kernel, by decide +kernel⟩, by decide +kernel⟩, mg (up_3 _ (List.mem_of_getElem? (i := 208) (by decide +kernel))) rfl, mg (up_3 _ (List.mem_of_getElem? (i := 209) (by decide +kernel))) rfl⟩
def mX11_terms : MD := (yX11_terms, cX11_terms, 2, some .int, 1)
theorem ok_mX11_terms : okV mX11_terms := ⟨⟨mg (up_3 _ (List.mem_of_getElem? (i := 214) (by decide +kernel))) rfl, mg (up_1 _ (List.mem_of_getElem? (i := 1) (by decide +kernel))) rfl, by decide +kernel, ⟨by decide +kernel, by decide +kernel⟩, by decide +kernel⟩, mg (up_3 _ (List.mem_of_getElem? (i := 212) (by decide +kernel))) rfl, mg (up_3 _ (List.mem_of_getElem? (i := 213) (by decide +kernel))) rfl⟩
def mX11_term : MD := (yX11_term, cX11_term, 8, some .int, 3)
theorem ok_mX11_term : okV mX11_term := ⟨⟨mg (up_3 _ (List.mem_of_getElem? (i := 218) (by decide +kernel))) rfl, mg (up_1 _ (List.mem_of_getElem? (i := 1) (by decide +kernel))) rfl, by decide +kernel, ⟨by decide +kernel, by decide +kernel⟩, by decide +kernel⟩, mg (up_3 _ (List.mem_of_getElem? (i := 216) (by decide +kernel))) rfl, mg (up_3 _ (List.mem_of_getElem? (i := 217) (by decide +kernel))) rfl⟩
def mX11_degree : MD := (yX11_degree, cX11_degree, 6, some .int, 2)
theorem ok_mX11_degree : okV mX11_degree := ⟨⟨mg (up_3 _ (List.mem_of_getElem? (i := 230) (by decide +kernel))) rfl, mg (up_1 _ (List.mem_of_getElem? (i := 1) (by decide +kernel))) rfl, by decide +kernel, ⟨by decide +kernel, by decide +kernel⟩, by decide +kernel⟩, mg (up_3 _ (List.mem_of_getElem? (i := 228) (by decide +kernel))) rfl, mg (up_3 _ (List.mem_of_getElem? (i := 229) (by decide +kernel))) rfl⟩
def mX11_steps : MD := (yX11_steps, cX11_steps, 3, some .int, 1)
theorem ok_mX11_steps : okV mX11_steps := ⟨⟨mg (up_3 _ (List.mem_of_getElem? (i := 238) (by decide +kernel))) rfl, mg (up_1 _ (List.mem_of_getElem? (i := 1) (by decide +kernel))) rfl, by decide +kernel, ⟨by decide +kernel, by decide +kernel⟩, by decide +kernel⟩, mg (up_3 _ (List.mem_of_getElem? (i := 236) (by decide +kernel))) rfl, mg (up_3 _ (List.mem_of_getElem? (i := 237) (by decide +kernel))) rfl⟩
def mX11_left : MD := (yX11_left, cX11_left, 3, some .int, 1)
theorem ok_mX11_left : okV mX11_left := ⟨⟨mg (up_4 _ (List.mem_of_getElem? (i := 2) (by decide +kernel))) rfl, mg (up_1 _ (List.mem_of_getElem? (i := 1) (by decide +kernel))) rfl, by decide +kernel, ⟨by decide +kernel, by decide +kernel⟩, by decide +kernel⟩, mg (up_4 _ (List.mem_of_getElem? (i := 0) (by decide +kernel))) rfl, mg (up_4 _ (List.mem_of_getElem? (i := 1) (by decide +kernel))) rfl⟩
def mX11_equal : MD := (yX11_equal, cX11_equal, 4, some .int, 2)
theorem ok_mX11_equal : okV mX11_equal := ⟨⟨mg (up_4 _ (List.mem_of_getElem? (i := 6) (by decide +kernel))) rfl, mg (up_1 _ (List.mem_of_getElem? (i := 1) (by decide +kernel))) rfl, by decide +kernel, ⟨by decide +kernel, by decide +kernel⟩, by decide +kernel⟩, mg (up_4 _ (List.mem_of_getElem? (i := 4) (by decide +kernel))) rfl, mg (up_4 _ (List.mem_of_getElem? (i := 5) (by decide +kernel))) rfl⟩
def mX11_forms : MD := (yX11_forms, cX11_forms, 3, some .int, 1)
theorem ok_mX11_forms : okV mX11_forms := ⟨⟨mg (up_4 _ (List.mem_of_getElem? (i := 14) (by decide +kernel))) rfl, mg (up_1 _ (List.mem_of_getElem? (i := 1) (by decide +kernel))) rfl, by decide +kernel, ⟨by decide +kernel, by decide +kernel⟩, by decide +kernel⟩, mg (up_4 _ (List.mem_of_getElem? (i := 12) (by decide +kernel))) rfl, mg (up_4 _ (List.mem_of_getElem? (i := 13) (by decide +kernel))) rfl⟩
def mX11_form : MD := (yX11_form, cX11_form, 5, some .int, 3)
theorem ok_mX11_form : okV mX11_form := ⟨⟨mg (up_4 _ (List.mem_of_getElem? (i := 33) (by decide +kernel))) rfl, mg (up_1 _ (List.mem_of_getElem? (i := 1) (by decide +kernel))) rfl, by decide +kernel, ⟨by decide +kernel, by decide +kernel⟩, by decide +kernel⟩, mg (up_4 _ (List.mem_of_getElem? (i := 31) (by decide +kernel))) rfl, mg (up_4 _ (List.mem_of_getElem? (i := 32) (by decide +kernel))) rfl⟩
def mX11_rank : MD := (yX11_rank, cX11_rank, 4, some .int, 1)
theorem ok_mX11_rank : okV mX11_rank := ⟨⟨mg (up_4 _ (List.mem_of_getElem? (i := 41) (by decide +kernel))) rfl, mg (up_1 _ (List.mem_of_getElem? (i := 1) (by decide +kernel))) rfl, by decide +kernel, ⟨by decide +kernel, by decide +kernel⟩, by decide +kernel⟩, mg (up_4 _ (List.mem_of_getElem? (i := 39) (by decide +kernel))) rfl, mg (up_4 _ (List.mem_of_getElem? (i := 40) (by decide +kernel))) rfl⟩
def mX11_factor : MD := (yX11_factor, cX11_factor, 5, some .int, 2)
theorem ok_mX11_factor : okV mX11_factor := ⟨⟨mg (up_4 _ (List.mem_of_getElem? (i := 78) (by decide +kernel))) rfl, mg (up_1 _ (List.mem_of_getElem? (i := 1) (by decide +kernel))) rfl, by decide +kernel, ⟨by decide +kernel, by decide +kernel⟩, by decide +kernel⟩, mg (up_4 _ (List.mem_of_getElem? (i := 76) (by decide +kernel))) rfl, mg (up_4 _ (List.mem_of_getElem? (i := 77) (by decide +kernel))) rfl⟩
def mX11_isFinal : MD := (yX11_isFinal, cX11_isFinal, 3, some .int, 1)
theorem ok_mX11_isFinal : okV mX11_isFinal := ⟨⟨mg (up_4 _ (List.mem_of_getElem? (i := 132) (by decide +kernel))) rfl, mg (up_1 _ (List.mem_of_getElem? (i := 1) (by decide +kernel))) rfl, by decide +kernel, ⟨by decide +kernel, by decide +kernel⟩, by decide +kernel⟩, mg (up_4 _ (List.mem_of_getElem? (i := 130) (by decide +kernel))) rfl, mg (up_4 _ (List.mem_of_getElem? (i := 131) (by decide +kernel))) rfl⟩
def mX11_known : MD := (yX11_known, cX11_known, 5, some .int, 3)
theorem ok_mX11_known : okV mX11_known := ⟨⟨mg (up_4 _ (List.mem_of_getElem? (i := 140) (by decide +kernel))) rfl, mg (up_1 _ (List.mem_of_getElem? (i := 1) (by decide +kernel))) rfl, by decide +kernel, ⟨by decide +kernel, by decide +kernel⟩, by decide +kernel⟩, mg (up_4 _ (List.mem_of_getElem? (i := 138) (by decide +kernel))) rfl, mg (up_4 _ (List.mem_of_getElem? (i := 139) (by decide +kernel))) rfl⟩
def mX11_at : MD := (yX11_at, cX11_at, 3, some .int, 2)
theorem ok_mX11_at : okV mX11_at := ⟨⟨mg (up_4 _ (List.mem_of_getElem? (i := 144) (by decide +kernel))) rfl, mg (up_1 _ (List.mem_of_getElem? (i := 1) (by decide +kernel))) rfl, by decide +kernel, ⟨by decide +kernel, by decide +kernel⟩, by decide +kernel⟩, mg (up_4 _ (List.mem_of_getElem? (i := 142) (by decide +kernel))) rfl, mg (up_4 _ (List.mem_of_getElem? (i := 143) (by decide +kernel))) rfl⟩
def mX11_worth : MD := (yX11_worth, cX11_worth, 4, some .int, 3)
theorem ok_mX11_worth : okV mX11_worth := ⟨⟨mg (up_4 _ (List.mem_of_getElem? (i := 148) (by decide +kernel))) rfl, mg (up_1 _ (List.mem_of_getElem? (i := 1) (by decide +kernel))) rfl, by decide +kernel, ⟨by decide +kernel, by decide +kernel⟩, by decide +kernel⟩, mg (up_4 _ (List.mem_of_getElem? (i := 146) (by decide +kernel))) rfl, mg (up_4 _ (List.mem_of_getElem? (i := 147) (by decide +kernel))) rfl⟩
def mX11_value : MD := (yX11_value, cX11_value, 2, some .long, 1)
theorem ok_mX11_value : okV mX11_value := ⟨⟨mg (up_4 _ (List.mem_of_getElem? (i := 156) (by decide +kernel))) rfl, mg (up_1 _ (List.mem_of_getElem? (i := 1) (by decide +kernel))) rfl, by decide +kernel, ⟨by decide +kernel, by decide +kernel⟩, by decide +kernel⟩, mg (up_4 _ (List.mem_of_getElem? (i := 154) (by decide +kernel))) rfl, mg (up_4 _ (List.mem_of_getElem? (i := 155) (by decide +kernel))) rfl⟩
def mX11_undo : MD := (yX11_undo, cX11_undo, 2, some .int, 1)
theorem ok_mX11_undo : okV mX11_undo := ⟨⟨mg (up_4 _ (List.mem_of_getElem? (i := 171) (by decide +kernel))) rfl, mg (up_1 _ (List.mem_of_getElem? (i := 1) (by decide +kernel))) rfl, by decide +kernel, ⟨by decide +kernel, by decide +kernel⟩, by decide +kernel⟩, mg (up_4 _ (List.mem_of_getElem? (i := 169) (by decide +kernel))) rfl, mg (up_4 _ (List.mem_of_getElem? (i := 170) (by decide +kernel))) rfl⟩
def mX11_image : MD := (yX11_image, cX11_image, 2, some .int, 1)
theorem ok_mX11_image : okV mX11_image := ⟨⟨mg (up_4 _ (List.mem_of_getElem? (i := 180) (by decide +kernel))) rfl, mg (up_1 _ (List.mem_of_getElem? (i := 1) (by decide +kernel))) rfl, by decide +kernel, ⟨by decide +kernel, by decide +kernel⟩, by decide +kernel⟩, mg (up_4 _ (List.mem_of_getElem? (i := 178) (by decide +kernel))) rfl, mg (up_4 _ (List.mem_of_getElem? (i := 179) (by decide +kernel))) rfl⟩
def mX11_restore : MD := (yX11_restore, cX11_restore, 2, some .int, 1)
theorem ok_mX11_restore : okV mX11_restore := ⟨⟨mg (up_4 _ (List.mem_of_getElem? (i := 185) (by decide +kernel))) rfl, mg (up_1 _ (List.mem_of_getElem? (i := 1) (by decide +kernel))) rfl, by decide +kernel, ⟨by decide +kernel, by decide +kernel⟩, by decide +kernel⟩, mg (up_4 _ (List.mem_of_getElem? (i := 183) (by decide +kernel))) rfl, mg (up_4 _ (List.mem_of_getElem? (i := 184) (by decide +kernel))) rfl⟩
def mX11_count : MD := (yX11_count, cX11_count, 2, some .int, 1)
theorem ok_mX11_count : okV mX11_count := ⟨⟨mg (up_4 _ (List.mem_of_getElem? (i := 193) (by decide +kernel))) rfl, mg (up_1 _ (List.mem_of_getElem? (i := 1) (by decide +kernel))) rfl, by decide +kernel, ⟨by decide +kernel, by decide +kernel⟩, by decide +kernel⟩, mg (up_4 _ (List.mem_of_getElem? (i := 191) (by decide +kernel))) rfl, mg (up_4 _ (List.mem_of_getElem? (i := 192) (by decide +kernel))) rfl⟩
def mX11_isShelf : MD := (yX11_isShelf, cX11_isShelf, 1, some .boolean, 1)
theorem ok_mX11_isShelf : okS mX11_isShelf := ⟨⟨mg (up_2 _ (List.mem_of_getElem? (i := 202) (by decide +kernel))) rfl, mg (up_1 _ (List.mem_of_getElem? (i := 1) (by decide +kernel))) rfl, by decide +kernel, ⟨by decide +kernel, by decide +kernel⟩, by decide +kernel⟩, mg (up_2 _ (List.mem_of_getElem? (i := 201) (by decide +kernel))) rfl⟩
def mX11_isLetter : MD := (yX11_isLetter, cX11_isLetter, 1, some .boolean, 1)
theorem ok_mX11_isLetter : okS mX11_isLetter := ⟨⟨mg (up_3 _ (List.mem_of_getElem? (i := 118) (by decide +kernel))) rfl, mg (up_1 _ (List.mem_of_getElem? (i := 1) (by decide +kernel))) rfl, by decide +kernel, ⟨by decide +kernel, by decide +kernel⟩, by decide +kernel⟩, mg (up_3 _ (List.mem_of_getElem? (i := 117) (by decide +kernel))) rfl⟩
def mX11_areLetters : MD := (yX11_areLetters, cX11_areLetters, 3, some .boolean, 3)
theorem ok_mX11_areLetters : okS mX11_areLetters := ⟨⟨mg (up_3 _ (List.mem_of_getElem? (i := 115) (by decide +kernel))) rfl, mg (up_1 _ (List.mem_of_getElem? (i := 1) (by decide +kernel))) rfl, by decide +kernel, ⟨by decide +kernel, by decide +kernel⟩, by decide +kernel⟩, mg (up_3 _ (List.mem_of_getElem? (i := 114) (by decide +kernel))) rfl⟩
def mX11_isNear : MD := (yX11_isNear, cX11_isNear, 1, some .boolean, 1)
theorem ok_mX11_isNear : okS mX11_isNear := ⟨⟨mg (up_3 _ (List.mem_of_getElem? (i := 137) (by decide +kernel))) rfl, mg (up_1 _ (List.mem_of_getElem? (i := 1) (by decide +kernel))) rfl, by decide +kernel, ⟨by decide +kernel, by decide +kernel⟩, by decide +kernel⟩, mg (up_3 _ (List.mem_of_getElem? (i := 136) (by decide +kernel))) rfl⟩
def mX11_rowOfDigits : MD := (yX11_rowOfDigits, cX11_rowOfDigits, 1, some .int, 1)
theorem ok_mX11_rowOfDigits : okS mX11_rowOfDigits := ⟨⟨mg (up_3 _ (List.mem_of_getElem? (i := 129) (by decide +kernel))) rfl, mg (up_1 _ (List.mem_of_getElem? (i := 1) (by decide +kernel))) rfl, by decide +kernel, ⟨by decide +kernel, by decide +kernel⟩, by decide +kernel⟩, mg (up_3 _ (List.mem_of_getElem? (i := 128) (by decide +kernel))) rfl⟩
def mX11_askedOfTape : MD := (yX11_askedOfTape, cX11_askedOfTape, 3, some .int, 2)
theorem ok_mX11_askedOfTape : okV mX11_askedOfTape := ⟨⟨mg (up_2 _ (List.mem_of_getElem? (i := 199) (by decide +kernel))) rfl, mg (up_1 _ (List.mem_of_getElem? (i := 1) (by decide +kernel))) rfl, by decide +kernel, ⟨by decide +kernel, by decide +kernel⟩, by decide +kernel⟩, mg (up_2 _ (List.mem_of_getElem? (i := 198) (by decide +kernel))) rfl, mg (up_0 _ (List.mem_of_getElem? (i := 4) (by decide +kernel))) rfl⟩
def mX11_badText : MD := (yX11_badText, cX11_badText, 1, some .int, 0)
theorem ok_mX11_badText : okV mX11_badText := ⟨⟨mg (up_2 _ (List.mem_of_getElem? (i := 226) (by decide +kernel))) rfl, mg (up_1 _ (List.mem_of_getElem? (i := 1) (by decide +kernel))) rfl, by decide +kernel, ⟨by decide +kernel, by decide +kernel⟩, by decide +kernel⟩, mg (up_2 _ (List.mem_of_getElem? (i := 225) (by decide +kernel))) rfl, mg (up_0 _ (List.mem_of_getElem? (i := 6) (by decide +kernel))) rfl⟩
def mX11_keepText : MD := (yX11_keepText, cX11_keepText, 3, some .int, 2)
theorem ok_mX11_keepText : okV mX11_keepText := ⟨⟨mg (up_3 _ (List.mem_of_getElem? (i := 8) (by decide +kernel))) rfl, mg (up_1 _ (List.mem_of_getElem? (i := 1) (by decide +kernel))) rfl, by decide +kernel, ⟨by decide +kernel, by decide +kernel⟩, by decide +kernel⟩, mg (up_3 _ (List.mem_of_getElem? (i := 7) (by decide +kernel))) rfl, mg (up_0 _ (List.mem_of_getElem? (i := 8) (by decide +kernel))) rfl⟩
def mX11_keep : MD := (yX11_keep, cX11_keep, 3, some .int, 2)
theorem ok_mX11_keep : okV mX11_keep := ⟨⟨mg (up_3 _ (List.mem_of_getElem? (i := 12) (by decide +kernel))) rfl, mg (up_1 _ (List.mem_of_getElem? (i := 1) (by decide +kernel))) rfl, by decide +kernel, ⟨by decide +kernel, by decide +kernel⟩, by decide +kernel⟩, mg (up_3 _ (List.mem_of_getElem? (i := 11) (by decide +kernel))) rfl, mg (up_0 _ (List.mem_of_getElem? (i := 9) (by decide +kernel))) rfl⟩
def mX11_refused : MD := (yX11_refused, cX11_refused, 2, some .int, 1)
theorem ok_mX11_refused : okV mX11_refused := ⟨⟨mg (up_3 _ (List.mem_of_getElem? (i := 16) (by decide +kernel))) rfl, mg (up_1 _ (List.mem_of_getElem? (i := 1) (by decide +kernel))) rfl, by decide +kernel, ⟨by decide +kernel, by decide +kernel⟩, by decide +kernel⟩, mg (up_3 _ (List.mem_of_getElem? (i := 15) (by decide +kernel))) rfl, mg (up_0 _ (List.mem_of_getElem? (i := 10) (by decide +kernel))) rfl⟩
def mX11_rename : MD := (yX11_rename, cX11_rename, 7, some .int, 4)
theorem ok_mX11_rename : okV mX11_rename := ⟨⟨mg (up_3 _ (List.mem_of_getElem? (i := 151) (by decide +kernel))) rfl, mg (up_1 _ (List.mem_of_getElem? (i := 1) (by decide +kernel))) rfl, by decide +kernel, ⟨by decide +kernel, by decide +kernel⟩, by decide +kernel⟩, mg (up_3 _ (List.mem_of_getElem? (i := 150) (by decide +kernel))) rfl, mg (up_0 _ (List.mem_of_getElem? (i := 16) (by decide +kernel))) rfl⟩
def mX12_within : MD := (yX12_within, cX12_within, 6, some .boolean, 3)
theorem ok_mX12_within : okS mX12_within := ⟨⟨mg (up_5 _ (List.mem_of_getElem? (i := 100) (by decide +kernel))) rfl, mg (up_1 _ (List.mem_of_getElem? (i := 17) (by decide +kernel))) rfl, by decide +kernel, ⟨by decide +kernel, by decide +kernel⟩, by decide +kernel⟩, mg (up_5 _ (List.mem_of_getElem? (i := 99) (by decide +kernel))) rfl⟩
def mX12_init : MD := (yX12_init, cX12_init, 5, none, 0)
theorem ok_mX12_init : okI mX12_init := ⟨⟨mg (up_4 _ (List.mem_of_getElem? (i := 210) (by decide +kernel))) rfl, mg (up_1 _ (List.mem_of_getElem? (i := 17) (by decide +kernel))) rfl, by decide +kernel, ⟨by decide +kernel, by decide +kernel⟩, by decide +kernel⟩, mg (up_4 _ (List.mem_of_getElem? (i := 209) (by decide +kernel))) rfl, rfl⟩
def mX12_ranks : MD := (yX12_ranks, cX12_ranks, 5, none, 4)
theorem ok_mX12_ranks : okV mX12_ranks := ⟨⟨mg (up_4 _ (List.mem_of_getElem? (i := 215) (by decide +kernel))) rfl, mg (up_1 _ (List.mem_of_getElem? (i := 17) (by decide +kernel))) rfl, by decide +kernel, ⟨by decide +kernel, by decide +kernel⟩, by decide +kernel⟩, mg (up_4 _ (List.mem_of_getElem? (i := 214) (by decide +kernel))) rfl, mg (up_0 _ (List.mem_of_getElem? (i := 31) (by decide +kernel))) rfl⟩
def mX12_isLetter : MD := (yX12_isLetter, cX12_isLetter, 1, some .boolean, 1)
theorem ok_mX12_isLetter : okS mX12_isLetter := ⟨⟨mg (up_5 _ (List.mem_of_getElem? (i := 138) (by decide +kernel))) rfl, mg (up_1 _ (List.mem_of_getElem? (i := 17) (by decide +kernel))) rfl, by decide +kernel, ⟨by decide +kernel, by decide +kernel⟩, by decide +kernel⟩, mg (up_5 _ (List.mem_of_getElem? (i := 137) (by decide +kernel))) rfl⟩
def mX12_sizeOf : MD := (yX12_sizeOf, cX12_sizeOf, 1, some .int, 1)
theorem ok_mX12_sizeOf : okS mX12_sizeOf := ⟨⟨mg (up_5 _ (List.mem_of_getElem? (i := 146) (by decide +kernel))) rfl, mg (up_1 _ (List.mem_of_getElem? (i := 17) (by decide +kernel))) rfl, by decide +kernel, ⟨by decide +kernel, by decide +kernel⟩, by decide +kernel⟩, mg (up_5 _ (List.mem_of_getElem? (i := 145) (by decide +kernel))) rfl⟩
def mX12_copies : MD := (yX12_copies, cX12_copies, 6, none, 5)
theorem ok_mX12_copies : okS mX12_copies := ⟨⟨mg (up_5 _ (List.mem_of_getElem? (i := 119) (by decide +kernel))) rfl, mg (up_1 _ (List.mem_of_getElem? (i := 17) (by decide +kernel))) rfl, by decide +kernel, ⟨by decide +kernel, by decide +kernel⟩, by decide +kernel⟩, mg (up_5 _ (List.mem_of_getElem? (i := 118) (by decide +kernel))) rfl⟩
def mX12_notes : MD := (yX12_notes, cX12_notes, 1, none, 0)
theorem ok_mX12_notes : okV mX12_notes := ⟨⟨mg (up_5 _ (List.mem_of_getElem? (i := 116) (by decide +kernel))) rfl, mg (up_1 _ (List.mem_of_getElem? (i := 17) (by decide +kernel))) rfl, by decide +kernel, ⟨by decide +kernel, by decide +kernel⟩, by decide +kernel⟩, mg (up_5 _ (List.mem_of_getElem? (i := 115) (by decide +kernel))) rfl, mg (up_0 _ (List.mem_of_getElem? (i := 35) (by decide +kernel))) rfl⟩
def mX12_begins : MD := (yX12_begins, cX12_begins, 1, none, 0)
theorem ok_mX12_begins : okV mX12_begins := ⟨⟨mg (up_5 _ (List.mem_of_getElem? (i := 104) (by decide +kernel))) rfl, mg (up_1 _ (List.mem_of_getElem? (i := 17) (by decide +kernel))) rfl, by decide +kernel, ⟨by decide +kernel, by decide +kernel⟩, by decide +kernel⟩, mg (up_5 _ (List.mem_of_getElem? (i := 103) (by decide +kernel))) rfl, mg (up_0 _ (List.mem_of_getElem? (i := 32) (by decide +kernel))) rfl⟩
def mX12_empties : MD := (yX12_empties, cX12_empties, 2, none, 1)
theorem ok_mX12_empties : okV mX12_empties := ⟨⟨mg (up_5 _ (List.mem_of_getElem? (i := 108) (by decide +kernel))) rfl, mg (up_1 _ (List.mem_of_getElem? (i := 17) (by decide +kernel))) rfl, by decide +kernel, ⟨by decide +kernel, by decide +kernel⟩, by decide +kernel⟩, mg (up_5 _ (List.mem_of_getElem? (i := 107) (by decide +kernel))) rfl, mg (up_0 _ (List.mem_of_getElem? (i := 33) (by decide +kernel))) rfl⟩
def mX12_many : MD := (yX12_many, cX12_many, 2, some .int, 1)
theorem ok_mX12_many : okV mX12_many := ⟨⟨mg (up_5 _ (List.mem_of_getElem? (i := 123) (by decide +kernel))) rfl, mg (up_1 _ (List.mem_of_getElem? (i := 17) (by decide +kernel))) rfl, by decide +kernel, ⟨by decide +kernel, by decide +kernel⟩, by decide +kernel⟩, mg (up_5 _ (List.mem_of_getElem? (i := 122) (by decide +kernel))) rfl, mg (up_0 _ (List.mem_of_getElem? (i := 36) (by decide +kernel))) rfl⟩
def mX12_key : MD := (yX12_key, cX12_key, 3, some .int, 2)
theorem ok_mX12_key : okV mX12_key := ⟨⟨mg (up_5 _ (List.mem_of_getElem? (i := 172) (by decide +kernel))) rfl, mg (up_1 _ (List.mem_of_getElem? (i := 17) (by decide +kernel))) rfl, by decide +kernel, ⟨by decide +kernel, by decide +kernel⟩, by decide +kernel⟩, mg (up_5 _ (List.mem_of_getElem? (i := 171) (by decide +kernel))) rfl, mg (up_0 _ (List.mem_of_getElem? (i := 43) (by decide +kernel))) rfl⟩
def mX12_number : MD := (yX12_number, cX12_number, 3, some .int, 2)
theorem ok_mX12_number : okV mX12_number := ⟨⟨mg (up_5 _ (List.mem_of_getElem? (i := 176) (by decide +kernel))) rfl, mg (up_1 _ (List.mem_of_getElem? (i := 17) (by decide +kernel))) rfl, by decide +kernel, ⟨by decide +kernel, by decide +kernel⟩, by decide +kernel⟩, mg (up_5 _ (List.mem_of_getElem? (i := 175) (by decide +kernel))) rfl, mg (up_0 _ (List.mem_of_getElem? (i := 44) (by decide +kernel))) rfl⟩
def mX12_takes : MD := (yX12_takes, cX12_takes, 3, none, 2)
theorem ok_mX12_takes : okV mX12_takes := ⟨⟨mg (up_5 _ (List.mem_of_getElem? (i := 131) (by decide +kernel))) rfl, mg (up_1 _ (List.mem_of_getElem? (i := 17) (by decide +kernel))) rfl, by decide +kernel, ⟨by decide +kernel, by decide +kernel⟩, by decide +kernel⟩, mg (up_5 _ (List.mem_of_getElem? (i := 130) (by decide +kernel))) rfl, mg (up_0 _ (List.mem_of_getElem? (i := 37) (by decide +kernel))) rfl⟩
def mX12_copiesRow : MD := (yX12_copiesRow, cX12_copiesRow, 3, none, 2)
theorem ok_mX12_copiesRow : okV mX12_copiesRow := ⟨⟨mg (up_6 _ (List.mem_of_getElem? (i := 147) (by decide +kernel))) rfl, mg (up_1 _ (List.mem_of_getElem? (i := 17) (by decide +kernel))) rfl, by decide +kernel, ⟨by decide +kernel, by decide +kernel⟩, by decide +kernel⟩, mg (up_6 _ (List.mem_of_getElem? (i := 146) (by decide +kernel))) rfl, mg (up_0 _ (List.mem_of_getElem? (i := 79) (by decide +kernel))) rfl⟩
def mX12_fails : MD := (yX12_fails, cX12_fails, 2, some .boolean, 1)
theorem ok_mX12_fails : okV mX12_fails := ⟨⟨mg (up_5 _ (List.mem_of_getElem? (i := 164) (by decide +kernel))) rfl, mg (up_1 _ (List.mem_of_getElem? (i := 17) (by decide +kernel))) rfl, by decide +kernel, ⟨by decide +kernel, by decide +kernel⟩, by decide +kernel⟩, mg (up_5 _ (List.mem_of_getElem? (i := 163) (by decide +kernel))) rfl, mg (up_0 _ (List.mem_of_getElem? (i := 41) (by decide +kernel))) rfl⟩
def mX12_isInt : MD := (yX12_isInt, cX12_isInt, 2, some .boolean, 1)
theorem ok_mX12_isInt : okS mX12_isInt := ⟨⟨mg (up_5 _ (List.mem_of_getElem? (i := 158) (by decide +kernel))) rfl, mg (up_1 _ (List.mem_of_getElem? (i := 17) (by decide +kernel))) rfl, by decide +kernel, ⟨by decide +kernel, by decide +kernel⟩, by decide +kernel⟩, mg (up_5 _ (List.mem_of_getElem? (i := 157) (by decide +kernel))) rfl⟩
def mX12_placeOf : MD := (yX12_placeOf, cX12_placeOf, 4, some .int, 2)
theorem ok_mX12_placeOf : okV mX12_placeOf := ⟨⟨mg (up_5 _ (List.mem_of_getElem? (i := 168) (by decide +kernel))) rfl, mg (up_1 _ (List.mem_of_getElem? (i := 17) (by decide +kernel))) rfl, by decide +kernel, ⟨by decide +kernel, by decide +kernel⟩, by decide +kernel⟩, mg (up_5 _ (List.mem_of_getElem? (i := 167) (by decide +kernel))) rfl, mg (up_0 _ (List.mem_of_getElem? (i := 42) (by decide +kernel))) rfl⟩
def mX12_puts : MD := (yX12_puts, cX12_puts, 11, some .boolean, 3)
theorem ok_mX12_puts : okV mX12_puts := ⟨⟨mg (up_5 _ (List.mem_of_getElem? (i := 155) (by decide +kernel))) rfl, mg (up_1 _ (List.mem_of_getElem? (i := 17) (by decide +kernel))) rfl, by decide +kernel, ⟨by decide +kernel, by decide +kernel⟩, by decide +kernel⟩, mg (up_5 _ (List.mem_of_getElem? (i := 154) (by decide +kernel))) rfl, mg (up_0 _ (List.mem_of_getElem? (i := 40) (by decide +kernel))) rfl⟩
def mX12_rankIn : MD := (yX12_rankIn, cX12_rankIn, 4, some .int, 2)
theorem ok_mX12_rankIn : okS mX12_rankIn := ⟨⟨mg (up_5 _ (List.mem_of_getElem? (i := 231) (by decide +kernel))) rfl, mg (up_1 _ (List.mem_of_getElem? (i := 17) (by decide +kernel))) rfl, by decide +kernel, ⟨by decide +kernel, by decide +kernel⟩, by decide +kernel⟩, mg (up_5 _ (List.mem_of_getElem? (i := 230) (by decide +kernel))) rfl⟩
def mX12_degreeOf : MD := (yX12_degreeOf, cX12_degreeOf, 2, some .int, 1)
theorem ok_mX12_degreeOf : okS mX12_degreeOf := ⟨⟨mg (up_5 _ (List.mem_of_getElem? (i := 228) (by decide +kernel))) rfl, mg (up_1 _ (List.mem_of_getElem? (i := 17) (by decide +kernel))) rfl, by decide +kernel, ⟨by decide +kernel, by decide +kernel⟩, by decide +kernel⟩, mg (up_5 _ (List.mem_of_getElem? (i := 227) (by decide +kernel))) rfl⟩
def mX12_keyOf : MD := (yX12_keyOf, cX12_keyOf, 5, some .int, 1)
theorem ok_mX12_keyOf : okV mX12_keyOf := ⟨⟨mg (up_5 _ (List.mem_of_getElem? (i := 150) (by decide +kernel))) rfl, mg (up_1 _ (List.mem_of_getElem? (i := 17) (by decide +kernel))) rfl, by decide +kernel, ⟨by decide +kernel, by decide +kernel⟩, by decide +kernel⟩, mg (up_5 _ (List.mem_of_getElem? (i := 149) (by decide +kernel))) rfl, mg (up_0 _ (List.mem_of_getElem? (i := 39) (by decide +kernel))) rfl⟩
def mX12_keyTimes : MD := (yX12_keyTimes, cX12_keyTimes, 6, some .int, 2)
theorem ok_mX12_keyTimes : okV mX12_keyTimes := ⟨⟨mg (up_5 _ (List.mem_of_getElem? (i := 225) (by decide +kernel))) rfl, mg (up_1 _ (List.mem_of_getElem? (i := 17) (by decide +kernel))) rfl, by decide +kernel, ⟨by decide +kernel, by decide +kernel⟩, by decide +kernel⟩, mg (up_5 _ (List.mem_of_getElem? (i := 224) (by decide +kernel))) rfl, mg (up_0 _ (List.mem_of_getElem? (i := 52) (by decide +kernel))) rfl⟩
def mX12_multiplies : MD := (yX12_multiplies, cX12_multiplies, 10, none, 4)
theorem ok_mX12_multiplies : okV mX12_multiplies := ⟨⟨mg (up_5 _ (List.mem_of_getElem? (i := 221) (by decide +kernel))) rfl, mg (up_1 _ (List.mem_of_getElem? (i := 17) (by decide +kernel))) rfl, by decide +kernel, ⟨by decide +kernel, by decide +kernel⟩, by decide +kernel⟩, mg (up_5 _ (List.mem_of_getElem? (i := 220) (by decide +kernel))) rfl, mg (up_0 _ (List.mem_of_getElem? (i := 51) (by decide +kernel))) rfl⟩
def mX12_isBroken : MD := (yX12_isBroken, cX12_isBroken, 3, some .boolean, 2)
theorem ok_mX12_isBroken : okV mX12_isBroken := ⟨⟨mg (up_6 _ (List.mem_of_getElem? (i := 27) (by decide +kernel))) rfl, mg (up_1 _ (List.mem_of_getElem? (i := 17) (by decide +kernel))) rfl, by decide +kernel, ⟨by decide +kernel, by decide +kernel⟩, by decide +kernel⟩, mg (up_6 _ (List.mem_of_getElem? (i := 26) (by decide +kernel))) rfl, mg (up_0 _ (List.mem_of_getElem? (i := 58) (by decide +kernel))) rfl⟩
def mX12_breakOf : MD := (yX12_breakOf, cX12_breakOf, 4, some .int, 2)
theorem ok_mX12_breakOf : okV mX12_breakOf := ⟨⟨mg (up_6 _ (List.mem_of_getElem? (i := 31) (by decide +kernel))) rfl, mg (up_1 _ (List.mem_of_getElem? (i := 17) (by decide +kernel))) rfl, by decide +kernel, ⟨by decide +kernel, by decide +kernel⟩, by decide +kernel⟩, mg (up_6 _ (List.mem_of_getElem? (i := 30) (by decide +kernel))) rfl, mg (up_0 _ (List.mem_of_getElem? (i := 59) (by decide +kernel))) rfl⟩
def mX12_brokenIn : MD := (yX12_brokenIn, cX12_brokenIn, 3, some .int, 1)
theorem ok_mX12_brokenIn : okV mX12_brokenIn := ⟨⟨mg (up_6 _ (List.mem_of_getElem? (i := 23) (by decide +kernel))) rfl, mg (up_1 _ (List.mem_of_getElem? (i := 17) (by decide +kernel))) rfl, by decide +kernel, ⟨by decide +kernel, by decide +kernel⟩, by decide +kernel⟩, mg (up_6 _ (List.mem_of_getElem? (i := 22) (by decide +kernel))) rfl, mg (up_0 _ (List.mem_of_getElem? (i := 57) (by decide +kernel))) rfl⟩
def mX12_exchanges : MD := (yX12_exchanges, cX12_exchanges, 13, none, 4)
theorem ok_mX12_exchanges : okV mX12_exchanges := ⟨⟨mg (up_5 _ (List.mem_of_getElem? (i := 186) (by decide +kernel))) rfl, mg (up_1 _ (List.mem_of_getElem? (i := 17) (by decide +kernel))) rfl, by decide +kernel, ⟨by decide +kernel, by decide +kernel⟩, by decide +kernel⟩, mg (up_5 _ (List.mem_of_getElem? (i := 185) (by decide +kernel))) rfl, mg (up_0 _ (List.mem_of_getElem? (i := 45) (by decide +kernel))) rfl⟩
def mX12_layWay : MD := (yX12_layWay, cX12_layWay, 7, some .int, 2)
theorem ok_mX12_layWay : okV mX12_layWay := ⟨⟨mg (up_5 _ (List.mem_of_getElem? (i := 191) (by decide +kernel))) rfl, mg (up_1 _ (List.mem_of_getElem? (i := 17) (by decide +kernel))) rfl, by decide +kernel, ⟨by decide +kernel, by decide +kernel⟩, by decide +kernel⟩, mg (up_5 _ (List.mem_of_getElem? (i := 190) (by decide +kernel))) rfl, mg (up_0 _ (List.mem_of_getElem? (i := 46) (by decide +kernel))) rfl⟩
def mX12_lastBroken : MD := (yX12_lastBroken, cX12_lastBroken, 3, some .int, 1)
theorem ok_mX12_lastBroken : okV mX12_lastBroken := ⟨⟨mg (up_6 _ (List.mem_of_getElem? (i := 19) (by decide +kernel))) rfl, mg (up_1 _ (List.mem_of_getElem? (i := 17) (by decide +kernel))) rfl, by decide +kernel, ⟨by decide +kernel, by decide +kernel⟩, by decide +kernel⟩, mg (up_6 _ (List.mem_of_getElem? (i := 18) (by decide +kernel))) rfl, mg (up_0 _ (List.mem_of_getElem? (i := 56) (by decide +kernel))) rfl⟩
def mX12_steps : MD := (yX12_steps, cX12_steps, 11, none, 2)
theorem ok_mX12_steps : okV mX12_steps := ⟨⟨mg (up_6 _ (List.mem_of_getElem? (i := 35) (by decide +kernel))) rfl, mg (up_1 _ (List.mem_of_getElem? (i := 17) (by decide +kernel))) rfl, by decide +kernel, ⟨by decide +kernel, by decide +kernel⟩, by decide +kernel⟩, mg (up_6 _ (List.mem_of_getElem? (i := 34) (by decide +kernel))) rfl, mg (up_0 _ (List.mem_of_getElem? (i := 60) (by decide +kernel))) rfl⟩
def mX12_straightens : MD := (yX12_straightens, cX12_straightens, 4, some .int, 1)
theorem ok_mX12_straightens : okV mX12_straightens := ⟨⟨mg (up_6 _ (List.mem_of_getElem? (i := 15) (by decide +kernel))) rfl, mg (up_1 _ (List.mem_of_getElem? (i := 17) (by decide +kernel))) rfl, by decide +kernel, ⟨by decide +kernel, by decide +kernel⟩, by decide +kernel⟩, mg (up_6 _ (List.mem_of_getElem? (i := 14) (by decide +kernel))) rfl, mg (up_0 _ (List.mem_of_getElem? (i := 55) (by decide +kernel))) rfl⟩
def mX12_areAlike : MD := (yX12_areAlike, cX12_areAlike, 4, some .boolean, 2)
theorem ok_mX12_areAlike : okV mX12_areAlike := ⟨⟨mg (up_6 _ (List.mem_of_getElem? (i := 193) (by decide +kernel))) rfl, mg (up_1 _ (List.mem_of_getElem? (i := 17) (by decide +kernel))) rfl, by decide +kernel, ⟨by decide +kernel, by decide +kernel⟩, by decide +kernel⟩, mg (up_6 _ (List.mem_of_getElem? (i := 192) (by decide +kernel))) rfl, mg (up_0 _ (List.mem_of_getElem? (i := 83) (by decide +kernel))) rfl⟩
def mX12_isShelf : MD := (yX12_isShelf, cX12_isShelf, 1, some .boolean, 1)
theorem ok_mX12_isShelf : okS mX12_isShelf := ⟨⟨mg (up_5 _ (List.mem_of_getElem? (i := 96) (by decide +kernel))) rfl, mg (up_1 _ (List.mem_of_getElem? (i := 17) (by decide +kernel))) rfl, by decide +kernel, ⟨by decide +kernel, by decide +kernel⟩, by decide +kernel⟩, mg (up_5 _ (List.mem_of_getElem? (i := 95) (by decide +kernel))) rfl⟩
def mX12_codeOf : MD := (yX12_codeOf, cX12_codeOf, 2, some .int, 1)
theorem ok_mX12_codeOf : okV mX12_codeOf := ⟨⟨mg (up_5 _ (List.mem_of_getElem? (i := 213) (by decide +kernel))) rfl, mg (up_1 _ (List.mem_of_getElem? (i := 17) (by decide +kernel))) rfl, by decide +kernel, ⟨by decide +kernel, by decide +kernel⟩, by decide +kernel⟩, mg (up_5 _ (List.mem_of_getElem? (i := 212) (by decide +kernel))) rfl, mg (up_0 _ (List.mem_of_getElem? (i := 50) (by decide +kernel))) rfl⟩
def mX12_ends : MD := (yX12_ends, cX12_ends, 2, some .int, 1)
theorem ok_mX12_ends : okV mX12_ends := ⟨⟨mg (up_5 _ (List.mem_of_getElem? (i := 209) (by decide +kernel))) rfl, mg (up_1 _ (List.mem_of_getElem? (i := 17) (by decide +kernel))) rfl, by decide +kernel, ⟨by decide +kernel, by decide +kernel⟩, by decide +kernel⟩, mg (up_5 _ (List.mem_of_getElem? (i := 208) (by decide +kernel))) rfl, mg (up_0 _ (List.mem_of_getElem? (i := 49) (by decide +kernel))) rfl⟩
def mX12_becomes : MD := (yX12_becomes, cX12_becomes, 2, some .int, 1)
theorem ok_mX12_becomes : okV mX12_becomes := ⟨⟨mg (up_5 _ (List.mem_of_getElem? (i := 112) (by decide +kernel))) rfl, mg (up_1 _ (List.mem_of_getElem? (i := 17) (by decide +kernel))) rfl, by decide +kernel, ⟨by decide +kernel, by decide +kernel⟩, by decide +kernel⟩, mg (up_5 _ (List.mem_of_getElem? (i := 111) (by decide +kernel))) rfl, mg (up_0 _ (List.mem_of_getElem? (i := 34) (by decide +kernel))) rfl⟩
def mX12_refused : MD := (yX12_refused, cX12_refused, 2, some .int, 1)
theorem ok_mX12_refused : okV mX12_refused := ⟨⟨mg (up_5 _ (List.mem_of_getElem? (i := 199) (by decide +kernel))) rfl, mg (up_1 _ (List.mem_of_getElem? (i := 17) (by decide +kernel))) rfl, by decide +kernel, ⟨by decide +kernel, by decide +kernel⟩, by decide +kernel⟩, mg (up_5 _ (List.mem_of_getElem? (i := 198) (by decide +kernel))) rfl, mg (up_0 _ (List.mem_of_getElem? (i := 47) (by decide +kernel))) rfl⟩
def mX12_why : MD := (yX12_why, cX12_why, 1, some .int, 0)
theorem ok_mX12_why : okV mX12_why := ⟨⟨mg (up_5 _ (List.mem_of_getElem? (i := 89) (by decide +kernel))) rfl, mg (up_1 _ (List.mem_of_getElem? (i := 17) (by decide +kernel))) rfl, by decide +kernel, ⟨by decide +kernel, by decide +kernel⟩, by decide +kernel⟩, mg (up_5 _ (List.mem_of_getElem? (i := 87) (by decide +kernel))) rfl, mg (up_5 _ (List.mem_of_getElem? (i := 88) (by decide +kernel))) rfl⟩
def mX12_clear : MD := (yX12_clear, cX12_clear, 4, some .int, 1)
theorem ok_mX12_clear : okV mX12_clear := ⟨⟨mg (up_5 _ (List.mem_of_getElem? (i := 93) (by decide +kernel))) rfl, mg (up_1 _ (List.mem_of_getElem? (i := 17) (by decide +kernel))) rfl, by decide +kernel, ⟨by decide +kernel, by decide +kernel⟩, by decide +kernel⟩, mg (up_5 _ (List.mem_of_getElem? (i := 91) (by decide +kernel))) rfl, mg (up_5 _ (List.mem_of_getElem? (i := 92) (by decide +kernel))) rfl⟩
def mX12_copy : MD := (yX12_copy, cX12_copy, 3, some .int, 2)
theorem ok_mX12_copy : okV mX12_copy := ⟨⟨mg (up_5 _ (List.mem_of_getElem? (i := 127) (by decide +kernel))) rfl, mg (up_1 _ (List.mem_of_getElem? (i := 17) (by decide +kernel))) rfl, by decide +kernel, ⟨by decide +kernel, by decide +kernel⟩, by decide +kernel⟩, mg (up_5 _ (List.mem_of_getElem? (i := 125) (by decide +kernel))) rfl, mg (up_5 _ (List.mem_of_getElem? (i := 126) (by decide +kernel))) rfl⟩
def mX12_putsBracket : MD := (yX12_putsBracket, cX12_putsBracket, 6, none, 4)
theorem ok_mX12_putsBracket : okV mX12_putsBracket := ⟨⟨mg (up_5 _ (List.mem_of_getElem? (i := 143) (by decide +kernel))) rfl, mg (up_1 _ (List.mem_of_getElem? (i := 17) (by decide +kernel))) rfl, by decide +kernel, ⟨by decide +kernel, by decide +kernel⟩, by decide +kernel⟩, mg (up_5 _ (List.mem_of_getElem? (i := 142) (by decide +kernel))) rfl, mg (up_0 _ (List.mem_of_getElem? (i := 38) (by decide +kernel))) rfl⟩
def mX12_bracket : MD := (yX12_bracket, cX12_bracket, 5, some .int, 4)
theorem ok_mX12_bracket : okV mX12_bracket := ⟨⟨mg (up_5 _ (List.mem_of_getElem? (i := 135) (by decide +kernel))) rfl, mg (up_1 _ (List.mem_of_getElem? (i := 17) (by decide +kernel))) rfl, by decide +kernel, ⟨by decide +kernel, by decide +kernel⟩, by decide +kernel⟩, mg (up_5 _ (List.mem_of_getElem? (i := 133) (by decide +kernel))) rfl, mg (up_5 _ (List.mem_of_getElem? (i := 134) (by decide +kernel))) rfl⟩
def mX12_exchange : MD := (yX12_exchange, cX12_exchange, 7, some .int, 4)
theorem ok_mX12_exchange : okV mX12_exchange := ⟨⟨mg (up_5 _ (List.mem_of_getElem? (i := 180) (by decide +kernel))) rfl, mg (up_1 _ (List.mem_of_getElem? (i := 17) (by decide +kernel))) rfl, by decide +kernel, ⟨by decide +kernel, by decide +kernel⟩, by decide +kernel⟩, mg (up_5 _ (List.mem_of_getElem? (i := 178) (by decide +kernel))) rfl, mg (up_5 _ (List.mem_of_getElem? (i := 179) (by decide +kernel))) rfl⟩
def mX12_putsTimes : MD := (yX12_putsTimes, cX12_putsTimes, 4, none, 2)
theorem ok_mX12_putsTimes : okV mX12_putsTimes := ⟨⟨mg (up_5 _ (List.mem_of_getElem? (i := 205) (by decide +kernel))) rfl, mg (up_1 _ (List.mem_of_getElem? (i := 17) (by decide +kernel))) rfl, by decide +kernel, ⟨by decide +kernel, by decide +kernel⟩, by decide +kernel⟩, mg (up_5 _ (List.mem_of_getElem? (i := 204) (by decide +kernel))) rfl, mg (up_0 _ (List.mem_of_getElem? (i := 48) (by decide +kernel))) rfl⟩
def mX12_add : MD := (yX12_add, cX12_add, 6, some .int, 5)
theorem ok_mX12_add : okV mX12_add := ⟨⟨mg (up_5 _ (List.mem_of_getElem? (i := 195) (by decide +kernel))) rfl, mg (up_1 _ (List.mem_of_getElem? (i := 17) (by decide +kernel))) rfl, by decide +kernel, ⟨by decide +kernel, by decide +kernel⟩, by decide +kernel⟩, mg (up_5 _ (List.mem_of_getElem? (i := 193) (by decide +kernel))) rfl, mg (up_5 _ (List.mem_of_getElem? (i := 194) (by decide +kernel))) rfl⟩
def mX12_times : MD := (yX12_times, cX12_times, 4, some .int, 3)
theorem ok_mX12_times : okV mX12_times := ⟨⟨mg (up_5 _ (List.mem_of_getElem? (i := 217) (by decide +kernel))) rfl, mg (up_1 _ (List.mem_of_getElem? (i := 17) (by decide +kernel))) rfl, by decide +kernel, ⟨by decide +kernel, by decide +kernel⟩, by decide +kernel⟩, mg (up_5 _ (List.mem_of_getElem? (i := 215) (by decide +kernel))) rfl, mg (up_5 _ (List.mem_of_getElem? (i := 216) (by decide +kernel))) rfl⟩
def mX12_putsOther : MD := (yX12_putsOther, cX12_putsOther, 10, none, 3)
theorem ok_mX12_putsOther : okV mX12_putsOther := ⟨⟨mg (up_6 _ (List.mem_of_getElem? (i := 3) (by decide +kernel))) rfl, mg (up_1 _ (List.mem_of_getElem? (i := 17) (by decide +kernel))) rfl, by decide +kernel, ⟨by decide +kernel, by decide +kernel⟩, by decide +kernel⟩, mg (up_6 _ (List.mem_of_getElem? (i := 2) (by decide +kernel))) rfl, mg (up_0 _ (List.mem_of_getElem? (i := 54) (by decide +kernel))) rfl⟩
def mX12_puts_ : MD := (yX12_puts_, cX12_puts_, 7, some .int, 5)
theorem ok_mX12_puts_ : okV mX12_puts_ := ⟨⟨mg (up_5 _ (List.mem_of_getElem? (i := 239) (by decide +kernel))) rfl, mg (up_1 _ (List.mem_of_getElem? (i := 17) (by decide +kernel))) rfl, by decide +kernel, ⟨by decide +kernel, by decide +kernel⟩, by decide +kernel⟩, mg (up_5 _ (List.mem_of_getElem? (i := 238) (by decide +kernel))) rfl, mg (up_0 _ (List.mem_of_getElem? (i := 53) (by decide +kernel))) rfl⟩
def mX12_put : MD := (yX12_put, cX12_put, 5, some .int, 4)
theorem ok_mX12_put : okV mX12_put := ⟨⟨mg (up_5 _ (List.mem_of_getElem? (i := 235) (by decide +kernel))) rfl, mg (up_1 _ (List.mem_of_getElem? (i := 17) (by decide +kernel))) rfl, by decide +kernel, ⟨by decide +kernel, by decide +kernel⟩, by decide +kernel⟩, mg (up_5 _ (List.mem_of_getElem? (i := 233) (by decide +kernel))) rfl, mg (up_5 _ (List.mem_of_getElem? (i := 234) (by decide +kernel))) rfl⟩
def mX12_turn : MD := (yX12_turn, cX12_turn, 5, some .int, 4)
theorem ok_mX12_turn : okV mX12_turn := ⟨⟨mg (up_6 _ (List.mem_of_getElem? (i := 7) (by decide +kernel))) rfl, mg (up_1 _ (List.mem_of_getElem? (i := 17) (by decide +kernel))) rfl, by decide +kernel, ⟨by decide +kernel, by decide +kernel⟩, by decide +kernel⟩, mg (up_6 _ (List.mem_of_getElem? (i := 5) (by decide +kernel))) rfl, mg (up_6 _ (List.mem_of_getElem? (i := 6) (by decide +kernel))) rfl⟩
def mX12_straight : MD := (yX12_straight, cX12_straight, 4, some .int, 2)
theorem ok_mX12_straight : okV mX12_straight := ⟨⟨mg (up_6 _ (List.mem_of_getElem? (i := 11) (by decide +kernel))) rfl, mg (up_1 _ (List.mem_of_getElem? (i := 17) (by decide +kernel))) rfl, by decide +kernel, ⟨by decide +kernel, by decide +kernel⟩, by decide +kernel⟩, mg (up_6 _ (List.mem_of_getElem? (i := 9) (by decide +kernel))) rfl, mg (up_6 _ (List.mem_of_getElem? (i := 10) (by decide +kernel))) rfl⟩
def mX12_factOf : MD := (yX12_factOf, cX12_factOf, 2, some .int, 1)
theorem ok_mX12_factOf : okV mX12_factOf := ⟨⟨mg (up_6 _ (List.mem_of_getElem? (i := 47) (by decide +kernel))) rfl, mg (up_1 _ (List.mem_of_getElem? (i := 17) (by decide +kernel))) rfl, by decide +kernel, ⟨by decide +kernel, by decide +kernel⟩, by decide +kernel⟩, mg (up_6 _ (List.mem_of_getElem? (i := 46) (by decide +kernel))) rfl, mg (up_0 _ (List.mem_of_getElem? (i := 62) (by decide +kernel))) rfl⟩
def mX12_reduces : MD := (yX12_reduces, cX12_reduces, 5, none, 1)
theorem ok_mX12_reduces : okV mX12_reduces := ⟨⟨mg (up_6 _ (List.mem_of_getElem? (i := 43) (by decide +kernel))) rfl, mg (up_1 _ (List.mem_of_getElem? (i := 17) (by decide +kernel))) rfl, by decide +kernel, ⟨by decide +kernel, by decide +kernel⟩, by decide +kernel⟩, mg (up_6 _ (List.mem_of_getElem? (i := 42) (by decide +kernel))) rfl, mg (up_0 _ (List.mem_of_getElem? (i := 61) (by decide +kernel))) rfl⟩
def mX12_reduce : MD := (yX12_reduce, cX12_reduce, 3, some .int, 2)
theorem ok_mX12_reduce : okV mX12_reduce := ⟨⟨mg (up_6 _ (List.mem_of_getElem? (i := 39) (by decide +kernel))) rfl, mg (up_1 _ (List.mem_of_getElem? (i := 17) (by decide +kernel))) rfl, by decide +kernel, ⟨by decide +kernel, by decide +kernel⟩, by decide +kernel⟩, mg (up_6 _ (List.mem_of_getElem? (i := 37) (by decide +kernel))) rfl, mg (up_6 _ (List.mem_of_getElem? (i := 38) (by decide +kernel))) rfl⟩
def mX12_fact : MD := (yX12_fact, cX12_fact, 7, some .int, 4)
theorem ok_mX12_fact : okV mX12_fact := ⟨⟨mg (up_6 _ (List.mem_of_getElem? (i := 51) (by decide +kernel))) rfl, mg (up_1 _ (List.mem_of_getElem? (i := 17) (by decide +kernel))) rfl, by decide +kernel, ⟨by decide +kernel, by decide +kernel⟩, by decide +kernel⟩, mg (up_6 _ (List.mem_of_getElem? (i := 49) (by decide +kernel))) rfl, mg (up_6 _ (List.mem_of_getElem? (i := 50) (by decide +kernel))) rfl⟩
def mX12_place : MD := (yX12_place, cX12_place, 5, some .int, 4)
theorem ok_mX12_place : okV mX12_place := ⟨⟨mg (up_6 _ (List.mem_of_getElem? (i := 56) (by decide +kernel))) rfl, mg (up_1 _ (List.mem_of_getElem? (i := 17) (by decide +kernel))) rfl, by decide +kernel, ⟨by decide +kernel, by decide +kernel⟩, by decide +kernel⟩, mg (up_6 _ (List.mem_of_getElem? (i := 54) (by decide +kernel))) rfl, mg (up_6 _ (List.mem_of_getElem? (i := 55) (by decide +kernel))) rfl⟩
def mX12_feed : MD := (yX12_feed, cX12_feed, 8, some .int, 5)
theorem ok_mX12_feed : okV mX12_feed := ⟨⟨mg (up_6 _ (List.mem_of_getElem? (i := 60) (by decide +kernel))) rfl, mg (up_1 _ (List.mem_of_getElem? (i := 17) (by decide +kernel))) rfl, by decide +kernel, ⟨by decide +kernel, by decide +kernel⟩, by decide +kernel⟩, mg (up_6 _ (List.mem_of_getElem? (i := 58) (by decide +kernel))) rfl, mg (up_6 _ (List.mem_of_getElem? (i := 59) (by decide +kernel))) rfl⟩
def mX12_see : MD := (yX12_see, cX12_see, 1, some .int, 0)
theorem ok_mX12_see : okV mX12_see := ⟨⟨mg (up_6 _ (List.mem_of_getElem? (i := 76) (by decide +kernel))) rfl, mg (up_1 _ (List.mem_of_getElem? (i := 17) (by decide +kernel))) rfl, by decide +kernel, ⟨by decide +kernel, by decide +kernel⟩, by decide +kernel⟩, mg (up_6 _ (List.mem_of_getElem? (i := 75) (by decide +kernel))) rfl, mg (up_0 _ (List.mem_of_getElem? (i := 65) (by decide +kernel))) rfl⟩
def mX12_wrongs : MD := (yX12_wrongs, cX12_wrongs, 3, none, 2)
theorem ok_mX12_wrongs : okV mX12_wrongs := ⟨⟨mg (up_6 _ (List.mem_of_getElem? (i := 80) (by decide +kernel))) rfl, mg (up_1 _ (List.mem_of_getElem? (i := 17) (by decide +kernel))) rfl, by decide +kernel, ⟨by decide +kernel, by decide +kernel⟩, by decide +kernel⟩, mg (up_6 _ (List.mem_of_getElem? (i := 79) (by decide +kernel))) rfl, mg (up_0 _ (List.mem_of_getElem? (i := 66) (by decide +kernel))) rfl⟩
def mX12_isDigit : MD := (yX12_isDigit, cX12_isDigit, 1, some .boolean, 0)
theorem ok_mX12_isDigit : okV mX12_isDigit := ⟨⟨mg (up_6 _ (List.mem_of_getElem? (i := 88) (by decide +kernel))) rfl, mg (up_1 _ (List.mem_of_getElem? (i := 17) (by decide +kernel))) rfl, by decide +kernel, ⟨by decide +kernel, by decide +kernel⟩, by decide +kernel⟩, mg (up_6 _ (List.mem_of_getElem? (i := 87) (by decide +kernel))) rfl, mg (up_0 _ (List.mem_of_getElem? (i := 68) (by decide +kernel))) rfl⟩
def mX12_seesLetter : MD := (yX12_seesLetter, cX12_seesLetter, 1, some .boolean, 0)
theorem ok_mX12_seesLetter : okV mX12_seesLetter := ⟨⟨mg (up_6 _ (List.mem_of_getElem? (i := 94) (by decide +kernel))) rfl, mg (up_1 _ (List.mem_of_getElem? (i := 17) (by decide +kernel))) rfl, by decide +kernel, ⟨by decide +kernel, by decide +kernel⟩, by decide +kernel⟩, mg (up_6 _ (List.mem_of_getElem? (i := 93) (by decide +kernel))) rfl, mg (up_0 _ (List.mem_of_getElem? (i := 69) (by decide +kernel))) rfl⟩
def mX12_must : MD := (yX12_must, cX12_must, 2, none, 1)
theorem ok_mX12_must : okV mX12_must := ⟨⟨mg (up_6 _ (List.mem_of_getElem? (i := 100) (by decide +kernel))) rfl, mg (up_1 _ (List.mem_of_getElem? (i := 17) (by decide +kernel))) rfl, by decide +kernel, ⟨by decide +kernel, by decide +kernel⟩, by decide +kernel⟩, mg (up_6 _ (List.mem_of_getElem? (i := 99) (by decide +kernel))) rfl, mg (up_0 _ (List.mem_of_getElem? (i := 70) (by decide +kernel))) rfl⟩
def mX12_letterAt : MD := (yX12_letterAt, cX12_letterAt, 2, some .int, 1)
theorem ok_mX12_letterAt : okV mX12_letterAt := ⟨⟨mg (up_6 _ (List.mem_of_getElem? (i := 104) (by decide +kernel))) rfl, mg (up_1 _ (List.mem_of_getElem? (i := 17) (by decide +kernel))) rfl, by decide +kernel, ⟨by decide +kernel, by decide +kernel⟩, by decide +kernel⟩, mg (up_6 _ (List.mem_of_getElem? (i := 103) (by decide +kernel))) rfl, mg (up_0 _ (List.mem_of_getElem? (i := 71) (by decide +kernel))) rfl⟩
def mX12_term : MD := (yX12_term, cX12_term, 10, none, 2)
theorem ok_mX12_term : okV mX12_term := ⟨⟨mg (up_6 _ (List.mem_of_getElem? (i := 84) (by decide +kernel))) rfl, mg (up_1 _ (List.mem_of_getElem? (i := 17) (by decide +kernel))) rfl, by decide +kernel, ⟨by decide +kernel, by decide +kernel⟩, by decide +kernel⟩, mg (up_6 _ (List.mem_of_getElem? (i := 83) (by decide +kernel))) rfl, mg (up_0 _ (List.mem_of_getElem? (i := 67) (by decide +kernel))) rfl⟩
def mX12_polynomial : MD := (yX12_polynomial, cX12_polynomial, 6, none, 1)
theorem ok_mX12_polynomial : okV mX12_polynomial := ⟨⟨mg (up_6 _ (List.mem_of_getElem? (i := 72) (by decide +kernel))) rfl, mg (up_1 _ (List.mem_of_getElem? (i := 17) (by decide +kernel))) rfl, by decide +kernel, ⟨by decide +kernel, by decide +kernel⟩, by decide +kernel⟩, mg (up_6 _ (List.mem_of_getElem? (i := 71) (by decide +kernel))) rfl, mg (up_0 _ (List.mem_of_getElem? (i := 64) (by decide +kernel))) rfl⟩
def mX12_opensText : MD := (yX12_opensText, cX12_opensText, 3, some .int, 2)
theorem ok_mX12_opensText : okV mX12_opensText := ⟨⟨mg (up_6 _ (List.mem_of_getElem? (i := 68) (by decide +kernel))) rfl, mg (up_1 _ (List.mem_of_getElem? (i := 17) (by decide +kernel))) rfl, by decide +kernel, ⟨by decide +kernel, by decide +kernel⟩, by decide +kernel⟩, mg (up_6 _ (List.mem_of_getElem? (i := 67) (by decide +kernel))) rfl, mg (up_0 _ (List.mem_of_getElem? (i := 63) (by decide +kernel))) rfl⟩
def mX12_told : MD := (yX12_told, cX12_told, 4, some .int, 2)
theorem ok_mX12_told : okV mX12_told := ⟨⟨mg (up_6 _ (List.mem_of_getElem? (i := 64) (by decide +kernel))) rfl, mg (up_1 _ (List.mem_of_getElem? (i := 17) (by decide +kernel))) rfl, by decide +kernel, ⟨by decide +kernel, by decide +kernel⟩, by decide +kernel⟩, mg (up_6 _ (List.mem_of_getElem? (i := 62) (by decide +kernel))) rfl, mg (up_6 _ (List.mem_of_getElem? (i := 63) (by decide +kernel))) rfl⟩
def mX12_fault : MD := (yX12_fault, cX12_fault, 2, some .int, 1)
theorem ok_mX12_fault : okV mX12_fault := ⟨⟨mg (up_6 _ (List.mem_of_getElem? (i := 108) (by decide +kernel))) rfl, mg (up_1 _ (List.mem_of_getElem? (i := 17) (by decide +kernel))) rfl, by decide +kernel, ⟨by decide +kernel, by decide +kernel⟩, by decide +kernel⟩, mg (up_6 _ (List.mem_of_getElem? (i := 106) (by decide +kernel))) rfl, mg (up_6 _ (List.mem_of_getElem? (i := 107) (by decide +kernel))) rfl⟩
def mX12_figureText : MD := (yX12_figureText, cX12_figureText, 2, none, 0)
theorem ok_mX12_figureText : okV mX12_figureText := ⟨⟨mg (up_6 _ (List.mem_of_getElem? (i := 116) (by decide +kernel))) rfl, mg (up_1 _ (List.mem_of_getElem? (i := 17) (by decide +kernel))) rfl, by decide +kernel, ⟨by decide +kernel, by decide +kernel⟩, by decide +kernel⟩, mg (up_6 _ (List.mem_of_getElem? (i := 115) (by decide +kernel))) rfl, mg (up_0 _ (List.mem_of_getElem? (i := 72) (by decide +kernel))) rfl⟩
def mX12_pointText : MD := (yX12_pointText, cX12_pointText, 2, none, 1)
theorem ok_mX12_pointText : okV mX12_pointText := ⟨⟨mg (up_6 _ (List.mem_of_getElem? (i := 120) (by decide +kernel))) rfl, mg (up_1 _ (List.mem_of_getElem? (i := 17) (by decide +kernel))) rfl, by decide +kernel, ⟨by decide +kernel, by decide +kernel⟩, by decide +kernel⟩, mg (up_6 _ (List.mem_of_getElem? (i := 119) (by decide +kernel))) rfl, mg (up_0 _ (List.mem_of_getElem? (i := 73) (by decide +kernel))) rfl⟩
def mX12_rowOf : MD := (yX12_rowOf, cX12_rowOf, 2, some .int, 2)
theorem ok_mX12_rowOf : okS mX12_rowOf := ⟨⟨mg (up_6 _ (List.mem_of_getElem? (i := 127) (by decide +kernel))) rfl, mg (up_1 _ (List.mem_of_getElem? (i := 17) (by decide +kernel))) rfl, by decide +kernel, ⟨by decide +kernel, by decide +kernel⟩, by decide +kernel⟩, mg (up_6 _ (List.mem_of_getElem? (i := 126) (by decide +kernel))) rfl⟩
def mX12_point : MD := (yX12_point, cX12_point, 4, none, 2)
theorem ok_mX12_point : okV mX12_point := ⟨⟨mg (up_6 _ (List.mem_of_getElem? (i := 124) (by decide +kernel))) rfl, mg (up_1 _ (List.mem_of_getElem? (i := 17) (by decide +kernel))) rfl, by decide +kernel, ⟨by decide +kernel, by decide +kernel⟩, by decide +kernel⟩, mg (up_6 _ (List.mem_of_getElem? (i := 123) (by decide +kernel))) rfl, mg (up_0 _ (List.mem_of_getElem? (i := 74) (by decide +kernel))) rfl⟩
def mX12_meets : MD := (yX12_meets, cX12_meets, 4, none, 2)
theorem ok_mX12_meets : okV mX12_meets := ⟨⟨mg (up_6 _ (List.mem_of_getElem? (i := 131) (by decide +kernel))) rfl, mg (up_1 _ (List.mem_of_getElem? (i := 17) (by decide +kernel))) rfl, by decide +kernel, ⟨by decide +kernel, by decide +kernel⟩, by decide +kernel⟩, mg (up_6 _ (List.mem_of_getElem? (i := 130) (by decide +kernel))) rfl, mg (up_0 _ (List.mem_of_getElem? (i := 75) (by decide +kernel))) rfl⟩
def mX12_putsProduct : MD := (yX12_putsProduct, cX12_putsProduct, 7, none, 4)
theorem ok_mX12_putsProduct : okV mX12_putsProduct := ⟨⟨mg (up_6 _ (List.mem_of_getElem? (i := 151) (by decide +kernel))) rfl, mg (up_1 _ (List.mem_of_getElem? (i := 17) (by decide +kernel))) rfl, by decide +kernel, ⟨by decide +kernel, by decide +kernel⟩, by decide +kernel⟩, mg (up_6 _ (List.mem_of_getElem? (i := 150) (by decide +kernel))) rfl, mg (up_0 _ (List.mem_of_getElem? (i := 80) (by decide +kernel))) rfl⟩
def mX12_brackets : MD := (yX12_brackets, cX12_brackets, 9, none, 4)
theorem ok_mX12_brackets : okV mX12_brackets := ⟨⟨mg (up_6 _ (List.mem_of_getElem? (i := 135) (by decide +kernel))) rfl, mg (up_1 _ (List.mem_of_getElem? (i := 17) (by decide +kernel))) rfl, by decide +kernel, ⟨by decide +kernel, by decide +kernel⟩, by decide +kernel⟩, mg (up_6 _ (List.mem_of_getElem? (i := 134) (by decide +kernel))) rfl, mg (up_0 _ (List.mem_of_getElem? (i := 76) (by decide +kernel))) rfl⟩
def mX12_addsBracket : MD := (yX12_addsBracket, cX12_addsBracket, 7, none, 5)
theorem ok_mX12_addsBracket : okV mX12_addsBracket := ⟨⟨mg (up_6 _ (List.mem_of_getElem? (i := 139) (by decide +kernel))) rfl, mg (up_1 _ (List.mem_of_getElem? (i := 17) (by decide +kernel))) rfl, by decide +kernel, ⟨by decide +kernel, by decide +kernel⟩, by decide +kernel⟩, mg (up_6 _ (List.mem_of_getElem? (i := 138) (by decide +kernel))) rfl, mg (up_0 _ (List.mem_of_getElem? (i := 77) (by decide +kernel))) rfl⟩
def mX12_timesRow : MD := (yX12_timesRow, cX12_timesRow, 2, none, 1)
theorem ok_mX12_timesRow : okV mX12_timesRow := ⟨⟨mg (up_6 _ (List.mem_of_getElem? (i := 143) (by decide +kernel))) rfl, mg (up_1 _ (List.mem_of_getElem? (i := 17) (by decide +kernel))) rfl, by decide +kernel, ⟨by decide +kernel, by decide +kernel⟩, by decide +kernel⟩, mg (up_6 _ (List.mem_of_getElem? (i := 142) (by decide +kernel))) rfl, mg (up_0 _ (List.mem_of_getElem? (i := 78) (by decide +kernel))) rfl⟩
def mX12_figure : MD := (yX12_figure, cX12_figure, 5, some .int, 2)
theorem ok_mX12_figure : okV mX12_figure := ⟨⟨mg (up_6 _ (List.mem_of_getElem? (i := 112) (by decide +kernel))) rfl, mg (up_1 _ (List.mem_of_getElem? (i := 17) (by decide +kernel))) rfl, by decide +kernel, ⟨by decide +kernel, by decide +kernel⟩, by decide +kernel⟩, mg (up_6 _ (List.mem_of_getElem? (i := 110) (by decide +kernel))) rfl, mg (up_6 _ (List.mem_of_getElem? (i := 111) (by decide +kernel))) rfl⟩
def mX12_terms : MD := (yX12_terms, cX12_terms, 2, some .int, 1)
theorem ok_mX12_terms : okV mX12_terms := ⟨⟨mg (up_6 _ (List.mem_of_getElem? (i := 155) (by decide +kernel))) rfl, mg (up_1 _ (List.mem_of_getElem? (i := 17) (by decide +kernel))) rfl, by decide +kernel, ⟨by decide +kernel, by decide +kernel⟩, by decide +kernel⟩, mg (up_6 _ (List.mem_of_getElem? (i := 153) (by decide +kernel))) rfl, mg (up_6 _ (List.mem_of_getElem? (i := 154) (by decide +kernel))) rfl⟩
def mX12_term_ : MD := (yX12_term_, cX12_term_, 7, some .int, 3)
theorem ok_mX12_term_ : okV mX12_term_ := ⟨⟨mg (up_6 _ (List.mem_of_getElem? (i := 159) (by decide +kernel))) rfl, mg (up_1 _ (List.mem_of_getElem? (i := 17) (by decide +kernel))) rfl, by decide +kernel, ⟨by decide +kernel, by decide +kernel⟩, by decide +kernel⟩, mg (up_6 _ (List.mem_of_getElem? (i := 157) (by decide +kernel))) rfl, mg (up_6 _ (List.mem_of_getElem? (i := 158) (by decide +kernel))) rfl⟩
def mX12_keyOn : MD := (yX12_keyOn, cX12_keyOn, 3, some .int, 3)
theorem ok_mX12_keyOn : okS mX12_keyOn := ⟨⟨mg (up_6 _ (List.mem_of_getElem? (i := 169) (by decide +kernel))) rfl, mg (up_1 _ (List.mem_of_getElem? (i := 17) (by decide +kernel))) rfl, by decide +kernel, ⟨by decide +kernel, by decide +kernel⟩, by decide +kernel⟩, mg (up_6 _ (List.mem_of_getElem? (i := 168) (by decide +kernel))) rfl⟩
def mX12_often : MD := (yX12_often, cX12_often, 6, some .int, 2)
theorem ok_mX12_often : okV mX12_often := ⟨⟨mg (up_6 _ (List.mem_of_getElem? (i := 173) (by decide +kernel))) rfl, mg (up_1 _ (List.mem_of_getElem? (i := 17) (by decide +kernel))) rfl, by decide +kernel, ⟨by decide +kernel, by decide +kernel⟩, by decide +kernel⟩, mg (up_6 _ (List.mem_of_getElem? (i := 172) (by decide +kernel))) rfl, mg (up_0 _ (List.mem_of_getElem? (i := 81) (by decide +kernel))) rfl⟩
def mX12_degree : MD := (yX12_degree, cX12_degree, 6, some .int, 2)
theorem ok_mX12_degree : okV mX12_degree := ⟨⟨mg (up_6 _ (List.mem_of_getElem? (i := 166) (by decide +kernel))) rfl, mg (up_1 _ (List.mem_of_getElem? (i := 17) (by decide +kernel))) rfl, by decide +kernel, ⟨by decide +kernel, by decide +kernel⟩, by decide +kernel⟩, mg (up_6 _ (List.mem_of_getElem? (i := 164) (by decide +kernel))) rfl, mg (up_6 _ (List.mem_of_getElem? (i := 165) (by decide +kernel))) rfl⟩
def mX12_straightInto : MD := (yX12_straightInto, cX12_straightInto, 3, some .int, 2)
theorem ok_mX12_straightInto : okV mX12_straightInto := ⟨⟨mg (up_6 _ (List.mem_of_getElem? (i := 181) (by decide +kernel))) rfl, mg (up_1 _ (List.mem_of_getElem? (i := 17) (by decide +kernel))) rfl, by decide +kernel, ⟨by decide +kernel, by decide +kernel⟩, by decide +kernel⟩, mg (up_6 _ (List.mem_of_getElem? (i := 180) (by decide +kernel))) rfl, mg (up_0 _ (List.mem_of_getElem? (i := 82) (by decide +kernel))) rfl⟩
def mX12_steps_ : MD := (yX12_steps_, cX12_steps_, 3, some .int, 1)
theorem ok_mX12_steps_ : okV mX12_steps_ := ⟨⟨mg (up_6 _ (List.mem_of_getElem? (i := 177) (by decide +kernel))) rfl, mg (up_1 _ (List.mem_of_getElem? (i := 17) (by decide +kernel))) rfl, by decide +kernel, ⟨by decide +kernel, by decide +kernel⟩, by decide +kernel⟩, mg (up_6 _ (List.mem_of_getElem? (i := 175) (by decide +kernel))) rfl, mg (up_6 _ (List.mem_of_getElem? (i := 176) (by decide +kernel))) rfl⟩
def mX12_left : MD := (yX12_left, cX12_left, 3, some .int, 1)
theorem ok_mX12_left : okV mX12_left := ⟨⟨mg (up_6 _ (List.mem_of_getElem? (i := 185) (by decide +kernel))) rfl, mg (up_1 _ (List.mem_of_getElem? (i := 17) (by decide +kernel))) rfl, by decide +kernel, ⟨by decide +kernel, by decide +kernel⟩, by decide +kernel⟩, mg (up_6 _ (List.mem_of_getElem? (i := 183) (by decide +kernel))) rfl, mg (up_6 _ (List.mem_of_getElem? (i := 184) (by decide +kernel))) rfl⟩
def mX12_equal : MD := (yX12_equal, cX12_equal, 4, some .int, 2)
theorem ok_mX12_equal : okV mX12_equal := ⟨⟨mg (up_6 _ (List.mem_of_getElem? (i := 189) (by decide +kernel))) rfl, mg (up_1 _ (List.mem_of_getElem? (i := 17) (by decide +kernel))) rfl, by decide +kernel, ⟨by decide +kernel, by decide +kernel⟩, by decide +kernel⟩, mg (up_6 _ (List.mem_of_getElem? (i := 187) (by decide +kernel))) rfl, mg (up_6 _ (List.mem_of_getElem? (i := 188) (by decide +kernel))) rfl⟩
def mX12_counts : MD := (yX12_counts, cX12_counts, 4, none, 2)
theorem ok_mX12_counts : okV mX12_counts := ⟨⟨mg (up_6 _ (List.mem_of_getElem? (i := 206) (by decide +kernel))) rfl, mg (up_1 _ (List.mem_of_getElem? (i := 17) (by decide +kernel))) rfl, by decide +kernel, ⟨by decide +kernel, by decide +kernel⟩, by decide +kernel⟩, mg (up_6 _ (List.mem_of_getElem? (i := 205) (by decide +kernel))) rfl, mg (up_0 _ (List.mem_of_getElem? (i := 85) (by decide +kernel))) rfl⟩
def mX12_goesOn : MD := (yX12_goesOn, cX12_goesOn, 5, some .boolean, 1)
theorem ok_mX12_goesOn : okV mX12_goesOn := ⟨⟨mg (up_6 _ (List.mem_of_getElem? (i := 210) (by decide +kernel))) rfl, mg (up_1 _ (List.mem_of_getElem? (i := 17) (by decide +kernel))) rfl, by decide +kernel, ⟨by decide +kernel, by decide +kernel⟩, by decide +kernel⟩, mg (up_6 _ (List.mem_of_getElem? (i := 209) (by decide +kernel))) rfl, mg (up_0 _ (List.mem_of_getElem? (i := 86) (by decide +kernel))) rfl⟩
def mX12_laysForms : MD := (yX12_laysForms, cX12_laysForms, 4, some .boolean, 2)
theorem ok_mX12_laysForms : okV mX12_laysForms := ⟨⟨mg (up_6 _ (List.mem_of_getElem? (i := 202) (by decide +kernel))) rfl, mg (up_1 _ (List.mem_of_getElem? (i := 17) (by decide +kernel))) rfl, by decide +kernel, ⟨by decide +kernel, by decide +kernel⟩, by decide +kernel⟩, mg (up_6 _ (List.mem_of_getElem? (i := 201) (by decide +kernel))) rfl, mg (up_0 _ (List.mem_of_getElem? (i := 84) (by decide +kernel))) rfl⟩
def mX12_forms : MD := (yX12_forms, cX12_forms, 3, some .int, 1)
theorem ok_mX12_forms : okV mX12_forms := ⟨⟨mg (up_6 _ (List.mem_of_getElem? (i := 197) (by decide +kernel))) rfl, mg (up_1 _ (List.mem_of_getElem? (i := 17) (by decide +kernel))) rfl, by decide +kernel, ⟨by decide +kernel, by decide +kernel⟩, by decide +kernel⟩, mg (up_6 _ (List.mem_of_getElem? (i := 195) (by decide +kernel))) rfl, mg (up_6 _ (List.mem_of_getElem? (i := 196) (by decide +kernel))) rfl⟩
def mX12_form : MD := (yX12_form, cX12_form, 4, some .int, 3)
theorem ok_mX12_form : okV mX12_form := ⟨⟨mg (up_6 _ (List.mem_of_getElem? (i := 214) (by decide +kernel))) rfl, mg (up_1 _ (List.mem_of_getElem? (i := 17) (by decide +kernel))) rfl, by decide +kernel, ⟨by decide +kernel, by decide +kernel⟩, by decide +kernel⟩, mg (up_6 _ (List.mem_of_getElem? (i := 212) (by decide +kernel))) rfl, mg (up_6 _ (List.mem_of_getElem? (i := 213) (by decide +kernel))) rfl⟩
def mX12_columnOf : MD := (yX12_columnOf, cX12_columnOf, 3, some .int, 1)
theorem ok_mX12_columnOf : okV mX12_columnOf := ⟨⟨mg (up_6 _ (List.mem_of_getElem? (i := 223) (by decide +kernel))) rfl, mg (up_1 _ (List.mem_of_getElem? (i := 17) (by decide +kernel))) rfl, by decide +kernel, ⟨by decide +kernel, by decide +kernel⟩, by decide +kernel⟩, mg (up_6 _ (List.mem_of_getElem? (i := 222) (by decide +kernel))) rfl, mg (up_0 _ (List.mem_of_getElem? (i := 87) (by decide +kernel))) rfl⟩
def mX12_modulo : MD := (yX12_modulo, cX12_modulo, 2, some .long, 1)
theorem ok_mX12_modulo : okS mX12_modulo := ⟨⟨mg (up_6 _ (List.mem_of_getElem? (i := 226) (by decide +kernel))) rfl, mg (up_1 _ (List.mem_of_getElem? (i := 17) (by decide +kernel))) rfl, by decide +kernel, ⟨by decide +kernel, by decide +kernel⟩, by decide +kernel⟩, mg (up_6 _ (List.mem_of_getElem? (i := 225) (by decide +kernel))) rfl⟩
def mX12_inverse : MD := (yX12_inverse, cX12_inverse, 7, some .long, 1)
theorem ok_mX12_inverse : okS mX12_inverse := ⟨⟨mg (up_6 _ (List.mem_of_getElem? (i := 238) (by decide +kernel))) rfl, mg (up_1 _ (List.mem_of_getElem? (i := 17) (by decide +kernel))) rfl, by decide +kernel, ⟨by decide +kernel, by decide +kernel⟩, by decide +kernel⟩, mg (up_6 _ (List.mem_of_getElem? (i := 237) (by decide +kernel))) rfl⟩
def mX12_clears : MD := (yX12_clears, cX12_clears, 10, none, 3)
theorem ok_mX12_clears : okV mX12_clears := ⟨⟨mg (up_6 _ (List.mem_of_getElem? (i := 235) (by decide +kernel))) rfl, mg (up_1 _ (List.mem_of_getElem? (i := 17) (by decide +kernel))) rfl, by decide +kernel, ⟨by decide +kernel, by decide +kernel⟩, by decide +kernel⟩, mg (up_6 _ (List.mem_of_getElem? (i := 234) (by decide +kernel))) rfl, mg (up_0 _ (List.mem_of_getElem? (i := 89) (by decide +kernel))) rfl⟩
def mX12_swapsRows : MD := (yX12_swapsRows, cX12_swapsRows, 6, none, 2)
theorem ok_mX12_swapsRows : okV mX12_swapsRows := ⟨⟨mg (up_6 _ (List.mem_of_getElem? (i := 231) (by decide +kernel))) rfl, mg (up_1 _ (List.mem_of_getElem? (i := 17) (by decide +kernel))) rfl, by decide +kernel, ⟨by decide +kernel, by decide +kernel⟩, by decide +kernel⟩, mg (up_6 _ (List.mem_of_getElem? (i := 230) (by decide +kernel))) rfl, mg (up_0 _ (List.mem_of_getElem? (i := 88) (by decide +kernel))) rfl⟩
def mX12_rank : MD := (yX12_rank, cX12_rank, 6, some .int, 1)
theorem ok_mX12_rank : okV mX12_rank := ⟨⟨mg (up_6 _ (List.mem_of_getElem? (i := 218) (by decide +kernel))) rfl, mg (up_1 _ (List.mem_of_getElem? (i := 17) (by decide +kernel))) rfl, by decide +kernel, ⟨by decide +kernel, by decide +kernel⟩, by decide +kernel⟩, mg (up_6 _ (List.mem_of_getElem? (i := 216) (by decide +kernel))) rfl, mg (up_6 _ (List.mem_of_getElem? (i := 217) (by decide +kernel))) rfl⟩
def mX12_areSix : MD := (yX12_areSix, cX12_areSix, 5, some .boolean, 1)
theorem ok_mX12_areSix : okV mX12_areSix := ⟨⟨mg (up_7 _ (List.mem_of_getElem? (i := 8) (by decide +kernel))) rfl, mg (up_1 _ (List.mem_of_getElem? (i := 17) (by decide +kernel))) rfl, by decide +kernel, ⟨by decide +kernel, by decide +kernel⟩, by decide +kernel⟩, mg (up_7 _ (List.mem_of_getElem? (i := 7) (by decide +kernel))) rfl, mg (up_0 _ (List.mem_of_getElem? (i := 90) (by decide +kernel))) rfl⟩
def mX12_laysSix : MD := (yX12_laysSix, cX12_laysSix, 3, none, 1)
theorem ok_mX12_laysSix : okV mX12_laysSix := ⟨⟨mg (up_7 _ (List.mem_of_getElem? (i := 16) (by decide +kernel))) rfl, mg (up_1 _ (List.mem_of_getElem? (i := 17) (by decide +kernel))) rfl, by decide +kernel, ⟨by decide +kernel, by decide +kernel⟩, by decide +kernel⟩, mg (up_7 _ (List.mem_of_getElem? (i := 15) (by decide +kernel))) rfl, mg (up_0 _ (List.mem_of_getElem? (i := 92) (by decide +kernel))) rfl⟩
def mX12_multiple : MD := (yX12_multiple, cX12_multiple, 5, some .int, 2)
theorem ok_mX12_multiple : okV mX12_multiple := ⟨⟨mg (up_7 _ (List.mem_of_getElem? (i := 20) (by decide +kernel))) rfl, mg (up_1 _ (List.mem_of_getElem? (i := 17) (by decide +kernel))) rfl, by decide +kernel, ⟨by decide +kernel, by decide +kernel⟩, by decide +kernel⟩, mg (up_7 _ (List.mem_of_getElem? (i := 19) (by decide +kernel))) rfl, mg (up_0 _ (List.mem_of_getElem? (i := 93) (by decide +kernel))) rfl⟩
def mX12_isFound : MD := (yX12_isFound, cX12_isFound, 4, some .boolean, 2)
theorem ok_mX12_isFound : okV mX12_isFound := ⟨⟨mg (up_7 _ (List.mem_of_getElem? (i := 12) (by decide +kernel))) rfl, mg (up_1 _ (List.mem_of_getElem? (i := 17) (by decide +kernel))) rfl, by decide +kernel, ⟨by decide +kernel, by decide +kernel⟩, by decide +kernel⟩, mg (up_7 _ (List.mem_of_getElem? (i := 11) (by decide +kernel))) rfl, mg (up_0 _ (List.mem_of_getElem? (i := 91) (by decide +kernel))) rfl⟩
def mX12_factor : MD := (yX12_factor, cX12_factor, 4, some .int, 2)
theorem ok_mX12_factor : okV mX12_factor := ⟨⟨mg (up_7 _ (List.mem_of_getElem? (i := 3) (by decide +kernel))) rfl, mg (up_1 _ (List.mem_of_getElem? (i := 17) (by decide +kernel))) rfl, by decide +kernel, ⟨by decide +kernel, by decide +kernel⟩, by decide +kernel⟩, mg (up_7 _ (List.mem_of_getElem? (i := 1) (by decide +kernel))) rfl, mg (up_7 _ (List.mem_of_getElem? (i := 2) (by decide +kernel))) rfl⟩
def mX12_isFinal : MD := (yX12_isFinal, cX12_isFinal, 6, some .int, 1)
theorem ok_mX12_isFinal : okV mX12_isFinal := ⟨⟨mg (up_7 _ (List.mem_of_getElem? (i := 24) (by decide +kernel))) rfl, mg (up_1 _ (List.mem_of_getElem? (i := 17) (by decide +kernel))) rfl, by decide +kernel, ⟨by decide +kernel, by decide +kernel⟩, by decide +kernel⟩, mg (up_7 _ (List.mem_of_getElem? (i := 22) (by decide +kernel))) rfl, mg (up_7 _ (List.mem_of_getElem? (i := 23) (by decide +kernel))) rfl⟩
def mX12_known : MD := (yX12_known, cX12_known, 5, some .int, 3)
theorem ok_mX12_known : okV mX12_known := ⟨⟨mg (up_7 _ (List.mem_of_getElem? (i := 28) (by decide +kernel))) rfl, mg (up_1 _ (List.mem_of_getElem? (i := 17) (by decide +kernel))) rfl, by decide +kernel, ⟨by decide +kernel, by decide +kernel⟩, by decide +kernel⟩, mg (up_7 _ (List.mem_of_getElem? (i := 26) (by decide +kernel))) rfl, mg (up_7 _ (List.mem_of_getElem? (i := 27) (by decide +kernel))) rfl⟩
def mX12_at : MD := (yX12_at, cX12_at, 3, some .int, 2)
theorem ok_mX12_at : okV mX12_at := ⟨⟨mg (up_7 _ (List.mem_of_getElem? (i := 32) (by decide +kernel))) rfl, mg (up_1 _ (List.mem_of_getElem? (i := 17) (by decide +kernel))) rfl, by decide +kernel, ⟨by decide +kernel, by decide +kernel⟩, by decide +kernel⟩, mg (up_7 _ (List.mem_of_getElem? (i := 30) (by decide +kernel))) rfl, mg (up_7 _ (List.mem_of_getElem? (i := 31) (by decide +kernel))) rfl⟩
def mX12_worthOf : MD := (yX12_worthOf, cX12_worthOf, 7, some .int, 3)
theorem ok_mX12_worthOf : okV mX12_worthOf := ⟨⟨mg (up_7 _ (List.mem_of_getElem? (i := 40) (by decide +kernel))) rfl, mg (up_1 _ (List.mem_of_getElem? (i := 17) (by decide +kernel))) rfl, by decide +kernel, ⟨by decide +kernel, by decide +kernel⟩, by decide +kernel⟩, mg (up_7 _ (List.mem_of_getElem? (i := 39) (by decide +kernel))) rfl, mg (up_0 _ (List.mem_of_getElem? (i := 94) (by decide +kernel))) rfl⟩
def mX12_worth : MD := (yX12_worth, cX12_worth, 4, some .int, 3)
theorem ok_mX12_worth : okV mX12_worth := ⟨⟨mg (up_7 _ (List.mem_of_getElem? (i := 36) (by decide +kernel))) rfl, mg (up_1 _ (List.mem_of_getElem? (i := 17) (by decide +kernel))) rfl, by decide +kernel, ⟨by decide +kernel, by decide +kernel⟩, by decide +kernel⟩, mg (up_7 _ (List.mem_of_getElem? (i := 34) (by decide +kernel))) rfl, mg (up_7 _ (List.mem_of_getElem? (i := 35) (by decide +kernel))) rfl⟩
def mX12_worthOfRank : MD := (yX12_worthOfRank, cX12_worthOfRank, 2, some .int, 1)
theorem ok_mX12_worthOfRank : okV mX12_worthOfRank := ⟨⟨mg (up_7 _ (List.mem_of_getElem? (i := 49) (by decide +kernel))) rfl, mg (up_1 _ (List.mem_of_getElem? (i := 17) (by decide +kernel))) rfl, by decide +kernel, ⟨by decide +kernel, by decide +kernel⟩, by decide +kernel⟩, mg (up_7 _ (List.mem_of_getElem? (i := 48) (by decide +kernel))) rfl, mg (up_0 _ (List.mem_of_getElem? (i := 95) (by decide +kernel))) rfl⟩
def mX12_fits : MD := (yX12_fits, cX12_fits, 4, some .boolean, 2)
theorem ok_mX12_fits : okS mX12_fits := ⟨⟨mg (up_7 _ (List.mem_of_getElem? (i := 52) (by decide +kernel))) rfl, mg (up_1 _ (List.mem_of_getElem? (i := 17) (by decide +kernel))) rfl, by decide +kernel, ⟨by decide +kernel, by decide +kernel⟩, by decide +kernel⟩, mg (up_7 _ (List.mem_of_getElem? (i := 51) (by decide +kernel))) rfl⟩
def mX12_value : MD := (yX12_value, cX12_value, 11, some .long, 1)
theorem ok_mX12_value : okV mX12_value := ⟨⟨mg (up_7 _ (List.mem_of_getElem? (i := 44) (by decide +kernel))) rfl, mg (up_1 _ (List.mem_of_getElem? (i := 17) (by decide +kernel))) rfl, by decide +kernel, ⟨by decide +kernel, by decide +kernel⟩, by decide +kernel⟩, mg (up_7 _ (List.mem_of_getElem? (i := 42) (by decide +kernel))) rfl, mg (up_7 _ (List.mem_of_getElem? (i := 43) (by decide +kernel))) rfl⟩
def mX12_undo : MD := (yX12_undo, cX12_undo, 2, some .int, 1)
theorem ok_mX12_undo : okV mX12_undo := ⟨⟨mg (up_7 _ (List.mem_of_getElem? (i := 56) (by decide +kernel))) rfl, mg (up_1 _ (List.mem_of_getElem? (i := 17) (by decide +kernel))) rfl, by decide +kernel, ⟨by decide +kernel, by decide +kernel⟩, by decide +kernel⟩, mg (up_7 _ (List.mem_of_getElem? (i := 54) (by decide +kernel))) rfl, mg (up_7 _ (List.mem_of_getElem? (i := 55) (by decide +kernel))) rfl⟩
def mX12_image : MD := (yX12_image, cX12_image, 2, some .int, 1)
theorem ok_mX12_image : okV mX12_image := ⟨⟨mg (up_7 _ (List.mem_of_getElem? (i := 60) (by decide +kernel))) rfl, mg (up_1 _ (List.mem_of_getElem? (i := 17) (by decide +kernel))) rfl, by decide +kernel, ⟨by decide +kernel, by decide +kernel⟩, by decide +kernel⟩, mg (up_7 _ (List.mem_of_getElem? (i := 58) (by decide +kernel))) rfl, mg (up_7 _ (List.mem_of_getElem? (i := 59) (by decide +kernel))) rfl⟩
def mX12_restore : MD := (yX12_restore, cX12_restore, 2, some .int, 1)
theorem ok_mX12_restore : okV mX12_restore := ⟨⟨mg (up_7 _ (List.mem_of_getElem? (i := 64) (by decide +kernel))) rfl, mg (up_1 _ (List.mem_of_getElem? (i := 17) (by decide +kernel))) rfl, by decide +kernel, ⟨by decide +kernel, by decide +kernel⟩, by decide +kernel⟩, mg (up_7 _ (List.mem_of_getElem? (i := 62) (by decide +kernel))) rfl, mg (up_7 _ (List.mem_of_getElem? (i := 63) (by decide +kernel))) rfl⟩
def mX12_facts : MD := (yX12_facts, cX12_facts, 4, some .int, 1)
theorem ok_mX12_facts : okV mX12_facts := ⟨⟨mg (up_7 _ (List.mem_of_getElem? (i := 72) (by decide +kernel))) rfl, mg (up_1 _ (List.mem_of_getElem? (i := 17) (by decide +kernel))) rfl, by decide +kernel, ⟨by decide +kernel, by decide +kernel⟩, by decide +kernel⟩, mg (up_7 _ (List.mem_of_getElem? (i := 71) (by decide +kernel))) rfl, mg (up_0 _ (List.mem_of_getElem? (i := 96) (by decide +kernel))) rfl⟩
def mX12_count : MD := (yX12_count, cX12_count, 4, some .int, 1)
theorem ok_mX12_count : okV mX12_count := ⟨⟨mg (up_7 _ (List.mem_of_getElem? (i := 68) (by decide +kernel))) rfl, mg (up_1 _ (List.mem_of_getElem? (i := 17) (by decide +kernel))) rfl, by decide +kernel, ⟨by decide +kernel, by decide +kernel⟩, by decide +kernel⟩, mg (up_7 _ (List.mem_of_getElem? (i := 66) (by decide +kernel))) rfl, mg (up_7 _ (List.mem_of_getElem? (i := 67) (by decide +kernel))) rfl⟩
def mJ6_bitCount_0f7a4 : MD := (yJ6_bitCount_0f7a4, cJ6_bitCount_0f7a4, 1, some .int, 1)
theorem ok_mJ6_bitCount_0f7a4 : okS mJ6_bitCount_0f7a4 := ⟨⟨mg (up_2 _ (List.mem_of_getElem? (i := 22) (by decide +kernel))) rfl, mg (up_1 _ (List.mem_of_getElem? (i := 13) (by decide +kernel))) rfl, by decide +kernel, ⟨by decide +kernel, by decide +kernel⟩, by decide +kernel⟩, mg (up_2 _ (List.mem_of_getElem? (i := 21) (by decide +kernel))) rfl⟩
def mJ9_floorMod_7cf53 : MD := (yJ9_floorMod_7cf53, cJ9_floorMod_7cf53, 3, some .int, 2)
theorem ok_mJ9_floorMod_7cf53 : okS mJ9_floorMod_7cf53 := ⟨⟨mg (up_4 _ (List.mem_of_getElem? (i := 58) (by decide +kernel))) rfl, mg (up_1 _ (List.mem_of_getElem? (i := 16) (by decide +kernel))) rfl, by decide +kernel, ⟨by decide +kernel, by decide +kernel⟩, by decide +kernel⟩, mg (up_4 _ (List.mem_of_getElem? (i := 57) (by decide +kernel))) rfl⟩
def mJ9_floorMod_f86c9 : MD := (yJ9_floorMod_f86c9, cJ9_floorMod_f86c9, 6, some .long, 2)
theorem ok_mJ9_floorMod_f86c9 : okS mJ9_floorMod_f86c9 := ⟨⟨mg (up_4 _ (List.mem_of_getElem? (i := 74) (by decide +kernel))) rfl, mg (up_1 _ (List.mem_of_getElem? (i := 16) (by decide +kernel))) rfl, by decide +kernel, ⟨by decide +kernel, by decide +kernel⟩, by decide +kernel⟩, mg (up_4 _ (List.mem_of_getElem? (i := 73) (by decide +kernel))) rfl⟩
def mJ9_abs_0f7a4 : MD := (yJ9_abs_0f7a4, cJ9_abs_0f7a4, 1, some .int, 1)
theorem ok_mJ9_abs_0f7a4 : okS mJ9_abs_0f7a4 := ⟨⟨mg (up_2 _ (List.mem_of_getElem? (i := 110) (by decide +kernel))) rfl, mg (up_1 _ (List.mem_of_getElem? (i := 16) (by decide +kernel))) rfl, by decide +kernel, ⟨by decide +kernel, by decide +kernel⟩, by decide +kernel⟩, mg (up_2 _ (List.mem_of_getElem? (i := 109) (by decide +kernel))) rfl⟩
def mJ9_max_7cf53 : MD := (yJ9_max_7cf53, cJ9_max_7cf53, 2, some .int, 2)
theorem ok_mJ9_max_7cf53 : okS mJ9_max_7cf53 := ⟨⟨mg (up_3 _ (List.mem_of_getElem? (i := 0) (by decide +kernel))) rfl, mg (up_1 _ (List.mem_of_getElem? (i := 16) (by decide +kernel))) rfl, by decide +kernel, ⟨by decide +kernel, by decide +kernel⟩, by decide +kernel⟩, mg (up_2 _ (List.mem_of_getElem? (i := 239) (by decide +kernel))) rfl⟩
def mJ9_min_7cf53 : MD := (yJ9_min_7cf53, cJ9_min_7cf53, 2, some .int, 2)
theorem ok_mJ9_min_7cf53 : okS mJ9_min_7cf53 := ⟨⟨mg (up_3 _ (List.mem_of_getElem? (i := 29) (by decide +kernel))) rfl, mg (up_1 _ (List.mem_of_getElem? (i := 16) (by decide +kernel))) rfl, by decide +kernel, ⟨by decide +kernel, by decide +kernel⟩, by decide +kernel⟩, mg (up_3 _ (List.mem_of_getElem? (i := 28) (by decide +kernel))) rfl⟩
def mJ7_fill_53178 : MD := (yJ7_fill_53178, cJ7_fill_53178, 4, none, 2)
theorem ok_mJ7_fill_53178 : okS mJ7_fill_53178 := ⟨⟨mg (up_1 _ (List.mem_of_getElem? (i := 69) (by decide +kernel))) rfl, mg (up_1 _ (List.mem_of_getElem? (i := 4) (by decide +kernel))) rfl, by decide +kernel, ⟨by decide +kernel, by decide +kernel⟩, by decide +kernel⟩, mg (up_1 _ (List.mem_of_getElem? (i := 68) (by decide +kernel))) rfl⟩
theorem inX0 : ∀ w ∈ u_ws RX0 TX0 4, w ∈ lw_g := fun w h => mg (mem_ixs _ [339, 341, 343, 345] (by decide +kernel) w h) (List.all_eq_true.mp (by decide +kernel : (u_ws RX0 TX0 4).all goodWord = true) w h)
theorem inX1 : ∀ w ∈ u_ws RX1 TX1 6, w ∈ lw_g := fun w h => mg (mem_ixs _ [461, 463, 465, 467, 469, 471] (by decide +kernel) w h) (List.all_eq_true.mp (by decide +kernel : (u_ws RX1 TX1 6).all goodWord = true) w h)
theorem inX2 : ∀ w ∈ u_ws RX2 TX2 9, w ∈ lw_g := fun w h => mg (mem_ixs _ [285, 287, 289, 291, 293, 295, 297, 299, 301] (by decide +kernel) w h) (List.all_eq_true.mp (by decide +kernel : (u_ws RX2 TX2 9).all goodWord = true) w h)
theorem inX3 : ∀ w ∈ u_ws RX3 TX3 5, w ∈ lw_g := fun w h => mg (mem_ixs _ [316, 318, 320, 322, 324] (by decide +kernel) w h) (List.all_eq_true.mp (by decide +kernel : (u_ws RX3 TX3 5).all goodWord = true) w h)
theorem inX4 : ∀ w ∈ u_ws RX4 TX4 3, w ∈ lw_g := fun w h => mg (mem_ixs _ [192, 194, 196] (by decide +kernel) w h) (List.all_eq_true.mp (by decide +kernel : (u_ws RX4 TX4 3).all goodWord = true) w h)
theorem inX5 : ∀ w ∈ u_ws RX5 TX5 3, w ∈ lw_g := fun w h => mg (mem_ixs _ [155, 157, 159] (by decide +kernel) w h) (List.all_eq_true.mp (by decide +kernel : (u_ws RX5 TX5 3).all goodWord = true) w h)
theorem inX7 : ∀ w ∈ u_ws RX7 TX7 3, w ∈ lw_g := fun w h => mg (mem_ixs _ [172, 174, 176] (by decide +kernel) w h) (List.all_eq_true.mp (by decide +kernel : (u_ws RX7 TX7 3).all goodWord = true) w h)
theorem inX8 : ∀ w ∈ u_ws RX8 TX8 2, w ∈ lw_g := fun w h => mg (mem_ixs _ [261, 263] (by decide +kernel) w h) (List.all_eq_true.mp (by decide +kernel : (u_ws RX8 TX8 2).all goodWord = true) w h)
theorem inX9 : ∀ w ∈ u_ws RX9 TX9 6, w ∈ lw_g := fun w h => mg (mem_ixs _ [237, 239, 241, 243, 245, 247] (by decide +kernel) w h) (List.all_eq_true.mp (by decide +kernel : (u_ws RX9 TX9 6).all goodWord = true) w h)
theorem inX10 : ∀ w ∈ u_ws RX10 TX10 2, w ∈ lw_g := fun w h => mg (mem_ixs _ [221, 223] (by decide +kernel) w h) (List.all_eq_true.mp (by decide +kernel : (u_ws RX10 TX10 2).all goodWord = true) w h)
theorem inX11 : ∀ w ∈ u_ws RX11 TX11 14, w ∈ lw_g := fun w h => mg (mem_ixs _ [492, 494, 496, 498, 500, 502, 504, 506, 508, 510, 512, 514, 516, 518] (by decide +kernel) w h) (List.all_eq_true.mp (by decide +kernel : (u_ws RX11 TX11 14).all goodWord = true) w h)
theorem inX12 : ∀ w ∈ u_ws RX12 TX12 36, w ∈ lw_g := fun w h => mg (mem_ixs _ [1069, 1071, 1073, 1075, 1077, 1079, 1081, 1083, 1085, 1087, 1089, 1091, 1093, 1095, 1097, 1099, 1101, 1103, 1105, 1107, 1109, 1111, 1113, 1115, 1117, 1119, 1121, 1123, 1125, 1127, 1129, 1131, 1133, 1135, 1137, 1139] (by decide +kernel) w h) (List.all_eq_true.mp (by decide +kernel : (u_ws RX12 TX12 36).all goodWord = true) w h)
theorem cl_L_7 : Cond.classLink RL 7 "BracketDesk" ∈ lw_g := mg (up_1 _ (List.mem_of_getElem? (i := 18) (by decide +kernel))) rfl
theorem nw_X11 : Cond.instantiable RX11 14 ∈ lw_g ∧ Cond.initialized RX11 ∈ lw_g := ⟨mg (up_1 _ (List.mem_of_getElem? (i := 19) (by decide +kernel))) rfl, mg (up_1 _ (List.mem_of_getElem? (i := 1) (by decide +kernel))) rfl⟩
theorem ml_L_9 : Cond.methodLink RL 9 yX11_init ∈ lw_g := mg (up_1 _ (List.mem_of_getElem? (i := 20) (by decide +kernel))) rfl
theorem ml_X11_1 : Cond.methodLink RX11 1 objectInit ∈ lw_g := mg (up_1 _ (List.mem_of_getElem? (i := 23) (by decide +kernel))) rfl
theorem cl_X11_7 : Cond.classLink RX11 7 "BracketDesk$State" ∈ lw_g := mg (up_1 _ (List.mem_of_getElem? (i := 26) (by decide +kernel))) rfl
theorem nw_X7 : Cond.instantiable RX7 3 ∈ lw_g ∧ Cond.initialized RX7 ∈ lw_g := ⟨mg (up_1 _ (List.mem_of_getElem? (i := 27) (by decide +kernel))) rfl, mg (up_1 _ (List.mem_of_getElem? (i := 2) (by decide +kernel))) rfl⟩
theorem ml_X11_9 : Cond.methodLink RX11 9 yX7_init ∈ lw_g := mg (up_1 _ (List.mem_of_getElem? (i := 28) (by decide +kernel))) rfl
theorem ml_X7_3 : Cond.methodLink RX7 3 objectInit ∈ lw_g := mg (up_1 _ (List.mem_of_getElem? (i := 31) (by decide +kernel))) rfl
theorem cl_X7_9 : Cond.classLink RX7 9 "BracketDesk$Poly" ∈ lw_g := mg (up_1 _ (List.mem_of_getElem? (i := 32) (by decide +kernel))) rfl
theorem nw_X5 : Cond.instantiable RX5 3 ∈ lw_g ∧ Cond.initialized RX5 ∈ lw_g := ⟨mg (up_1 _ (List.mem_of_getElem? (i := 34) (by decide +kernel))) rfl, mg (up_1 _ (List.mem_of_getElem? (i := 3) (by decide +kernel))) rfl⟩
theorem ml_X7_24 : Cond.methodLink RX7 24 yX5_init ∈ lw_g := mg (up_1 _ (List.mem_of_getElem? (i := 35) (by decide +kernel))) rfl
theorem ml_X5_3 : Cond.methodLink RX5 3 objectInit ∈ lw_g := mg (up_1 _ (List.mem_of_getElem? (i := 38) (by decide +kernel))) rfl
theorem fl_X5_9 : Cond.fieldLink RX5 9 "BracketDesk$Poly" "keys" "[J" ∈ lw_g := mg (up_1 _ (List.mem_of_getElem? (i := 39) (by decide +kernel))) rfl
theorem fl_X1_62 : Cond.fieldLink RX1 62 "BracketDesk$Poly" "keys" "[J" ∈ lw_g := mg (up_1 _ (List.mem_of_getElem? (i := 40) (by decide +kernel))) rfl
theorem fl_X8_35 : Cond.fieldLink RX8 35 "BracketDesk$Poly" "keys" "[J" ∈ lw_g := mg (up_1 _ (List.mem_of_getElem? (i := 41) (by decide +kernel))) rfl
theorem fl_X0_38 : Cond.fieldLink RX0 38 "BracketDesk$Poly" "keys" "[J" ∈ lw_g := mg (up_1 _ (List.mem_of_getElem? (i := 42) (by decide +kernel))) rfl
theorem fl_X7_54 : Cond.fieldLink RX7 54 "BracketDesk$Poly" "keys" "[J" ∈ lw_g := mg (up_1 _ (List.mem_of_getElem? (i := 43) (by decide +kernel))) rfl
theorem fl_X11_241 : Cond.fieldLink RX11 241 "BracketDesk$Poly" "keys" "[J" ∈ lw_g := mg (up_1 _ (List.mem_of_getElem? (i := 44) (by decide +kernel))) rfl
theorem fl_X5_15 : Cond.fieldLink RX5 15 "BracketDesk$Poly" "numbers" "[I" ∈ lw_g := mg (up_1 _ (List.mem_of_getElem? (i := 45) (by decide +kernel))) rfl
theorem fl_X1_68 : Cond.fieldLink RX1 68 "BracketDesk$Poly" "numbers" "[I" ∈ lw_g := mg (up_1 _ (List.mem_of_getElem? (i := 46) (by decide +kernel))) rfl
theorem fl_X8_53 : Cond.fieldLink RX8 53 "BracketDesk$Poly" "numbers" "[I" ∈ lw_g := mg (up_1 _ (List.mem_of_getElem? (i := 47) (by decide +kernel))) rfl
theorem fl_X0_45 : Cond.fieldLink RX0 45 "BracketDesk$Poly" "numbers" "[I" ∈ lw_g := mg (up_1 _ (List.mem_of_getElem? (i := 48) (by decide +kernel))) rfl
theorem fl_X7_62 : Cond.fieldLink RX7 62 "BracketDesk$Poly" "numbers" "[I" ∈ lw_g := mg (up_1 _ (List.mem_of_getElem? (i := 49) (by decide +kernel))) rfl
theorem fl_X11_249 : Cond.fieldLink RX11 249 "BracketDesk$Poly" "numbers" "[I" ∈ lw_g := mg (up_1 _ (List.mem_of_getElem? (i := 50) (by decide +kernel))) rfl
theorem fl_X5_19 : Cond.fieldLink RX5 19 "BracketDesk$Poly" "size" "I" ∈ lw_g := mg (up_1 _ (List.mem_of_getElem? (i := 51) (by decide +kernel))) rfl
theorem fl_X1_59 : Cond.fieldLink RX1 59 "BracketDesk$Poly" "size" "I" ∈ lw_g := mg (up_1 _ (List.mem_of_getElem? (i := 52) (by decide +kernel))) rfl
theorem fl_X8_28 : Cond.fieldLink RX8 28 "BracketDesk$Poly" "size" "I" ∈ lw_g := mg (up_1 _ (List.mem_of_getElem? (i := 53) (by decide +kernel))) rfl
theorem fl_X7_41 : Cond.fieldLink RX7 41 "BracketDesk$Poly" "size" "I" ∈ lw_g := mg (up_1 _ (List.mem_of_getElem? (i := 54) (by decide +kernel))) rfl
theorem fl_X0_33 : Cond.fieldLink RX0 33 "BracketDesk$Poly" "size" "I" ∈ lw_g := mg (up_1 _ (List.mem_of_getElem? (i := 55) (by decide +kernel))) rfl
theorem fl_X11_150 : Cond.fieldLink RX11 150 "BracketDesk$Poly" "size" "I" ∈ lw_g := mg (up_1 _ (List.mem_of_getElem? (i := 56) (by decide +kernel))) rfl
theorem fl_X2_81 : Cond.fieldLink RX2 81 "BracketDesk$Poly" "size" "I" ∈ lw_g := mg (up_1 _ (List.mem_of_getElem? (i := 57) (by decide +kernel))) rfl
theorem ml_X7_25 : Cond.methodLink RX7 25 yJ7_fill_53178 ∈ lw_g := mg (up_1 _ (List.mem_of_getElem? (i := 67) (by decide +kernel))) rfl
theorem fl_X7_11 : Cond.fieldLink RX7 11 "BracketDesk$State" "shelves" "[LBracketDesk$Poly;" ∈ lw_g := mg (up_1 _ (List.mem_of_getElem? (i := 70) (by decide +kernel))) rfl
theorem fl_X11_146 : Cond.fieldLink RX11 146 "BracketDesk$State" "shelves" "[LBracketDesk$Poly;" ∈ lw_g := mg (up_1 _ (List.mem_of_getElem? (i := 71) (by decide +kernel))) rfl
theorem fl_X7_17 : Cond.fieldLink RX7 17 "BracketDesk$State" "places" "[I" ∈ lw_g := mg (up_1 _ (List.mem_of_getElem? (i := 72) (by decide +kernel))) rfl
theorem fl_X11_237 : Cond.fieldLink RX11 237 "BracketDesk$State" "places" "[I" ∈ lw_g := mg (up_1 _ (List.mem_of_getElem? (i := 73) (by decide +kernel))) rfl
theorem fl_X7_21 : Cond.fieldLink RX7 21 "BracketDesk$State" "facts" "[I" ∈ lw_g := mg (up_1 _ (List.mem_of_getElem? (i := 74) (by decide +kernel))) rfl
theorem cl_X11_16 : Cond.classLink RX11 16 "BracketDesk$History" ∈ lw_g := mg (up_1 _ (List.mem_of_getElem? (i := 82) (by decide +kernel))) rfl
theorem nw_X4 : Cond.instantiable RX4 3 ∈ lw_g ∧ Cond.initialized RX4 ∈ lw_g := ⟨mg (up_1 _ (List.mem_of_getElem? (i := 83) (by decide +kernel))) rfl, mg (up_1 _ (List.mem_of_getElem? (i := 5) (by decide +kernel))) rfl⟩
theorem ml_X11_18 : Cond.methodLink RX11 18 yX4_init ∈ lw_g := mg (up_1 _ (List.mem_of_getElem? (i := 84) (by decide +kernel))) rfl
theorem ml_X4_3 : Cond.methodLink RX4 3 objectInit ∈ lw_g := mg (up_1 _ (List.mem_of_getElem? (i := 87) (by decide +kernel))) rfl
theorem cl_X4_15 : Cond.classLink RX4 15 "BracketDesk$State" ∈ lw_g := mg (up_1 _ (List.mem_of_getElem? (i := 88) (by decide +kernel))) rfl
theorem ml_X4_24 : Cond.methodLink RX4 24 yX7_init ∈ lw_g := mg (up_1 _ (List.mem_of_getElem? (i := 90) (by decide +kernel))) rfl
theorem fl_X4_9 : Cond.fieldLink RX4 9 "BracketDesk$History" "size" "I" ∈ lw_g := mg (up_1 _ (List.mem_of_getElem? (i := 91) (by decide +kernel))) rfl
theorem fl_X11_317 : Cond.fieldLink RX11 317 "BracketDesk$History" "size" "I" ∈ lw_g := mg (up_1 _ (List.mem_of_getElem? (i := 92) (by decide +kernel))) rfl
theorem fl_X4_17 : Cond.fieldLink RX4 17 "BracketDesk$History" "kept" "[LBracketDesk$State;" ∈ lw_g := mg (up_1 _ (List.mem_of_getElem? (i := 93) (by decide +kernel))) rfl
theorem fl_X4_21 : Cond.fieldLink RX4 21 "BracketDesk$History" "next" "I" ∈ lw_g := mg (up_1 _ (List.mem_of_getElem? (i := 94) (by decide +kernel))) rfl
theorem cl_X11_31 : Cond.classLink RX11 31 "BracketDesk$Tape" ∈ lw_g := mg (up_1 _ (List.mem_of_getElem? (i := 102) (by decide +kernel))) rfl
theorem nw_X9 : Cond.instantiable RX9 6 ∈ lw_g ∧ Cond.initialized RX9 ∈ lw_g := ⟨mg (up_1 _ (List.mem_of_getElem? (i := 103) (by decide +kernel))) rfl, mg (up_1 _ (List.mem_of_getElem? (i := 6) (by decide +kernel))) rfl⟩
theorem ml_X11_33 : Cond.methodLink RX11 33 yX9_init ∈ lw_g := mg (up_1 _ (List.mem_of_getElem? (i := 104) (by decide +kernel))) rfl
theorem ml_X9_3 : Cond.methodLink RX9 3 objectInit ∈ lw_g := mg (up_1 _ (List.mem_of_getElem? (i := 107) (by decide +kernel))) rfl
theorem cl_X9_28 : Cond.classLink RX9 28 "BracketDesk$Term" ∈ lw_g := mg (up_1 _ (List.mem_of_getElem? (i := 108) (by decide +kernel))) rfl
theorem nw_X10 : Cond.instantiable RX10 2 ∈ lw_g ∧ Cond.initialized RX10 ∈ lw_g := ⟨mg (up_1 _ (List.mem_of_getElem? (i := 109) (by decide +kernel))) rfl, mg (up_1 _ (List.mem_of_getElem? (i := 7) (by decide +kernel))) rfl⟩
theorem ml_X9_30 : Cond.methodLink RX9 30 yX10_init ∈ lw_g := mg (up_1 _ (List.mem_of_getElem? (i := 110) (by decide +kernel))) rfl
theorem ml_X10_1 : Cond.methodLink RX10 1 objectInit ∈ lw_g := mg (up_1 _ (List.mem_of_getElem? (i := 113) (by decide +kernel))) rfl
theorem fl_X10_7 : Cond.fieldLink RX10 7 "BracketDesk$Term" "key" "J" ∈ lw_g := mg (up_1 _ (List.mem_of_getElem? (i := 114) (by decide +kernel))) rfl
theorem fl_X8_82 : Cond.fieldLink RX8 82 "BracketDesk$Term" "key" "J" ∈ lw_g := mg (up_1 _ (List.mem_of_getElem? (i := 115) (by decide +kernel))) rfl
theorem fl_X2_101 : Cond.fieldLink RX2 101 "BracketDesk$Term" "key" "J" ∈ lw_g := mg (up_1 _ (List.mem_of_getElem? (i := 116) (by decide +kernel))) rfl
theorem fl_X11_176 : Cond.fieldLink RX11 176 "BracketDesk$Term" "key" "J" ∈ lw_g := mg (up_1 _ (List.mem_of_getElem? (i := 117) (by decide +kernel))) rfl
theorem fl_X9_81 : Cond.fieldLink RX9 81 "BracketDesk$Term" "key" "J" ∈ lw_g := mg (up_1 _ (List.mem_of_getElem? (i := 118) (by decide +kernel))) rfl
theorem fl_X10_13 : Cond.fieldLink RX10 13 "BracketDesk$Term" "sign" "I" ∈ lw_g := mg (up_1 _ (List.mem_of_getElem? (i := 119) (by decide +kernel))) rfl
theorem fl_X8_86 : Cond.fieldLink RX8 86 "BracketDesk$Term" "sign" "I" ∈ lw_g := mg (up_1 _ (List.mem_of_getElem? (i := 120) (by decide +kernel))) rfl
theorem fl_X2_105 : Cond.fieldLink RX2 105 "BracketDesk$Term" "sign" "I" ∈ lw_g := mg (up_1 _ (List.mem_of_getElem? (i := 121) (by decide +kernel))) rfl
theorem fl_X11_180 : Cond.fieldLink RX11 180 "BracketDesk$Term" "sign" "I" ∈ lw_g := mg (up_1 _ (List.mem_of_getElem? (i := 122) (by decide +kernel))) rfl
theorem fl_X9_85 : Cond.fieldLink RX9 85 "BracketDesk$Term" "sign" "I" ∈ lw_g := mg (up_1 _ (List.mem_of_getElem? (i := 123) (by decide +kernel))) rfl
theorem fl_X9_9 : Cond.fieldLink RX9 9 "BracketDesk$Tape" "bytes" "[I" ∈ lw_g := mg (up_1 _ (List.mem_of_getElem? (i := 130) (by decide +kernel))) rfl
theorem fl_X11_126 : Cond.fieldLink RX11 126 "BracketDesk$Tape" "bytes" "[I" ∈ lw_g := mg (up_1 _ (List.mem_of_getElem? (i := 131) (by decide +kernel))) rfl
theorem fl_X9_15 : Cond.fieldLink RX9 15 "BracketDesk$Tape" "size" "I" ∈ lw_g := mg (up_1 _ (List.mem_of_getElem? (i := 132) (by decide +kernel))) rfl
theorem fl_X11_94 : Cond.fieldLink RX11 94 "BracketDesk$Tape" "size" "I" ∈ lw_g := mg (up_1 _ (List.mem_of_getElem? (i := 133) (by decide +kernel))) rfl
theorem fl_X9_19 : Cond.fieldLink RX9 19 "BracketDesk$Tape" "fault" "I" ∈ lw_g := mg (up_1 _ (List.mem_of_getElem? (i := 134) (by decide +kernel))) rfl
theorem fl_X11_137 : Cond.fieldLink RX11 137 "BracketDesk$Tape" "fault" "I" ∈ lw_g := mg (up_1 _ (List.mem_of_getElem? (i := 135) (by decide +kernel))) rfl
theorem fl_X9_22 : Cond.fieldLink RX9 22 "BracketDesk$Tape" "faultPlace" "I" ∈ lw_g := mg (up_1 _ (List.mem_of_getElem? (i := 136) (by decide +kernel))) rfl
theorem fl_X11_140 : Cond.fieldLink RX11 140 "BracketDesk$Tape" "faultPlace" "I" ∈ lw_g := mg (up_1 _ (List.mem_of_getElem? (i := 137) (by decide +kernel))) rfl
theorem fl_X9_25 : Cond.fieldLink RX9 25 "BracketDesk$Tape" "due" "[I" ∈ lw_g := mg (up_1 _ (List.mem_of_getElem? (i := 138) (by decide +kernel))) rfl
theorem fl_X9_31 : Cond.fieldLink RX9 31 "BracketDesk$Tape" "term" "LBracketDesk$Term;" ∈ lw_g := mg (up_1 _ (List.mem_of_getElem? (i := 139) (by decide +kernel))) rfl
theorem cl_X11_38 : Cond.classLink RX11 38 "BracketDesk$Straightener" ∈ lw_g := mg (up_1 _ (List.mem_of_getElem? (i := 153) (by decide +kernel))) rfl
theorem nw_X8 : Cond.instantiable RX8 2 ∈ lw_g ∧ Cond.initialized RX8 ∈ lw_g := ⟨mg (up_1 _ (List.mem_of_getElem? (i := 154) (by decide +kernel))) rfl, mg (up_1 _ (List.mem_of_getElem? (i := 8) (by decide +kernel))) rfl⟩
theorem ml_X11_40 : Cond.methodLink RX11 40 yX8_init ∈ lw_g := mg (up_1 _ (List.mem_of_getElem? (i := 155) (by decide +kernel))) rfl
theorem ml_X8_3 : Cond.methodLink RX8 3 objectInit ∈ lw_g := mg (up_1 _ (List.mem_of_getElem? (i := 158) (by decide +kernel))) rfl
theorem cl_X8_15 : Cond.classLink RX8 15 "BracketDesk$Term" ∈ lw_g := mg (up_1 _ (List.mem_of_getElem? (i := 159) (by decide +kernel))) rfl
theorem ml_X8_17 : Cond.methodLink RX8 17 yX10_init ∈ lw_g := mg (up_1 _ (List.mem_of_getElem? (i := 160) (by decide +kernel))) rfl
theorem fl_X8_9 : Cond.fieldLink RX8 9 "BracketDesk$Straightener" "steps" "I" ∈ lw_g := mg (up_1 _ (List.mem_of_getElem? (i := 161) (by decide +kernel))) rfl
theorem fl_X11_268 : Cond.fieldLink RX11 268 "BracketDesk$Straightener" "steps" "I" ∈ lw_g := mg (up_1 _ (List.mem_of_getElem? (i := 162) (by decide +kernel))) rfl
theorem fl_X8_18 : Cond.fieldLink RX8 18 "BracketDesk$Straightener" "term" "LBracketDesk$Term;" ∈ lw_g := mg (up_1 _ (List.mem_of_getElem? (i := 163) (by decide +kernel))) rfl
theorem cl_X11_45 : Cond.classLink RX11 45 "BracketDesk$Figures" ∈ lw_g := mg (up_1 _ (List.mem_of_getElem? (i := 169) (by decide +kernel))) rfl
theorem nw_X2 : Cond.instantiable RX2 9 ∈ lw_g ∧ Cond.initialized RX2 ∈ lw_g := ⟨mg (up_1 _ (List.mem_of_getElem? (i := 170) (by decide +kernel))) rfl, mg (up_1 _ (List.mem_of_getElem? (i := 9) (by decide +kernel))) rfl⟩
theorem ml_X11_47 : Cond.methodLink RX11 47 yX2_init ∈ lw_g := mg (up_1 _ (List.mem_of_getElem? (i := 171) (by decide +kernel))) rfl
theorem ml_X2_3 : Cond.methodLink RX2 3 objectInit ∈ lw_g := mg (up_1 _ (List.mem_of_getElem? (i := 174) (by decide +kernel))) rfl
theorem cl_X2_11 : Cond.classLink RX2 11 "BracketDesk$Poly" ∈ lw_g := mg (up_1 _ (List.mem_of_getElem? (i := 175) (by decide +kernel))) rfl
theorem ml_X2_28 : Cond.methodLink RX2 28 yX5_init ∈ lw_g := mg (up_1 _ (List.mem_of_getElem? (i := 176) (by decide +kernel))) rfl
theorem cl_X2_42 : Cond.classLink RX2 42 "BracketDesk$Term" ∈ lw_g := mg (up_1 _ (List.mem_of_getElem? (i := 177) (by decide +kernel))) rfl
theorem ml_X2_44 : Cond.methodLink RX2 44 yX10_init ∈ lw_g := mg (up_1 _ (List.mem_of_getElem? (i := 178) (by decide +kernel))) rfl
theorem fl_X2_13 : Cond.fieldLink RX2 13 "BracketDesk$Figures" "polys" "[LBracketDesk$Poly;" ∈ lw_g := mg (up_1 _ (List.mem_of_getElem? (i := 179) (by decide +kernel))) rfl
theorem fl_X2_17 : Cond.fieldLink RX2 17 "BracketDesk$Figures" "stack" "[I" ∈ lw_g := mg (up_1 _ (List.mem_of_getElem? (i := 180) (by decide +kernel))) rfl
theorem fl_X2_21 : Cond.fieldLink RX2 21 "BracketDesk$Figures" "top" "I" ∈ lw_g := mg (up_1 _ (List.mem_of_getElem? (i := 181) (by decide +kernel))) rfl
theorem fl_X2_25 : Cond.fieldLink RX2 25 "BracketDesk$Figures" "spare" "I" ∈ lw_g := mg (up_1 _ (List.mem_of_getElem? (i := 182) (by decide +kernel))) rfl
theorem fl_X2_29 : Cond.fieldLink RX2 29 "BracketDesk$Figures" "first" "LBracketDesk$Poly;" ∈ lw_g := mg (up_1 _ (List.mem_of_getElem? (i := 183) (by decide +kernel))) rfl
theorem fl_X2_33 : Cond.fieldLink RX2 33 "BracketDesk$Figures" "second" "LBracketDesk$Poly;" ∈ lw_g := mg (up_1 _ (List.mem_of_getElem? (i := 184) (by decide +kernel))) rfl
theorem fl_X2_36 : Cond.fieldLink RX2 36 "BracketDesk$Figures" "firstBracket" "LBracketDesk$Poly;" ∈ lw_g := mg (up_1 _ (List.mem_of_getElem? (i := 185) (by decide +kernel))) rfl
theorem fl_X2_39 : Cond.fieldLink RX2 39 "BracketDesk$Figures" "secondBracket" "LBracketDesk$Poly;" ∈ lw_g := mg (up_1 _ (List.mem_of_getElem? (i := 186) (by decide +kernel))) rfl
theorem fl_X2_45 : Cond.fieldLink RX2 45 "BracketDesk$Figures" "term" "LBracketDesk$Term;" ∈ lw_g := mg (up_1 _ (List.mem_of_getElem? (i := 187) (by decide +kernel))) rfl
theorem cl_X11_52 : Cond.classLink RX11 52 "BracketDesk$Forms" ∈ lw_g := mg (up_1 _ (List.mem_of_getElem? (i := 207) (by decide +kernel))) rfl
theorem nw_X3 : Cond.instantiable RX3 5 ∈ lw_g ∧ Cond.initialized RX3 ∈ lw_g := ⟨mg (up_1 _ (List.mem_of_getElem? (i := 208) (by decide +kernel))) rfl, mg (up_1 _ (List.mem_of_getElem? (i := 10) (by decide +kernel))) rfl⟩
theorem ml_X11_54 : Cond.methodLink RX11 54 yX3_init ∈ lw_g := mg (up_1 _ (List.mem_of_getElem? (i := 209) (by decide +kernel))) rfl
theorem ml_X3_3 : Cond.methodLink RX3 3 objectInit ∈ lw_g := mg (up_1 _ (List.mem_of_getElem? (i := 212) (by decide +kernel))) rfl
theorem ck_X3_22 : Cond.constant RX3 22 (1000000) ∈ lw_g := mg (up_1 _ (List.mem_of_getElem? (i := 213) (by decide +kernel))) rfl
theorem fl_X3_9 : Cond.fieldLink RX3 9 "BracketDesk$Forms" "unused" "[I" ∈ lw_g := mg (up_1 _ (List.mem_of_getElem? (i := 214) (by decide +kernel))) rfl
theorem fl_X3_15 : Cond.fieldLink RX3 15 "BracketDesk$Forms" "cells" "[I" ∈ lw_g := mg (up_1 _ (List.mem_of_getElem? (i := 215) (by decide +kernel))) rfl
theorem fl_X3_18 : Cond.fieldLink RX3 18 "BracketDesk$Forms" "size" "I" ∈ lw_g := mg (up_1 _ (List.mem_of_getElem? (i := 216) (by decide +kernel))) rfl
theorem fl_X3_23 : Cond.fieldLink RX3 23 "BracketDesk$Forms" "wanted" "I" ∈ lw_g := mg (up_1 _ (List.mem_of_getElem? (i := 217) (by decide +kernel))) rfl
theorem fl_X3_26 : Cond.fieldLink RX3 26 "BracketDesk$Forms" "found" "I" ∈ lw_g := mg (up_1 _ (List.mem_of_getElem? (i := 218) (by decide +kernel))) rfl
theorem cl_X11_59 : Cond.classLink RX11 59 "BracketDesk$Elimination" ∈ lw_g := mg (up_1 _ (List.mem_of_getElem? (i := 230) (by decide +kernel))) rfl
theorem nw_X0 : Cond.instantiable RX0 4 ∈ lw_g ∧ Cond.initialized RX0 ∈ lw_g := ⟨mg (up_1 _ (List.mem_of_getElem? (i := 231) (by decide +kernel))) rfl, mg (up_1 _ (List.mem_of_getElem? (i := 11) (by decide +kernel))) rfl⟩
theorem ml_X11_61 : Cond.methodLink RX11 61 yX0_init ∈ lw_g := mg (up_1 _ (List.mem_of_getElem? (i := 232) (by decide +kernel))) rfl
theorem ml_X0_3 : Cond.methodLink RX0 3 objectInit ∈ lw_g := mg (up_1 _ (List.mem_of_getElem? (i := 235) (by decide +kernel))) rfl
theorem cl_X0_15 : Cond.classLink RX0 15 "[[I" ∈ lw_g := mg (up_1 _ (List.mem_of_getElem? (i := 236) (by decide +kernel))) rfl
theorem fl_X0_11 : Cond.fieldLink RX0 11 "BracketDesk$Elimination" "columns" "[J" ∈ lw_g := mg (up_1 _ (List.mem_of_getElem? (i := 238) (by decide +kernel))) rfl
theorem fl_X0_17 : Cond.fieldLink RX0 17 "BracketDesk$Elimination" "rows" "[[I" ∈ lw_g := mg (up_1 _ (List.mem_of_getElem? (i := 239) (by decide +kernel))) rfl
theorem fl_X0_20 : Cond.fieldLink RX0 20 "BracketDesk$Elimination" "width" "I" ∈ lw_g := mg (up_2 _ (List.mem_of_getElem? (i := 0) (by decide +kernel))) rfl
theorem fl_X0_24 : Cond.fieldLink RX0 24 "BracketDesk$Elimination" "height" "I" ∈ lw_g := mg (up_2 _ (List.mem_of_getElem? (i := 1) (by decide +kernel))) rfl
theorem cl_X11_66 : Cond.classLink RX11 66 "BracketDesk$Factors" ∈ lw_g := mg (up_2 _ (List.mem_of_getElem? (i := 11) (by decide +kernel))) rfl
theorem nw_X1 : Cond.instantiable RX1 6 ∈ lw_g ∧ Cond.initialized RX1 ∈ lw_g := ⟨mg (up_2 _ (List.mem_of_getElem? (i := 12) (by decide +kernel))) rfl, mg (up_1 _ (List.mem_of_getElem? (i := 12) (by decide +kernel))) rfl⟩
theorem ml_X11_68 : Cond.methodLink RX11 68 yX1_init ∈ lw_g := mg (up_2 _ (List.mem_of_getElem? (i := 13) (by decide +kernel))) rfl
theorem ml_X1_3 : Cond.methodLink RX1 3 objectInit ∈ lw_g := mg (up_2 _ (List.mem_of_getElem? (i := 16) (by decide +kernel))) rfl
theorem ml_X1_32 : Cond.methodLink RX1 32 yX1_keyOf ∈ lw_g := mg (up_2 _ (List.mem_of_getElem? (i := 17) (by decide +kernel))) rfl
theorem ml_X1_110 : Cond.methodLink RX1 110 yJ6_bitCount_0f7a4 ∈ lw_g := mg (up_2 _ (List.mem_of_getElem? (i := 20) (by decide +kernel))) rfl
theorem ck_J6_265 : Cond.constant RJ6 265 (1431655765) ∈ lw_g := mg (up_2 _ (List.mem_of_getElem? (i := 23) (by decide +kernel))) rfl
theorem ck_J6_266 : Cond.constant RJ6 266 (858993459) ∈ lw_g := mg (up_2 _ (List.mem_of_getElem? (i := 24) (by decide +kernel))) rfl
theorem ck_J6_267 : Cond.constant RJ6 267 (252645135) ∈ lw_g := mg (up_2 _ (List.mem_of_getElem? (i := 25) (by decide +kernel))) rfl
theorem ml_X1_106 : Cond.methodLink RX1 106 yX6_with ∈ lw_g := mg (up_2 _ (List.mem_of_getElem? (i := 26) (by decide +kernel))) rfl
theorem ml_X1_36 : Cond.methodLink RX1 36 yX6_breakOf ∈ lw_g := mg (up_2 _ (List.mem_of_getElem? (i := 29) (by decide +kernel))) rfl
theorem ml_X6_15 : Cond.methodLink RX6 15 yX6_bracketAt ∈ lw_g := mg (up_2 _ (List.mem_of_getElem? (i := 32) (by decide +kernel))) rfl
theorem ml_X6_26 : Cond.methodLink RX6 26 yX6_breakBetween ∈ lw_g := mg (up_2 _ (List.mem_of_getElem? (i := 35) (by decide +kernel))) rfl
theorem ml_X6_9 : Cond.methodLink RX6 9 yX6_letter ∈ lw_g := mg (up_2 _ (List.mem_of_getElem? (i := 38) (by decide +kernel))) rfl
theorem cl_X1_42 : Cond.classLink RX1 42 "BracketDesk$Poly" ∈ lw_g := mg (up_2 _ (List.mem_of_getElem? (i := 41) (by decide +kernel))) rfl
theorem ml_X1_44 : Cond.methodLink RX1 44 yX5_init ∈ lw_g := mg (up_2 _ (List.mem_of_getElem? (i := 42) (by decide +kernel))) rfl
theorem cl_X1_45 : Cond.classLink RX1 45 "BracketDesk$Straightener" ∈ lw_g := mg (up_2 _ (List.mem_of_getElem? (i := 43) (by decide +kernel))) rfl
theorem ml_X1_47 : Cond.methodLink RX1 47 yX8_init ∈ lw_g := mg (up_2 _ (List.mem_of_getElem? (i := 44) (by decide +kernel))) rfl
theorem ml_X1_48 : Cond.methodLink RX1 48 yX5_empty ∈ lw_g := mg (up_2 _ (List.mem_of_getElem? (i := 45) (by decide +kernel))) rfl
theorem ml_X1_51 : Cond.methodLink RX1 51 yX5_lay ∈ lw_g := mg (up_2 _ (List.mem_of_getElem? (i := 49) (by decide +kernel))) rfl
theorem ml_X5_29 : Cond.methodLink RX5 29 yX5_find ∈ lw_g := mg (up_2 _ (List.mem_of_getElem? (i := 53) (by decide +kernel))) rfl
theorem ml_X5_33 : Cond.methodLink RX5 33 yX5_layUpon ∈ lw_g := mg (up_2 _ (List.mem_of_getElem? (i := 57) (by decide +kernel))) rfl
theorem ml_X5_23 : Cond.methodLink RX5 23 arraycopyName ∈ lw_g := mg (up_2 _ (List.mem_of_getElem? (i := 61) (by decide +kernel))) rfl
theorem ml_X1_55 : Cond.methodLink RX1 55 yX8_straighten ∈ lw_g := mg (up_2 _ (List.mem_of_getElem? (i := 64) (by decide +kernel))) rfl
theorem ml_X8_22 : Cond.methodLink RX8 22 yX5_take ∈ lw_g := mg (up_2 _ (List.mem_of_getElem? (i := 68) (by decide +kernel))) rfl
theorem ml_X8_31 : Cond.methodLink RX8 31 yX8_lastBroken ∈ lw_g := mg (up_2 _ (List.mem_of_getElem? (i := 72) (by decide +kernel))) rfl
theorem ml_X8_39 : Cond.methodLink RX8 39 yX6_breakOf ∈ lw_g := mg (up_2 _ (List.mem_of_getElem? (i := 75) (by decide +kernel))) rfl
theorem ml_X8_45 : Cond.methodLink RX8 45 yX6_bracketOfBreak ∈ lw_g := mg (up_2 _ (List.mem_of_getElem? (i := 76) (by decide +kernel))) rfl
theorem ml_X8_49 : Cond.methodLink RX8 49 yX6_bracketAt ∈ lw_g := mg (up_2 _ (List.mem_of_getElem? (i := 79) (by decide +kernel))) rfl
theorem ml_X8_57 : Cond.methodLink RX8 57 yX6_placeOfBreak ∈ lw_g := mg (up_2 _ (List.mem_of_getElem? (i := 80) (by decide +kernel))) rfl
theorem ml_X8_60 : Cond.methodLink RX8 60 yX6_withoutTwo ∈ lw_g := mg (up_2 _ (List.mem_of_getElem? (i := 83) (by decide +kernel))) rfl
theorem ml_X6_22 : Cond.methodLink RX6 22 yX6_with ∈ lw_g := mg (up_2 _ (List.mem_of_getElem? (i := 86) (by decide +kernel))) rfl
theorem ml_X8_64 : Cond.methodLink RX8 64 yX8_layExchange ∈ lw_g := mg (up_2 _ (List.mem_of_getElem? (i := 87) (by decide +kernel))) rfl
theorem ck_X8_68 : Cond.constant RX8 68 (65535) ∈ lw_g := mg (up_2 _ (List.mem_of_getElem? (i := 91) (by decide +kernel))) rfl
theorem ml_X8_69 : Cond.methodLink RX8 69 yJ6_bitCount_0f7a4 ∈ lw_g := mg (up_2 _ (List.mem_of_getElem? (i := 92) (by decide +kernel))) rfl
theorem ml_X8_74 : Cond.methodLink RX8 74 yX10_begin ∈ lw_g := mg (up_2 _ (List.mem_of_getElem? (i := 93) (by decide +kernel))) rfl
theorem ml_X8_78 : Cond.methodLink RX8 78 yX8_attachWay ∈ lw_g := mg (up_2 _ (List.mem_of_getElem? (i := 97) (by decide +kernel))) rfl
theorem ml_X8_93 : Cond.methodLink RX8 93 yX10_attach ∈ lw_g := mg (up_2 _ (List.mem_of_getElem? (i := 101) (by decide +kernel))) rfl
theorem ml_X10_17 : Cond.methodLink RX10 17 yX6_ordered ∈ lw_g := mg (up_2 _ (List.mem_of_getElem? (i := 105) (by decide +kernel))) rfl
theorem ml_X10_23 : Cond.methodLink RX10 23 yJ9_abs_0f7a4 ∈ lw_g := mg (up_2 _ (List.mem_of_getElem? (i := 108) (by decide +kernel))) rfl
theorem ml_X10_28 : Cond.methodLink RX10 28 yX6_with ∈ lw_g := mg (up_2 _ (List.mem_of_getElem? (i := 111) (by decide +kernel))) rfl
theorem ml_X8_89 : Cond.methodLink RX8 89 yX5_lay ∈ lw_g := mg (up_2 _ (List.mem_of_getElem? (i := 112) (by decide +kernel))) rfl
theorem ml_X1_65 : Cond.methodLink RX1 65 yX1_formOf ∈ lw_g := mg (up_2 _ (List.mem_of_getElem? (i := 113) (by decide +kernel))) rfl
theorem fl_X1_9 : Cond.fieldLink RX1 9 "BracketDesk$Factors" "multiple" "I" ∈ lw_g := mg (up_2 _ (List.mem_of_getElem? (i := 117) (by decide +kernel))) rfl
theorem fl_X11_299 : Cond.fieldLink RX11 299 "BracketDesk$Factors" "multiple" "I" ∈ lw_g := mg (up_2 _ (List.mem_of_getElem? (i := 118) (by decide +kernel))) rfl
theorem fl_X1_15 : Cond.fieldLink RX1 15 "BracketDesk$Factors" "letters" "[I" ∈ lw_g := mg (up_2 _ (List.mem_of_getElem? (i := 119) (by decide +kernel))) rfl
theorem fl_X1_19 : Cond.fieldLink RX1 19 "BracketDesk$Factors" "row" "[I" ∈ lw_g := mg (up_2 _ (List.mem_of_getElem? (i := 120) (by decide +kernel))) rfl
theorem fl_X1_22 : Cond.fieldLink RX1 22 "BracketDesk$Factors" "forms" "[J" ∈ lw_g := mg (up_2 _ (List.mem_of_getElem? (i := 121) (by decide +kernel))) rfl
theorem fl_X1_26 : Cond.fieldLink RX1 26 "BracketDesk$Factors" "straight" "[I" ∈ lw_g := mg (up_2 _ (List.mem_of_getElem? (i := 122) (by decide +kernel))) rfl
theorem fl_X1_29 : Cond.fieldLink RX1 29 "BracketDesk$Factors" "asked" "[I" ∈ lw_g := mg (up_2 _ (List.mem_of_getElem? (i := 123) (by decide +kernel))) rfl
theorem cl_X11_73 : Cond.classLink RX11 73 "BracketDesk$Term" ∈ lw_g := mg (up_2 _ (List.mem_of_getElem? (i := 137) (by decide +kernel))) rfl
theorem ml_X11_75 : Cond.methodLink RX11 75 yX10_init ∈ lw_g := mg (up_2 _ (List.mem_of_getElem? (i := 138) (by decide +kernel))) rfl
theorem cl_X11_80 : Cond.classLink RX11 80 "BracketDesk$Poly" ∈ lw_g := mg (up_2 _ (List.mem_of_getElem? (i := 139) (by decide +kernel))) rfl
theorem ml_X11_82 : Cond.methodLink RX11 82 yX5_init ∈ lw_g := mg (up_2 _ (List.mem_of_getElem? (i := 140) (by decide +kernel))) rfl
theorem fl_X11_10 : Cond.fieldLink RX11 10 "BracketDesk" "now" "LBracketDesk$State;" ∈ lw_g := mg (up_2 _ (List.mem_of_getElem? (i := 141) (by decide +kernel))) rfl
theorem fl_X11_19 : Cond.fieldLink RX11 19 "BracketDesk" "history" "LBracketDesk$History;" ∈ lw_g := mg (up_2 _ (List.mem_of_getElem? (i := 142) (by decide +kernel))) rfl
theorem fl_X11_23 : Cond.fieldLink RX11 23 "BracketDesk" "images" "[LBracketDesk$State;" ∈ lw_g := mg (up_2 _ (List.mem_of_getElem? (i := 143) (by decide +kernel))) rfl
theorem fl_X11_27 : Cond.fieldLink RX11 27 "BracketDesk" "made" "[Z" ∈ lw_g := mg (up_2 _ (List.mem_of_getElem? (i := 144) (by decide +kernel))) rfl
theorem fl_X11_34 : Cond.fieldLink RX11 34 "BracketDesk" "tape" "LBracketDesk$Tape;" ∈ lw_g := mg (up_2 _ (List.mem_of_getElem? (i := 145) (by decide +kernel))) rfl
theorem fl_X11_41 : Cond.fieldLink RX11 41 "BracketDesk" "straightener" "LBracketDesk$Straightener;" ∈ lw_g := mg (up_2 _ (List.mem_of_getElem? (i := 146) (by decide +kernel))) rfl
theorem fl_X11_48 : Cond.fieldLink RX11 48 "BracketDesk" "figures" "LBracketDesk$Figures;" ∈ lw_g := mg (up_2 _ (List.mem_of_getElem? (i := 147) (by decide +kernel))) rfl
theorem fl_X11_55 : Cond.fieldLink RX11 55 "BracketDesk" "forms" "LBracketDesk$Forms;" ∈ lw_g := mg (up_2 _ (List.mem_of_getElem? (i := 148) (by decide +kernel))) rfl
theorem fl_X11_62 : Cond.fieldLink RX11 62 "BracketDesk" "elimination" "LBracketDesk$Elimination;" ∈ lw_g := mg (up_2 _ (List.mem_of_getElem? (i := 149) (by decide +kernel))) rfl
theorem fl_X11_69 : Cond.fieldLink RX11 69 "BracketDesk" "factors" "LBracketDesk$Factors;" ∈ lw_g := mg (up_2 _ (List.mem_of_getElem? (i := 150) (by decide +kernel))) rfl
theorem fl_X11_76 : Cond.fieldLink RX11 76 "BracketDesk" "term" "LBracketDesk$Term;" ∈ lw_g := mg (up_2 _ (List.mem_of_getElem? (i := 151) (by decide +kernel))) rfl
theorem fl_X11_83 : Cond.fieldLink RX11 83 "BracketDesk" "work" "LBracketDesk$Poly;" ∈ lw_g := mg (up_2 _ (List.mem_of_getElem? (i := 152) (by decide +kernel))) rfl
theorem fl_X11_87 : Cond.fieldLink RX11 87 "BracketDesk" "other" "LBracketDesk$Poly;" ∈ lw_g := mg (up_2 _ (List.mem_of_getElem? (i := 153) (by decide +kernel))) rfl
theorem fl_X11_90 : Cond.fieldLink RX11 90 "BracketDesk" "why" "I" ∈ lw_g := mg (up_2 _ (List.mem_of_getElem? (i := 154) (by decide +kernel))) rfl
theorem ml_L_13 : Cond.methodLink RL 13 yX11_feed ∈ lw_g := mg (up_2 _ (List.mem_of_getElem? (i := 184) (by decide +kernel))) rfl
theorem ml_X11_97 : Cond.methodLink RX11 97 yX9_take ∈ lw_g := mg (up_2 _ (List.mem_of_getElem? (i := 188) (by decide +kernel))) rfl
theorem ml_L_18 : Cond.methodLink RL 18 yX11_told ∈ lw_g := mg (up_2 _ (List.mem_of_getElem? (i := 192) (by decide +kernel))) rfl
theorem ml_X11_101 : Cond.methodLink RX11 101 yX11_askedOfTape ∈ lw_g := mg (up_2 _ (List.mem_of_getElem? (i := 196) (by decide +kernel))) rfl
theorem ml_X11_143 : Cond.methodLink RX11 143 yX11_isShelf ∈ lw_g := mg (up_2 _ (List.mem_of_getElem? (i := 200) (by decide +kernel))) rfl
theorem ml_X11_105 : Cond.methodLink RX11 105 yX9_tellsPolynomial ∈ lw_g := mg (up_2 _ (List.mem_of_getElem? (i := 203) (by decide +kernel))) rfl
theorem ml_X9_35 : Cond.methodLink RX9 35 yX9_behind ∈ lw_g := mg (up_2 _ (List.mem_of_getElem? (i := 207) (by decide +kernel))) rfl
theorem ml_X9_43 : Cond.methodLink RX9 43 yX9_isLetterByte ∈ lw_g := mg (up_2 _ (List.mem_of_getElem? (i := 210) (by decide +kernel))) rfl
theorem ml_X9_47 : Cond.methodLink RX9 47 yX9_isSign ∈ lw_g := mg (up_2 _ (List.mem_of_getElem? (i := 213) (by decide +kernel))) rfl
theorem ml_X9_50 : Cond.methodLink RX9 50 yX9_isDigit ∈ lw_g := mg (up_2 _ (List.mem_of_getElem? (i := 216) (by decide +kernel))) rfl
theorem ml_X9_39 : Cond.methodLink RX9 39 yX9_note ∈ lw_g := mg (up_2 _ (List.mem_of_getElem? (i := 219) (by decide +kernel))) rfl
theorem ml_X11_109 : Cond.methodLink RX11 109 yX11_badText ∈ lw_g := mg (up_2 _ (List.mem_of_getElem? (i := 223) (by decide +kernel))) rfl
theorem ml_X11_113 : Cond.methodLink RX11 113 yX9_readPolynomial ∈ lw_g := mg (up_2 _ (List.mem_of_getElem? (i := 227) (by decide +kernel))) rfl
theorem ml_X9_53 : Cond.methodLink RX9 53 yX5_empty ∈ lw_g := mg (up_2 _ (List.mem_of_getElem? (i := 231) (by decide +kernel))) rfl
theorem ml_X9_58 : Cond.methodLink RX9 58 yX10_begin ∈ lw_g := mg (up_2 _ (List.mem_of_getElem? (i := 232) (by decide +kernel))) rfl
theorem ml_X9_62 : Cond.methodLink RX9 62 yX9_layRead ∈ lw_g := mg (up_2 _ (List.mem_of_getElem? (i := 233) (by decide +kernel))) rfl
theorem ml_X9_88 : Cond.methodLink RX9 88 yX5_lay ∈ lw_g := mg (up_2 _ (List.mem_of_getElem? (i := 237) (by decide +kernel))) rfl
theorem ml_X9_66 : Cond.methodLink RX9 66 yJ9_max_7cf53 ∈ lw_g := mg (up_2 _ (List.mem_of_getElem? (i := 238) (by decide +kernel))) rfl
theorem ml_X9_71 : Cond.methodLink RX9 71 yX6_row ∈ lw_g := mg (up_3 _ (List.mem_of_getElem? (i := 1) (by decide +kernel))) rfl
theorem ml_X9_77 : Cond.methodLink RX9 77 yX10_attach ∈ lw_g := mg (up_3 _ (List.mem_of_getElem? (i := 4) (by decide +kernel))) rfl
theorem ml_X11_117 : Cond.methodLink RX11 117 yX11_keepText ∈ lw_g := mg (up_3 _ (List.mem_of_getElem? (i := 5) (by decide +kernel))) rfl
theorem ml_X11_154 : Cond.methodLink RX11 154 yX11_keep ∈ lw_g := mg (up_3 _ (List.mem_of_getElem? (i := 9) (by decide +kernel))) rfl
theorem ml_X11_271 : Cond.methodLink RX11 271 yX11_refused ∈ lw_g := mg (up_3 _ (List.mem_of_getElem? (i := 13) (by decide +kernel))) rfl
theorem ml_X11_230 : Cond.methodLink RX11 230 yX4_keep ∈ lw_g := mg (up_3 _ (List.mem_of_getElem? (i := 17) (by decide +kernel))) rfl
theorem ml_X4_25 : Cond.methodLink RX4 25 yX7_take ∈ lw_g := mg (up_3 _ (List.mem_of_getElem? (i := 21) (by decide +kernel))) rfl
theorem ml_X7_31 : Cond.methodLink RX7 31 yX5_take ∈ lw_g := mg (up_3 _ (List.mem_of_getElem? (i := 25) (by decide +kernel))) rfl
theorem ml_X7_35 : Cond.methodLink RX7 35 arraycopyName ∈ lw_g := mg (up_3 _ (List.mem_of_getElem? (i := 26) (by decide +kernel))) rfl
theorem ml_X4_29 : Cond.methodLink RX4 29 yJ9_min_7cf53 ∈ lw_g := mg (up_3 _ (List.mem_of_getElem? (i := 27) (by decide +kernel))) rfl
theorem ml_X11_157 : Cond.methodLink RX11 157 yX5_take ∈ lw_g := mg (up_3 _ (List.mem_of_getElem? (i := 30) (by decide +kernel))) rfl
theorem ml_L_23 : Cond.methodLink RL 23 yX11_figure ∈ lw_g := mg (up_3 _ (List.mem_of_getElem? (i := 31) (by decide +kernel))) rfl
theorem ml_X11_120 : Cond.methodLink RX11 120 yX9_tellsFigure ∈ lw_g := mg (up_3 _ (List.mem_of_getElem? (i := 35) (by decide +kernel))) rfl
theorem ml_X9_92 : Cond.methodLink RX9 92 yX9_isPointDue ∈ lw_g := mg (up_3 _ (List.mem_of_getElem? (i := 39) (by decide +kernel))) rfl
theorem ml_X11_123 : Cond.methodLink RX11 123 yX2_begin ∈ lw_g := mg (up_3 _ (List.mem_of_getElem? (i := 43) (by decide +kernel))) rfl
theorem ml_X11_130 : Cond.methodLink RX11 130 yX2_take ∈ lw_g := mg (up_3 _ (List.mem_of_getElem? (i := 47) (by decide +kernel))) rfl
theorem ml_X2_49 : Cond.methodLink RX2 49 yX9_isLetterByte ∈ lw_g := mg (up_3 _ (List.mem_of_getElem? (i := 51) (by decide +kernel))) rfl
theorem ml_X2_55 : Cond.methodLink RX2 55 yX2_empty ∈ lw_g := mg (up_3 _ (List.mem_of_getElem? (i := 52) (by decide +kernel))) rfl
theorem ml_X2_71 : Cond.methodLink RX2 71 yX5_empty ∈ lw_g := mg (up_3 _ (List.mem_of_getElem? (i := 56) (by decide +kernel))) rfl
theorem ml_X2_59 : Cond.methodLink RX2 59 yX5_lay ∈ lw_g := mg (up_3 _ (List.mem_of_getElem? (i := 57) (by decide +kernel))) rfl
theorem ml_X2_63 : Cond.methodLink RX2 63 yX2_makeBracket ∈ lw_g := mg (up_3 _ (List.mem_of_getElem? (i := 58) (by decide +kernel))) rfl
theorem ml_X2_84 : Cond.methodLink RX2 84 yX10_begin ∈ lw_g := mg (up_3 _ (List.mem_of_getElem? (i := 62) (by decide +kernel))) rfl
theorem ml_X2_88 : Cond.methodLink RX2 88 yX6_row ∈ lw_g := mg (up_3 _ (List.mem_of_getElem? (i := 63) (by decide +kernel))) rfl
theorem ml_X2_94 : Cond.methodLink RX2 94 yX10_attach ∈ lw_g := mg (up_3 _ (List.mem_of_getElem? (i := 64) (by decide +kernel))) rfl
theorem ml_X2_97 : Cond.methodLink RX2 97 yX2_layTimesThree ∈ lw_g := mg (up_3 _ (List.mem_of_getElem? (i := 65) (by decide +kernel))) rfl
theorem ml_X2_73 : Cond.methodLink RX2 73 yX5_layProduct ∈ lw_g := mg (up_3 _ (List.mem_of_getElem? (i := 69) (by decide +kernel))) rfl
theorem ml_X5_41 : Cond.methodLink RX5 41 yX6_bracketsIn ∈ lw_g := mg (up_3 _ (List.mem_of_getElem? (i := 73) (by decide +kernel))) rfl
theorem ml_X5_46 : Cond.methodLink RX5 46 yX6_joined ∈ lw_g := mg (up_3 _ (List.mem_of_getElem? (i := 76) (by decide +kernel))) rfl
theorem ml_X5_37 : Cond.methodLink RX5 37 yX5_lay ∈ lw_g := mg (up_3 _ (List.mem_of_getElem? (i := 79) (by decide +kernel))) rfl
theorem ml_X2_77 : Cond.methodLink RX2 77 yX5_laySum ∈ lw_g := mg (up_3 _ (List.mem_of_getElem? (i := 80) (by decide +kernel))) rfl
theorem ml_X2_67 : Cond.methodLink RX2 67 yX2_makeSpare ∈ lw_g := mg (up_3 _ (List.mem_of_getElem? (i := 84) (by decide +kernel))) rfl
theorem ml_X11_133 : Cond.methodLink RX11 133 yX2_makeFigure ∈ lw_g := mg (up_3 _ (List.mem_of_getElem? (i := 88) (by decide +kernel))) rfl
theorem ml_L_27 : Cond.methodLink RL 27 yX11_fault ∈ lw_g := mg (up_3 _ (List.mem_of_getElem? (i := 92) (by decide +kernel))) rfl
theorem ml_L_32 : Cond.methodLink RL 32 yX11_why ∈ lw_g := mg (up_3 _ (List.mem_of_getElem? (i := 96) (by decide +kernel))) rfl
theorem ml_L_37 : Cond.methodLink RL 37 yX11_clear ∈ lw_g := mg (up_3 _ (List.mem_of_getElem? (i := 100) (by decide +kernel))) rfl
theorem ml_X11_151 : Cond.methodLink RX11 151 yX5_empty ∈ lw_g := mg (up_3 _ (List.mem_of_getElem? (i := 104) (by decide +kernel))) rfl
theorem ml_L_41 : Cond.methodLink RL 41 yX11_copy ∈ lw_g := mg (up_3 _ (List.mem_of_getElem? (i := 105) (by decide +kernel))) rfl
theorem ml_L_45 : Cond.methodLink RL 45 yX11_bracket ∈ lw_g := mg (up_3 _ (List.mem_of_getElem? (i := 109) (by decide +kernel))) rfl
theorem ml_X11_160 : Cond.methodLink RX11 160 yX11_areLetters ∈ lw_g := mg (up_3 _ (List.mem_of_getElem? (i := 113) (by decide +kernel))) rfl
theorem ml_X11_205 : Cond.methodLink RX11 205 yX11_isLetter ∈ lw_g := mg (up_3 _ (List.mem_of_getElem? (i := 116) (by decide +kernel))) rfl
theorem ml_X11_164 : Cond.methodLink RX11 164 yX10_begin ∈ lw_g := mg (up_3 _ (List.mem_of_getElem? (i := 119) (by decide +kernel))) rfl
theorem ml_X11_167 : Cond.methodLink RX11 167 yX6_row ∈ lw_g := mg (up_3 _ (List.mem_of_getElem? (i := 120) (by decide +kernel))) rfl
theorem ml_X11_173 : Cond.methodLink RX11 173 yX10_attach ∈ lw_g := mg (up_3 _ (List.mem_of_getElem? (i := 121) (by decide +kernel))) rfl
theorem ml_X11_183 : Cond.methodLink RX11 183 yX5_lay ∈ lw_g := mg (up_3 _ (List.mem_of_getElem? (i := 122) (by decide +kernel))) rfl
theorem ml_L_50 : Cond.methodLink RL 50 yX11_exchange ∈ lw_g := mg (up_3 _ (List.mem_of_getElem? (i := 123) (by decide +kernel))) rfl
theorem ml_X11_187 : Cond.methodLink RX11 187 yX11_rowOfDigits ∈ lw_g := mg (up_3 _ (List.mem_of_getElem? (i := 127) (by decide +kernel))) rfl
theorem ml_X11_190 : Cond.methodLink RX11 190 yX8_layExchange ∈ lw_g := mg (up_3 _ (List.mem_of_getElem? (i := 130) (by decide +kernel))) rfl
theorem ml_L_54 : Cond.methodLink RL 54 yX11_add ∈ lw_g := mg (up_3 _ (List.mem_of_getElem? (i := 131) (by decide +kernel))) rfl
theorem ml_X11_194 : Cond.methodLink RX11 194 yX11_isNear ∈ lw_g := mg (up_3 _ (List.mem_of_getElem? (i := 135) (by decide +kernel))) rfl
theorem ml_X11_197 : Cond.methodLink RX11 197 yX5_laySum ∈ lw_g := mg (up_3 _ (List.mem_of_getElem? (i := 138) (by decide +kernel))) rfl
theorem ml_L_58 : Cond.methodLink RL 58 yX11_times ∈ lw_g := mg (up_3 _ (List.mem_of_getElem? (i := 139) (by decide +kernel))) rfl
theorem ml_X11_201 : Cond.methodLink RX11 201 yX5_layProduct ∈ lw_g := mg (up_3 _ (List.mem_of_getElem? (i := 143) (by decide +kernel))) rfl
theorem ml_L_63 : Cond.methodLink RL 63 yX11_put ∈ lw_g := mg (up_3 _ (List.mem_of_getElem? (i := 144) (by decide +kernel))) rfl
theorem ml_X11_208 : Cond.methodLink RX11 208 yX11_rename ∈ lw_g := mg (up_3 _ (List.mem_of_getElem? (i := 148) (by decide +kernel))) rfl
theorem ml_X11_336 : Cond.methodLink RX11 336 yX10_rename ∈ lw_g := mg (up_3 _ (List.mem_of_getElem? (i := 152) (by decide +kernel))) rfl
theorem ml_X10_32 : Cond.methodLink RX10 32 yX10_begin ∈ lw_g := mg (up_3 _ (List.mem_of_getElem? (i := 156) (by decide +kernel))) rfl
theorem ml_X10_36 : Cond.methodLink RX10 36 yX6_bracketsIn ∈ lw_g := mg (up_3 _ (List.mem_of_getElem? (i := 157) (by decide +kernel))) rfl
theorem ml_X10_40 : Cond.methodLink RX10 40 yX6_bracketAt ∈ lw_g := mg (up_3 _ (List.mem_of_getElem? (i := 158) (by decide +kernel))) rfl
theorem ml_X10_44 : Cond.methodLink RX10 44 yX6_letter ∈ lw_g := mg (up_3 _ (List.mem_of_getElem? (i := 159) (by decide +kernel))) rfl
theorem ml_X10_48 : Cond.methodLink RX10 48 yX10_renamed ∈ lw_g := mg (up_3 _ (List.mem_of_getElem? (i := 160) (by decide +kernel))) rfl
theorem ml_X10_52 : Cond.methodLink RX10 52 yX10_attach ∈ lw_g := mg (up_3 _ (List.mem_of_getElem? (i := 163) (by decide +kernel))) rfl
theorem ml_L_67 : Cond.methodLink RL 67 yX11_turn ∈ lw_g := mg (up_3 _ (List.mem_of_getElem? (i := 164) (by decide +kernel))) rfl
theorem ml_L_71 : Cond.methodLink RL 71 yX11_straight ∈ lw_g := mg (up_3 _ (List.mem_of_getElem? (i := 168) (by decide +kernel))) rfl
theorem ml_X11_212 : Cond.methodLink RX11 212 yX8_straighten ∈ lw_g := mg (up_3 _ (List.mem_of_getElem? (i := 172) (by decide +kernel))) rfl
theorem ml_L_75 : Cond.methodLink RL 75 yX11_reduce ∈ lw_g := mg (up_3 _ (List.mem_of_getElem? (i := 173) (by decide +kernel))) rfl
theorem ml_X11_215 : Cond.methodLink RX11 215 yX7_reduceTo ∈ lw_g := mg (up_3 _ (List.mem_of_getElem? (i := 177) (by decide +kernel))) rfl
theorem ml_X7_51 : Cond.methodLink RX7 51 yX5_empty ∈ lw_g := mg (up_3 _ (List.mem_of_getElem? (i := 181) (by decide +kernel))) rfl
theorem ml_X7_58 : Cond.methodLink RX7 58 yX7_bracketsThatAre ∈ lw_g := mg (up_3 _ (List.mem_of_getElem? (i := 182) (by decide +kernel))) rfl
theorem ml_X7_69 : Cond.methodLink RX7 69 yX6_bracketsIn ∈ lw_g := mg (up_3 _ (List.mem_of_getElem? (i := 186) (by decide +kernel))) rfl
theorem ml_X7_73 : Cond.methodLink RX7 73 yX6_bracketAt ∈ lw_g := mg (up_3 _ (List.mem_of_getElem? (i := 187) (by decide +kernel))) rfl
theorem ml_X7_76 : Cond.methodLink RX7 76 yX7_factOf ∈ lw_g := mg (up_3 _ (List.mem_of_getElem? (i := 188) (by decide +kernel))) rfl
theorem ml_X7_45 : Cond.methodLink RX7 45 yX6_indexOf ∈ lw_g := mg (up_3 _ (List.mem_of_getElem? (i := 192) (by decide +kernel))) rfl
theorem ml_X7_65 : Cond.methodLink RX7 65 yX5_lay ∈ lw_g := mg (up_3 _ (List.mem_of_getElem? (i := 195) (by decide +kernel))) rfl
theorem ml_L_79 : Cond.methodLink RL 79 yX11_fact ∈ lw_g := mg (up_3 _ (List.mem_of_getElem? (i := 196) (by decide +kernel))) rfl
theorem ml_X11_219 : Cond.methodLink RX11 219 yX6_ordered ∈ lw_g := mg (up_3 _ (List.mem_of_getElem? (i := 200) (by decide +kernel))) rfl
theorem ml_X11_222 : Cond.methodLink RX11 222 yJ9_abs_0f7a4 ∈ lw_g := mg (up_3 _ (List.mem_of_getElem? (i := 201) (by decide +kernel))) rfl
theorem ml_X11_227 : Cond.methodLink RX11 227 yX7_factOf ∈ lw_g := mg (up_3 _ (List.mem_of_getElem? (i := 202) (by decide +kernel))) rfl
theorem ml_X11_233 : Cond.methodLink RX11 233 yX7_tellFact ∈ lw_g := mg (up_3 _ (List.mem_of_getElem? (i := 203) (by decide +kernel))) rfl
theorem ml_L_83 : Cond.methodLink RL 83 yX11_place ∈ lw_g := mg (up_3 _ (List.mem_of_getElem? (i := 207) (by decide +kernel))) rfl
theorem ml_L_87 : Cond.methodLink RL 87 yX11_terms ∈ lw_g := mg (up_3 _ (List.mem_of_getElem? (i := 211) (by decide +kernel))) rfl
theorem ml_L_91 : Cond.methodLink RL 91 yX11_term ∈ lw_g := mg (up_3 _ (List.mem_of_getElem? (i := 215) (by decide +kernel))) rfl
theorem ck_X11_240 : Cond.constant RX11 240 (-2147483648) ∈ lw_g := mg (up_3 _ (List.mem_of_getElem? (i := 219) (by decide +kernel))) rfl
theorem ml_X11_245 : Cond.methodLink RX11 245 yX6_breakOf ∈ lw_g := mg (up_3 _ (List.mem_of_getElem? (i := 220) (by decide +kernel))) rfl
theorem ml_X11_252 : Cond.methodLink RX11 252 yX6_bracketsIn ∈ lw_g := mg (up_3 _ (List.mem_of_getElem? (i := 221) (by decide +kernel))) rfl
theorem ml_X11_255 : Cond.methodLink RX11 255 yX6_bracketOfBreak ∈ lw_g := mg (up_3 _ (List.mem_of_getElem? (i := 222) (by decide +kernel))) rfl
theorem ml_X11_258 : Cond.methodLink RX11 258 yX6_placeOfBreak ∈ lw_g := mg (up_3 _ (List.mem_of_getElem? (i := 223) (by decide +kernel))) rfl
theorem ml_X11_261 : Cond.methodLink RX11 261 yX6_letterOfKey ∈ lw_g := mg (up_3 _ (List.mem_of_getElem? (i := 224) (by decide +kernel))) rfl
theorem ml_L_95 : Cond.methodLink RL 95 yX11_degree ∈ lw_g := mg (up_3 _ (List.mem_of_getElem? (i := 227) (by decide +kernel))) rfl
theorem ml_X11_265 : Cond.methodLink RX11 265 yX6_timesOf ∈ lw_g := mg (up_3 _ (List.mem_of_getElem? (i := 231) (by decide +kernel))) rfl
theorem ml_X6_19 : Cond.methodLink RX6 19 yX6_letterOfKey ∈ lw_g := mg (up_3 _ (List.mem_of_getElem? (i := 234) (by decide +kernel))) rfl
theorem ml_L_99 : Cond.methodLink RL 99 yX11_steps ∈ lw_g := mg (up_3 _ (List.mem_of_getElem? (i := 235) (by decide +kernel))) rfl
theorem ml_L_103 : Cond.methodLink RL 103 yX11_left ∈ lw_g := mg (up_3 _ (List.mem_of_getElem? (i := 239) (by decide +kernel))) rfl
theorem ml_L_107 : Cond.methodLink RL 107 yX11_equal ∈ lw_g := mg (up_4 _ (List.mem_of_getElem? (i := 3) (by decide +kernel))) rfl
theorem ml_X11_274 : Cond.methodLink RX11 274 yX5_isLike ∈ lw_g := mg (up_4 _ (List.mem_of_getElem? (i := 7) (by decide +kernel))) rfl
theorem ml_L_111 : Cond.methodLink RL 111 yX11_forms ∈ lw_g := mg (up_4 _ (List.mem_of_getElem? (i := 11) (by decide +kernel))) rfl
theorem ml_X11_278 : Cond.methodLink RX11 278 yX3_countAll ∈ lw_g := mg (up_4 _ (List.mem_of_getElem? (i := 15) (by decide +kernel))) rfl
theorem ml_X3_29 : Cond.methodLink RX3 29 yX3_begin ∈ lw_g := mg (up_4 _ (List.mem_of_getElem? (i := 19) (by decide +kernel))) rfl
theorem ml_X3_37 : Cond.methodLink RX3 37 yX6_bracketsIn ∈ lw_g := mg (up_4 _ (List.mem_of_getElem? (i := 23) (by decide +kernel))) rfl
theorem ml_X3_43 : Cond.methodLink RX3 43 yX6_timesOf ∈ lw_g := mg (up_4 _ (List.mem_of_getElem? (i := 24) (by decide +kernel))) rfl
theorem ml_X3_33 : Cond.methodLink RX3 33 yX3_fill ∈ lw_g := mg (up_4 _ (List.mem_of_getElem? (i := 25) (by decide +kernel))) rfl
theorem ml_X3_47 : Cond.methodLink RX3 47 yJ9_max_7cf53 ∈ lw_g := mg (up_4 _ (List.mem_of_getElem? (i := 29) (by decide +kernel))) rfl
theorem ml_L_115 : Cond.methodLink RL 115 yX11_form ∈ lw_g := mg (up_4 _ (List.mem_of_getElem? (i := 30) (by decide +kernel))) rfl
theorem ml_X11_281 : Cond.methodLink RX11 281 yX3_letterOf ∈ lw_g := mg (up_4 _ (List.mem_of_getElem? (i := 34) (by decide +kernel))) rfl
theorem ml_L_119 : Cond.methodLink RL 119 yX11_rank ∈ lw_g := mg (up_4 _ (List.mem_of_getElem? (i := 38) (by decide +kernel))) rfl
theorem ml_X11_285 : Cond.methodLink RX11 285 yX0_begin ∈ lw_g := mg (up_4 _ (List.mem_of_getElem? (i := 42) (by decide +kernel))) rfl
theorem ml_X11_286 : Cond.methodLink RX11 286 yX0_takeRow ∈ lw_g := mg (up_4 _ (List.mem_of_getElem? (i := 46) (by decide +kernel))) rfl
theorem ml_X0_27 : Cond.methodLink RX0 27 yJ7_fill_53178 ∈ lw_g := mg (up_4 _ (List.mem_of_getElem? (i := 50) (by decide +kernel))) rfl
theorem ml_X0_41 : Cond.methodLink RX0 41 yX0_columnOf ∈ lw_g := mg (up_4 _ (List.mem_of_getElem? (i := 51) (by decide +kernel))) rfl
theorem ck_X0_49 : Cond.constant RX0 49 (1000003) ∈ lw_g := mg (up_4 _ (List.mem_of_getElem? (i := 55) (by decide +kernel))) rfl
theorem ml_X0_50 : Cond.methodLink RX0 50 yJ9_floorMod_7cf53 ∈ lw_g := mg (up_4 _ (List.mem_of_getElem? (i := 56) (by decide +kernel))) rfl
theorem ml_X11_289 : Cond.methodLink RX11 289 yX0_independentRows ∈ lw_g := mg (up_4 _ (List.mem_of_getElem? (i := 59) (by decide +kernel))) rfl
theorem ml_X0_56 : Cond.methodLink RX0 56 yX0_bringUp ∈ lw_g := mg (up_4 _ (List.mem_of_getElem? (i := 63) (by decide +kernel))) rfl
theorem ml_X0_60 : Cond.methodLink RX0 60 yX0_clearColumn ∈ lw_g := mg (up_4 _ (List.mem_of_getElem? (i := 67) (by decide +kernel))) rfl
theorem ck_X0_64 : Cond.constantLong RX0 64 (1000003) ∈ lw_g := mg (up_4 _ (List.mem_of_getElem? (i := 71) (by decide +kernel))) rfl
theorem ml_X0_66 : Cond.methodLink RX0 66 yJ9_floorMod_f86c9 ∈ lw_g := mg (up_4 _ (List.mem_of_getElem? (i := 72) (by decide +kernel))) rfl
theorem ml_L_123 : Cond.methodLink RL 123 yX11_factor ∈ lw_g := mg (up_4 _ (List.mem_of_getElem? (i := 75) (by decide +kernel))) rfl
theorem ml_X11_292 : Cond.methodLink RX11 292 yX1_takeLetters ∈ lw_g := mg (up_4 _ (List.mem_of_getElem? (i := 79) (by decide +kernel))) rfl
theorem ml_X1_71 : Cond.methodLink RX1 71 yX6_bracketsIn ∈ lw_g := mg (up_4 _ (List.mem_of_getElem? (i := 83) (by decide +kernel))) rfl
theorem ml_X1_74 : Cond.methodLink RX1 74 yX6_timesOf ∈ lw_g := mg (up_4 _ (List.mem_of_getElem? (i := 84) (by decide +kernel))) rfl
theorem ml_X11_296 : Cond.methodLink RX11 296 yX1_search ∈ lw_g := mg (up_4 _ (List.mem_of_getElem? (i := 85) (by decide +kernel))) rfl
theorem ml_X1_78 : Cond.methodLink RX1 78 yX1_takeAsked ∈ lw_g := mg (up_4 _ (List.mem_of_getElem? (i := 89) (by decide +kernel))) rfl
theorem ml_X1_89 : Cond.methodLink RX1 89 yJ7_fill_53178 ∈ lw_g := mg (up_4 _ (List.mem_of_getElem? (i := 93) (by decide +kernel))) rfl
theorem ml_X1_95 : Cond.methodLink RX1 95 yX1_byPlaces ∈ lw_g := mg (up_4 _ (List.mem_of_getElem? (i := 94) (by decide +kernel))) rfl
theorem ml_X1_99 : Cond.methodLink RX1 99 yX6_letterOfKey ∈ lw_g := mg (up_4 _ (List.mem_of_getElem? (i := 98) (by decide +kernel))) rfl
theorem ml_X1_102 : Cond.methodLink RX1 102 yX1_placeOf ∈ lw_g := mg (up_4 _ (List.mem_of_getElem? (i := 99) (by decide +kernel))) rfl
theorem ml_X1_82 : Cond.methodLink RX1 82 yX1_isMultiple ∈ lw_g := mg (up_4 _ (List.mem_of_getElem? (i := 103) (by decide +kernel))) rfl
theorem ml_X1_115 : Cond.methodLink RX1 115 yX1_signOf ∈ lw_g := mg (up_4 _ (List.mem_of_getElem? (i := 107) (by decide +kernel))) rfl
theorem ml_X1_122 : Cond.methodLink RX1 122 yX6_row ∈ lw_g := mg (up_4 _ (List.mem_of_getElem? (i := 111) (by decide +kernel))) rfl
theorem ml_X1_124 : Cond.methodLink RX1 124 yX6_ordered ∈ lw_g := mg (up_4 _ (List.mem_of_getElem? (i := 112) (by decide +kernel))) rfl
theorem ml_X1_119 : Cond.methodLink RX1 119 yX1_besideFirst ∈ lw_g := mg (up_4 _ (List.mem_of_getElem? (i := 113) (by decide +kernel))) rfl
theorem ml_X1_86 : Cond.methodLink RX1 86 yX1_nextRow ∈ lw_g := mg (up_4 _ (List.mem_of_getElem? (i := 117) (by decide +kernel))) rfl
theorem ml_X1_127 : Cond.methodLink RX1 127 yX1_swap ∈ lw_g := mg (up_4 _ (List.mem_of_getElem? (i := 121) (by decide +kernel))) rfl
theorem ml_X11_302 : Cond.methodLink RX11 302 yX1_letterOfRow ∈ lw_g := mg (up_4 _ (List.mem_of_getElem? (i := 125) (by decide +kernel))) rfl
theorem ml_L_127 : Cond.methodLink RL 127 yX11_isFinal ∈ lw_g := mg (up_4 _ (List.mem_of_getElem? (i := 129) (by decide +kernel))) rfl
theorem ml_X11_305 : Cond.methodLink RX11 305 yX7_cannotVanish ∈ lw_g := mg (up_4 _ (List.mem_of_getElem? (i := 133) (by decide +kernel))) rfl
theorem ml_L_131 : Cond.methodLink RL 131 yX11_known ∈ lw_g := mg (up_4 _ (List.mem_of_getElem? (i := 137) (by decide +kernel))) rfl
theorem ml_L_135 : Cond.methodLink RL 135 yX11_at ∈ lw_g := mg (up_4 _ (List.mem_of_getElem? (i := 141) (by decide +kernel))) rfl
theorem ml_L_139 : Cond.methodLink RL 139 yX11_worth ∈ lw_g := mg (up_4 _ (List.mem_of_getElem? (i := 145) (by decide +kernel))) rfl
theorem ml_X11_308 : Cond.methodLink RX11 308 yX7_determinant ∈ lw_g := mg (up_4 _ (List.mem_of_getElem? (i := 149) (by decide +kernel))) rfl
theorem ml_L_143 : Cond.methodLink RL 143 yX11_value ∈ lw_g := mg (up_4 _ (List.mem_of_getElem? (i := 153) (by decide +kernel))) rfl
theorem ck_X11_311 : Cond.constantLong RX11 311 (-9223372036854775808) ∈ lw_g := mg (up_4 _ (List.mem_of_getElem? (i := 157) (by decide +kernel))) rfl
theorem ml_X11_313 : Cond.methodLink RX11 313 yX7_worthOf ∈ lw_g := mg (up_4 _ (List.mem_of_getElem? (i := 158) (by decide +kernel))) rfl
theorem ml_X7_83 : Cond.methodLink RX7 83 yX6_letter ∈ lw_g := mg (up_4 _ (List.mem_of_getElem? (i := 162) (by decide +kernel))) rfl
theorem ml_X7_79 : Cond.methodLink RX7 79 yX7_determinant ∈ lw_g := mg (up_4 _ (List.mem_of_getElem? (i := 163) (by decide +kernel))) rfl
theorem ml_X7_87 : Cond.methodLink RX7 87 yX7_isTooGreat ∈ lw_g := mg (up_4 _ (List.mem_of_getElem? (i := 164) (by decide +kernel))) rfl
theorem ck_X7_91 : Cond.constantLong RX7 91 (-9223372036854775808) ∈ lw_g := mg (up_4 _ (List.mem_of_getElem? (i := 167) (by decide +kernel))) rfl
theorem ml_L_148 : Cond.methodLink RL 148 yX11_undo ∈ lw_g := mg (up_4 _ (List.mem_of_getElem? (i := 168) (by decide +kernel))) rfl
theorem ml_X11_318 : Cond.methodLink RX11 318 yX4_goBack ∈ lw_g := mg (up_4 _ (List.mem_of_getElem? (i := 172) (by decide +kernel))) rfl
theorem ml_X4_35 : Cond.methodLink RX4 35 yJ9_floorMod_7cf53 ∈ lw_g := mg (up_4 _ (List.mem_of_getElem? (i := 176) (by decide +kernel))) rfl
theorem ml_L_152 : Cond.methodLink RL 152 yX11_image ∈ lw_g := mg (up_4 _ (List.mem_of_getElem? (i := 177) (by decide +kernel))) rfl
theorem ml_X11_322 : Cond.methodLink RX11 322 yX7_take ∈ lw_g := mg (up_4 _ (List.mem_of_getElem? (i := 181) (by decide +kernel))) rfl
theorem ml_L_156 : Cond.methodLink RL 156 yX11_restore ∈ lw_g := mg (up_4 _ (List.mem_of_getElem? (i := 182) (by decide +kernel))) rfl
theorem ml_X11_324 : Cond.methodLink RX11 324 yX4_forget ∈ lw_g := mg (up_4 _ (List.mem_of_getElem? (i := 186) (by decide +kernel))) rfl
theorem ml_L_160 : Cond.methodLink RL 160 yX11_count ∈ lw_g := mg (up_4 _ (List.mem_of_getElem? (i := 190) (by decide +kernel))) rfl
theorem ml_X11_327 : Cond.methodLink RX11 327 yX7_allTerms ∈ lw_g := mg (up_4 _ (List.mem_of_getElem? (i := 194) (by decide +kernel))) rfl
theorem ml_X11_330 : Cond.methodLink RX11 330 yX7_factsThatAre ∈ lw_g := mg (up_4 _ (List.mem_of_getElem? (i := 198) (by decide +kernel))) rfl
theorem ml_X11_333 : Cond.methodLink RX11 333 yX7_bracketsWorthZero ∈ lw_g := mg (up_4 _ (List.mem_of_getElem? (i := 202) (by decide +kernel))) rfl
theorem cl_L_10 : Cond.classLink RL 10 "BracketDeskModel" ∈ lw_g := mg (up_4 _ (List.mem_of_getElem? (i := 206) (by decide +kernel))) rfl
theorem nw_X12 : Cond.instantiable RX12 36 ∈ lw_g ∧ Cond.initialized RX12 ∈ lw_g := ⟨mg (up_4 _ (List.mem_of_getElem? (i := 207) (by decide +kernel))) rfl, mg (up_1 _ (List.mem_of_getElem? (i := 17) (by decide +kernel))) rfl⟩
theorem ml_L_12 : Cond.methodLink RL 12 yX12_init ∈ lw_g := mg (up_4 _ (List.mem_of_getElem? (i := 208) (by decide +kernel))) rfl
theorem ml_X12_7 : Cond.methodLink RX12 7 objectInit ∈ lw_g := mg (up_4 _ (List.mem_of_getElem? (i := 211) (by decide +kernel))) rfl
theorem ml_X12_86 : Cond.methodLink RX12 86 yX12_ranks ∈ lw_g := mg (up_4 _ (List.mem_of_getElem? (i := 212) (by decide +kernel))) rfl
theorem fl_X12_1 : Cond.fieldLink RX12 1 "BracketDeskModel" "thrown" "I" ∈ lw_g := mg (up_4 _ (List.mem_of_getElem? (i := 216) (by decide +kernel))) rfl
theorem fl_X12_13 : Cond.fieldLink RX12 13 "BracketDeskModel" "rankOf" "[I" ∈ lw_g := mg (up_4 _ (List.mem_of_getElem? (i := 217) (by decide +kernel))) rfl
theorem fl_X12_17 : Cond.fieldLink RX12 17 "BracketDeskModel" "letterOf" "[I" ∈ lw_g := mg (up_4 _ (List.mem_of_getElem? (i := 218) (by decide +kernel))) rfl
theorem fl_X12_20 : Cond.fieldLink RX12 20 "BracketDeskModel" "state" "[I" ∈ lw_g := mg (up_4 _ (List.mem_of_getElem? (i := 219) (by decide +kernel))) rfl
theorem fl_X12_23 : Cond.fieldLink RX12 23 "BracketDeskModel" "deeds" "[I" ∈ lw_g := mg (up_4 _ (List.mem_of_getElem? (i := 220) (by decide +kernel))) rfl
theorem fl_X12_95 : Cond.fieldLink RX12 95 "BracketDeskModel" "deedMany" "I" ∈ lw_g := mg (up_4 _ (List.mem_of_getElem? (i := 221) (by decide +kernel))) rfl
theorem fl_X12_26 : Cond.fieldLink RX12 26 "BracketDeskModel" "hasImage" "[Z" ∈ lw_g := mg (up_4 _ (List.mem_of_getElem? (i := 222) (by decide +kernel))) rfl
theorem fl_X12_30 : Cond.fieldLink RX12 30 "BracketDeskModel" "pool" "[I" ∈ lw_g := mg (up_4 _ (List.mem_of_getElem? (i := 223) (by decide +kernel))) rfl
theorem fl_X12_102 : Cond.fieldLink RX12 102 "BracketDeskModel" "bad" "I" ∈ lw_g := mg (up_4 _ (List.mem_of_getElem? (i := 224) (by decide +kernel))) rfl
theorem fl_X12_33 : Cond.fieldLink RX12 33 "BracketDeskModel" "ranks" "[I" ∈ lw_g := mg (up_4 _ (List.mem_of_getElem? (i := 225) (by decide +kernel))) rfl
theorem fl_X12_36 : Cond.fieldLink RX12 36 "BracketDeskModel" "rowX" "[I" ∈ lw_g := mg (up_4 _ (List.mem_of_getElem? (i := 226) (by decide +kernel))) rfl
theorem fl_X12_39 : Cond.fieldLink RX12 39 "BracketDeskModel" "rowY" "[I" ∈ lw_g := mg (up_4 _ (List.mem_of_getElem? (i := 227) (by decide +kernel))) rfl
theorem fl_X12_42 : Cond.fieldLink RX12 42 "BracketDeskModel" "four" "[I" ∈ lw_g := mg (up_4 _ (List.mem_of_getElem? (i := 228) (by decide +kernel))) rfl
theorem fl_X12_45 : Cond.fieldLink RX12 45 "BracketDeskModel" "newX" "[I" ∈ lw_g := mg (up_4 _ (List.mem_of_getElem? (i := 229) (by decide +kernel))) rfl
theorem fl_X12_48 : Cond.fieldLink RX12 48 "BracketDeskModel" "newY" "[I" ∈ lw_g := mg (up_4 _ (List.mem_of_getElem? (i := 230) (by decide +kernel))) rfl
theorem fl_X12_51 : Cond.fieldLink RX12 51 "BracketDeskModel" "kept" "[I" ∈ lw_g := mg (up_4 _ (List.mem_of_getElem? (i := 231) (by decide +kernel))) rfl
theorem fl_X12_187 : Cond.fieldLink RX12 187 "BracketDeskModel" "why" "I" ∈ lw_g := mg (up_4 _ (List.mem_of_getElem? (i := 232) (by decide +kernel))) rfl
theorem fl_X12_54 : Cond.fieldLink RX12 54 "BracketDeskModel" "row" "[I" ∈ lw_g := mg (up_4 _ (List.mem_of_getElem? (i := 233) (by decide +kernel))) rfl
theorem fl_X12_57 : Cond.fieldLink RX12 57 "BracketDeskModel" "tape" "[B" ∈ lw_g := mg (up_4 _ (List.mem_of_getElem? (i := 234) (by decide +kernel))) rfl
theorem fl_X12_252 : Cond.fieldLink RX12 252 "BracketDeskModel" "taped" "I" ∈ lw_g := mg (up_4 _ (List.mem_of_getElem? (i := 235) (by decide +kernel))) rfl
theorem fl_X12_258 : Cond.fieldLink RX12 258 "BracketDeskModel" "size" "I" ∈ lw_g := mg (up_4 _ (List.mem_of_getElem? (i := 236) (by decide +kernel))) rfl
theorem fl_X12_255 : Cond.fieldLink RX12 255 "BracketDeskModel" "spot" "I" ∈ lw_g := mg (up_4 _ (List.mem_of_getElem? (i := 237) (by decide +kernel))) rfl
theorem fl_X12_261 : Cond.fieldLink RX12 261 "BracketDeskModel" "wrong" "I" ∈ lw_g := mg (up_4 _ (List.mem_of_getElem? (i := 238) (by decide +kernel))) rfl
theorem fl_X12_61 : Cond.fieldLink RX12 61 "BracketDeskModel" "wrongAt" "I" ∈ lw_g := mg (up_4 _ (List.mem_of_getElem? (i := 239) (by decide +kernel))) rfl
theorem fl_X12_346 : Cond.fieldLink RX12 346 "BracketDeskModel" "stepMany" "I" ∈ lw_g := mg (up_5 _ (List.mem_of_getElem? (i := 0) (by decide +kernel))) rfl
theorem fl_X12_64 : Cond.fieldLink RX12 64 "BracketDeskModel" "counts" "[I" ∈ lw_g := mg (up_5 _ (List.mem_of_getElem? (i := 1) (by decide +kernel))) rfl
theorem fl_X12_67 : Cond.fieldLink RX12 67 "BracketDeskModel" "formRank" "[I" ∈ lw_g := mg (up_5 _ (List.mem_of_getElem? (i := 2) (by decide +kernel))) rfl
theorem fl_X12_361 : Cond.fieldLink RX12 361 "BracketDeskModel" "formsLeft" "I" ∈ lw_g := mg (up_5 _ (List.mem_of_getElem? (i := 3) (by decide +kernel))) rfl
theorem fl_X12_355 : Cond.fieldLink RX12 355 "BracketDeskModel" "formRows" "I" ∈ lw_g := mg (up_5 _ (List.mem_of_getElem? (i := 4) (by decide +kernel))) rfl
theorem fl_X12_358 : Cond.fieldLink RX12 358 "BracketDeskModel" "formsFound" "I" ∈ lw_g := mg (up_5 _ (List.mem_of_getElem? (i := 5) (by decide +kernel))) rfl
theorem fl_X12_70 : Cond.fieldLink RX12 70 "BracketDeskModel" "keys" "[I" ∈ lw_g := mg (up_5 _ (List.mem_of_getElem? (i := 6) (by decide +kernel))) rfl
theorem fl_X12_73 : Cond.fieldLink RX12 73 "BracketDeskModel" "matrix" "[J" ∈ lw_g := mg (up_5 _ (List.mem_of_getElem? (i := 7) (by decide +kernel))) rfl
theorem fl_X12_373 : Cond.fieldLink RX12 373 "BracketDeskModel" "keyMany" "I" ∈ lw_g := mg (up_5 _ (List.mem_of_getElem? (i := 8) (by decide +kernel))) rfl
theorem fl_X12_77 : Cond.fieldLink RX12 77 "BracketDeskModel" "six" "[I" ∈ lw_g := mg (up_5 _ (List.mem_of_getElem? (i := 9) (by decide +kernel))) rfl
theorem fl_X12_80 : Cond.fieldLink RX12 80 "BracketDeskModel" "taken" "[I" ∈ lw_g := mg (up_5 _ (List.mem_of_getElem? (i := 10) (by decide +kernel))) rfl
theorem fl_X12_83 : Cond.fieldLink RX12 83 "BracketDeskModel" "found" "[I" ∈ lw_g := mg (up_5 _ (List.mem_of_getElem? (i := 11) (by decide +kernel))) rfl
theorem ml_L_36 : Cond.methodLink RL 36 yX12_why ∈ lw_g := mg (up_5 _ (List.mem_of_getElem? (i := 86) (by decide +kernel))) rfl
theorem ml_L_40 : Cond.methodLink RL 40 yX12_clear ∈ lw_g := mg (up_5 _ (List.mem_of_getElem? (i := 90) (by decide +kernel))) rfl
theorem ml_X12_199 : Cond.methodLink RX12 199 yX12_isShelf ∈ lw_g := mg (up_5 _ (List.mem_of_getElem? (i := 94) (by decide +kernel))) rfl
theorem ck_X12_185 : Cond.constantLong RX12 185 (5) ∈ lw_g := mg (up_5 _ (List.mem_of_getElem? (i := 97) (by decide +kernel))) rfl
theorem ml_X12_91 : Cond.methodLink RX12 91 yX12_within ∈ lw_g := mg (up_5 _ (List.mem_of_getElem? (i := 98) (by decide +kernel))) rfl
theorem ml_X12_202 : Cond.methodLink RX12 202 yX12_begins ∈ lw_g := mg (up_5 _ (List.mem_of_getElem? (i := 101) (by decide +kernel))) rfl
theorem ml_X12_105 : Cond.methodLink RX12 105 yX12_empties ∈ lw_g := mg (up_5 _ (List.mem_of_getElem? (i := 105) (by decide +kernel))) rfl
theorem ml_X12_190 : Cond.methodLink RX12 190 yX12_becomes ∈ lw_g := mg (up_5 _ (List.mem_of_getElem? (i := 109) (by decide +kernel))) rfl
theorem ml_X12_196 : Cond.methodLink RX12 196 yX12_notes ∈ lw_g := mg (up_5 _ (List.mem_of_getElem? (i := 113) (by decide +kernel))) rfl
theorem ml_X12_98 : Cond.methodLink RX12 98 yX12_copies ∈ lw_g := mg (up_5 _ (List.mem_of_getElem? (i := 117) (by decide +kernel))) rfl
theorem ml_X12_113 : Cond.methodLink RX12 113 yX12_many ∈ lw_g := mg (up_5 _ (List.mem_of_getElem? (i := 120) (by decide +kernel))) rfl
theorem ml_L_44 : Cond.methodLink RL 44 yX12_copy ∈ lw_g := mg (up_5 _ (List.mem_of_getElem? (i := 124) (by decide +kernel))) rfl
theorem ml_X12_205 : Cond.methodLink RX12 205 yX12_takes ∈ lw_g := mg (up_5 _ (List.mem_of_getElem? (i := 128) (by decide +kernel))) rfl
theorem ml_L_49 : Cond.methodLink RL 49 yX12_bracket ∈ lw_g := mg (up_5 _ (List.mem_of_getElem? (i := 132) (by decide +kernel))) rfl
theorem ml_X12_208 : Cond.methodLink RX12 208 yX12_isLetter ∈ lw_g := mg (up_5 _ (List.mem_of_getElem? (i := 136) (by decide +kernel))) rfl
theorem ck_X12_89 : Cond.constantLong RX12 89 (9) ∈ lw_g := mg (up_5 _ (List.mem_of_getElem? (i := 139) (by decide +kernel))) rfl
theorem ml_X12_211 : Cond.methodLink RX12 211 yX12_putsBracket ∈ lw_g := mg (up_5 _ (List.mem_of_getElem? (i := 140) (by decide +kernel))) rfl
theorem ml_X12_168 : Cond.methodLink RX12 168 yX12_sizeOf ∈ lw_g := mg (up_5 _ (List.mem_of_getElem? (i := 144) (by decide +kernel))) rfl
theorem ml_X12_141 : Cond.methodLink RX12 141 yX12_keyOf ∈ lw_g := mg (up_5 _ (List.mem_of_getElem? (i := 147) (by decide +kernel))) rfl
theorem ck_X12_166 : Cond.constantLong RX12 166 (-1) ∈ lw_g := mg (up_5 _ (List.mem_of_getElem? (i := 151) (by decide +kernel))) rfl
theorem ml_X12_147 : Cond.methodLink RX12 147 yX12_puts ∈ lw_g := mg (up_5 _ (List.mem_of_getElem? (i := 152) (by decide +kernel))) rfl
theorem ml_X12_121 : Cond.methodLink RX12 121 yX12_isInt ∈ lw_g := mg (up_5 _ (List.mem_of_getElem? (i := 156) (by decide +kernel))) rfl
theorem ck_X12_109 : Cond.constantLong RX12 109 (-2147483648) ∈ lw_g := mg (up_5 _ (List.mem_of_getElem? (i := 159) (by decide +kernel))) rfl
theorem ck_X12_111 : Cond.constantLong RX12 111 (2147483647) ∈ lw_g := mg (up_5 _ (List.mem_of_getElem? (i := 160) (by decide +kernel))) rfl
theorem ml_X12_125 : Cond.methodLink RX12 125 yX12_fails ∈ lw_g := mg (up_5 _ (List.mem_of_getElem? (i := 161) (by decide +kernel))) rfl
theorem ml_X12_129 : Cond.methodLink RX12 129 yX12_placeOf ∈ lw_g := mg (up_5 _ (List.mem_of_getElem? (i := 165) (by decide +kernel))) rfl
theorem ml_X12_117 : Cond.methodLink RX12 117 yX12_key ∈ lw_g := mg (up_5 _ (List.mem_of_getElem? (i := 169) (by decide +kernel))) rfl
theorem ml_X12_132 : Cond.methodLink RX12 132 yX12_number ∈ lw_g := mg (up_5 _ (List.mem_of_getElem? (i := 173) (by decide +kernel))) rfl
theorem ml_L_53 : Cond.methodLink RL 53 yX12_exchange ∈ lw_g := mg (up_5 _ (List.mem_of_getElem? (i := 177) (by decide +kernel))) rfl
theorem ck_X12_214 : Cond.constantLong RX12 214 (999) ∈ lw_g := mg (up_5 _ (List.mem_of_getElem? (i := 181) (by decide +kernel))) rfl
theorem ck_X12_216 : Cond.constantLong RX12 216 (3) ∈ lw_g := mg (up_5 _ (List.mem_of_getElem? (i := 182) (by decide +kernel))) rfl
theorem ml_X12_174 : Cond.methodLink RX12 174 yX12_exchanges ∈ lw_g := mg (up_5 _ (List.mem_of_getElem? (i := 183) (by decide +kernel))) rfl
theorem ml_X12_158 : Cond.methodLink RX12 158 yJ6_bitCount_0f7a4 ∈ lw_g := mg (up_5 _ (List.mem_of_getElem? (i := 187) (by decide +kernel))) rfl
theorem ml_X12_163 : Cond.methodLink RX12 163 yX12_layWay ∈ lw_g := mg (up_5 _ (List.mem_of_getElem? (i := 188) (by decide +kernel))) rfl
theorem ml_L_57 : Cond.methodLink RL 57 yX12_add ∈ lw_g := mg (up_5 _ (List.mem_of_getElem? (i := 192) (by decide +kernel))) rfl
theorem ml_X12_218 : Cond.methodLink RX12 218 yX12_refused ∈ lw_g := mg (up_5 _ (List.mem_of_getElem? (i := 196) (by decide +kernel))) rfl
theorem ck_X12_221 : Cond.constantLong RX12 221 (-99) ∈ lw_g := mg (up_5 _ (List.mem_of_getElem? (i := 200) (by decide +kernel))) rfl
theorem ck_X12_223 : Cond.constantLong RX12 223 (99) ∈ lw_g := mg (up_5 _ (List.mem_of_getElem? (i := 201) (by decide +kernel))) rfl
theorem ml_X12_225 : Cond.methodLink RX12 225 yX12_putsTimes ∈ lw_g := mg (up_5 _ (List.mem_of_getElem? (i := 202) (by decide +kernel))) rfl
theorem ml_X12_228 : Cond.methodLink RX12 228 yX12_ends ∈ lw_g := mg (up_5 _ (List.mem_of_getElem? (i := 206) (by decide +kernel))) rfl
theorem ml_X12_193 : Cond.methodLink RX12 193 yX12_codeOf ∈ lw_g := mg (up_5 _ (List.mem_of_getElem? (i := 210) (by decide +kernel))) rfl
theorem ml_L_62 : Cond.methodLink RL 62 yX12_times ∈ lw_g := mg (up_5 _ (List.mem_of_getElem? (i := 214) (by decide +kernel))) rfl
theorem ml_X12_231 : Cond.methodLink RX12 231 yX12_multiplies ∈ lw_g := mg (up_5 _ (List.mem_of_getElem? (i := 218) (by decide +kernel))) rfl
theorem ml_X12_144 : Cond.methodLink RX12 144 yX12_keyTimes ∈ lw_g := mg (up_5 _ (List.mem_of_getElem? (i := 222) (by decide +kernel))) rfl
theorem ml_X12_138 : Cond.methodLink RX12 138 yX12_degreeOf ∈ lw_g := mg (up_5 _ (List.mem_of_getElem? (i := 226) (by decide +kernel))) rfl
theorem ml_X12_135 : Cond.methodLink RX12 135 yX12_rankIn ∈ lw_g := mg (up_5 _ (List.mem_of_getElem? (i := 229) (by decide +kernel))) rfl
theorem ml_L_66 : Cond.methodLink RL 66 yX12_put ∈ lw_g := mg (up_5 _ (List.mem_of_getElem? (i := 232) (by decide +kernel))) rfl
theorem ml_X12_238 : Cond.methodLink RX12 238 yX12_puts_ ∈ lw_g := mg (up_5 _ (List.mem_of_getElem? (i := 236) (by decide +kernel))) rfl
theorem ml_X12_234 : Cond.methodLink RX12 234 yX12_putsOther ∈ lw_g := mg (up_6 _ (List.mem_of_getElem? (i := 0) (by decide +kernel))) rfl
theorem ml_L_70 : Cond.methodLink RL 70 yX12_turn ∈ lw_g := mg (up_6 _ (List.mem_of_getElem? (i := 4) (by decide +kernel))) rfl
theorem ml_L_74 : Cond.methodLink RL 74 yX12_straight ∈ lw_g := mg (up_6 _ (List.mem_of_getElem? (i := 8) (by decide +kernel))) rfl
theorem ml_X12_241 : Cond.methodLink RX12 241 yX12_straightens ∈ lw_g := mg (up_6 _ (List.mem_of_getElem? (i := 12) (by decide +kernel))) rfl
theorem ml_X12_178 : Cond.methodLink RX12 178 yX12_lastBroken ∈ lw_g := mg (up_6 _ (List.mem_of_getElem? (i := 16) (by decide +kernel))) rfl
theorem ml_X12_171 : Cond.methodLink RX12 171 yX12_brokenIn ∈ lw_g := mg (up_6 _ (List.mem_of_getElem? (i := 20) (by decide +kernel))) rfl
theorem ml_X12_154 : Cond.methodLink RX12 154 yX12_isBroken ∈ lw_g := mg (up_6 _ (List.mem_of_getElem? (i := 24) (by decide +kernel))) rfl
theorem ml_X12_151 : Cond.methodLink RX12 151 yX12_breakOf ∈ lw_g := mg (up_6 _ (List.mem_of_getElem? (i := 28) (by decide +kernel))) rfl
theorem ml_X12_181 : Cond.methodLink RX12 181 yX12_steps ∈ lw_g := mg (up_6 _ (List.mem_of_getElem? (i := 32) (by decide +kernel))) rfl
theorem ml_L_78 : Cond.methodLink RL 78 yX12_reduce ∈ lw_g := mg (up_6 _ (List.mem_of_getElem? (i := 36) (by decide +kernel))) rfl
theorem ml_X12_247 : Cond.methodLink RX12 247 yX12_reduces ∈ lw_g := mg (up_6 _ (List.mem_of_getElem? (i := 40) (by decide +kernel))) rfl
theorem ml_X12_244 : Cond.methodLink RX12 244 yX12_factOf ∈ lw_g := mg (up_6 _ (List.mem_of_getElem? (i := 44) (by decide +kernel))) rfl
theorem ml_L_82 : Cond.methodLink RL 82 yX12_fact ∈ lw_g := mg (up_6 _ (List.mem_of_getElem? (i := 48) (by decide +kernel))) rfl
theorem ck_X12_250 : Cond.constantLong RX12 250 (2) ∈ lw_g := mg (up_6 _ (List.mem_of_getElem? (i := 52) (by decide +kernel))) rfl
theorem ml_L_86 : Cond.methodLink RL 86 yX12_place ∈ lw_g := mg (up_6 _ (List.mem_of_getElem? (i := 53) (by decide +kernel))) rfl
theorem ml_L_17 : Cond.methodLink RL 17 yX12_feed ∈ lw_g := mg (up_6 _ (List.mem_of_getElem? (i := 57) (by decide +kernel))) rfl
theorem ml_L_22 : Cond.methodLink RL 22 yX12_told ∈ lw_g := mg (up_6 _ (List.mem_of_getElem? (i := 61) (by decide +kernel))) rfl
theorem ml_X12_297 : Cond.methodLink RX12 297 yX12_opensText ∈ lw_g := mg (up_6 _ (List.mem_of_getElem? (i := 65) (by decide +kernel))) rfl
theorem ml_X12_300 : Cond.methodLink RX12 300 yX12_polynomial ∈ lw_g := mg (up_6 _ (List.mem_of_getElem? (i := 69) (by decide +kernel))) rfl
theorem ml_X12_264 : Cond.methodLink RX12 264 yX12_see ∈ lw_g := mg (up_6 _ (List.mem_of_getElem? (i := 73) (by decide +kernel))) rfl
theorem ml_X12_276 : Cond.methodLink RX12 276 yX12_wrongs ∈ lw_g := mg (up_6 _ (List.mem_of_getElem? (i := 77) (by decide +kernel))) rfl
theorem ml_X12_293 : Cond.methodLink RX12 293 yX12_term ∈ lw_g := mg (up_6 _ (List.mem_of_getElem? (i := 81) (by decide +kernel))) rfl
theorem ml_X12_279 : Cond.methodLink RX12 279 yX12_isDigit ∈ lw_g := mg (up_6 _ (List.mem_of_getElem? (i := 85) (by decide +kernel))) rfl
theorem ck_X12_268 : Cond.constantLong RX12 268 (48) ∈ lw_g := mg (up_6 _ (List.mem_of_getElem? (i := 89) (by decide +kernel))) rfl
theorem ck_X12_270 : Cond.constantLong RX12 270 (57) ∈ lw_g := mg (up_6 _ (List.mem_of_getElem? (i := 90) (by decide +kernel))) rfl
theorem ml_X12_283 : Cond.methodLink RX12 283 yX12_seesLetter ∈ lw_g := mg (up_6 _ (List.mem_of_getElem? (i := 91) (by decide +kernel))) rfl
theorem ck_X12_272 : Cond.constantLong RX12 272 (97) ∈ lw_g := mg (up_6 _ (List.mem_of_getElem? (i := 95) (by decide +kernel))) rfl
theorem ck_X12_274 : Cond.constantLong RX12 274 (106) ∈ lw_g := mg (up_6 _ (List.mem_of_getElem? (i := 96) (by decide +kernel))) rfl
theorem ml_X12_286 : Cond.methodLink RX12 286 yX12_must ∈ lw_g := mg (up_6 _ (List.mem_of_getElem? (i := 97) (by decide +kernel))) rfl
theorem ml_X12_290 : Cond.methodLink RX12 290 yX12_letterAt ∈ lw_g := mg (up_6 _ (List.mem_of_getElem? (i := 101) (by decide +kernel))) rfl
theorem ml_L_31 : Cond.methodLink RL 31 yX12_fault ∈ lw_g := mg (up_6 _ (List.mem_of_getElem? (i := 105) (by decide +kernel))) rfl
theorem ml_L_26 : Cond.methodLink RL 26 yX12_figure ∈ lw_g := mg (up_6 _ (List.mem_of_getElem? (i := 109) (by decide +kernel))) rfl
theorem ml_X12_331 : Cond.methodLink RX12 331 yX12_figureText ∈ lw_g := mg (up_6 _ (List.mem_of_getElem? (i := 113) (by decide +kernel))) rfl
theorem ml_X12_303 : Cond.methodLink RX12 303 yX12_pointText ∈ lw_g := mg (up_6 _ (List.mem_of_getElem? (i := 117) (by decide +kernel))) rfl
theorem ml_X12_309 : Cond.methodLink RX12 309 yX12_point ∈ lw_g := mg (up_6 _ (List.mem_of_getElem? (i := 121) (by decide +kernel))) rfl
theorem ml_X12_306 : Cond.methodLink RX12 306 yX12_rowOf ∈ lw_g := mg (up_6 _ (List.mem_of_getElem? (i := 125) (by decide +kernel))) rfl
theorem ml_X12_312 : Cond.methodLink RX12 312 yX12_meets ∈ lw_g := mg (up_6 _ (List.mem_of_getElem? (i := 128) (by decide +kernel))) rfl
theorem ml_X12_315 : Cond.methodLink RX12 315 yX12_brackets ∈ lw_g := mg (up_6 _ (List.mem_of_getElem? (i := 132) (by decide +kernel))) rfl
theorem ml_X12_321 : Cond.methodLink RX12 321 yX12_addsBracket ∈ lw_g := mg (up_6 _ (List.mem_of_getElem? (i := 136) (by decide +kernel))) rfl
theorem ml_X12_325 : Cond.methodLink RX12 325 yX12_timesRow ∈ lw_g := mg (up_6 _ (List.mem_of_getElem? (i := 140) (by decide +kernel))) rfl
theorem ml_X12_328 : Cond.methodLink RX12 328 yX12_copiesRow ∈ lw_g := mg (up_6 _ (List.mem_of_getElem? (i := 144) (by decide +kernel))) rfl
theorem ml_X12_318 : Cond.methodLink RX12 318 yX12_putsProduct ∈ lw_g := mg (up_6 _ (List.mem_of_getElem? (i := 148) (by decide +kernel))) rfl
theorem ml_L_90 : Cond.methodLink RL 90 yX12_terms ∈ lw_g := mg (up_6 _ (List.mem_of_getElem? (i := 152) (by decide +kernel))) rfl
theorem ml_L_94 : Cond.methodLink RL 94 yX12_term_ ∈ lw_g := mg (up_6 _ (List.mem_of_getElem? (i := 156) (by decide +kernel))) rfl
theorem ck_X12_334 : Cond.constant RX12 334 (-2147483648) ∈ lw_g := mg (up_6 _ (List.mem_of_getElem? (i := 160) (by decide +kernel))) rfl
theorem ck_X12_335 : Cond.constantLong RX12 335 (10) ∈ lw_g := mg (up_6 _ (List.mem_of_getElem? (i := 161) (by decide +kernel))) rfl
theorem ck_X12_337 : Cond.constantLong RX12 337 (21) ∈ lw_g := mg (up_6 _ (List.mem_of_getElem? (i := 162) (by decide +kernel))) rfl
theorem ml_L_98 : Cond.methodLink RL 98 yX12_degree ∈ lw_g := mg (up_6 _ (List.mem_of_getElem? (i := 163) (by decide +kernel))) rfl
theorem ml_X12_339 : Cond.methodLink RX12 339 yX12_keyOn ∈ lw_g := mg (up_6 _ (List.mem_of_getElem? (i := 167) (by decide +kernel))) rfl
theorem ml_X12_343 : Cond.methodLink RX12 343 yX12_often ∈ lw_g := mg (up_6 _ (List.mem_of_getElem? (i := 170) (by decide +kernel))) rfl
theorem ml_L_102 : Cond.methodLink RL 102 yX12_steps_ ∈ lw_g := mg (up_6 _ (List.mem_of_getElem? (i := 174) (by decide +kernel))) rfl
theorem ml_X12_349 : Cond.methodLink RX12 349 yX12_straightInto ∈ lw_g := mg (up_6 _ (List.mem_of_getElem? (i := 178) (by decide +kernel))) rfl
theorem ml_L_106 : Cond.methodLink RL 106 yX12_left ∈ lw_g := mg (up_6 _ (List.mem_of_getElem? (i := 182) (by decide +kernel))) rfl
theorem ml_L_110 : Cond.methodLink RL 110 yX12_equal ∈ lw_g := mg (up_6 _ (List.mem_of_getElem? (i := 186) (by decide +kernel))) rfl
theorem ml_X12_352 : Cond.methodLink RX12 352 yX12_areAlike ∈ lw_g := mg (up_6 _ (List.mem_of_getElem? (i := 190) (by decide +kernel))) rfl
theorem ml_L_114 : Cond.methodLink RL 114 yX12_forms ∈ lw_g := mg (up_6 _ (List.mem_of_getElem? (i := 194) (by decide +kernel))) rfl
theorem ck_X12_369 : Cond.constant RX12 369 (1048576) ∈ lw_g := mg (up_6 _ (List.mem_of_getElem? (i := 198) (by decide +kernel))) rfl
theorem ml_X12_370 : Cond.methodLink RX12 370 yX12_laysForms ∈ lw_g := mg (up_6 _ (List.mem_of_getElem? (i := 199) (by decide +kernel))) rfl
theorem ml_X12_364 : Cond.methodLink RX12 364 yX12_counts ∈ lw_g := mg (up_6 _ (List.mem_of_getElem? (i := 203) (by decide +kernel))) rfl
theorem ml_X12_366 : Cond.methodLink RX12 366 yX12_goesOn ∈ lw_g := mg (up_6 _ (List.mem_of_getElem? (i := 207) (by decide +kernel))) rfl
theorem ml_L_118 : Cond.methodLink RL 118 yX12_form ∈ lw_g := mg (up_6 _ (List.mem_of_getElem? (i := 211) (by decide +kernel))) rfl
theorem ml_L_122 : Cond.methodLink RL 122 yX12_rank ∈ lw_g := mg (up_6 _ (List.mem_of_getElem? (i := 215) (by decide +kernel))) rfl
theorem ck_X12_386 : Cond.constantLong RX12 386 (63) ∈ lw_g := mg (up_6 _ (List.mem_of_getElem? (i := 219) (by decide +kernel))) rfl
theorem ml_X12_388 : Cond.methodLink RX12 388 yX12_columnOf ∈ lw_g := mg (up_6 _ (List.mem_of_getElem? (i := 220) (by decide +kernel))) rfl
theorem ml_X12_383 : Cond.methodLink RX12 383 yX12_modulo ∈ lw_g := mg (up_6 _ (List.mem_of_getElem? (i := 224) (by decide +kernel))) rfl
theorem ck_X12_376 : Cond.constantLong RX12 376 (1000003) ∈ lw_g := mg (up_6 _ (List.mem_of_getElem? (i := 227) (by decide +kernel))) rfl
theorem ml_X12_391 : Cond.methodLink RX12 391 yX12_swapsRows ∈ lw_g := mg (up_6 _ (List.mem_of_getElem? (i := 228) (by decide +kernel))) rfl
theorem ml_X12_394 : Cond.methodLink RX12 394 yX12_clears ∈ lw_g := mg (up_6 _ (List.mem_of_getElem? (i := 232) (by decide +kernel))) rfl
theorem ml_X12_379 : Cond.methodLink RX12 379 yX12_inverse ∈ lw_g := mg (up_6 _ (List.mem_of_getElem? (i := 236) (by decide +kernel))) rfl
theorem ck_X12_378 : Cond.constant RX12 378 (1000001) ∈ lw_g := mg (up_6 _ (List.mem_of_getElem? (i := 239) (by decide +kernel))) rfl
theorem ml_L_126 : Cond.methodLink RL 126 yX12_factor ∈ lw_g := mg (up_7 _ (List.mem_of_getElem? (i := 0) (by decide +kernel))) rfl
theorem ck_X12_407 : Cond.constantLong RX12 407 (6) ∈ lw_g := mg (up_7 _ (List.mem_of_getElem? (i := 4) (by decide +kernel))) rfl
theorem ml_X12_409 : Cond.methodLink RX12 409 yX12_areSix ∈ lw_g := mg (up_7 _ (List.mem_of_getElem? (i := 5) (by decide +kernel))) rfl
theorem ml_X12_404 : Cond.methodLink RX12 404 yX12_isFound ∈ lw_g := mg (up_7 _ (List.mem_of_getElem? (i := 9) (by decide +kernel))) rfl
theorem ml_X12_398 : Cond.methodLink RX12 398 yX12_laysSix ∈ lw_g := mg (up_7 _ (List.mem_of_getElem? (i := 13) (by decide +kernel))) rfl
theorem ml_X12_401 : Cond.methodLink RX12 401 yX12_multiple ∈ lw_g := mg (up_7 _ (List.mem_of_getElem? (i := 17) (by decide +kernel))) rfl
theorem ml_L_130 : Cond.methodLink RL 130 yX12_isFinal ∈ lw_g := mg (up_7 _ (List.mem_of_getElem? (i := 21) (by decide +kernel))) rfl
theorem ml_L_134 : Cond.methodLink RL 134 yX12_known ∈ lw_g := mg (up_7 _ (List.mem_of_getElem? (i := 25) (by decide +kernel))) rfl
theorem ml_L_138 : Cond.methodLink RL 138 yX12_at ∈ lw_g := mg (up_7 _ (List.mem_of_getElem? (i := 29) (by decide +kernel))) rfl
theorem ml_L_142 : Cond.methodLink RL 142 yX12_worth ∈ lw_g := mg (up_7 _ (List.mem_of_getElem? (i := 33) (by decide +kernel))) rfl
theorem ml_X12_412 : Cond.methodLink RX12 412 yX12_worthOf ∈ lw_g := mg (up_7 _ (List.mem_of_getElem? (i := 37) (by decide +kernel))) rfl
theorem ml_L_147 : Cond.methodLink RL 147 yX12_value ∈ lw_g := mg (up_7 _ (List.mem_of_getElem? (i := 41) (by decide +kernel))) rfl
theorem ck_X12_416 : Cond.constantLong RX12 416 (-9223372036854775808) ∈ lw_g := mg (up_7 _ (List.mem_of_getElem? (i := 45) (by decide +kernel))) rfl
theorem ml_X12_418 : Cond.methodLink RX12 418 yX12_worthOfRank ∈ lw_g := mg (up_7 _ (List.mem_of_getElem? (i := 46) (by decide +kernel))) rfl
theorem ml_X12_421 : Cond.methodLink RX12 421 yX12_fits ∈ lw_g := mg (up_7 _ (List.mem_of_getElem? (i := 50) (by decide +kernel))) rfl
theorem ml_L_151 : Cond.methodLink RL 151 yX12_undo ∈ lw_g := mg (up_7 _ (List.mem_of_getElem? (i := 53) (by decide +kernel))) rfl
theorem ml_L_155 : Cond.methodLink RL 155 yX12_image ∈ lw_g := mg (up_7 _ (List.mem_of_getElem? (i := 57) (by decide +kernel))) rfl
theorem ml_L_159 : Cond.methodLink RL 159 yX12_restore ∈ lw_g := mg (up_7 _ (List.mem_of_getElem? (i := 61) (by decide +kernel))) rfl
theorem ml_L_163 : Cond.methodLink RL 163 yX12_count ∈ lw_g := mg (up_7 _ (List.mem_of_getElem? (i := 65) (by decide +kernel))) rfl
theorem ml_X12_425 : Cond.methodLink RX12 425 yX12_facts ∈ lw_g := mg (up_7 _ (List.mem_of_getElem? (i := 69) (by decide +kernel))) rfl
theorem ok_obj : Cond.instanceMethod objectInit ∈ lw_g ∧ Cond.code objectInit ⟨#[0xb1]⟩ 1 none ∈ lw_g := ⟨mg (up_1 _ (List.mem_of_getElem? (i := 24) (by decide +kernel))) rfl, mg (up_1 _ (List.mem_of_getElem? (i := 25) (by decide +kernel))) rfl⟩
theorem ok_acp : Cond.native arraycopyName ∈ lw_g ∧ Cond.static arraycopyName ∈ lw_g ∧ Cond.initialized "java/lang/System" ∈ lw_g := ⟨mg (up_2 _ (List.mem_of_getElem? (i := 63) (by decide +kernel))) rfl, mg (up_2 _ (List.mem_of_getElem? (i := 62) (by decide +kernel))) rfl, mg (up_1 _ (List.mem_of_getElem? (i := 15) (by decide +kernel))) rfl⟩
theorem ac_int : Cond.arrayClass .int ∈ lw_g := mg (up_1 _ (List.mem_of_getElem? (i := 65) (by decide +kernel))) rfl
theorem ac_long : Cond.arrayClass .long ∈ lw_g := mg (up_1 _ (List.mem_of_getElem? (i := 66) (by decide +kernel))) rfl
theorem ac_boolean : Cond.arrayClass .boolean ∈ lw_g := mg (up_1 _ (List.mem_of_getElem? (i := 129) (by decide +kernel))) rfl
theorem ac_byte : Cond.arrayClass .byte ∈ lw_g := mg (up_5 _ (List.mem_of_getElem? (i := 85) (by decide +kernel))) rfl
theorem ao_Poly : Cond.arrayOver (.object "BracketDesk$Poly") ∈ lw_tbl := up_1 _ (List.mem_of_getElem? (i := 33) (by decide +kernel))
theorem ao_State : Cond.arrayOver (.object "BracketDesk$State") ∈ lw_tbl := up_1 _ (List.mem_of_getElem? (i := 89) (by decide +kernel))
theorem ao_ints : Cond.arrayOver (.array .int) ∈ lw_tbl := up_1 _ (List.mem_of_getElem? (i := 237) (by decide +kernel))
