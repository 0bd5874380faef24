def RX0 : String := "PartsDesk$Draft"
def TX0 : u_T := fun k => match k with
  | 0 => ("PartsDesk$Draft", "characters", "[C", true)
  | 1 => ("PartsDesk$Draft", "length", "I", false)
  | _ => ("PartsDesk$Draft", "next", "I", false)
def tyX0 : Nat → FieldType := fun k => match k with
  | 0 => .array .char
  | 1 => .int
  | _ => .int
abbrev wsX00 : List Cond := u_ws RX0 TX0 3
theorem nmX0 : ∀ a, a < 3 → ∀ b, b < 3 → a ≠ b → (TX0 a).2.1 ≠ (TX0 b).2.1 := by decide +kernel
theorem tyX0_ok : ∀ k, k < 3 → parseFieldDescriptor (TX0 k).2.2.1 = some (tyX0 k) := by decide +kernel
abbrev cX0_init : ByteArray := prog_2_method_1_code
def yX0_init : MethodName := ⟨RX0, "<init>", "()V"⟩
abbrev cX0_append : ByteArray := prog_2_method_2_code
def yX0_append : MethodName := ⟨RX0, "append", "(C)Z"⟩
abbrev cX0_empty : ByteArray := prog_2_method_3_code
def yX0_empty : MethodName := ⟨RX0, "empty", "()V"⟩
abbrev cX0_isAtEnd : ByteArray := prog_2_method_4_code
def yX0_isAtEnd : MethodName := ⟨RX0, "isAtEnd", "()Z"⟩
abbrev cX0_takes : ByteArray := prog_2_method_5_code
def yX0_takes : MethodName := ⟨RX0, "takes", "(C)Z"⟩
abbrev cX0_takeDigit : ByteArray := prog_2_method_6_code
def yX0_takeDigit : MethodName := ⟨RX0, "takeDigit", "(II)I"⟩
def RX1 : String := "PartsDesk$Polynomial"
def TX1 : u_T := fun k => match k with
  | _ => ("PartsDesk$Polynomial", "coefficients", "[J", true)
def tyX1 : Nat → FieldType := fun k => match k with
  | _ => .array .long
abbrev wsX10 : List Cond := u_ws RX1 TX1 1
theorem nmX1 : ∀ a, a < 1 → ∀ b, b < 1 → a ≠ b → (TX1 a).2.1 ≠ (TX1 b).2.1 := by decide +kernel
theorem tyX1_ok : ∀ k, k < 1 → parseFieldDescriptor (TX1 k).2.2.1 = some (tyX1 k) := by decide +kernel
abbrev cX1_init : ByteArray := prog_3_method_1_code
def yX1_init : MethodName := ⟨RX1, "<init>", "()V"⟩
abbrev cX1_becomeZero : ByteArray := prog_3_method_2_code
def yX1_becomeZero : MethodName := ⟨RX1, "becomeZero", "()V"⟩
abbrev cX1_becomeOne : ByteArray := prog_3_method_3_code
def yX1_becomeOne : MethodName := ⟨RX1, "becomeOne", "()V"⟩
abbrev cX1_become : ByteArray := prog_3_method_4_code
def yX1_become : MethodName := ⟨RX1, "become", "(LPartsDesk$Polynomial;)V"⟩
abbrev cX1_get : ByteArray := prog_3_method_5_code
def yX1_get : MethodName := ⟨RX1, "get", "(I)J"⟩
abbrev cX1_add : ByteArray := prog_3_method_6_code
def yX1_add : MethodName := ⟨RX1, "add", "(JI)V"⟩
abbrev cX1_degree : ByteArray := prog_3_method_7_code
def yX1_degree : MethodName := ⟨RX1, "degree", "()I"⟩
abbrev cX1_multiplyByFactorOf : ByteArray := prog_3_method_8_code
def yX1_multiplyByFactorOf : MethodName := ⟨RX1, "multiplyByFactorOf", "(I)V"⟩
abbrev cX1_divideByFactorOf : ByteArray := prog_3_method_9_code
def yX1_divideByFactorOf : MethodName := ⟨RX1, "divideByFactorOf", "(I)J"⟩
abbrev cX1_mix : ByteArray := prog_3_method_10_code
def yX1_mix : MethodName := ⟨RX1, "mix", "(JJLPartsDesk$Polynomial;)V"⟩
abbrev cX1_exactlyAt : ByteArray := prog_3_method_11_code
def yX1_exactlyAt : MethodName := ⟨RX1, "exactlyAt", "(I)J"⟩
abbrev cX1_inDoublesAt : ByteArray := prog_3_method_12_code
def yX1_inDoublesAt : MethodName := ⟨RX1, "inDoublesAt", "(D)D"⟩
def RX2 : String := "PartsDesk"
def TX2 : u_T := fun k => match k with
  | 0 => ("PartsDesk", "draft", "LPartsDesk$Draft;", true)
  | 1 => ("PartsDesk", "above", "LPartsDesk$Polynomial;", true)
  | 2 => ("PartsDesk", "below", "LPartsDesk$Polynomial;", true)
  | 3 => ("PartsDesk", "quotient", "LPartsDesk$Polynomial;", true)
  | 4 => ("PartsDesk", "often", "[I", true)
  | 5 => ("PartsDesk", "partsAbove", "[J", true)
  | 6 => ("PartsDesk", "partsBelow", "[J", true)
  | 7 => ("PartsDesk", "readTerms", "LPartsDesk$Polynomial;", true)
  | 8 => ("PartsDesk", "readOften", "[I", true)
  | 9 => ("PartsDesk", "rest", "LPartsDesk$Polynomial;", true)
  | _ => ("PartsDesk", "otherFactors", "LPartsDesk$Polynomial;", true)
def tyX2 : Nat → FieldType := fun k => match k with
  | 0 => .object "PartsDesk$Draft"
  | 1 => .object "PartsDesk$Polynomial"
  | 2 => .object "PartsDesk$Polynomial"
  | 3 => .object "PartsDesk$Polynomial"
  | 4 => .array .int
  | 5 => .array .long
  | 6 => .array .long
  | 7 => .object "PartsDesk$Polynomial"
  | 8 => .array .int
  | 9 => .object "PartsDesk$Polynomial"
  | _ => .object "PartsDesk$Polynomial"
abbrev wsX20 : List Cond := u_ws RX2 TX2 11
theorem nmX2 : ∀ a, a < 11 → ∀ b, b < 11 → a ≠ b → (TX2 a).2.1 ≠ (TX2 b).2.1 := by decide +kernel
theorem tyX2_ok : ∀ k, k < 11 → parseFieldDescriptor (TX2 k).2.2.1 = some (tyX2 k) := by decide +kernel
abbrev cX2_init : ByteArray := prog_1_method_1_code
def yX2_init : MethodName := ⟨RX2, "<init>", "()V"⟩
abbrev cX2_write : ByteArray := prog_1_method_2_code
def yX2_write : MethodName := ⟨RX2, "write", "(C)Z"⟩
abbrev cX2_numerator : ByteArray := prog_1_method_3_code
def yX2_numerator : MethodName := ⟨RX2, "numerator", "()I"⟩
abbrev cX2_denominator : ByteArray := prog_1_method_4_code
def yX2_denominator : MethodName := ⟨RX2, "denominator", "()I"⟩
abbrev cX2_coefficient : ByteArray := prog_1_method_5_code
def yX2_coefficient : MethodName := ⟨RX2, "coefficient", "(II)J"⟩
abbrev cX2_many : ByteArray := prog_1_method_6_code
def yX2_many : MethodName := ⟨RX2, "many", "(I)I"⟩
abbrev cX2_part : ByteArray := prog_1_method_7_code
def yX2_part : MethodName := ⟨RX2, "part", "(III)J"⟩
abbrev cX2_integral : ByteArray := prog_1_method_8_code
def yX2_integral : MethodName := ⟨RX2, "integral", "(III)J"⟩
abbrev cX2_value : ByteArray := prog_1_method_9_code
def yX2_value : MethodName := ⟨RX2, "value", "(II)J"⟩
abbrev cX2_at : ByteArray := prog_1_method_10_code
def yX2_at : MethodName := ⟨RX2, "at", "(D)D"⟩
abbrev cX2_byParts : ByteArray := prog_1_method_11_code
def yX2_byParts : MethodName := ⟨RX2, "byParts", "(D)D"⟩
abbrev cX2_withPartsOf : ByteArray := prog_1_method_12_code
def yX2_withPartsOf : MethodName := ⟨RX2, "withPartsOf", "(IDD)D"⟩
abbrev cX2_isPossibleRoot : ByteArray := prog_1_method_13_code
def yX2_isPossibleRoot : MethodName := ⟨RX2, "isPossibleRoot", "(I)Z"⟩
abbrev cX2_isSide : ByteArray := prog_1_method_14_code
def yX2_isSide : MethodName := ⟨RX2, "isSide", "(I)Z"⟩
abbrev cX2_isNear : ByteArray := prog_1_method_15_code
def yX2_isNear : MethodName := ⟨RX2, "isNear", "(D)Z"⟩
abbrev cX2_isInIntegral : ByteArray := prog_1_method_16_code
def yX2_isInIntegral : MethodName := ⟨RX2, "isInIntegral", "(II)Z"⟩
abbrev cX2_placeOfPart : ByteArray := prog_1_method_17_code
def yX2_placeOfPart : MethodName := ⟨RX2, "placeOfPart", "(II)I"⟩
abbrev cX2_partAbove : ByteArray := prog_1_method_18_code
def yX2_partAbove : MethodName := ⟨RX2, "partAbove", "(II)J"⟩
abbrev cX2_partBelow : ByteArray := prog_1_method_19_code
def yX2_partBelow : MethodName := ⟨RX2, "partBelow", "(II)J"⟩
abbrev cX2_keepPart : ByteArray := prog_1_method_20_code
def yX2_keepPart : MethodName := ⟨RX2, "keepPart", "(IIJJ)V"⟩
abbrev cX2_inLowestTerms : ByteArray := prog_1_method_21_code
def yX2_inLowestTerms : MethodName := ⟨RX2, "inLowestTerms", "(JJI)J"⟩
abbrev cX2_commonDivisor : ByteArray := prog_1_method_22_code
def yX2_commonDivisor : MethodName := ⟨RX2, "commonDivisor", "(JJ)J"⟩
abbrev cX2_sum : ByteArray := prog_1_method_23_code
def yX2_sum : MethodName := ⟨RX2, "sum", "([I)I"⟩
abbrev cX2_takeApart : ByteArray := prog_1_method_24_code
def yX2_takeApart : MethodName := ⟨RX2, "takeApart", "()V"⟩
abbrev cX2_makePartsOf : ByteArray := prog_1_method_25_code
def yX2_makePartsOf : MethodName := ⟨RX2, "makePartsOf", "(I)V"⟩
abbrev cX2_multiplyOtherFactors : ByteArray := prog_1_method_26_code
def yX2_multiplyOtherFactors : MethodName := ⟨RX2, "multiplyOtherFactors", "(I)V"⟩
abbrev cX2_readPolynomial : ByteArray := prog_1_method_27_code
def yX2_readPolynomial : MethodName := ⟨RX2, "readPolynomial", "()Z"⟩
abbrev cX2_readTerm : ByteArray := prog_1_method_28_code
def yX2_readTerm : MethodName := ⟨RX2, "readTerm", "(Z)Z"⟩
abbrev cX2_readNumber : ByteArray := prog_1_method_29_code
def yX2_readNumber : MethodName := ⟨RX2, "readNumber", "()I"⟩
abbrev cX2_readPowerOfX : ByteArray := prog_1_method_30_code
def yX2_readPowerOfX : MethodName := ⟨RX2, "readPowerOfX", "()I"⟩
abbrev cX2_readProduct : ByteArray := prog_1_method_31_code
def yX2_readProduct : MethodName := ⟨RX2, "readProduct", "()Z"⟩
abbrev cX2_readFactor : ByteArray := prog_1_method_32_code
def yX2_readFactor : MethodName := ⟨RX2, "readFactor", "()Z"⟩
abbrev cX2_readRoot : ByteArray := prog_1_method_33_code
def yX2_readRoot : MethodName := ⟨RX2, "readRoot", "()I"⟩
def RX3 : String := "PartsDeskModel"
def TX3 : u_T := fun k => match k with
  | 0 => ("PartsDeskModel", "fault", "I", false)
  | 1 => ("PartsDeskModel", "draft", "[C", true)
  | 2 => ("PartsDeskModel", "drafted", "I", false)
  | 3 => ("PartsDeskModel", "top", "[J", true)
  | 4 => ("PartsDeskModel", "low", "[J", true)
  | 5 => ("PartsDeskModel", "quotient", "[J", true)
  | 6 => ("PartsDeskModel", "degree", "I", false)
  | 7 => ("PartsDeskModel", "many", "[I", true)
  | 8 => ("PartsDeskModel", "fresh", "[I", true)
  | 9 => ("PartsDeskModel", "over", "J", false)
  | 10 => ("PartsDeskModel", "under", "J", false)
  | 11 => ("PartsDeskModel", "near", "[J", true)
  | 12 => ("PartsDeskModel", "rest", "[J", true)
  | 13 => ("PartsDeskModel", "row", "[J", true)
  | 14 => ("PartsDeskModel", "read", "[J", true)
  | _ => ("PartsDeskModel", "at", "I", false)
def tyX3 : Nat → FieldType := fun k => match k with
  | 0 => .int
  | 1 => .array .char
  | 2 => .int
  | 3 => .array .long
  | 4 => .array .long
  | 5 => .array .long
  | 6 => .int
  | 7 => .array .int
  | 8 => .array .int
  | 9 => .long
  | 10 => .long
  | 11 => .array .long
  | 12 => .array .long
  | 13 => .array .long
  | 14 => .array .long
  | _ => .int
abbrev wsX30 : List Cond := u_ws RX3 TX3 16
theorem nmX3 : ∀ a, a < 16 → ∀ b, b < 16 → a ≠ b → (TX3 a).2.1 ≠ (TX3 b).2.1 := by decide +kernel
theorem tyX3_ok : ∀ k, k < 16 → parseFieldDescriptor (TX3 k).2.2.1 = some (tyX3 k) := by decide +kernel
abbrev cX3_init : ByteArray := prog_5_method_1_code
def yX3_init : MethodName := ⟨RX3, "<init>", "()V"⟩
abbrev cX3_thrown : ByteArray := prog_5_method_2_code
def yX3_thrown : MethodName := ⟨RX3, "thrown", "()I"⟩
abbrev cX3_fails : ByteArray := prog_5_method_3_code
def yX3_fails : MethodName := ⟨RX3, "fails", "(I)I"⟩
abbrev cX3_write : ByteArray := prog_5_method_4_code
def yX3_write : MethodName := ⟨RX3, "write", "(C)Z"⟩
abbrev cX3_look : ByteArray := prog_5_method_5_code
def yX3_look : MethodName := ⟨RX3, "look", "()C"⟩
abbrev cX3_pass : ByteArray := prog_5_method_6_code
def yX3_pass : MethodName := ⟨RX3, "pass", "(C)Z"⟩
abbrev cX3_isDigit : ByteArray := prog_5_method_7_code
def yX3_isDigit : MethodName := ⟨RX3, "isDigit", "()Z"⟩
abbrev cX3_digit : ByteArray := prog_5_method_8_code
def yX3_digit : MethodName := ⟨RX3, "digit", "()I"⟩
abbrev cX3_readTerm : ByteArray := prog_5_method_9_code
def yX3_readTerm : MethodName := ⟨RX3, "readTerm", "(J)Z"⟩
abbrev cX3_readPolynomial : ByteArray := prog_5_method_10_code
def yX3_readPolynomial : MethodName := ⟨RX3, "readPolynomial", "()Z"⟩
abbrev cX3_numerator : ByteArray := prog_5_method_11_code
def yX3_numerator : MethodName := ⟨RX3, "numerator", "()I"⟩
abbrev cX3_readFactor : ByteArray := prog_5_method_12_code
def yX3_readFactor : MethodName := ⟨RX3, "readFactor", "()Z"⟩
abbrev cX3_denominator : ByteArray := prog_5_method_13_code
def yX3_denominator : MethodName := ⟨RX3, "denominator", "()I"⟩
abbrev cX3_times : ByteArray := prog_5_method_14_code
def yX3_times : MethodName := ⟨RX3, "times", "([JI)V"⟩
abbrev cX3_divide : ByteArray := prog_5_method_15_code
def yX3_divide : MethodName := ⟨RX3, "divide", "()V"⟩
abbrev cX3_coefficient : ByteArray := prog_5_method_16_code
def yX3_coefficient : MethodName := ⟨RX3, "coefficient", "(II)J"⟩
abbrev cX3_many : ByteArray := prog_5_method_17_code
def yX3_many : MethodName := ⟨RX3, "many", "(I)I"⟩
abbrev cX3_around : ByteArray := prog_5_method_18_code
def yX3_around : MethodName := ⟨RX3, "around", "(I)V"⟩
abbrev cX3_tell : ByteArray := prog_5_method_19_code
def yX3_tell : MethodName := ⟨RX3, "tell", "(JJ)V"⟩
abbrev cX3_work : ByteArray := prog_5_method_20_code
def yX3_work : MethodName := ⟨RX3, "work", "(II)V"⟩
abbrev cX3_isPart : ByteArray := prog_5_method_21_code
def yX3_isPart : MethodName := ⟨RX3, "isPart", "(II)Z"⟩
abbrev cX3_part : ByteArray := prog_5_method_22_code
def yX3_part : MethodName := ⟨RX3, "part", "(III)J"⟩
abbrev cX3_integral : ByteArray := prog_5_method_23_code
def yX3_integral : MethodName := ⟨RX3, "integral", "(III)J"⟩
abbrev cX3_valueOf : ByteArray := prog_5_method_24_code
def yX3_valueOf : MethodName := ⟨RX3, "valueOf", "([JIJ)J"⟩
abbrev cX3_value : ByteArray := prog_5_method_25_code
def yX3_value : MethodName := ⟨RX3, "value", "(II)J"⟩
abbrev cX3_valueAt : ByteArray := prog_5_method_26_code
def yX3_valueAt : MethodName := ⟨RX3, "valueAt", "([JID)D"⟩
abbrev cX3_isPlace : ByteArray := prog_5_method_27_code
def yX3_isPlace : MethodName := ⟨RX3, "isPlace", "(D)Z"⟩
abbrev cX3_at : ByteArray := prog_5_method_28_code
def yX3_at : MethodName := ⟨RX3, "at", "(D)D"⟩
abbrev cX3_byParts : ByteArray := prog_5_method_29_code
def yX3_byParts : MethodName := ⟨RX3, "byParts", "(D)D"⟩
def RJ9 : String := "java/lang/Math"
def TJ9 : u_T := fun k => match k with
  | _ => ("", "", "", false)
def tyJ9 : Nat → FieldType := fun k => match k with
  | _ => .int
abbrev wsJ90 : List Cond := u_ws RJ9 TJ9 0
theorem nmJ9 : ∀ a, a < 0 → ∀ b, b < 0 → a ≠ b → (TJ9 a).2.1 ≠ (TJ9 b).2.1 := by decide +kernel
theorem tyJ9_ok : ∀ k, k < 0 → parseFieldDescriptor (TJ9 k).2.2.1 = some (tyJ9 k) := by decide +kernel
abbrev cJ9_abs_067f4 : ByteArray := prog_9_method_61_code
def yJ9_abs_067f4 : MethodName := ⟨RJ9, "abs", "(J)J"⟩
def RJ0 : String := "java/lang/String"
def TJ0 : u_T := fun k => match k with
  | _ => ("", "", "", false)
def tyJ0 : Nat → FieldType := fun k => match k with
  | _ => .int
abbrev wsJ00 : List Cond := u_ws RJ0 TJ0 0
theorem nmJ0 : ∀ a, a < 0 → ∀ b, b < 0 → a ≠ b → (TJ0 a).2.1 ≠ (TJ0 b).2.1 := by decide +kernel
theorem tyJ0_ok : ∀ k, k < 0 → parseFieldDescriptor (TJ0 k).2.2.1 = some (tyJ0 k) := by decide +kernel
def RJ10 : String := "java/lang/System"
def TJ10 : u_T := fun k => match k with
  | _ => ("", "", "", false)
def tyJ10 : Nat → FieldType := fun k => match k with
  | _ => .int
abbrev wsJ100 : List Cond := u_ws RJ10 TJ10 0
theorem nmJ10 : ∀ a, a < 0 → ∀ b, b < 0 → a ≠ b → (TJ10 a).2.1 ≠ (TJ10 b).2.1 := by decide +kernel
theorem tyJ10_ok : ∀ k, k < 0 → parseFieldDescriptor (TJ10 k).2.2.1 = some (tyJ10 k) := by decide +kernel
def RJ7 : String := "java/util/Arrays"
def TJ7 : u_T := fun k => match k with
  | _ => ("", "", "", false)
def tyJ7 : Nat → FieldType := fun k => match k with
  | _ => .int
abbrev wsJ70 : List Cond := u_ws RJ7 TJ7 0
theorem nmJ7 : ∀ a, a < 0 → ∀ b, b < 0 → a ≠ b → (TJ7 a).2.1 ≠ (TJ7 b).2.1 := by decide +kernel
theorem tyJ7_ok : ∀ k, k < 0 → parseFieldDescriptor (TJ7 k).2.2.1 = some (tyJ7 k) := by decide +kernel
abbrev cJ7_fill_d0a16 : ByteArray := prog_14_method_101_code
def yJ7_fill_d0a16 : MethodName := ⟨RJ7, "fill", "([JJ)V"⟩
abbrev cJ7_fill_53178 : ByteArray := prog_14_method_103_code
def yJ7_fill_53178 : MethodName := ⟨RJ7, "fill", "([II)V"⟩
def RL : String := "PartsDeskLaw"
abbrev cL_numerator : ByteArray := method_3_code
def yL_numerator : MethodName := ⟨RL, "numerator", "(LPartsDesk;[J)I"⟩
abbrev cL_denominator : ByteArray := method_4_code
def yL_denominator : MethodName := ⟨RL, "denominator", "(LPartsDesk;[J)I"⟩
abbrev cL_part : ByteArray := method_5_code
def yL_part : MethodName := ⟨RL, "part", "(LPartsDesk;III[J)I"⟩
abbrev cL_integral : ByteArray := method_6_code
def yL_integral : MethodName := ⟨RL, "integral", "(LPartsDesk;III[J)I"⟩
abbrev cL_value : ByteArray := method_7_code
def yL_value : MethodName := ⟨RL, "value", "(LPartsDesk;II[J)I"⟩
abbrev cL_at : ByteArray := method_8_code
def yL_at : MethodName := ⟨RL, "at", "(LPartsDesk;D[D)I"⟩
abbrev cL_byParts : ByteArray := method_9_code
def yL_byParts : MethodName := ⟨RL, "byParts", "(LPartsDesk;D[D)I"⟩
abbrev cL_law : ByteArray := code
def yL_law : MethodName := ⟨RL, "law", "([I)Z"⟩
def wsX0_init : List Cond := .code yX0_init cX0_init 1 none :: ([.methodLink RX0 3 objectInit, .instanceMethod objectInit, .code objectInit ⟨#[0xb1]⟩ 1 none, .arrayClass .char, .fieldLink RX0 9 "PartsDesk$Draft" "characters" "[C"] ++ wsX00)
def wsX0_append : List Cond := .code yX0_append cX0_append 2 (some .boolean) :: ([.fieldLink RX0 15 "PartsDesk$Draft" "length" "I", .fieldLink RX0 9 "PartsDesk$Draft" "characters" "[C"] ++ wsX00)
def wsX0_empty : List Cond := .code yX0_empty cX0_empty 1 none :: ([.fieldLink RX0 15 "PartsDesk$Draft" "length" "I", .fieldLink RX0 19 "PartsDesk$Draft" "next" "I"] ++ wsX00)
def wsX0_isAtEnd : List Cond := .code yX0_isAtEnd cX0_isAtEnd 1 (some .boolean) :: ([.fieldLink RX0 19 "PartsDesk$Draft" "next" "I", .fieldLink RX0 15 "PartsDesk$Draft" "length" "I"] ++ wsX00)
def wsX0_takes : List Cond := .code yX0_takes cX0_takes 3 (some .boolean) :: ([.fieldLink RX0 9 "PartsDesk$Draft" "characters" "[C", .fieldLink RX0 19 "PartsDesk$Draft" "next" "I", .methodLink RX0 22 yX0_isAtEnd, .instanceMethod yX0_isAtEnd, .selects RX0 yX0_isAtEnd yX0_isAtEnd, .initialized RX0, .code yX0_isAtEnd cX0_isAtEnd 1 (some .boolean), .fieldLink RX0 15 "PartsDesk$Draft" "length" "I"] ++ wsX00)
def wsX0_takeDigit : List Cond := .code yX0_takeDigit cX0_takeDigit 4 (some .int) :: ([.fieldLink RX0 9 "PartsDesk$Draft" "characters" "[C", .fieldLink RX0 19 "PartsDesk$Draft" "next" "I", .methodLink RX0 22 yX0_isAtEnd, .instanceMethod yX0_isAtEnd, .selects RX0 yX0_isAtEnd yX0_isAtEnd, .initialized RX0, .code yX0_isAtEnd cX0_isAtEnd 1 (some .boolean), .fieldLink RX0 15 "PartsDesk$Draft" "length" "I"] ++ wsX00)
def wsX1_init : List Cond := .code yX1_init cX1_init 1 none :: ([.methodLink RX1 3 objectInit, .instanceMethod objectInit, .code objectInit ⟨#[0xb1]⟩ 1 none, .arrayClass .long, .fieldLink RX1 9 "PartsDesk$Polynomial" "coefficients" "[J"] ++ wsX10)
def wsJ7_fill_d0a16 : List Cond := .code yJ7_fill_d0a16 cJ7_fill_d0a16 5 none :: ([])
def wsX1_becomeZero : List Cond := .code yX1_becomeZero cX1_becomeZero 1 none :: ([.fieldLink RX1 9 "PartsDesk$Polynomial" "coefficients" "[J", .methodLink RX1 15 yJ7_fill_d0a16, .static yJ7_fill_d0a16, .initialized RJ7, .code yJ7_fill_d0a16 cJ7_fill_d0a16 5 none] ++ wsX10)
def wsX1_becomeOne : List Cond := .code yX1_becomeOne cX1_becomeOne 1 none :: ([.fieldLink RX1 9 "PartsDesk$Polynomial" "coefficients" "[J", .methodLink RX1 21 yX1_becomeZero, .instanceMethod yX1_becomeZero, .selects RX1 yX1_becomeZero yX1_becomeZero, .initialized RX1, .code yX1_becomeZero cX1_becomeZero 1 none, .methodLink RX1 15 yJ7_fill_d0a16, .static yJ7_fill_d0a16, .initialized RJ7, .code yJ7_fill_d0a16 cJ7_fill_d0a16 5 none] ++ wsX10)
def wsX1_become : List Cond := .code yX1_become cX1_become 2 none :: ([.fieldLink RX1 9 "PartsDesk$Polynomial" "coefficients" "[J", .methodLink RX1 24 arraycopyName, .native arraycopyName, .static arraycopyName, .initialized "java/lang/System"] ++ wsX10)
def wsX1_get : List Cond := .code yX1_get cX1_get 2 (some .long) :: ([.fieldLink RX1 9 "PartsDesk$Polynomial" "coefficients" "[J"] ++ wsX10)
def wsX1_add : List Cond := .code yX1_add cX1_add 4 none :: ([.fieldLink RX1 9 "PartsDesk$Polynomial" "coefficients" "[J"] ++ wsX10)
def wsX1_degree : List Cond := .code yX1_degree cX1_degree 2 (some .int) :: ([.fieldLink RX1 9 "PartsDesk$Polynomial" "coefficients" "[J"] ++ wsX10)
def wsX1_multiplyByFactorOf : List Cond := .code yX1_multiplyByFactorOf cX1_multiplyByFactorOf 3 none :: ([.fieldLink RX1 9 "PartsDesk$Polynomial" "coefficients" "[J"] ++ wsX10)
def wsX1_divideByFactorOf : List Cond := .code yX1_divideByFactorOf cX1_divideByFactorOf 7 (some .long) :: ([.fieldLink RX1 9 "PartsDesk$Polynomial" "coefficients" "[J"] ++ wsX10)
def wsX1_mix : List Cond := .code yX1_mix cX1_mix 7 none :: ([.fieldLink RX1 9 "PartsDesk$Polynomial" "coefficients" "[J"] ++ wsX10)
def wsX1_exactlyAt : List Cond := .code yX1_exactlyAt cX1_exactlyAt 5 (some .long) :: ([.fieldLink RX1 9 "PartsDesk$Polynomial" "coefficients" "[J"] ++ wsX10)
def wsX1_inDoublesAt : List Cond := .code yX1_inDoublesAt cX1_inDoublesAt 6 (some .double) :: ([.fieldLink RX1 9 "PartsDesk$Polynomial" "coefficients" "[J"] ++ wsX10)
def wsX2_isPossibleRoot : List Cond := .code yX2_isPossibleRoot cX2_isPossibleRoot 1 (some .boolean) :: ([])
def wsX2_many : List Cond := .code yX2_many cX2_many 2 (some .int) :: ([.fieldLink RX2 29 "PartsDesk" "often" "[I", .methodLink RX2 105 yX2_isPossibleRoot, .static yX2_isPossibleRoot, .initialized RX2, .code yX2_isPossibleRoot cX2_isPossibleRoot 1 (some .boolean)] ++ wsX20)
def wsX2_multiplyOtherFactors_r1 : List Cond := [Cond.fieldLink RX2 49 "PartsDesk" "otherFactors" "LPartsDesk$Polynomial;", Cond.methodLink RX2 172 yX1_becomeOne, Cond.instanceMethod yX1_becomeOne, Cond.selects RX1 yX1_becomeOne yX1_becomeOne, Cond.initialized RX1, Cond.code yX1_becomeOne cX1_becomeOne 1 none, Cond.fieldLink RX1 9 "PartsDesk$Polynomial" "coefficients" "[J", Cond.methodLink RX1 21 yX1_becomeZero, Cond.instanceMethod yX1_becomeZero, Cond.selects RX1 yX1_becomeZero yX1_becomeZero, Cond.code yX1_becomeZero cX1_becomeZero 1 none, Cond.methodLink RX1 15 yJ7_fill_d0a16, Cond.static yJ7_fill_d0a16, Cond.initialized RJ7, Cond.code yJ7_fill_d0a16 cJ7_fill_d0a16 5 none, Cond.methodLink RX2 109 yX2_many, Cond.instanceMethod yX2_many, Cond.selects RX2 yX2_many yX2_many, Cond.initialized RX2, Cond.code yX2_many cX2_many 2 (some .int), Cond.fieldLink RX2 29 "PartsDesk" "often" "[I", Cond.methodLink RX2 105 yX2_isPossibleRoot, Cond.static yX2_isPossibleRoot, Cond.code yX2_isPossibleRoot cX2_isPossibleRoot 1 (some .boolean)]
def wsX2_multiplyOtherFactors_r2 : List Cond := [Cond.methodLink RX2 181 yX1_multiplyByFactorOf, Cond.instanceMethod yX1_multiplyByFactorOf, Cond.selects RX1 yX1_multiplyByFactorOf yX1_multiplyByFactorOf, Cond.code yX1_multiplyByFactorOf cX1_multiplyByFactorOf 3 none]
def wsX2_multiplyOtherFactors : List Cond := .code yX2_multiplyOtherFactors cX2_multiplyOtherFactors 5 none :: ((wsX2_multiplyOtherFactors_r1 ++ wsX2_multiplyOtherFactors_r2) ++ wsX20 ++ wsX10)
def wsX2_placeOfPart : List Cond := .code yX2_placeOfPart cX2_placeOfPart 3 (some .int) :: ([.methodLink RX2 105 yX2_isPossibleRoot, .static yX2_isPossibleRoot, .initialized RX2, .code yX2_isPossibleRoot cX2_isPossibleRoot 1 (some .boolean)])
def wsX2_commonDivisor : List Cond := .code yX2_commonDivisor cX2_commonDivisor 11 (some .long) :: ([.methodLink RX2 166 Lib.MathLoose.abs_long.x, .static Lib.MathLoose.abs_long.x, .initialized "java/lang/Math", .code Lib.MathLoose.abs_long.x Lib.MathLoose.abs_long.code 2 (some .long)])
def wsX2_inLowestTerms : List Cond := .code yX2_inLowestTerms cX2_inLowestTerms 9 (some .long) :: ([.methodLink RX2 162 yX2_commonDivisor, .static yX2_commonDivisor, .initialized RX2, .code yX2_commonDivisor cX2_commonDivisor 11 (some .long), .methodLink RX2 166 Lib.MathLoose.abs_long.x, .static Lib.MathLoose.abs_long.x, .initialized "java/lang/Math", .code Lib.MathLoose.abs_long.x Lib.MathLoose.abs_long.code 2 (some .long)])
def wsX2_keepPart : List Cond := .code yX2_keepPart cX2_keepPart 8 none :: ([.fieldLink RX2 33 "PartsDesk" "partsAbove" "[J", .fieldLink RX2 37 "PartsDesk" "partsBelow" "[J", .methodLink RX2 158 yX2_placeOfPart, .static yX2_placeOfPart, .initialized RX2, .code yX2_placeOfPart cX2_placeOfPart 3 (some .int), .methodLink RX2 105 yX2_isPossibleRoot, .static yX2_isPossibleRoot, .code yX2_isPossibleRoot cX2_isPossibleRoot 1 (some .boolean), .methodLink RX2 131 yX2_inLowestTerms, .static yX2_inLowestTerms, .code yX2_inLowestTerms cX2_inLowestTerms 9 (some .long), .methodLink RX2 162 yX2_commonDivisor, .static yX2_commonDivisor, .code yX2_commonDivisor cX2_commonDivisor 11 (some .long), .methodLink RX2 166 Lib.MathLoose.abs_long.x, .static Lib.MathLoose.abs_long.x, .initialized "java/lang/Math", .code Lib.MathLoose.abs_long.x Lib.MathLoose.abs_long.code 2 (some .long)] ++ wsX20)
def wsX2_makePartsOf_r1 : List Cond := [Cond.fieldLink RX2 46 "PartsDesk" "rest" "LPartsDesk$Polynomial;", Cond.fieldLink RX2 19 "PartsDesk" "above" "LPartsDesk$Polynomial;", Cond.fieldLink RX2 49 "PartsDesk" "otherFactors" "LPartsDesk$Polynomial;", Cond.methodLink RX2 73 yX1_become, Cond.instanceMethod yX1_become, Cond.selects RX1 yX1_become yX1_become, Cond.initialized RX1, Cond.code yX1_become cX1_become 2 none, Cond.fieldLink RX1 9 "PartsDesk$Polynomial" "coefficients" "[J", Cond.methodLink RX1 24 arraycopyName, Cond.native arraycopyName, Cond.static arraycopyName, Cond.initialized "java/lang/System", Cond.methodLink RX2 191 yX2_multiplyOtherFactors, Cond.instanceMethod yX2_multiplyOtherFactors, Cond.selects RX2 yX2_multiplyOtherFactors yX2_multiplyOtherFactors, Cond.initialized RX2, Cond.code yX2_multiplyOtherFactors cX2_multiplyOtherFactors 5 none, Cond.methodLink RX2 172 yX1_becomeOne, Cond.instanceMethod yX1_becomeOne, Cond.selects RX1 yX1_becomeOne yX1_becomeOne, Cond.code yX1_becomeOne cX1_becomeOne 1 none, Cond.methodLink RX1 21 yX1_becomeZero, Cond.instanceMethod yX1_becomeZero]
def wsX2_makePartsOf_r2 : List Cond := [Cond.selects RX1 yX1_becomeZero yX1_becomeZero, Cond.code yX1_becomeZero cX1_becomeZero 1 none, Cond.methodLink RX1 15 yJ7_fill_d0a16, Cond.static yJ7_fill_d0a16, Cond.initialized RJ7, Cond.code yJ7_fill_d0a16 cJ7_fill_d0a16 5 none, Cond.methodLink RX2 109 yX2_many, Cond.instanceMethod yX2_many, Cond.selects RX2 yX2_many yX2_many, Cond.code yX2_many cX2_many 2 (some .int), Cond.fieldLink RX2 29 "PartsDesk" "often" "[I", Cond.methodLink RX2 105 yX2_isPossibleRoot, Cond.static yX2_isPossibleRoot, Cond.code yX2_isPossibleRoot cX2_isPossibleRoot 1 (some .boolean), Cond.methodLink RX2 181 yX1_multiplyByFactorOf, Cond.instanceMethod yX1_multiplyByFactorOf, Cond.selects RX1 yX1_multiplyByFactorOf yX1_multiplyByFactorOf, Cond.code yX1_multiplyByFactorOf cX1_multiplyByFactorOf 3 none, Cond.methodLink RX2 185 yX1_divideByFactorOf, Cond.instanceMethod yX1_divideByFactorOf, Cond.selects RX1 yX1_divideByFactorOf yX1_divideByFactorOf, Cond.code yX1_divideByFactorOf cX1_divideByFactorOf 7 (some .long), Cond.methodLink RX2 194 yX2_keepPart, Cond.instanceMethod yX2_keepPart]
def wsX2_makePartsOf_r3 : List Cond := [Cond.selects RX2 yX2_keepPart yX2_keepPart, Cond.code yX2_keepPart cX2_keepPart 8 none, Cond.fieldLink RX2 33 "PartsDesk" "partsAbove" "[J", Cond.fieldLink RX2 37 "PartsDesk" "partsBelow" "[J", Cond.methodLink RX2 158 yX2_placeOfPart, Cond.static yX2_placeOfPart, Cond.code yX2_placeOfPart cX2_placeOfPart 3 (some .int), Cond.methodLink RX2 131 yX2_inLowestTerms, Cond.static yX2_inLowestTerms, Cond.code yX2_inLowestTerms cX2_inLowestTerms 9 (some .long), Cond.methodLink RX2 162 yX2_commonDivisor, Cond.static yX2_commonDivisor, Cond.code yX2_commonDivisor cX2_commonDivisor 11 (some .long), Cond.methodLink RX2 166 Lib.MathLoose.abs_long.x, Cond.static Lib.MathLoose.abs_long.x, Cond.initialized "java/lang/Math", Cond.code Lib.MathLoose.abs_long.x Lib.MathLoose.abs_long.code 2 (some .long), Cond.methodLink RX2 198 yX1_mix, Cond.instanceMethod yX1_mix, Cond.selects RX1 yX1_mix yX1_mix, Cond.code yX1_mix cX1_mix 7 none]
def wsX2_makePartsOf : List Cond := .code yX2_makePartsOf cX2_makePartsOf 9 none :: ((wsX2_makePartsOf_r1 ++ (wsX2_makePartsOf_r2 ++ wsX2_makePartsOf_r3)) ++ wsX20 ++ wsX10)
def wsX2_takeApart_r1 : List Cond := [Cond.fieldLink RX2 23 "PartsDesk" "below" "LPartsDesk$Polynomial;", Cond.fieldLink RX2 26 "PartsDesk" "quotient" "LPartsDesk$Polynomial;", Cond.fieldLink RX2 19 "PartsDesk" "above" "LPartsDesk$Polynomial;", Cond.fieldLink RX2 33 "PartsDesk" "partsAbove" "[J", Cond.fieldLink RX2 37 "PartsDesk" "partsBelow" "[J", Cond.methodLink RX2 172 yX1_becomeOne, Cond.instanceMethod yX1_becomeOne, Cond.selects RX1 yX1_becomeOne yX1_becomeOne, Cond.initialized RX1, Cond.code yX1_becomeOne cX1_becomeOne 1 none, Cond.fieldLink RX1 9 "PartsDesk$Polynomial" "coefficients" "[J", Cond.methodLink RX1 21 yX1_becomeZero, Cond.instanceMethod yX1_becomeZero, Cond.selects RX1 yX1_becomeZero yX1_becomeZero, Cond.code yX1_becomeZero cX1_becomeZero 1 none, Cond.methodLink RX1 15 yJ7_fill_d0a16, Cond.static yJ7_fill_d0a16, Cond.initialized RJ7, Cond.code yJ7_fill_d0a16 cJ7_fill_d0a16 5 none, Cond.methodLink RX2 73 yX1_become, Cond.instanceMethod yX1_become, Cond.selects RX1 yX1_become yX1_become, Cond.code yX1_become cX1_become 2 none, Cond.methodLink RX1 24 arraycopyName]
def wsX2_takeApart_r2 : List Cond := [Cond.native arraycopyName, Cond.static arraycopyName, Cond.initialized "java/lang/System", Cond.methodLink RX2 175 yJ7_fill_d0a16, Cond.methodLink RX2 109 yX2_many, Cond.instanceMethod yX2_many, Cond.selects RX2 yX2_many yX2_many, Cond.initialized RX2, Cond.code yX2_many cX2_many 2 (some .int), Cond.fieldLink RX2 29 "PartsDesk" "often" "[I", Cond.methodLink RX2 105 yX2_isPossibleRoot, Cond.static yX2_isPossibleRoot, Cond.code yX2_isPossibleRoot cX2_isPossibleRoot 1 (some .boolean), Cond.methodLink RX2 181 yX1_multiplyByFactorOf, Cond.instanceMethod yX1_multiplyByFactorOf, Cond.selects RX1 yX1_multiplyByFactorOf yX1_multiplyByFactorOf, Cond.code yX1_multiplyByFactorOf cX1_multiplyByFactorOf 3 none, Cond.methodLink RX2 185 yX1_divideByFactorOf, Cond.instanceMethod yX1_divideByFactorOf, Cond.selects RX1 yX1_divideByFactorOf yX1_divideByFactorOf, Cond.code yX1_divideByFactorOf cX1_divideByFactorOf 7 (some .long), Cond.methodLink RX2 188 yX2_makePartsOf, Cond.instanceMethod yX2_makePartsOf, Cond.selects RX2 yX2_makePartsOf yX2_makePartsOf]
def wsX2_takeApart_r3 : List Cond := [Cond.code yX2_makePartsOf cX2_makePartsOf 9 none, Cond.fieldLink RX2 46 "PartsDesk" "rest" "LPartsDesk$Polynomial;", Cond.fieldLink RX2 49 "PartsDesk" "otherFactors" "LPartsDesk$Polynomial;", Cond.methodLink RX2 191 yX2_multiplyOtherFactors, Cond.instanceMethod yX2_multiplyOtherFactors, Cond.selects RX2 yX2_multiplyOtherFactors yX2_multiplyOtherFactors, Cond.code yX2_multiplyOtherFactors cX2_multiplyOtherFactors 5 none, Cond.methodLink RX2 194 yX2_keepPart, Cond.instanceMethod yX2_keepPart, Cond.selects RX2 yX2_keepPart yX2_keepPart, Cond.code yX2_keepPart cX2_keepPart 8 none, Cond.methodLink RX2 158 yX2_placeOfPart, Cond.static yX2_placeOfPart, Cond.code yX2_placeOfPart cX2_placeOfPart 3 (some .int), Cond.methodLink RX2 131 yX2_inLowestTerms, Cond.static yX2_inLowestTerms, Cond.code yX2_inLowestTerms cX2_inLowestTerms 9 (some .long), Cond.methodLink RX2 162 yX2_commonDivisor, Cond.static yX2_commonDivisor, Cond.code yX2_commonDivisor cX2_commonDivisor 11 (some .long), Cond.methodLink RX2 166 Lib.MathLoose.abs_long.x, Cond.static Lib.MathLoose.abs_long.x, Cond.initialized "java/lang/Math", Cond.code Lib.MathLoose.abs_long.x Lib.MathLoose.abs_long.code 2 (some .long)]
def wsX2_takeApart_r4 : List Cond := [Cond.methodLink RX2 198 yX1_mix, Cond.instanceMethod yX1_mix, Cond.selects RX1 yX1_mix yX1_mix, Cond.code yX1_mix cX1_mix 7 none]
def wsX2_takeApart : List Cond := .code yX2_takeApart cX2_takeApart 4 none :: ((wsX2_takeApart_r1 ++ (wsX2_takeApart_r2 ++ (wsX2_takeApart_r3 ++ wsX2_takeApart_r4))) ++ wsX20 ++ wsX10)
def wsX2_init_r1 : List Cond := [Cond.methodLink RX2 3 objectInit, Cond.instanceMethod objectInit, Cond.code objectInit ⟨#[0xb1]⟩ 1 none, Cond.classLink RX2 9 RX0, Cond.instantiable RX0 3, Cond.initialized RX0, Cond.fieldLink RX2 12 "PartsDesk" "draft" "LPartsDesk$Draft;", Cond.classLink RX2 16 RX1, Cond.instantiable RX1 1, Cond.initialized RX1, Cond.fieldLink RX2 19 "PartsDesk" "above" "LPartsDesk$Polynomial;", Cond.fieldLink RX2 23 "PartsDesk" "below" "LPartsDesk$Polynomial;", Cond.fieldLink RX2 26 "PartsDesk" "quotient" "LPartsDesk$Polynomial;", Cond.arrayClass .int, Cond.fieldLink RX2 29 "PartsDesk" "often" "[I", Cond.arrayClass .long, Cond.fieldLink RX2 33 "PartsDesk" "partsAbove" "[J", Cond.fieldLink RX2 37 "PartsDesk" "partsBelow" "[J", Cond.fieldLink RX2 40 "PartsDesk" "readTerms" "LPartsDesk$Polynomial;", Cond.fieldLink RX2 43 "PartsDesk" "readOften" "[I", Cond.fieldLink RX2 46 "PartsDesk" "rest" "LPartsDesk$Polynomial;", Cond.fieldLink RX2 49 "PartsDesk" "otherFactors" "LPartsDesk$Polynomial;", Cond.instanceMethod yX0_init, Cond.code yX0_init cX0_init 1 none]
def wsX2_init_r2 : List Cond := [Cond.methodLink RX0 3 objectInit, Cond.arrayClass .char, Cond.fieldLink RX0 9 "PartsDesk$Draft" "characters" "[C", Cond.instanceMethod yX1_init, Cond.code yX1_init cX1_init 1 none, Cond.methodLink RX1 3 objectInit, Cond.fieldLink RX1 9 "PartsDesk$Polynomial" "coefficients" "[J", Cond.methodLink RX2 52 yX2_takeApart, Cond.instanceMethod yX2_takeApart, Cond.selects RX2 yX2_takeApart yX2_takeApart, Cond.initialized RX2, Cond.code yX2_takeApart cX2_takeApart 4 none, Cond.methodLink RX2 172 yX1_becomeOne, Cond.instanceMethod yX1_becomeOne, Cond.selects RX1 yX1_becomeOne yX1_becomeOne, Cond.code yX1_becomeOne cX1_becomeOne 1 none, Cond.methodLink RX1 21 yX1_becomeZero, Cond.instanceMethod yX1_becomeZero, Cond.selects RX1 yX1_becomeZero yX1_becomeZero, Cond.code yX1_becomeZero cX1_becomeZero 1 none, Cond.methodLink RX1 15 yJ7_fill_d0a16, Cond.static yJ7_fill_d0a16, Cond.initialized RJ7, Cond.code yJ7_fill_d0a16 cJ7_fill_d0a16 5 none]
def wsX2_init_r3 : List Cond := [Cond.methodLink RX2 73 yX1_become, Cond.instanceMethod yX1_become, Cond.selects RX1 yX1_become yX1_become, Cond.code yX1_become cX1_become 2 none, Cond.methodLink RX1 24 arraycopyName, Cond.native arraycopyName, Cond.static arraycopyName, Cond.initialized "java/lang/System", Cond.methodLink RX2 175 yJ7_fill_d0a16, Cond.methodLink RX2 109 yX2_many, Cond.instanceMethod yX2_many, Cond.selects RX2 yX2_many yX2_many, Cond.code yX2_many cX2_many 2 (some .int), Cond.methodLink RX2 105 yX2_isPossibleRoot, Cond.static yX2_isPossibleRoot, Cond.code yX2_isPossibleRoot cX2_isPossibleRoot 1 (some .boolean), Cond.methodLink RX2 181 yX1_multiplyByFactorOf, Cond.instanceMethod yX1_multiplyByFactorOf, Cond.selects RX1 yX1_multiplyByFactorOf yX1_multiplyByFactorOf, Cond.code yX1_multiplyByFactorOf cX1_multiplyByFactorOf 3 none, Cond.methodLink RX2 185 yX1_divideByFactorOf, Cond.instanceMethod yX1_divideByFactorOf, Cond.selects RX1 yX1_divideByFactorOf yX1_divideByFactorOf, Cond.code yX1_divideByFactorOf cX1_divideByFactorOf 7 (some .long)]
def wsX2_init_r4 : List Cond := [Cond.methodLink RX2 188 yX2_makePartsOf, Cond.instanceMethod yX2_makePartsOf, Cond.selects RX2 yX2_makePartsOf yX2_makePartsOf, Cond.code yX2_makePartsOf cX2_makePartsOf 9 none, Cond.methodLink RX2 191 yX2_multiplyOtherFactors, Cond.instanceMethod yX2_multiplyOtherFactors, Cond.selects RX2 yX2_multiplyOtherFactors yX2_multiplyOtherFactors, Cond.code yX2_multiplyOtherFactors cX2_multiplyOtherFactors 5 none, Cond.methodLink RX2 194 yX2_keepPart, Cond.instanceMethod yX2_keepPart, Cond.selects RX2 yX2_keepPart yX2_keepPart, Cond.code yX2_keepPart cX2_keepPart 8 none, Cond.methodLink RX2 158 yX2_placeOfPart, Cond.static yX2_placeOfPart, Cond.code yX2_placeOfPart cX2_placeOfPart 3 (some .int), Cond.methodLink RX2 131 yX2_inLowestTerms, Cond.static yX2_inLowestTerms, Cond.code yX2_inLowestTerms cX2_inLowestTerms 9 (some .long), Cond.methodLink RX2 162 yX2_commonDivisor, Cond.static yX2_commonDivisor, Cond.code yX2_commonDivisor cX2_commonDivisor 11 (some .long), Cond.methodLink RX2 166 Lib.MathLoose.abs_long.x, Cond.static Lib.MathLoose.abs_long.x, Cond.initialized "java/lang/Math"]
def wsX2_init_r5 : List Cond := [Cond.code Lib.MathLoose.abs_long.x Lib.MathLoose.abs_long.code 2 (some .long), Cond.methodLink RX2 198 yX1_mix, Cond.instanceMethod yX1_mix, Cond.selects RX1 yX1_mix yX1_mix, Cond.code yX1_mix cX1_mix 7 none]
def wsX2_init : List Cond := .code yX2_init cX2_init 1 none :: ((wsX2_init_r1 ++ (wsX2_init_r2 ++ (wsX2_init_r3 ++ (wsX2_init_r4 ++ wsX2_init_r5)))) ++ wsX00 ++ wsX20 ++ wsX10)
def wsX2_write : List Cond := .code yX2_write cX2_write 2 (some .boolean) :: ([.fieldLink RX2 12 "PartsDesk" "draft" "LPartsDesk$Draft;", .methodLink RX2 55 yX0_append, .instanceMethod yX0_append, .selects RX0 yX0_append yX0_append, .initialized RX0, .code yX0_append cX0_append 2 (some .boolean), .fieldLink RX0 15 "PartsDesk$Draft" "length" "I", .fieldLink RX0 9 "PartsDesk$Draft" "characters" "[C"] ++ wsX20 ++ wsX00)
def wsX2_readNumber : List Cond := .code yX2_readNumber cX2_readNumber 3 (some .int) :: ([.fieldLink RX2 12 "PartsDesk" "draft" "LPartsDesk$Draft;", .methodLink RX2 225 yX0_takeDigit, .instanceMethod yX0_takeDigit, .selects RX0 yX0_takeDigit yX0_takeDigit, .initialized RX0, .code yX0_takeDigit cX0_takeDigit 4 (some .int), .fieldLink RX0 9 "PartsDesk$Draft" "characters" "[C", .fieldLink RX0 19 "PartsDesk$Draft" "next" "I", .methodLink RX0 22 yX0_isAtEnd, .instanceMethod yX0_isAtEnd, .selects RX0 yX0_isAtEnd yX0_isAtEnd, .code yX0_isAtEnd cX0_isAtEnd 1 (some .boolean), .fieldLink RX0 15 "PartsDesk$Draft" "length" "I"] ++ wsX20 ++ wsX00)
def wsX2_readPowerOfX : List Cond := .code yX2_readPowerOfX cX2_readPowerOfX 1 (some .int) :: ([.fieldLink RX2 12 "PartsDesk" "draft" "LPartsDesk$Draft;", .methodLink RX2 212 yX0_takes, .instanceMethod yX0_takes, .selects RX0 yX0_takes yX0_takes, .initialized RX0, .code yX0_takes cX0_takes 3 (some .boolean), .fieldLink RX0 9 "PartsDesk$Draft" "characters" "[C", .fieldLink RX0 19 "PartsDesk$Draft" "next" "I", .methodLink RX0 22 yX0_isAtEnd, .instanceMethod yX0_isAtEnd, .selects RX0 yX0_isAtEnd yX0_isAtEnd, .code yX0_isAtEnd cX0_isAtEnd 1 (some .boolean), .fieldLink RX0 15 "PartsDesk$Draft" "length" "I", .methodLink RX2 225 yX0_takeDigit, .instanceMethod yX0_takeDigit, .selects RX0 yX0_takeDigit yX0_takeDigit, .code yX0_takeDigit cX0_takeDigit 4 (some .int)] ++ wsX20 ++ wsX00)
def wsX2_readTerm_r1 : List Cond := [Cond.fieldLink RX2 12 "PartsDesk" "draft" "LPartsDesk$Draft;", Cond.fieldLink RX2 40 "PartsDesk" "readTerms" "LPartsDesk$Polynomial;", Cond.methodLink RX2 212 yX0_takes, Cond.instanceMethod yX0_takes, Cond.selects RX0 yX0_takes yX0_takes, Cond.initialized RX0, Cond.code yX0_takes cX0_takes 3 (some .boolean), Cond.fieldLink RX0 9 "PartsDesk$Draft" "characters" "[C", Cond.fieldLink RX0 19 "PartsDesk$Draft" "next" "I", Cond.methodLink RX0 22 yX0_isAtEnd, Cond.instanceMethod yX0_isAtEnd, Cond.selects RX0 yX0_isAtEnd yX0_isAtEnd, Cond.code yX0_isAtEnd cX0_isAtEnd 1 (some .boolean), Cond.fieldLink RX0 15 "PartsDesk$Draft" "length" "I", Cond.methodLink RX2 215 yX2_readNumber, Cond.instanceMethod yX2_readNumber, Cond.selects RX2 yX2_readNumber yX2_readNumber, Cond.initialized RX2, Cond.code yX2_readNumber cX2_readNumber 3 (some .int), Cond.methodLink RX2 225 yX0_takeDigit, Cond.instanceMethod yX0_takeDigit, Cond.selects RX0 yX0_takeDigit yX0_takeDigit, Cond.code yX0_takeDigit cX0_takeDigit 4 (some .int), Cond.methodLink RX2 218 yX2_readPowerOfX]
def wsX2_readTerm_r2 : List Cond := [Cond.instanceMethod yX2_readPowerOfX, Cond.selects RX2 yX2_readPowerOfX yX2_readPowerOfX, Cond.code yX2_readPowerOfX cX2_readPowerOfX 1 (some .int), Cond.methodLink RX2 221 yX1_add, Cond.instanceMethod yX1_add, Cond.selects RX1 yX1_add yX1_add, Cond.initialized RX1, Cond.code yX1_add cX1_add 4 none, Cond.fieldLink RX1 9 "PartsDesk$Polynomial" "coefficients" "[J"]
def wsX2_readTerm : List Cond := .code yX2_readTerm cX2_readTerm 7 (some .boolean) :: ((wsX2_readTerm_r1 ++ wsX2_readTerm_r2) ++ wsX20 ++ wsX00 ++ wsX10)
def wsX2_readPolynomial_r1 : List Cond := [Cond.fieldLink RX2 40 "PartsDesk" "readTerms" "LPartsDesk$Polynomial;", Cond.fieldLink RX2 12 "PartsDesk" "draft" "LPartsDesk$Draft;", Cond.methodLink RX2 202 yX1_becomeZero, Cond.instanceMethod yX1_becomeZero, Cond.selects RX1 yX1_becomeZero yX1_becomeZero, Cond.initialized RX1, Cond.code yX1_becomeZero cX1_becomeZero 1 none, Cond.fieldLink RX1 9 "PartsDesk$Polynomial" "coefficients" "[J", Cond.methodLink RX1 15 yJ7_fill_d0a16, Cond.static yJ7_fill_d0a16, Cond.initialized RJ7, Cond.code yJ7_fill_d0a16 cJ7_fill_d0a16 5 none, Cond.methodLink RX2 205 yX2_readTerm, Cond.instanceMethod yX2_readTerm, Cond.selects RX2 yX2_readTerm yX2_readTerm, Cond.initialized RX2, Cond.code yX2_readTerm cX2_readTerm 7 (some .boolean), Cond.methodLink RX2 212 yX0_takes, Cond.instanceMethod yX0_takes, Cond.selects RX0 yX0_takes yX0_takes, Cond.initialized RX0, Cond.code yX0_takes cX0_takes 3 (some .boolean), Cond.fieldLink RX0 9 "PartsDesk$Draft" "characters" "[C", Cond.fieldLink RX0 19 "PartsDesk$Draft" "next" "I"]
def wsX2_readPolynomial_r2 : List Cond := [Cond.methodLink RX0 22 yX0_isAtEnd, Cond.instanceMethod yX0_isAtEnd, Cond.selects RX0 yX0_isAtEnd yX0_isAtEnd, Cond.code yX0_isAtEnd cX0_isAtEnd 1 (some .boolean), Cond.fieldLink RX0 15 "PartsDesk$Draft" "length" "I", Cond.methodLink RX2 215 yX2_readNumber, Cond.instanceMethod yX2_readNumber, Cond.selects RX2 yX2_readNumber yX2_readNumber, Cond.code yX2_readNumber cX2_readNumber 3 (some .int), Cond.methodLink RX2 225 yX0_takeDigit, Cond.instanceMethod yX0_takeDigit, Cond.selects RX0 yX0_takeDigit yX0_takeDigit, Cond.code yX0_takeDigit cX0_takeDigit 4 (some .int), Cond.methodLink RX2 218 yX2_readPowerOfX, Cond.instanceMethod yX2_readPowerOfX, Cond.selects RX2 yX2_readPowerOfX yX2_readPowerOfX, Cond.code yX2_readPowerOfX cX2_readPowerOfX 1 (some .int), Cond.methodLink RX2 221 yX1_add, Cond.instanceMethod yX1_add, Cond.selects RX1 yX1_add yX1_add, Cond.code yX1_add cX1_add 4 none, Cond.methodLink RX2 209 yX0_isAtEnd]
def wsX2_readPolynomial : List Cond := .code yX2_readPolynomial cX2_readPolynomial 3 (some .boolean) :: ((wsX2_readPolynomial_r1 ++ wsX2_readPolynomial_r2) ++ wsX20 ++ wsX10 ++ wsX00)
def wsX2_numerator_r1 : List Cond := [Cond.classLink RX2 66 "java/lang/IllegalArgumentException", Cond.initialized "java/lang/IllegalArgumentException", Cond.fieldLink RX2 12 "PartsDesk" "draft" "LPartsDesk$Draft;", Cond.fieldLink RX2 19 "PartsDesk" "above" "LPartsDesk$Polynomial;", Cond.fieldLink RX2 40 "PartsDesk" "readTerms" "LPartsDesk$Polynomial;", Cond.methodLink RX2 59 yX2_readPolynomial, Cond.instanceMethod yX2_readPolynomial, Cond.selects RX2 yX2_readPolynomial yX2_readPolynomial, Cond.initialized RX2, Cond.code yX2_readPolynomial cX2_readPolynomial 3 (some .boolean), Cond.methodLink RX2 202 yX1_becomeZero, Cond.instanceMethod yX1_becomeZero, Cond.selects RX1 yX1_becomeZero yX1_becomeZero, Cond.initialized RX1, Cond.code yX1_becomeZero cX1_becomeZero 1 none, Cond.fieldLink RX1 9 "PartsDesk$Polynomial" "coefficients" "[J", Cond.methodLink RX1 15 yJ7_fill_d0a16, Cond.static yJ7_fill_d0a16, Cond.initialized RJ7, Cond.code yJ7_fill_d0a16 cJ7_fill_d0a16 5 none, Cond.methodLink RX2 205 yX2_readTerm, Cond.instanceMethod yX2_readTerm, Cond.selects RX2 yX2_readTerm yX2_readTerm, Cond.code yX2_readTerm cX2_readTerm 7 (some .boolean)]
def wsX2_numerator_r2 : List Cond := [Cond.methodLink RX2 212 yX0_takes, Cond.instanceMethod yX0_takes, Cond.selects RX0 yX0_takes yX0_takes, Cond.initialized RX0, Cond.code yX0_takes cX0_takes 3 (some .boolean), Cond.fieldLink RX0 9 "PartsDesk$Draft" "characters" "[C", Cond.fieldLink RX0 19 "PartsDesk$Draft" "next" "I", Cond.methodLink RX0 22 yX0_isAtEnd, Cond.instanceMethod yX0_isAtEnd, Cond.selects RX0 yX0_isAtEnd yX0_isAtEnd, Cond.code yX0_isAtEnd cX0_isAtEnd 1 (some .boolean), Cond.fieldLink RX0 15 "PartsDesk$Draft" "length" "I", Cond.methodLink RX2 215 yX2_readNumber, Cond.instanceMethod yX2_readNumber, Cond.selects RX2 yX2_readNumber yX2_readNumber, Cond.code yX2_readNumber cX2_readNumber 3 (some .int), Cond.methodLink RX2 225 yX0_takeDigit, Cond.instanceMethod yX0_takeDigit, Cond.selects RX0 yX0_takeDigit yX0_takeDigit, Cond.code yX0_takeDigit cX0_takeDigit 4 (some .int), Cond.methodLink RX2 218 yX2_readPowerOfX, Cond.instanceMethod yX2_readPowerOfX, Cond.selects RX2 yX2_readPowerOfX yX2_readPowerOfX, Cond.code yX2_readPowerOfX cX2_readPowerOfX 1 (some .int)]
def wsX2_numerator_r3 : List Cond := [Cond.methodLink RX2 221 yX1_add, Cond.instanceMethod yX1_add, Cond.selects RX1 yX1_add yX1_add, Cond.code yX1_add cX1_add 4 none, Cond.methodLink RX2 209 yX0_isAtEnd, Cond.methodLink RX2 63 yX0_empty, Cond.instanceMethod yX0_empty, Cond.selects RX0 yX0_empty yX0_empty, Cond.code yX0_empty cX0_empty 1 none, Cond.methodLink RX2 73 yX1_become, Cond.instanceMethod yX1_become, Cond.selects RX1 yX1_become yX1_become, Cond.code yX1_become cX1_become 2 none, Cond.methodLink RX1 24 arraycopyName, Cond.native arraycopyName, Cond.static arraycopyName, Cond.initialized "java/lang/System", Cond.methodLink RX2 52 yX2_takeApart, Cond.instanceMethod yX2_takeApart, Cond.selects RX2 yX2_takeApart yX2_takeApart, Cond.code yX2_takeApart cX2_takeApart 4 none, Cond.fieldLink RX2 23 "PartsDesk" "below" "LPartsDesk$Polynomial;", Cond.fieldLink RX2 26 "PartsDesk" "quotient" "LPartsDesk$Polynomial;", Cond.fieldLink RX2 33 "PartsDesk" "partsAbove" "[J"]
def wsX2_numerator_r4 : List Cond := [Cond.fieldLink RX2 37 "PartsDesk" "partsBelow" "[J", Cond.methodLink RX2 172 yX1_becomeOne, Cond.instanceMethod yX1_becomeOne, Cond.selects RX1 yX1_becomeOne yX1_becomeOne, Cond.code yX1_becomeOne cX1_becomeOne 1 none, Cond.methodLink RX1 21 yX1_becomeZero, Cond.methodLink RX2 175 yJ7_fill_d0a16, Cond.methodLink RX2 109 yX2_many, Cond.instanceMethod yX2_many, Cond.selects RX2 yX2_many yX2_many, Cond.code yX2_many cX2_many 2 (some .int), Cond.fieldLink RX2 29 "PartsDesk" "often" "[I", Cond.methodLink RX2 105 yX2_isPossibleRoot, Cond.static yX2_isPossibleRoot, Cond.code yX2_isPossibleRoot cX2_isPossibleRoot 1 (some .boolean), Cond.methodLink RX2 181 yX1_multiplyByFactorOf, Cond.instanceMethod yX1_multiplyByFactorOf, Cond.selects RX1 yX1_multiplyByFactorOf yX1_multiplyByFactorOf, Cond.code yX1_multiplyByFactorOf cX1_multiplyByFactorOf 3 none, Cond.methodLink RX2 185 yX1_divideByFactorOf, Cond.instanceMethod yX1_divideByFactorOf, Cond.selects RX1 yX1_divideByFactorOf yX1_divideByFactorOf, Cond.code yX1_divideByFactorOf cX1_divideByFactorOf 7 (some .long), Cond.methodLink RX2 188 yX2_makePartsOf]
def wsX2_numerator_r5 : List Cond := [Cond.instanceMethod yX2_makePartsOf, Cond.selects RX2 yX2_makePartsOf yX2_makePartsOf, Cond.code yX2_makePartsOf cX2_makePartsOf 9 none, Cond.fieldLink RX2 46 "PartsDesk" "rest" "LPartsDesk$Polynomial;", Cond.fieldLink RX2 49 "PartsDesk" "otherFactors" "LPartsDesk$Polynomial;", Cond.methodLink RX2 191 yX2_multiplyOtherFactors, Cond.instanceMethod yX2_multiplyOtherFactors, Cond.selects RX2 yX2_multiplyOtherFactors yX2_multiplyOtherFactors, Cond.code yX2_multiplyOtherFactors cX2_multiplyOtherFactors 5 none, Cond.methodLink RX2 194 yX2_keepPart, Cond.instanceMethod yX2_keepPart, Cond.selects RX2 yX2_keepPart yX2_keepPart, Cond.code yX2_keepPart cX2_keepPart 8 none, Cond.methodLink RX2 158 yX2_placeOfPart, Cond.static yX2_placeOfPart, Cond.code yX2_placeOfPart cX2_placeOfPart 3 (some .int), Cond.methodLink RX2 131 yX2_inLowestTerms, Cond.static yX2_inLowestTerms, Cond.code yX2_inLowestTerms cX2_inLowestTerms 9 (some .long), Cond.methodLink RX2 162 yX2_commonDivisor, Cond.static yX2_commonDivisor, Cond.code yX2_commonDivisor cX2_commonDivisor 11 (some .long), Cond.methodLink RX2 166 Lib.MathLoose.abs_long.x, Cond.static Lib.MathLoose.abs_long.x]
def wsX2_numerator_r6 : List Cond := [Cond.initialized "java/lang/Math", Cond.code Lib.MathLoose.abs_long.x Lib.MathLoose.abs_long.code 2 (some .long), Cond.methodLink RX2 198 yX1_mix, Cond.instanceMethod yX1_mix, Cond.selects RX1 yX1_mix yX1_mix, Cond.code yX1_mix cX1_mix 7 none, Cond.methodLink RX2 77 yX1_degree, Cond.instanceMethod yX1_degree, Cond.selects RX1 yX1_degree yX1_degree, Cond.code yX1_degree cX1_degree 2 (some .int)]
def wsX2_numerator : List Cond := .code yX2_numerator cX2_numerator 2 (some .int) :: ((wsX2_numerator_r1 ++ (wsX2_numerator_r2 ++ (wsX2_numerator_r3 ++ (wsX2_numerator_r4 ++ (wsX2_numerator_r5 ++ wsX2_numerator_r6))))) ++ wsX20 ++ wsX10 ++ wsX00 ++ (vx_atS RX2 70 "java/lang/IllegalArgumentException" ["java/lang/RuntimeException", "java/lang/Exception"]).filter goodWord)
def wsJ7_fill_53178 : List Cond := .code yJ7_fill_53178 cJ7_fill_53178 4 none :: ([])
def wsX2_readRoot : List Cond := .code yX2_readRoot cX2_readRoot 3 (some .int) :: ([.fieldLink RX2 12 "PartsDesk" "draft" "LPartsDesk$Draft;", .methodLink RX2 212 yX0_takes, .instanceMethod yX0_takes, .selects RX0 yX0_takes yX0_takes, .initialized RX0, .code yX0_takes cX0_takes 3 (some .boolean), .fieldLink RX0 9 "PartsDesk$Draft" "characters" "[C", .fieldLink RX0 19 "PartsDesk$Draft" "next" "I", .methodLink RX0 22 yX0_isAtEnd, .instanceMethod yX0_isAtEnd, .selects RX0 yX0_isAtEnd yX0_isAtEnd, .code yX0_isAtEnd cX0_isAtEnd 1 (some .boolean), .fieldLink RX0 15 "PartsDesk$Draft" "length" "I", .methodLink RX2 225 yX0_takeDigit, .instanceMethod yX0_takeDigit, .selects RX0 yX0_takeDigit yX0_takeDigit, .code yX0_takeDigit cX0_takeDigit 4 (some .int)] ++ wsX20 ++ wsX00)
def wsX2_readFactor_r1 : List Cond := [Cond.fieldLink RX2 12 "PartsDesk" "draft" "LPartsDesk$Draft;", Cond.fieldLink RX2 43 "PartsDesk" "readOften" "[I", Cond.methodLink RX2 212 yX0_takes, Cond.instanceMethod yX0_takes, Cond.selects RX0 yX0_takes yX0_takes, Cond.initialized RX0, Cond.code yX0_takes cX0_takes 3 (some .boolean), Cond.fieldLink RX0 9 "PartsDesk$Draft" "characters" "[C", Cond.fieldLink RX0 19 "PartsDesk$Draft" "next" "I", Cond.methodLink RX0 22 yX0_isAtEnd, Cond.instanceMethod yX0_isAtEnd, Cond.selects RX0 yX0_isAtEnd yX0_isAtEnd, Cond.code yX0_isAtEnd cX0_isAtEnd 1 (some .boolean), Cond.fieldLink RX0 15 "PartsDesk$Draft" "length" "I", Cond.methodLink RX2 234 yX2_readRoot, Cond.instanceMethod yX2_readRoot, Cond.selects RX2 yX2_readRoot yX2_readRoot, Cond.initialized RX2, Cond.code yX2_readRoot cX2_readRoot 3 (some .int), Cond.methodLink RX2 225 yX0_takeDigit, Cond.instanceMethod yX0_takeDigit, Cond.selects RX0 yX0_takeDigit yX0_takeDigit, Cond.code yX0_takeDigit cX0_takeDigit 4 (some .int), Cond.methodLink RX2 105 yX2_isPossibleRoot]
def wsX2_readFactor_r2 : List Cond := [Cond.static yX2_isPossibleRoot, Cond.code yX2_isPossibleRoot cX2_isPossibleRoot 1 (some .boolean)]
def wsX2_readFactor : List Cond := .code yX2_readFactor cX2_readFactor 3 (some .boolean) :: ((wsX2_readFactor_r1 ++ wsX2_readFactor_r2) ++ wsX20 ++ wsX00)
def wsX2_readProduct_r1 : List Cond := [Cond.fieldLink RX2 43 "PartsDesk" "readOften" "[I", Cond.fieldLink RX2 12 "PartsDesk" "draft" "LPartsDesk$Draft;", Cond.methodLink RX2 228 yJ7_fill_53178, Cond.static yJ7_fill_53178, Cond.initialized RJ7, Cond.code yJ7_fill_53178 cJ7_fill_53178 4 none, Cond.methodLink RX2 231 yX2_readFactor, Cond.instanceMethod yX2_readFactor, Cond.selects RX2 yX2_readFactor yX2_readFactor, Cond.initialized RX2, Cond.code yX2_readFactor cX2_readFactor 3 (some .boolean), Cond.methodLink RX2 212 yX0_takes, Cond.instanceMethod yX0_takes, Cond.selects RX0 yX0_takes yX0_takes, Cond.initialized RX0, Cond.code yX0_takes cX0_takes 3 (some .boolean), Cond.fieldLink RX0 9 "PartsDesk$Draft" "characters" "[C", Cond.fieldLink RX0 19 "PartsDesk$Draft" "next" "I", Cond.methodLink RX0 22 yX0_isAtEnd, Cond.instanceMethod yX0_isAtEnd, Cond.selects RX0 yX0_isAtEnd yX0_isAtEnd, Cond.code yX0_isAtEnd cX0_isAtEnd 1 (some .boolean), Cond.fieldLink RX0 15 "PartsDesk$Draft" "length" "I", Cond.methodLink RX2 234 yX2_readRoot]
def wsX2_readProduct_r2 : List Cond := [Cond.instanceMethod yX2_readRoot, Cond.selects RX2 yX2_readRoot yX2_readRoot, Cond.code yX2_readRoot cX2_readRoot 3 (some .int), Cond.methodLink RX2 225 yX0_takeDigit, Cond.instanceMethod yX0_takeDigit, Cond.selects RX0 yX0_takeDigit yX0_takeDigit, Cond.code yX0_takeDigit cX0_takeDigit 4 (some .int), Cond.methodLink RX2 105 yX2_isPossibleRoot, Cond.static yX2_isPossibleRoot, Cond.code yX2_isPossibleRoot cX2_isPossibleRoot 1 (some .boolean), Cond.methodLink RX2 209 yX0_isAtEnd]
def wsX2_readProduct : List Cond := .code yX2_readProduct cX2_readProduct 3 (some .boolean) :: ((wsX2_readProduct_r1 ++ wsX2_readProduct_r2) ++ wsX20 ++ wsX00)
def wsX2_sum : List Cond := .code yX2_sum cX2_sum 6 (some .int) :: ([])
def wsX2_denominator_r1 : List Cond := [Cond.classLink RX2 66 "java/lang/IllegalArgumentException", Cond.initialized "java/lang/IllegalArgumentException", Cond.classLink RX2 90 "java/lang/IllegalStateException", Cond.initialized "java/lang/IllegalStateException", Cond.fieldLink RX2 12 "PartsDesk" "draft" "LPartsDesk$Draft;", Cond.fieldLink RX2 43 "PartsDesk" "readOften" "[I", Cond.fieldLink RX2 29 "PartsDesk" "often" "[I", Cond.methodLink RX2 95 arraycopyName, Cond.native arraycopyName, Cond.static arraycopyName, Cond.initialized "java/lang/System", Cond.fieldLink RX2 23 "PartsDesk" "below" "LPartsDesk$Polynomial;", Cond.methodLink RX2 81 yX2_readProduct, Cond.instanceMethod yX2_readProduct, Cond.selects RX2 yX2_readProduct yX2_readProduct, Cond.initialized RX2, Cond.code yX2_readProduct cX2_readProduct 3 (some .boolean), Cond.methodLink RX2 228 yJ7_fill_53178, Cond.static yJ7_fill_53178, Cond.initialized RJ7, Cond.code yJ7_fill_53178 cJ7_fill_53178 4 none, Cond.methodLink RX2 231 yX2_readFactor, Cond.instanceMethod yX2_readFactor, Cond.selects RX2 yX2_readFactor yX2_readFactor]
def wsX2_denominator_r2 : List Cond := [Cond.code yX2_readFactor cX2_readFactor 3 (some .boolean), Cond.methodLink RX2 212 yX0_takes, Cond.instanceMethod yX0_takes, Cond.selects RX0 yX0_takes yX0_takes, Cond.initialized RX0, Cond.code yX0_takes cX0_takes 3 (some .boolean), Cond.fieldLink RX0 9 "PartsDesk$Draft" "characters" "[C", Cond.fieldLink RX0 19 "PartsDesk$Draft" "next" "I", Cond.methodLink RX0 22 yX0_isAtEnd, Cond.instanceMethod yX0_isAtEnd, Cond.selects RX0 yX0_isAtEnd yX0_isAtEnd, Cond.code yX0_isAtEnd cX0_isAtEnd 1 (some .boolean), Cond.fieldLink RX0 15 "PartsDesk$Draft" "length" "I", Cond.methodLink RX2 234 yX2_readRoot, Cond.instanceMethod yX2_readRoot, Cond.selects RX2 yX2_readRoot yX2_readRoot, Cond.code yX2_readRoot cX2_readRoot 3 (some .int), Cond.methodLink RX2 225 yX0_takeDigit, Cond.instanceMethod yX0_takeDigit, Cond.selects RX0 yX0_takeDigit yX0_takeDigit, Cond.code yX0_takeDigit cX0_takeDigit 4 (some .int), Cond.methodLink RX2 105 yX2_isPossibleRoot, Cond.static yX2_isPossibleRoot, Cond.code yX2_isPossibleRoot cX2_isPossibleRoot 1 (some .boolean)]
def wsX2_denominator_r3 : List Cond := [Cond.methodLink RX2 209 yX0_isAtEnd, Cond.methodLink RX2 63 yX0_empty, Cond.instanceMethod yX0_empty, Cond.selects RX0 yX0_empty yX0_empty, Cond.code yX0_empty cX0_empty 1 none, Cond.methodLink RX2 86 yX2_sum, Cond.static yX2_sum, Cond.code yX2_sum cX2_sum 6 (some .int), Cond.methodLink RX2 52 yX2_takeApart, Cond.instanceMethod yX2_takeApart, Cond.selects RX2 yX2_takeApart yX2_takeApart, Cond.code yX2_takeApart cX2_takeApart 4 none, Cond.fieldLink RX2 26 "PartsDesk" "quotient" "LPartsDesk$Polynomial;", Cond.fieldLink RX2 19 "PartsDesk" "above" "LPartsDesk$Polynomial;", Cond.fieldLink RX2 33 "PartsDesk" "partsAbove" "[J", Cond.fieldLink RX2 37 "PartsDesk" "partsBelow" "[J", Cond.methodLink RX2 172 yX1_becomeOne, Cond.instanceMethod yX1_becomeOne, Cond.selects RX1 yX1_becomeOne yX1_becomeOne, Cond.initialized RX1, Cond.code yX1_becomeOne cX1_becomeOne 1 none, Cond.fieldLink RX1 9 "PartsDesk$Polynomial" "coefficients" "[J", Cond.methodLink RX1 21 yX1_becomeZero, Cond.instanceMethod yX1_becomeZero]
def wsX2_denominator_r4 : List Cond := [Cond.selects RX1 yX1_becomeZero yX1_becomeZero, Cond.code yX1_becomeZero cX1_becomeZero 1 none, Cond.methodLink RX1 15 yJ7_fill_d0a16, Cond.static yJ7_fill_d0a16, Cond.code yJ7_fill_d0a16 cJ7_fill_d0a16 5 none, Cond.methodLink RX2 73 yX1_become, Cond.instanceMethod yX1_become, Cond.selects RX1 yX1_become yX1_become, Cond.code yX1_become cX1_become 2 none, Cond.methodLink RX1 24 arraycopyName, Cond.methodLink RX2 175 yJ7_fill_d0a16, Cond.methodLink RX2 109 yX2_many, Cond.instanceMethod yX2_many, Cond.selects RX2 yX2_many yX2_many, Cond.code yX2_many cX2_many 2 (some .int), Cond.methodLink RX2 181 yX1_multiplyByFactorOf, Cond.instanceMethod yX1_multiplyByFactorOf, Cond.selects RX1 yX1_multiplyByFactorOf yX1_multiplyByFactorOf, Cond.code yX1_multiplyByFactorOf cX1_multiplyByFactorOf 3 none, Cond.methodLink RX2 185 yX1_divideByFactorOf, Cond.instanceMethod yX1_divideByFactorOf, Cond.selects RX1 yX1_divideByFactorOf yX1_divideByFactorOf, Cond.code yX1_divideByFactorOf cX1_divideByFactorOf 7 (some .long), Cond.methodLink RX2 188 yX2_makePartsOf]
def wsX2_denominator_r5 : List Cond := [Cond.instanceMethod yX2_makePartsOf, Cond.selects RX2 yX2_makePartsOf yX2_makePartsOf, Cond.code yX2_makePartsOf cX2_makePartsOf 9 none, Cond.fieldLink RX2 46 "PartsDesk" "rest" "LPartsDesk$Polynomial;", Cond.fieldLink RX2 49 "PartsDesk" "otherFactors" "LPartsDesk$Polynomial;", Cond.methodLink RX2 191 yX2_multiplyOtherFactors, Cond.instanceMethod yX2_multiplyOtherFactors, Cond.selects RX2 yX2_multiplyOtherFactors yX2_multiplyOtherFactors, Cond.code yX2_multiplyOtherFactors cX2_multiplyOtherFactors 5 none, Cond.methodLink RX2 194 yX2_keepPart, Cond.instanceMethod yX2_keepPart, Cond.selects RX2 yX2_keepPart yX2_keepPart, Cond.code yX2_keepPart cX2_keepPart 8 none, Cond.methodLink RX2 158 yX2_placeOfPart, Cond.static yX2_placeOfPart, Cond.code yX2_placeOfPart cX2_placeOfPart 3 (some .int), Cond.methodLink RX2 131 yX2_inLowestTerms, Cond.static yX2_inLowestTerms, Cond.code yX2_inLowestTerms cX2_inLowestTerms 9 (some .long), Cond.methodLink RX2 162 yX2_commonDivisor, Cond.static yX2_commonDivisor, Cond.code yX2_commonDivisor cX2_commonDivisor 11 (some .long), Cond.methodLink RX2 166 Lib.MathLoose.abs_long.x, Cond.static Lib.MathLoose.abs_long.x]
def wsX2_denominator_r6 : List Cond := [Cond.initialized "java/lang/Math", Cond.code Lib.MathLoose.abs_long.x Lib.MathLoose.abs_long.code 2 (some .long), Cond.methodLink RX2 198 yX1_mix, Cond.instanceMethod yX1_mix, Cond.selects RX1 yX1_mix yX1_mix, Cond.code yX1_mix cX1_mix 7 none, Cond.methodLink RX2 77 yX1_degree, Cond.instanceMethod yX1_degree, Cond.selects RX1 yX1_degree yX1_degree, Cond.code yX1_degree cX1_degree 2 (some .int)]
def wsX2_denominator : List Cond := .code yX2_denominator cX2_denominator 2 (some .int) :: ((wsX2_denominator_r1 ++ (wsX2_denominator_r2 ++ (wsX2_denominator_r3 ++ (wsX2_denominator_r4 ++ (wsX2_denominator_r5 ++ wsX2_denominator_r6))))) ++ wsX20 ++ wsX00 ++ wsX10 ++ (vx_atS RX2 70 "java/lang/IllegalArgumentException" ["java/lang/RuntimeException", "java/lang/Exception"]).filter goodWord ++ (vx_atS RX2 94 "java/lang/IllegalStateException" ["java/lang/RuntimeException", "java/lang/Exception"]).filter goodWord)
def wsX2_coefficient : List Cond := .code yX2_coefficient cX2_coefficient 3 (some .long) :: ([.fieldLink RX2 19 "PartsDesk" "above" "LPartsDesk$Polynomial;", .fieldLink RX2 23 "PartsDesk" "below" "LPartsDesk$Polynomial;", .fieldLink RX2 26 "PartsDesk" "quotient" "LPartsDesk$Polynomial;", .methodLink RX2 101 yX1_get, .instanceMethod yX1_get, .selects RX1 yX1_get yX1_get, .initialized RX1, .code yX1_get cX1_get 2 (some .long), .fieldLink RX1 9 "PartsDesk$Polynomial" "coefficients" "[J"] ++ wsX20 ++ wsX10)
def wsX2_isSide : List Cond := .code yX2_isSide cX2_isSide 1 (some .boolean) :: ([])
def wsX2_partAbove : List Cond := .code yX2_partAbove cX2_partAbove 4 (some .long) :: ([.fieldLink RX2 33 "PartsDesk" "partsAbove" "[J", .methodLink RX2 158 yX2_placeOfPart, .static yX2_placeOfPart, .initialized RX2, .code yX2_placeOfPart cX2_placeOfPart 3 (some .int), .methodLink RX2 105 yX2_isPossibleRoot, .static yX2_isPossibleRoot, .code yX2_isPossibleRoot cX2_isPossibleRoot 1 (some .boolean)] ++ wsX20)
def wsX2_partBelow : List Cond := .code yX2_partBelow cX2_partBelow 4 (some .long) :: ([.fieldLink RX2 37 "PartsDesk" "partsBelow" "[J", .methodLink RX2 158 yX2_placeOfPart, .static yX2_placeOfPart, .initialized RX2, .code yX2_placeOfPart cX2_placeOfPart 3 (some .int), .methodLink RX2 105 yX2_isPossibleRoot, .static yX2_isPossibleRoot, .code yX2_isPossibleRoot cX2_isPossibleRoot 1 (some .boolean)] ++ wsX20)
def wsX2_part_r1 : List Cond := [Cond.classLink RX2 66 "java/lang/IllegalArgumentException", Cond.initialized "java/lang/IllegalArgumentException", Cond.methodLink RX2 109 yX2_many, Cond.instanceMethod yX2_many, Cond.selects RX2 yX2_many yX2_many, Cond.initialized RX2, Cond.code yX2_many cX2_many 2 (some .int), Cond.fieldLink RX2 29 "PartsDesk" "often" "[I", Cond.methodLink RX2 105 yX2_isPossibleRoot, Cond.static yX2_isPossibleRoot, Cond.code yX2_isPossibleRoot cX2_isPossibleRoot 1 (some .boolean), Cond.methodLink RX2 113 yX2_isSide, Cond.static yX2_isSide, Cond.code yX2_isSide cX2_isSide 1 (some .boolean), Cond.methodLink RX2 118 yX2_partAbove, Cond.instanceMethod yX2_partAbove, Cond.selects RX2 yX2_partAbove yX2_partAbove, Cond.code yX2_partAbove cX2_partAbove 4 (some .long), Cond.fieldLink RX2 33 "PartsDesk" "partsAbove" "[J", Cond.methodLink RX2 158 yX2_placeOfPart, Cond.static yX2_placeOfPart, Cond.code yX2_placeOfPart cX2_placeOfPart 3 (some .int), Cond.methodLink RX2 122 yX2_partBelow, Cond.instanceMethod yX2_partBelow]
def wsX2_part_r2 : List Cond := [Cond.selects RX2 yX2_partBelow yX2_partBelow, Cond.code yX2_partBelow cX2_partBelow 4 (some .long), Cond.fieldLink RX2 37 "PartsDesk" "partsBelow" "[J"]
def wsX2_part : List Cond := .code yX2_part cX2_part 4 (some .long) :: ((wsX2_part_r1 ++ wsX2_part_r2) ++ wsX20 ++ (vx_atS RX2 70 "java/lang/IllegalArgumentException" ["java/lang/RuntimeException", "java/lang/Exception"]).filter goodWord)
def wsX2_isInIntegral : List Cond := .code yX2_isInIntegral cX2_isInIntegral 3 (some .boolean) :: ([.methodLink RX2 109 yX2_many, .instanceMethod yX2_many, .selects RX2 yX2_many yX2_many, .initialized RX2, .code yX2_many cX2_many 2 (some .int), .fieldLink RX2 29 "PartsDesk" "often" "[I", .methodLink RX2 105 yX2_isPossibleRoot, .static yX2_isPossibleRoot, .code yX2_isPossibleRoot cX2_isPossibleRoot 1 (some .boolean)] ++ wsX20)
def wsX2_integral_r1 : List Cond := [Cond.classLink RX2 66 "java/lang/IllegalArgumentException", Cond.initialized "java/lang/IllegalArgumentException", Cond.fieldLink RX2 26 "PartsDesk" "quotient" "LPartsDesk$Polynomial;", Cond.methodLink RX2 125 yX2_isInIntegral, Cond.instanceMethod yX2_isInIntegral, Cond.selects RX2 yX2_isInIntegral yX2_isInIntegral, Cond.initialized RX2, Cond.code yX2_isInIntegral cX2_isInIntegral 3 (some .boolean), Cond.methodLink RX2 109 yX2_many, Cond.instanceMethod yX2_many, Cond.selects RX2 yX2_many yX2_many, Cond.code yX2_many cX2_many 2 (some .int), Cond.fieldLink RX2 29 "PartsDesk" "often" "[I", Cond.methodLink RX2 105 yX2_isPossibleRoot, Cond.static yX2_isPossibleRoot, Cond.code yX2_isPossibleRoot cX2_isPossibleRoot 1 (some .boolean), Cond.methodLink RX2 113 yX2_isSide, Cond.static yX2_isSide, Cond.code yX2_isSide cX2_isSide 1 (some .boolean), Cond.methodLink RX2 101 yX1_get, Cond.instanceMethod yX1_get, Cond.selects RX1 yX1_get yX1_get, Cond.initialized RX1, Cond.code yX1_get cX1_get 2 (some .long)]
def wsX2_integral_r2 : List Cond := [Cond.fieldLink RX1 9 "PartsDesk$Polynomial" "coefficients" "[J", Cond.methodLink RX2 131 yX2_inLowestTerms, Cond.static yX2_inLowestTerms, Cond.code yX2_inLowestTerms cX2_inLowestTerms 9 (some .long), Cond.methodLink RX2 162 yX2_commonDivisor, Cond.static yX2_commonDivisor, Cond.code yX2_commonDivisor cX2_commonDivisor 11 (some .long), Cond.methodLink RX2 166 Lib.MathLoose.abs_long.x, Cond.static Lib.MathLoose.abs_long.x, Cond.initialized "java/lang/Math", Cond.code Lib.MathLoose.abs_long.x Lib.MathLoose.abs_long.code 2 (some .long), Cond.methodLink RX2 118 yX2_partAbove, Cond.instanceMethod yX2_partAbove, Cond.selects RX2 yX2_partAbove yX2_partAbove, Cond.code yX2_partAbove cX2_partAbove 4 (some .long), Cond.fieldLink RX2 33 "PartsDesk" "partsAbove" "[J", Cond.methodLink RX2 158 yX2_placeOfPart, Cond.static yX2_placeOfPart, Cond.code yX2_placeOfPart cX2_placeOfPart 3 (some .int), Cond.methodLink RX2 122 yX2_partBelow, Cond.instanceMethod yX2_partBelow, Cond.selects RX2 yX2_partBelow yX2_partBelow, Cond.code yX2_partBelow cX2_partBelow 4 (some .long), Cond.fieldLink RX2 37 "PartsDesk" "partsBelow" "[J"]
def wsX2_integral : List Cond := .code yX2_integral cX2_integral 4 (some .long) :: ((wsX2_integral_r1 ++ wsX2_integral_r2) ++ wsX20 ++ wsX10 ++ (vx_atS RX2 70 "java/lang/IllegalArgumentException" ["java/lang/RuntimeException", "java/lang/Exception"]).filter goodWord)
def wsX2_value_r1 : List Cond := [Cond.classLink RX2 66 "java/lang/IllegalArgumentException", Cond.initialized "java/lang/IllegalArgumentException", Cond.fieldLink RX2 19 "PartsDesk" "above" "LPartsDesk$Polynomial;", Cond.fieldLink RX2 23 "PartsDesk" "below" "LPartsDesk$Polynomial;", Cond.methodLink RX2 109 yX2_many, Cond.instanceMethod yX2_many, Cond.selects RX2 yX2_many yX2_many, Cond.initialized RX2, Cond.code yX2_many cX2_many 2 (some .int), Cond.fieldLink RX2 29 "PartsDesk" "often" "[I", Cond.methodLink RX2 105 yX2_isPossibleRoot, Cond.static yX2_isPossibleRoot, Cond.code yX2_isPossibleRoot cX2_isPossibleRoot 1 (some .boolean), Cond.methodLink RX2 113 yX2_isSide, Cond.static yX2_isSide, Cond.code yX2_isSide cX2_isSide 1 (some .boolean), Cond.methodLink RX2 137 yX1_exactlyAt, Cond.instanceMethod yX1_exactlyAt, Cond.selects RX1 yX1_exactlyAt yX1_exactlyAt, Cond.initialized RX1, Cond.code yX1_exactlyAt cX1_exactlyAt 5 (some .long), Cond.fieldLink RX1 9 "PartsDesk$Polynomial" "coefficients" "[J", Cond.methodLink RX2 131 yX2_inLowestTerms, Cond.static yX2_inLowestTerms]
def wsX2_value_r2 : List Cond := [Cond.code yX2_inLowestTerms cX2_inLowestTerms 9 (some .long), Cond.methodLink RX2 162 yX2_commonDivisor, Cond.static yX2_commonDivisor, Cond.code yX2_commonDivisor cX2_commonDivisor 11 (some .long), Cond.methodLink RX2 166 Lib.MathLoose.abs_long.x, Cond.static Lib.MathLoose.abs_long.x, Cond.initialized "java/lang/Math", Cond.code Lib.MathLoose.abs_long.x Lib.MathLoose.abs_long.code 2 (some .long)]
def wsX2_value : List Cond := .code yX2_value cX2_value 3 (some .long) :: ((wsX2_value_r1 ++ wsX2_value_r2) ++ wsX20 ++ wsX10 ++ (vx_atS RX2 70 "java/lang/IllegalArgumentException" ["java/lang/RuntimeException", "java/lang/Exception"]).filter goodWord)
def wsX2_isNear : List Cond := .code yX2_isNear cX2_isNear 2 (some .boolean) :: ([.constantDouble RX2 154 (13860109328209412096), .constantDouble RX2 156 (4636737291354636288)])
def wsX2_at : List Cond := .code yX2_at cX2_at 5 (some .double) :: ([.classLink RX2 66 "java/lang/IllegalArgumentException", .initialized "java/lang/IllegalArgumentException", .fieldLink RX2 23 "PartsDesk" "below" "LPartsDesk$Polynomial;", .fieldLink RX2 19 "PartsDesk" "above" "LPartsDesk$Polynomial;", .methodLink RX2 140 yX2_isNear, .static yX2_isNear, .initialized RX2, .code yX2_isNear cX2_isNear 2 (some .boolean), .constantDouble RX2 154 (13860109328209412096), .constantDouble RX2 156 (4636737291354636288), .methodLink RX2 146 yX1_inDoublesAt, .instanceMethod yX1_inDoublesAt, .selects RX1 yX1_inDoublesAt yX1_inDoublesAt, .initialized RX1, .code yX1_inDoublesAt cX1_inDoublesAt 6 (some .double), .fieldLink RX1 9 "PartsDesk$Polynomial" "coefficients" "[J"] ++ wsX20 ++ wsX10 ++ (vx_atS RX2 70 "java/lang/IllegalArgumentException" ["java/lang/RuntimeException", "java/lang/Exception"]).filter goodWord)
def wsX2_withPartsOf : List Cond := .code yX2_withPartsOf cX2_withPartsOf 14 (some .double) :: ([.methodLink RX2 109 yX2_many, .instanceMethod yX2_many, .selects RX2 yX2_many yX2_many, .initialized RX2, .code yX2_many cX2_many 2 (some .int), .fieldLink RX2 29 "PartsDesk" "often" "[I", .methodLink RX2 105 yX2_isPossibleRoot, .static yX2_isPossibleRoot, .code yX2_isPossibleRoot cX2_isPossibleRoot 1 (some .boolean), .methodLink RX2 118 yX2_partAbove, .instanceMethod yX2_partAbove, .selects RX2 yX2_partAbove yX2_partAbove, .code yX2_partAbove cX2_partAbove 4 (some .long), .fieldLink RX2 33 "PartsDesk" "partsAbove" "[J", .methodLink RX2 158 yX2_placeOfPart, .static yX2_placeOfPart, .code yX2_placeOfPart cX2_placeOfPart 3 (some .int), .methodLink RX2 122 yX2_partBelow, .instanceMethod yX2_partBelow, .selects RX2 yX2_partBelow yX2_partBelow, .code yX2_partBelow cX2_partBelow 4 (some .long), .fieldLink RX2 37 "PartsDesk" "partsBelow" "[J"] ++ wsX20)
def wsX2_byParts_r1 : List Cond := [Cond.classLink RX2 66 "java/lang/IllegalArgumentException", Cond.initialized "java/lang/IllegalArgumentException", Cond.fieldLink RX2 26 "PartsDesk" "quotient" "LPartsDesk$Polynomial;", Cond.methodLink RX2 140 yX2_isNear, Cond.static yX2_isNear, Cond.initialized RX2, Cond.code yX2_isNear cX2_isNear 2 (some .boolean), Cond.constantDouble RX2 154 (13860109328209412096), Cond.constantDouble RX2 156 (4636737291354636288), Cond.methodLink RX2 146 yX1_inDoublesAt, Cond.instanceMethod yX1_inDoublesAt, Cond.selects RX1 yX1_inDoublesAt yX1_inDoublesAt, Cond.initialized RX1, Cond.code yX1_inDoublesAt cX1_inDoublesAt 6 (some .double), Cond.fieldLink RX1 9 "PartsDesk$Polynomial" "coefficients" "[J", Cond.methodLink RX2 150 yX2_withPartsOf, Cond.instanceMethod yX2_withPartsOf, Cond.selects RX2 yX2_withPartsOf yX2_withPartsOf, Cond.code yX2_withPartsOf cX2_withPartsOf 14 (some .double), Cond.methodLink RX2 109 yX2_many, Cond.instanceMethod yX2_many, Cond.selects RX2 yX2_many yX2_many, Cond.code yX2_many cX2_many 2 (some .int), Cond.fieldLink RX2 29 "PartsDesk" "often" "[I"]
def wsX2_byParts_r2 : List Cond := [Cond.methodLink RX2 105 yX2_isPossibleRoot, Cond.static yX2_isPossibleRoot, Cond.code yX2_isPossibleRoot cX2_isPossibleRoot 1 (some .boolean), Cond.methodLink RX2 118 yX2_partAbove, Cond.instanceMethod yX2_partAbove, Cond.selects RX2 yX2_partAbove yX2_partAbove, Cond.code yX2_partAbove cX2_partAbove 4 (some .long), Cond.fieldLink RX2 33 "PartsDesk" "partsAbove" "[J", Cond.methodLink RX2 158 yX2_placeOfPart, Cond.static yX2_placeOfPart, Cond.code yX2_placeOfPart cX2_placeOfPart 3 (some .int), Cond.methodLink RX2 122 yX2_partBelow, Cond.instanceMethod yX2_partBelow, Cond.selects RX2 yX2_partBelow yX2_partBelow, Cond.code yX2_partBelow cX2_partBelow 4 (some .long), Cond.fieldLink RX2 37 "PartsDesk" "partsBelow" "[J"]
def wsX2_byParts : List Cond := .code yX2_byParts cX2_byParts 6 (some .double) :: ((wsX2_byParts_r1 ++ wsX2_byParts_r2) ++ wsX20 ++ wsX10 ++ (vx_atS RX2 70 "java/lang/IllegalArgumentException" ["java/lang/RuntimeException", "java/lang/Exception"]).filter goodWord)
def wsX3_init : List Cond := .code yX3_init cX3_init 1 none :: ([.methodLink RX3 1 objectInit, .instanceMethod objectInit, .code objectInit ⟨#[0xb1]⟩ 1 none, .arrayClass .char, .fieldLink RX3 7 "PartsDeskModel" "draft" "[C", .arrayClass .long, .fieldLink RX3 13 "PartsDeskModel" "top" "[J", .fieldLink RX3 17 "PartsDeskModel" "low" "[J", .fieldLink RX3 20 "PartsDeskModel" "quotient" "[J", .fieldLink RX3 23 "PartsDeskModel" "degree" "I", .arrayClass .int, .fieldLink RX3 27 "PartsDeskModel" "many" "[I", .fieldLink RX3 31 "PartsDeskModel" "fresh" "[I", .fieldLink RX3 34 "PartsDeskModel" "near" "[J", .fieldLink RX3 37 "PartsDeskModel" "rest" "[J", .fieldLink RX3 40 "PartsDeskModel" "row" "[J", .fieldLink RX3 43 "PartsDeskModel" "read" "[J"] ++ wsX30)
def wsX3_thrown : List Cond := .code yX3_thrown cX3_thrown 1 (some .int) :: ([.fieldLink RX3 46 "PartsDeskModel" "fault" "I"] ++ wsX30)
def wsX3_fails : List Cond := .code yX3_fails cX3_fails 2 (some .int) :: ([.fieldLink RX3 46 "PartsDeskModel" "fault" "I"] ++ wsX30)
def wsX3_write : List Cond := .code yX3_write cX3_write 2 (some .boolean) :: ([.fieldLink RX3 46 "PartsDeskModel" "fault" "I", .fieldLink RX3 49 "PartsDeskModel" "drafted" "I", .fieldLink RX3 7 "PartsDeskModel" "draft" "[C"] ++ wsX30)
def wsX3_look : List Cond := .code yX3_look cX3_look 1 (some .char) :: ([.fieldLink RX3 52 "PartsDeskModel" "at" "I", .fieldLink RX3 49 "PartsDeskModel" "drafted" "I", .fieldLink RX3 7 "PartsDeskModel" "draft" "[C"] ++ wsX30)
def wsX3_pass : List Cond := .code yX3_pass cX3_pass 3 (some .boolean) :: ([.fieldLink RX3 52 "PartsDeskModel" "at" "I", .methodLink RX3 55 yX3_look, .instanceMethod yX3_look, .selects RX3 yX3_look yX3_look, .initialized RX3, .code yX3_look cX3_look 1 (some .char), .fieldLink RX3 49 "PartsDeskModel" "drafted" "I", .fieldLink RX3 7 "PartsDeskModel" "draft" "[C"] ++ wsX30)
def wsX3_isDigit : List Cond := .code yX3_isDigit cX3_isDigit 1 (some .boolean) :: ([.methodLink RX3 55 yX3_look, .instanceMethod yX3_look, .selects RX3 yX3_look yX3_look, .initialized RX3, .code yX3_look cX3_look 1 (some .char), .fieldLink RX3 52 "PartsDeskModel" "at" "I", .fieldLink RX3 49 "PartsDeskModel" "drafted" "I", .fieldLink RX3 7 "PartsDeskModel" "draft" "[C"] ++ wsX30)
def wsX3_digit : List Cond := .code yX3_digit cX3_digit 1 (some .int) :: ([.fieldLink RX3 52 "PartsDeskModel" "at" "I", .fieldLink RX3 7 "PartsDeskModel" "draft" "[C"] ++ wsX30)
def wsX3_readTerm : List Cond := .code yX3_readTerm cX3_readTerm 8 (some .boolean) :: ([.constantLong RX3 67 (10), .fieldLink RX3 43 "PartsDeskModel" "read" "[J", .methodLink RX3 59 yX3_isDigit, .instanceMethod yX3_isDigit, .selects RX3 yX3_isDigit yX3_isDigit, .initialized RX3, .code yX3_isDigit cX3_isDigit 1 (some .boolean), .methodLink RX3 55 yX3_look, .instanceMethod yX3_look, .selects RX3 yX3_look yX3_look, .code yX3_look cX3_look 1 (some .char), .fieldLink RX3 52 "PartsDeskModel" "at" "I", .fieldLink RX3 49 "PartsDeskModel" "drafted" "I", .fieldLink RX3 7 "PartsDeskModel" "draft" "[C", .methodLink RX3 63 yX3_digit, .instanceMethod yX3_digit, .selects RX3 yX3_digit yX3_digit, .code yX3_digit cX3_digit 1 (some .int), .methodLink RX3 69 yX3_pass, .instanceMethod yX3_pass, .selects RX3 yX3_pass yX3_pass, .code yX3_pass cX3_pass 3 (some .boolean)] ++ wsX30)
def wsX3_readPolynomial_r1 : List Cond := [Cond.fieldLink RX3 52 "PartsDeskModel" "at" "I", Cond.fieldLink RX3 43 "PartsDeskModel" "read" "[J", Cond.constantLong RX3 73 (-1), Cond.fieldLink RX3 49 "PartsDeskModel" "drafted" "I", Cond.methodLink RX3 69 yX3_pass, Cond.instanceMethod yX3_pass, Cond.selects RX3 yX3_pass yX3_pass, Cond.initialized RX3, Cond.code yX3_pass cX3_pass 3 (some .boolean), Cond.methodLink RX3 55 yX3_look, Cond.instanceMethod yX3_look, Cond.selects RX3 yX3_look yX3_look, Cond.code yX3_look cX3_look 1 (some .char), Cond.fieldLink RX3 7 "PartsDeskModel" "draft" "[C", Cond.methodLink RX3 75 yX3_readTerm, Cond.instanceMethod yX3_readTerm, Cond.selects RX3 yX3_readTerm yX3_readTerm, Cond.code yX3_readTerm cX3_readTerm 8 (some .boolean), Cond.constantLong RX3 67 (10), Cond.methodLink RX3 59 yX3_isDigit, Cond.instanceMethod yX3_isDigit, Cond.selects RX3 yX3_isDigit yX3_isDigit, Cond.code yX3_isDigit cX3_isDigit 1 (some .boolean), Cond.methodLink RX3 63 yX3_digit]
def wsX3_readPolynomial_r2 : List Cond := [Cond.instanceMethod yX3_digit, Cond.selects RX3 yX3_digit yX3_digit, Cond.code yX3_digit cX3_digit 1 (some .int)]
def wsX3_readPolynomial : List Cond := .code yX3_readPolynomial cX3_readPolynomial 3 (some .boolean) :: ((wsX3_readPolynomial_r1 ++ wsX3_readPolynomial_r2) ++ wsX30)
def wsX3_numerator_r1 : List Cond := [Cond.fieldLink RX3 46 "PartsDeskModel" "fault" "I", Cond.fieldLink RX3 49 "PartsDeskModel" "drafted" "I", Cond.fieldLink RX3 13 "PartsDeskModel" "top" "[J", Cond.fieldLink RX3 43 "PartsDeskModel" "read" "[J", Cond.methodLink RX3 79 yX3_readPolynomial, Cond.instanceMethod yX3_readPolynomial, Cond.selects RX3 yX3_readPolynomial yX3_readPolynomial, Cond.initialized RX3, Cond.code yX3_readPolynomial cX3_readPolynomial 3 (some .boolean), Cond.fieldLink RX3 52 "PartsDeskModel" "at" "I", Cond.constantLong RX3 73 (-1), Cond.methodLink RX3 69 yX3_pass, Cond.instanceMethod yX3_pass, Cond.selects RX3 yX3_pass yX3_pass, Cond.code yX3_pass cX3_pass 3 (some .boolean), Cond.methodLink RX3 55 yX3_look, Cond.instanceMethod yX3_look, Cond.selects RX3 yX3_look yX3_look, Cond.code yX3_look cX3_look 1 (some .char), Cond.fieldLink RX3 7 "PartsDeskModel" "draft" "[C", Cond.methodLink RX3 75 yX3_readTerm, Cond.instanceMethod yX3_readTerm, Cond.selects RX3 yX3_readTerm yX3_readTerm, Cond.code yX3_readTerm cX3_readTerm 8 (some .boolean)]
def wsX3_numerator_r2 : List Cond := [Cond.constantLong RX3 67 (10), Cond.methodLink RX3 59 yX3_isDigit, Cond.instanceMethod yX3_isDigit, Cond.selects RX3 yX3_isDigit yX3_isDigit, Cond.code yX3_isDigit cX3_isDigit 1 (some .boolean), Cond.methodLink RX3 63 yX3_digit, Cond.instanceMethod yX3_digit, Cond.selects RX3 yX3_digit yX3_digit, Cond.code yX3_digit cX3_digit 1 (some .int), Cond.methodLink RX3 82 yX3_fails, Cond.instanceMethod yX3_fails, Cond.selects RX3 yX3_fails yX3_fails, Cond.code yX3_fails cX3_fails 2 (some .int)]
def wsX3_numerator : List Cond := .code yX3_numerator cX3_numerator 4 (some .int) :: ((wsX3_numerator_r1 ++ wsX3_numerator_r2) ++ wsX30)
def wsX3_readFactor : List Cond := .code yX3_readFactor cX3_readFactor 4 (some .boolean) :: ([.fieldLink RX3 31 "PartsDeskModel" "fresh" "[I", .methodLink RX3 69 yX3_pass, .instanceMethod yX3_pass, .selects RX3 yX3_pass yX3_pass, .initialized RX3, .code yX3_pass cX3_pass 3 (some .boolean), .fieldLink RX3 52 "PartsDeskModel" "at" "I", .methodLink RX3 55 yX3_look, .instanceMethod yX3_look, .selects RX3 yX3_look yX3_look, .code yX3_look cX3_look 1 (some .char), .fieldLink RX3 49 "PartsDeskModel" "drafted" "I", .fieldLink RX3 7 "PartsDeskModel" "draft" "[C", .methodLink RX3 63 yX3_digit, .instanceMethod yX3_digit, .selects RX3 yX3_digit yX3_digit, .code yX3_digit cX3_digit 1 (some .int)] ++ wsX30)
def wsX3_times : List Cond := .code yX3_times cX3_times 3 none :: ([])
def wsX3_denominator_r1 : List Cond := [Cond.fieldLink RX3 46 "PartsDeskModel" "fault" "I", Cond.fieldLink RX3 52 "PartsDeskModel" "at" "I", Cond.fieldLink RX3 31 "PartsDeskModel" "fresh" "[I", Cond.fieldLink RX3 49 "PartsDeskModel" "drafted" "I", Cond.fieldLink RX3 23 "PartsDeskModel" "degree" "I", Cond.fieldLink RX3 17 "PartsDeskModel" "low" "[J", Cond.fieldLink RX3 27 "PartsDeskModel" "many" "[I", Cond.methodLink RX3 86 yX3_readFactor, Cond.instanceMethod yX3_readFactor, Cond.selects RX3 yX3_readFactor yX3_readFactor, Cond.initialized RX3, Cond.code yX3_readFactor cX3_readFactor 4 (some .boolean), Cond.methodLink RX3 69 yX3_pass, Cond.instanceMethod yX3_pass, Cond.selects RX3 yX3_pass yX3_pass, Cond.code yX3_pass cX3_pass 3 (some .boolean), Cond.methodLink RX3 55 yX3_look, Cond.instanceMethod yX3_look, Cond.selects RX3 yX3_look yX3_look, Cond.code yX3_look cX3_look 1 (some .char), Cond.fieldLink RX3 7 "PartsDeskModel" "draft" "[C", Cond.methodLink RX3 63 yX3_digit, Cond.instanceMethod yX3_digit, Cond.selects RX3 yX3_digit yX3_digit]
def wsX3_denominator_r2 : List Cond := [Cond.code yX3_digit cX3_digit 1 (some .int), Cond.methodLink RX3 82 yX3_fails, Cond.instanceMethod yX3_fails, Cond.selects RX3 yX3_fails yX3_fails, Cond.code yX3_fails cX3_fails 2 (some .int), Cond.methodLink RX3 89 yX3_times, Cond.static yX3_times, Cond.code yX3_times cX3_times 3 none]
def wsX3_denominator : List Cond := .code yX3_denominator cX3_denominator 5 (some .int) :: ((wsX3_denominator_r1 ++ wsX3_denominator_r2) ++ wsX30)
def wsX3_divide : List Cond := .code yX3_divide cX3_divide 5 none :: ([.fieldLink RX3 34 "PartsDeskModel" "near" "[J", .fieldLink RX3 13 "PartsDeskModel" "top" "[J", .fieldLink RX3 20 "PartsDeskModel" "quotient" "[J", .fieldLink RX3 23 "PartsDeskModel" "degree" "I", .fieldLink RX3 17 "PartsDeskModel" "low" "[J"] ++ wsX30)
def wsX3_coefficient : List Cond := .code yX3_coefficient cX3_coefficient 3 (some .long) :: ([.fieldLink RX3 46 "PartsDeskModel" "fault" "I", .fieldLink RX3 13 "PartsDeskModel" "top" "[J", .fieldLink RX3 17 "PartsDeskModel" "low" "[J", .fieldLink RX3 20 "PartsDeskModel" "quotient" "[J", .methodLink RX3 93 yX3_divide, .instanceMethod yX3_divide, .selects RX3 yX3_divide yX3_divide, .initialized RX3, .code yX3_divide cX3_divide 5 none, .fieldLink RX3 34 "PartsDeskModel" "near" "[J", .fieldLink RX3 23 "PartsDeskModel" "degree" "I"] ++ wsX30)
def wsX3_many : List Cond := .code yX3_many cX3_many 2 (some .int) :: ([.fieldLink RX3 46 "PartsDeskModel" "fault" "I", .fieldLink RX3 27 "PartsDeskModel" "many" "[I"] ++ wsX30)
def wsX3_around : List Cond := .code yX3_around cX3_around 4 none :: ([.fieldLink RX3 34 "PartsDeskModel" "near" "[J", .fieldLink RX3 13 "PartsDeskModel" "top" "[J", .fieldLink RX3 37 "PartsDeskModel" "rest" "[J", .fieldLink RX3 27 "PartsDeskModel" "many" "[I", .methodLink RX3 89 yX3_times, .static yX3_times, .initialized RX3, .code yX3_times cX3_times 3 none] ++ wsX30)
def wsX3_tell : List Cond := .code yX3_tell cX3_tell 11 none :: ([.fieldLink RX3 96 "PartsDeskModel" "over" "J", .fieldLink RX3 100 "PartsDeskModel" "under" "J"] ++ wsX30)
def wsX3_work : List Cond := .code yX3_work cX3_work 11 none :: ([.fieldLink RX3 27 "PartsDeskModel" "many" "[I", .fieldLink RX3 34 "PartsDeskModel" "near" "[J", .fieldLink RX3 37 "PartsDeskModel" "rest" "[J", .fieldLink RX3 40 "PartsDeskModel" "row" "[J", .methodLink RX3 103 yX3_around, .instanceMethod yX3_around, .selects RX3 yX3_around yX3_around, .initialized RX3, .code yX3_around cX3_around 4 none, .fieldLink RX3 13 "PartsDeskModel" "top" "[J", .methodLink RX3 89 yX3_times, .static yX3_times, .code yX3_times cX3_times 3 none, .methodLink RX3 107 yX3_tell, .instanceMethod yX3_tell, .selects RX3 yX3_tell yX3_tell, .code yX3_tell cX3_tell 11 none, .fieldLink RX3 96 "PartsDeskModel" "over" "J", .fieldLink RX3 100 "PartsDeskModel" "under" "J"] ++ wsX30)
def wsX3_isPart : List Cond := .code yX3_isPart cX3_isPart 3 (some .boolean) :: ([.methodLink RX3 111 yX3_many, .instanceMethod yX3_many, .selects RX3 yX3_many yX3_many, .initialized RX3, .code yX3_many cX3_many 2 (some .int), .fieldLink RX3 46 "PartsDeskModel" "fault" "I", .fieldLink RX3 27 "PartsDeskModel" "many" "[I"] ++ wsX30)
def wsX3_part_r1 : List Cond := [Cond.fieldLink RX3 46 "PartsDeskModel" "fault" "I", Cond.fieldLink RX3 96 "PartsDeskModel" "over" "J", Cond.fieldLink RX3 100 "PartsDeskModel" "under" "J", Cond.methodLink RX3 113 yX3_isPart, Cond.instanceMethod yX3_isPart, Cond.selects RX3 yX3_isPart yX3_isPart, Cond.initialized RX3, Cond.code yX3_isPart cX3_isPart 3 (some .boolean), Cond.methodLink RX3 111 yX3_many, Cond.instanceMethod yX3_many, Cond.selects RX3 yX3_many yX3_many, Cond.code yX3_many cX3_many 2 (some .int), Cond.fieldLink RX3 27 "PartsDeskModel" "many" "[I", Cond.methodLink RX3 117 yX3_work, Cond.instanceMethod yX3_work, Cond.selects RX3 yX3_work yX3_work, Cond.code yX3_work cX3_work 11 none, Cond.fieldLink RX3 34 "PartsDeskModel" "near" "[J", Cond.fieldLink RX3 37 "PartsDeskModel" "rest" "[J", Cond.fieldLink RX3 40 "PartsDeskModel" "row" "[J", Cond.methodLink RX3 103 yX3_around, Cond.instanceMethod yX3_around, Cond.selects RX3 yX3_around yX3_around, Cond.code yX3_around cX3_around 4 none]
def wsX3_part_r2 : List Cond := [Cond.fieldLink RX3 13 "PartsDeskModel" "top" "[J", Cond.methodLink RX3 89 yX3_times, Cond.static yX3_times, Cond.code yX3_times cX3_times 3 none, Cond.methodLink RX3 107 yX3_tell, Cond.instanceMethod yX3_tell, Cond.selects RX3 yX3_tell yX3_tell, Cond.code yX3_tell cX3_tell 11 none]
def wsX3_part : List Cond := .code yX3_part cX3_part 5 (some .long) :: ((wsX3_part_r1 ++ wsX3_part_r2) ++ wsX30)
def wsX3_integral_r1 : List Cond := [Cond.fieldLink RX3 46 "PartsDeskModel" "fault" "I", Cond.fieldLink RX3 20 "PartsDeskModel" "quotient" "[J", Cond.fieldLink RX3 96 "PartsDeskModel" "over" "J", Cond.fieldLink RX3 100 "PartsDeskModel" "under" "J", Cond.methodLink RX3 111 yX3_many, Cond.instanceMethod yX3_many, Cond.selects RX3 yX3_many yX3_many, Cond.initialized RX3, Cond.code yX3_many cX3_many 2 (some .int), Cond.fieldLink RX3 27 "PartsDeskModel" "many" "[I", Cond.methodLink RX3 93 yX3_divide, Cond.instanceMethod yX3_divide, Cond.selects RX3 yX3_divide yX3_divide, Cond.code yX3_divide cX3_divide 5 none, Cond.fieldLink RX3 34 "PartsDeskModel" "near" "[J", Cond.fieldLink RX3 13 "PartsDeskModel" "top" "[J", Cond.fieldLink RX3 23 "PartsDeskModel" "degree" "I", Cond.fieldLink RX3 17 "PartsDeskModel" "low" "[J", Cond.methodLink RX3 107 yX3_tell, Cond.instanceMethod yX3_tell, Cond.selects RX3 yX3_tell yX3_tell, Cond.code yX3_tell cX3_tell 11 none, Cond.methodLink RX3 117 yX3_work, Cond.instanceMethod yX3_work]
def wsX3_integral_r2 : List Cond := [Cond.selects RX3 yX3_work yX3_work, Cond.code yX3_work cX3_work 11 none, Cond.fieldLink RX3 37 "PartsDeskModel" "rest" "[J", Cond.fieldLink RX3 40 "PartsDeskModel" "row" "[J", Cond.methodLink RX3 103 yX3_around, Cond.instanceMethod yX3_around, Cond.selects RX3 yX3_around yX3_around, Cond.code yX3_around cX3_around 4 none, Cond.methodLink RX3 89 yX3_times, Cond.static yX3_times, Cond.code yX3_times cX3_times 3 none]
def wsX3_integral : List Cond := .code yX3_integral cX3_integral 6 (some .long) :: ((wsX3_integral_r1 ++ wsX3_integral_r2) ++ wsX30)
def wsX3_valueOf : List Cond := .code yX3_valueOf cX3_valueOf 7 (some .long) :: ([])
def wsX3_value : List Cond := .code yX3_value cX3_value 4 (some .long) :: ([.fieldLink RX3 46 "PartsDeskModel" "fault" "I", .fieldLink RX3 13 "PartsDeskModel" "top" "[J", .fieldLink RX3 17 "PartsDeskModel" "low" "[J", .fieldLink RX3 96 "PartsDeskModel" "over" "J", .fieldLink RX3 100 "PartsDeskModel" "under" "J", .methodLink RX3 111 yX3_many, .instanceMethod yX3_many, .selects RX3 yX3_many yX3_many, .initialized RX3, .code yX3_many cX3_many 2 (some .int), .fieldLink RX3 27 "PartsDeskModel" "many" "[I", .methodLink RX3 121 yX3_valueOf, .static yX3_valueOf, .code yX3_valueOf cX3_valueOf 7 (some .long), .methodLink RX3 107 yX3_tell, .instanceMethod yX3_tell, .selects RX3 yX3_tell yX3_tell, .code yX3_tell cX3_tell 11 none] ++ wsX30)
def wsX3_valueAt : List Cond := .code yX3_valueAt cX3_valueAt 7 (some .double) :: ([])
def wsX3_isPlace : List Cond := .code yX3_isPlace cX3_isPlace 3 (some .boolean) :: ([.constantDouble RX3 125 (13860109328209412096), .constantDouble RX3 127 (4636737291354636288)])
def wsX3_at : List Cond := .code yX3_at cX3_at 5 (some .double) :: ([.fieldLink RX3 46 "PartsDeskModel" "fault" "I", .fieldLink RX3 17 "PartsDeskModel" "low" "[J", .fieldLink RX3 13 "PartsDeskModel" "top" "[J", .methodLink RX3 129 yX3_isPlace, .instanceMethod yX3_isPlace, .selects RX3 yX3_isPlace yX3_isPlace, .initialized RX3, .code yX3_isPlace cX3_isPlace 3 (some .boolean), .constantDouble RX3 125 (13860109328209412096), .constantDouble RX3 127 (4636737291354636288), .methodLink RX3 133 yX3_valueAt, .static yX3_valueAt, .code yX3_valueAt cX3_valueAt 7 (some .double)] ++ wsX30)
def wsX3_byParts_r1 : List Cond := [Cond.fieldLink RX3 46 "PartsDeskModel" "fault" "I", Cond.fieldLink RX3 20 "PartsDeskModel" "quotient" "[J", Cond.fieldLink RX3 27 "PartsDeskModel" "many" "[I", Cond.fieldLink RX3 96 "PartsDeskModel" "over" "J", Cond.fieldLink RX3 100 "PartsDeskModel" "under" "J", Cond.methodLink RX3 129 yX3_isPlace, Cond.instanceMethod yX3_isPlace, Cond.selects RX3 yX3_isPlace yX3_isPlace, Cond.initialized RX3, Cond.code yX3_isPlace cX3_isPlace 3 (some .boolean), Cond.constantDouble RX3 125 (13860109328209412096), Cond.constantDouble RX3 127 (4636737291354636288), Cond.methodLink RX3 93 yX3_divide, Cond.instanceMethod yX3_divide, Cond.selects RX3 yX3_divide yX3_divide, Cond.code yX3_divide cX3_divide 5 none, Cond.fieldLink RX3 34 "PartsDeskModel" "near" "[J", Cond.fieldLink RX3 13 "PartsDeskModel" "top" "[J", Cond.fieldLink RX3 23 "PartsDeskModel" "degree" "I", Cond.fieldLink RX3 17 "PartsDeskModel" "low" "[J", Cond.methodLink RX3 133 yX3_valueAt, Cond.static yX3_valueAt, Cond.code yX3_valueAt cX3_valueAt 7 (some .double), Cond.methodLink RX3 117 yX3_work]
def wsX3_byParts_r2 : List Cond := [Cond.instanceMethod yX3_work, Cond.selects RX3 yX3_work yX3_work, Cond.code yX3_work cX3_work 11 none, Cond.fieldLink RX3 37 "PartsDeskModel" "rest" "[J", Cond.fieldLink RX3 40 "PartsDeskModel" "row" "[J", Cond.methodLink RX3 103 yX3_around, Cond.instanceMethod yX3_around, Cond.selects RX3 yX3_around yX3_around, Cond.code yX3_around cX3_around 4 none, Cond.methodLink RX3 89 yX3_times, Cond.static yX3_times, Cond.code yX3_times cX3_times 3 none, Cond.methodLink RX3 107 yX3_tell, Cond.instanceMethod yX3_tell, Cond.selects RX3 yX3_tell yX3_tell, Cond.code yX3_tell cX3_tell 11 none]
def wsX3_byParts : List Cond := .code yX3_byParts cX3_byParts 9 (some .double) :: ((wsX3_byParts_r1 ++ wsX3_byParts_r2) ++ wsX30)
def wsJ9_abs_067f4 : List Cond := .code yJ9_abs_067f4 cJ9_abs_067f4 2 (some .long) :: ([])
def wsL_numerator_r1 : List Cond := [Cond.classLink RL 13 "java/lang/IllegalArgumentException", Cond.methodLink RL 7 yX2_numerator, Cond.instanceMethod yX2_numerator, Cond.selects RX2 yX2_numerator yX2_numerator, Cond.initialized RX2, Cond.code yX2_numerator cX2_numerator 2 (some .int), Cond.classLink RX2 66 "java/lang/IllegalArgumentException", Cond.initialized "java/lang/IllegalArgumentException", Cond.fieldLink RX2 12 "PartsDesk" "draft" "LPartsDesk$Draft;", Cond.fieldLink RX2 19 "PartsDesk" "above" "LPartsDesk$Polynomial;", Cond.fieldLink RX2 40 "PartsDesk" "readTerms" "LPartsDesk$Polynomial;", Cond.methodLink RX2 59 yX2_readPolynomial, Cond.instanceMethod yX2_readPolynomial, Cond.selects RX2 yX2_readPolynomial yX2_readPolynomial, Cond.code yX2_readPolynomial cX2_readPolynomial 3 (some .boolean), Cond.methodLink RX2 202 yX1_becomeZero, Cond.instanceMethod yX1_becomeZero, Cond.selects RX1 yX1_becomeZero yX1_becomeZero, Cond.initialized RX1, Cond.code yX1_becomeZero cX1_becomeZero 1 none, Cond.fieldLink RX1 9 "PartsDesk$Polynomial" "coefficients" "[J", Cond.methodLink RX1 15 yJ7_fill_d0a16, Cond.static yJ7_fill_d0a16, Cond.initialized RJ7]
def wsL_numerator_r2 : List Cond := [Cond.code yJ7_fill_d0a16 cJ7_fill_d0a16 5 none, Cond.methodLink RX2 205 yX2_readTerm, Cond.instanceMethod yX2_readTerm, Cond.selects RX2 yX2_readTerm yX2_readTerm, Cond.code yX2_readTerm cX2_readTerm 7 (some .boolean), Cond.methodLink RX2 212 yX0_takes, Cond.instanceMethod yX0_takes, Cond.selects RX0 yX0_takes yX0_takes, Cond.initialized RX0, Cond.code yX0_takes cX0_takes 3 (some .boolean), Cond.fieldLink RX0 9 "PartsDesk$Draft" "characters" "[C", Cond.fieldLink RX0 19 "PartsDesk$Draft" "next" "I", Cond.methodLink RX0 22 yX0_isAtEnd, Cond.instanceMethod yX0_isAtEnd, Cond.selects RX0 yX0_isAtEnd yX0_isAtEnd, Cond.code yX0_isAtEnd cX0_isAtEnd 1 (some .boolean), Cond.fieldLink RX0 15 "PartsDesk$Draft" "length" "I", Cond.methodLink RX2 215 yX2_readNumber, Cond.instanceMethod yX2_readNumber, Cond.selects RX2 yX2_readNumber yX2_readNumber, Cond.code yX2_readNumber cX2_readNumber 3 (some .int), Cond.methodLink RX2 225 yX0_takeDigit, Cond.instanceMethod yX0_takeDigit, Cond.selects RX0 yX0_takeDigit yX0_takeDigit]
def wsL_numerator_r3 : List Cond := [Cond.code yX0_takeDigit cX0_takeDigit 4 (some .int), Cond.methodLink RX2 218 yX2_readPowerOfX, Cond.instanceMethod yX2_readPowerOfX, Cond.selects RX2 yX2_readPowerOfX yX2_readPowerOfX, Cond.code yX2_readPowerOfX cX2_readPowerOfX 1 (some .int), Cond.methodLink RX2 221 yX1_add, Cond.instanceMethod yX1_add, Cond.selects RX1 yX1_add yX1_add, Cond.code yX1_add cX1_add 4 none, Cond.methodLink RX2 209 yX0_isAtEnd, Cond.methodLink RX2 63 yX0_empty, Cond.instanceMethod yX0_empty, Cond.selects RX0 yX0_empty yX0_empty, Cond.code yX0_empty cX0_empty 1 none, Cond.methodLink RX2 73 yX1_become, Cond.instanceMethod yX1_become, Cond.selects RX1 yX1_become yX1_become, Cond.code yX1_become cX1_become 2 none, Cond.methodLink RX1 24 arraycopyName, Cond.native arraycopyName, Cond.static arraycopyName, Cond.initialized "java/lang/System", Cond.methodLink RX2 52 yX2_takeApart, Cond.instanceMethod yX2_takeApart]
def wsL_numerator_r4 : List Cond := [Cond.selects RX2 yX2_takeApart yX2_takeApart, Cond.code yX2_takeApart cX2_takeApart 4 none, Cond.fieldLink RX2 23 "PartsDesk" "below" "LPartsDesk$Polynomial;", Cond.fieldLink RX2 26 "PartsDesk" "quotient" "LPartsDesk$Polynomial;", Cond.fieldLink RX2 33 "PartsDesk" "partsAbove" "[J", Cond.fieldLink RX2 37 "PartsDesk" "partsBelow" "[J", Cond.methodLink RX2 172 yX1_becomeOne, Cond.instanceMethod yX1_becomeOne, Cond.selects RX1 yX1_becomeOne yX1_becomeOne, Cond.code yX1_becomeOne cX1_becomeOne 1 none, Cond.methodLink RX1 21 yX1_becomeZero, Cond.methodLink RX2 175 yJ7_fill_d0a16, Cond.methodLink RX2 109 yX2_many, Cond.instanceMethod yX2_many, Cond.selects RX2 yX2_many yX2_many, Cond.code yX2_many cX2_many 2 (some .int), Cond.fieldLink RX2 29 "PartsDesk" "often" "[I", Cond.methodLink RX2 105 yX2_isPossibleRoot, Cond.static yX2_isPossibleRoot, Cond.code yX2_isPossibleRoot cX2_isPossibleRoot 1 (some .boolean), Cond.methodLink RX2 181 yX1_multiplyByFactorOf, Cond.instanceMethod yX1_multiplyByFactorOf, Cond.selects RX1 yX1_multiplyByFactorOf yX1_multiplyByFactorOf, Cond.code yX1_multiplyByFactorOf cX1_multiplyByFactorOf 3 none]
def wsL_numerator_r5 : List Cond := [Cond.methodLink RX2 185 yX1_divideByFactorOf, Cond.instanceMethod yX1_divideByFactorOf, Cond.selects RX1 yX1_divideByFactorOf yX1_divideByFactorOf, Cond.code yX1_divideByFactorOf cX1_divideByFactorOf 7 (some .long), Cond.methodLink RX2 188 yX2_makePartsOf, Cond.instanceMethod yX2_makePartsOf, Cond.selects RX2 yX2_makePartsOf yX2_makePartsOf, Cond.code yX2_makePartsOf cX2_makePartsOf 9 none, Cond.fieldLink RX2 46 "PartsDesk" "rest" "LPartsDesk$Polynomial;", Cond.fieldLink RX2 49 "PartsDesk" "otherFactors" "LPartsDesk$Polynomial;", Cond.methodLink RX2 191 yX2_multiplyOtherFactors, Cond.instanceMethod yX2_multiplyOtherFactors, Cond.selects RX2 yX2_multiplyOtherFactors yX2_multiplyOtherFactors, Cond.code yX2_multiplyOtherFactors cX2_multiplyOtherFactors 5 none, Cond.methodLink RX2 194 yX2_keepPart, Cond.instanceMethod yX2_keepPart, Cond.selects RX2 yX2_keepPart yX2_keepPart, Cond.code yX2_keepPart cX2_keepPart 8 none, Cond.methodLink RX2 158 yX2_placeOfPart, Cond.static yX2_placeOfPart, Cond.code yX2_placeOfPart cX2_placeOfPart 3 (some .int), Cond.methodLink RX2 131 yX2_inLowestTerms, Cond.static yX2_inLowestTerms, Cond.code yX2_inLowestTerms cX2_inLowestTerms 9 (some .long)]
def wsL_numerator_r6 : List Cond := [Cond.methodLink RX2 162 yX2_commonDivisor, Cond.static yX2_commonDivisor, Cond.code yX2_commonDivisor cX2_commonDivisor 11 (some .long), Cond.methodLink RX2 166 Lib.MathLoose.abs_long.x, Cond.static Lib.MathLoose.abs_long.x, Cond.initialized "java/lang/Math", Cond.code Lib.MathLoose.abs_long.x Lib.MathLoose.abs_long.code 2 (some .long), Cond.methodLink RX2 198 yX1_mix, Cond.instanceMethod yX1_mix, Cond.selects RX1 yX1_mix yX1_mix, Cond.code yX1_mix cX1_mix 7 none, Cond.methodLink RX2 77 yX1_degree, Cond.instanceMethod yX1_degree, Cond.selects RX1 yX1_degree yX1_degree, Cond.code yX1_degree cX1_degree 2 (some .int)]
def wsL_numerator : List Cond := .codeWith yL_numerator cL_numerator 3 (some .int) [(0, 8, 11, 13)] :: ((wsL_numerator_r1 ++ (wsL_numerator_r2 ++ (wsL_numerator_r3 ++ (wsL_numerator_r4 ++ (wsL_numerator_r5 ++ wsL_numerator_r6))))) ++ wsX20 ++ wsX10 ++ wsX00 ++ (vx_atS RX2 70 "java/lang/IllegalArgumentException" ["java/lang/RuntimeException", "java/lang/Exception"]).filter goodWord)
def wsL_denominator_r1 : List Cond := [Cond.classLink RL 13 "java/lang/IllegalArgumentException", Cond.classLink RL 18 "java/lang/IllegalStateException", Cond.methodLink RL 15 yX2_denominator, Cond.instanceMethod yX2_denominator, Cond.selects RX2 yX2_denominator yX2_denominator, Cond.initialized RX2, Cond.code yX2_denominator cX2_denominator 2 (some .int), Cond.classLink RX2 66 "java/lang/IllegalArgumentException", Cond.initialized "java/lang/IllegalArgumentException", Cond.classLink RX2 90 "java/lang/IllegalStateException", Cond.initialized "java/lang/IllegalStateException", Cond.fieldLink RX2 12 "PartsDesk" "draft" "LPartsDesk$Draft;", Cond.fieldLink RX2 43 "PartsDesk" "readOften" "[I", Cond.fieldLink RX2 29 "PartsDesk" "often" "[I", Cond.methodLink RX2 95 arraycopyName, Cond.native arraycopyName, Cond.static arraycopyName, Cond.initialized "java/lang/System", Cond.fieldLink RX2 23 "PartsDesk" "below" "LPartsDesk$Polynomial;", Cond.methodLink RX2 81 yX2_readProduct, Cond.instanceMethod yX2_readProduct, Cond.selects RX2 yX2_readProduct yX2_readProduct, Cond.code yX2_readProduct cX2_readProduct 3 (some .boolean), Cond.methodLink RX2 228 yJ7_fill_53178]
def wsL_denominator_r2 : List Cond := [Cond.static yJ7_fill_53178, Cond.initialized RJ7, Cond.code yJ7_fill_53178 cJ7_fill_53178 4 none, Cond.methodLink RX2 231 yX2_readFactor, Cond.instanceMethod yX2_readFactor, Cond.selects RX2 yX2_readFactor yX2_readFactor, Cond.code yX2_readFactor cX2_readFactor 3 (some .boolean), Cond.methodLink RX2 212 yX0_takes, Cond.instanceMethod yX0_takes, Cond.selects RX0 yX0_takes yX0_takes, Cond.initialized RX0, Cond.code yX0_takes cX0_takes 3 (some .boolean), Cond.fieldLink RX0 9 "PartsDesk$Draft" "characters" "[C", Cond.fieldLink RX0 19 "PartsDesk$Draft" "next" "I", Cond.methodLink RX0 22 yX0_isAtEnd, Cond.instanceMethod yX0_isAtEnd, Cond.selects RX0 yX0_isAtEnd yX0_isAtEnd, Cond.code yX0_isAtEnd cX0_isAtEnd 1 (some .boolean), Cond.fieldLink RX0 15 "PartsDesk$Draft" "length" "I", Cond.methodLink RX2 234 yX2_readRoot, Cond.instanceMethod yX2_readRoot, Cond.selects RX2 yX2_readRoot yX2_readRoot, Cond.code yX2_readRoot cX2_readRoot 3 (some .int), Cond.methodLink RX2 225 yX0_takeDigit]
def wsL_denominator_r3 : List Cond := [Cond.instanceMethod yX0_takeDigit, Cond.selects RX0 yX0_takeDigit yX0_takeDigit, Cond.code yX0_takeDigit cX0_takeDigit 4 (some .int), Cond.methodLink RX2 105 yX2_isPossibleRoot, Cond.static yX2_isPossibleRoot, Cond.code yX2_isPossibleRoot cX2_isPossibleRoot 1 (some .boolean), Cond.methodLink RX2 209 yX0_isAtEnd, Cond.methodLink RX2 63 yX0_empty, Cond.instanceMethod yX0_empty, Cond.selects RX0 yX0_empty yX0_empty, Cond.code yX0_empty cX0_empty 1 none, Cond.methodLink RX2 86 yX2_sum, Cond.static yX2_sum, Cond.code yX2_sum cX2_sum 6 (some .int), Cond.methodLink RX2 52 yX2_takeApart, Cond.instanceMethod yX2_takeApart, Cond.selects RX2 yX2_takeApart yX2_takeApart, Cond.code yX2_takeApart cX2_takeApart 4 none, Cond.fieldLink RX2 26 "PartsDesk" "quotient" "LPartsDesk$Polynomial;", Cond.fieldLink RX2 19 "PartsDesk" "above" "LPartsDesk$Polynomial;", Cond.fieldLink RX2 33 "PartsDesk" "partsAbove" "[J", Cond.fieldLink RX2 37 "PartsDesk" "partsBelow" "[J", Cond.methodLink RX2 172 yX1_becomeOne, Cond.instanceMethod yX1_becomeOne]
def wsL_denominator_r4 : List Cond := [Cond.selects RX1 yX1_becomeOne yX1_becomeOne, Cond.initialized RX1, Cond.code yX1_becomeOne cX1_becomeOne 1 none, Cond.fieldLink RX1 9 "PartsDesk$Polynomial" "coefficients" "[J", Cond.methodLink RX1 21 yX1_becomeZero, Cond.instanceMethod yX1_becomeZero, Cond.selects RX1 yX1_becomeZero yX1_becomeZero, Cond.code yX1_becomeZero cX1_becomeZero 1 none, Cond.methodLink RX1 15 yJ7_fill_d0a16, Cond.static yJ7_fill_d0a16, Cond.code yJ7_fill_d0a16 cJ7_fill_d0a16 5 none, Cond.methodLink RX2 73 yX1_become, Cond.instanceMethod yX1_become, Cond.selects RX1 yX1_become yX1_become, Cond.code yX1_become cX1_become 2 none, Cond.methodLink RX1 24 arraycopyName, Cond.methodLink RX2 175 yJ7_fill_d0a16, Cond.methodLink RX2 109 yX2_many, Cond.instanceMethod yX2_many, Cond.selects RX2 yX2_many yX2_many, Cond.code yX2_many cX2_many 2 (some .int), Cond.methodLink RX2 181 yX1_multiplyByFactorOf, Cond.instanceMethod yX1_multiplyByFactorOf, Cond.selects RX1 yX1_multiplyByFactorOf yX1_multiplyByFactorOf]
def wsL_denominator_r5 : List Cond := [Cond.code yX1_multiplyByFactorOf cX1_multiplyByFactorOf 3 none, Cond.methodLink RX2 185 yX1_divideByFactorOf, Cond.instanceMethod yX1_divideByFactorOf, Cond.selects RX1 yX1_divideByFactorOf yX1_divideByFactorOf, Cond.code yX1_divideByFactorOf cX1_divideByFactorOf 7 (some .long), Cond.methodLink RX2 188 yX2_makePartsOf, Cond.instanceMethod yX2_makePartsOf, Cond.selects RX2 yX2_makePartsOf yX2_makePartsOf, Cond.code yX2_makePartsOf cX2_makePartsOf 9 none, Cond.fieldLink RX2 46 "PartsDesk" "rest" "LPartsDesk$Polynomial;", Cond.fieldLink RX2 49 "PartsDesk" "otherFactors" "LPartsDesk$Polynomial;", Cond.methodLink RX2 191 yX2_multiplyOtherFactors, Cond.instanceMethod yX2_multiplyOtherFactors, Cond.selects RX2 yX2_multiplyOtherFactors yX2_multiplyOtherFactors, Cond.code yX2_multiplyOtherFactors cX2_multiplyOtherFactors 5 none, Cond.methodLink RX2 194 yX2_keepPart, Cond.instanceMethod yX2_keepPart, Cond.selects RX2 yX2_keepPart yX2_keepPart, Cond.code yX2_keepPart cX2_keepPart 8 none, Cond.methodLink RX2 158 yX2_placeOfPart, Cond.static yX2_placeOfPart, Cond.code yX2_placeOfPart cX2_placeOfPart 3 (some .int), Cond.methodLink RX2 131 yX2_inLowestTerms, Cond.static yX2_inLowestTerms]
def wsL_denominator_r6 : List Cond := [Cond.code yX2_inLowestTerms cX2_inLowestTerms 9 (some .long), Cond.methodLink RX2 162 yX2_commonDivisor, Cond.static yX2_commonDivisor, Cond.code yX2_commonDivisor cX2_commonDivisor 11 (some .long), Cond.methodLink RX2 166 Lib.MathLoose.abs_long.x, Cond.static Lib.MathLoose.abs_long.x, Cond.initialized "java/lang/Math", Cond.code Lib.MathLoose.abs_long.x Lib.MathLoose.abs_long.code 2 (some .long), Cond.methodLink RX2 198 yX1_mix, Cond.instanceMethod yX1_mix, Cond.selects RX1 yX1_mix yX1_mix, Cond.code yX1_mix cX1_mix 7 none, Cond.methodLink RX2 77 yX1_degree, Cond.instanceMethod yX1_degree, Cond.selects RX1 yX1_degree yX1_degree, Cond.code yX1_degree cX1_degree 2 (some .int)]
def wsL_denominator : List Cond := .codeWith yL_denominator cL_denominator 3 (some .int) [(0, 8, 11, 13), (0, 8, 14, 18)] :: ((wsL_denominator_r1 ++ (wsL_denominator_r2 ++ (wsL_denominator_r3 ++ (wsL_denominator_r4 ++ (wsL_denominator_r5 ++ wsL_denominator_r6))))) ++ wsX20 ++ wsX00 ++ wsX10 ++ (vx_atS RX2 70 "java/lang/IllegalArgumentException" ["java/lang/RuntimeException", "java/lang/Exception"]).filter goodWord ++ (vx_atS RX2 94 "java/lang/IllegalStateException" ["java/lang/RuntimeException", "java/lang/Exception"]).filter goodWord)
def wsL_part_r1 : List Cond := [Cond.classLink RL 13 "java/lang/IllegalArgumentException", Cond.methodLink RL 20 yX2_part, Cond.instanceMethod yX2_part, Cond.selects RX2 yX2_part yX2_part, Cond.initialized RX2, Cond.code yX2_part cX2_part 4 (some .long), Cond.classLink RX2 66 "java/lang/IllegalArgumentException", Cond.initialized "java/lang/IllegalArgumentException", Cond.methodLink RX2 109 yX2_many, Cond.instanceMethod yX2_many, Cond.selects RX2 yX2_many yX2_many, Cond.code yX2_many cX2_many 2 (some .int), Cond.fieldLink RX2 29 "PartsDesk" "often" "[I", Cond.methodLink RX2 105 yX2_isPossibleRoot, Cond.static yX2_isPossibleRoot, Cond.code yX2_isPossibleRoot cX2_isPossibleRoot 1 (some .boolean), Cond.methodLink RX2 113 yX2_isSide, Cond.static yX2_isSide, Cond.code yX2_isSide cX2_isSide 1 (some .boolean), Cond.methodLink RX2 118 yX2_partAbove, Cond.instanceMethod yX2_partAbove, Cond.selects RX2 yX2_partAbove yX2_partAbove, Cond.code yX2_partAbove cX2_partAbove 4 (some .long), Cond.fieldLink RX2 33 "PartsDesk" "partsAbove" "[J"]
def wsL_part_r2 : List Cond := [Cond.methodLink RX2 158 yX2_placeOfPart, Cond.static yX2_placeOfPart, Cond.code yX2_placeOfPart cX2_placeOfPart 3 (some .int), Cond.methodLink RX2 122 yX2_partBelow, Cond.instanceMethod yX2_partBelow, Cond.selects RX2 yX2_partBelow yX2_partBelow, Cond.code yX2_partBelow cX2_partBelow 4 (some .long), Cond.fieldLink RX2 37 "PartsDesk" "partsBelow" "[J"]
def wsL_part : List Cond := .codeWith yL_part cL_part 6 (some .int) [(0, 11, 14, 13)] :: ((wsL_part_r1 ++ wsL_part_r2) ++ wsX20 ++ (vx_atS RX2 70 "java/lang/IllegalArgumentException" ["java/lang/RuntimeException", "java/lang/Exception"]).filter goodWord)
def wsL_integral_r1 : List Cond := [Cond.classLink RL 13 "java/lang/IllegalArgumentException", Cond.methodLink RL 24 yX2_integral, Cond.instanceMethod yX2_integral, Cond.selects RX2 yX2_integral yX2_integral, Cond.initialized RX2, Cond.code yX2_integral cX2_integral 4 (some .long), Cond.classLink RX2 66 "java/lang/IllegalArgumentException", Cond.initialized "java/lang/IllegalArgumentException", Cond.fieldLink RX2 26 "PartsDesk" "quotient" "LPartsDesk$Polynomial;", Cond.methodLink RX2 125 yX2_isInIntegral, Cond.instanceMethod yX2_isInIntegral, Cond.selects RX2 yX2_isInIntegral yX2_isInIntegral, Cond.code yX2_isInIntegral cX2_isInIntegral 3 (some .boolean), Cond.methodLink RX2 109 yX2_many, Cond.instanceMethod yX2_many, Cond.selects RX2 yX2_many yX2_many, Cond.code yX2_many cX2_many 2 (some .int), Cond.fieldLink RX2 29 "PartsDesk" "often" "[I", Cond.methodLink RX2 105 yX2_isPossibleRoot, Cond.static yX2_isPossibleRoot, Cond.code yX2_isPossibleRoot cX2_isPossibleRoot 1 (some .boolean), Cond.methodLink RX2 113 yX2_isSide, Cond.static yX2_isSide, Cond.code yX2_isSide cX2_isSide 1 (some .boolean)]
def wsL_integral_r2 : List Cond := [Cond.methodLink RX2 101 yX1_get, Cond.instanceMethod yX1_get, Cond.selects RX1 yX1_get yX1_get, Cond.initialized RX1, Cond.code yX1_get cX1_get 2 (some .long), Cond.fieldLink RX1 9 "PartsDesk$Polynomial" "coefficients" "[J", Cond.methodLink RX2 131 yX2_inLowestTerms, Cond.static yX2_inLowestTerms, Cond.code yX2_inLowestTerms cX2_inLowestTerms 9 (some .long), Cond.methodLink RX2 162 yX2_commonDivisor, Cond.static yX2_commonDivisor, Cond.code yX2_commonDivisor cX2_commonDivisor 11 (some .long), Cond.methodLink RX2 166 Lib.MathLoose.abs_long.x, Cond.static Lib.MathLoose.abs_long.x, Cond.initialized "java/lang/Math", Cond.code Lib.MathLoose.abs_long.x Lib.MathLoose.abs_long.code 2 (some .long), Cond.methodLink RX2 118 yX2_partAbove, Cond.instanceMethod yX2_partAbove, Cond.selects RX2 yX2_partAbove yX2_partAbove, Cond.code yX2_partAbove cX2_partAbove 4 (some .long), Cond.fieldLink RX2 33 "PartsDesk" "partsAbove" "[J", Cond.methodLink RX2 158 yX2_placeOfPart, Cond.static yX2_placeOfPart, Cond.code yX2_placeOfPart cX2_placeOfPart 3 (some .int)]
def wsL_integral_r3 : List Cond := [Cond.methodLink RX2 122 yX2_partBelow, Cond.instanceMethod yX2_partBelow, Cond.selects RX2 yX2_partBelow yX2_partBelow, Cond.code yX2_partBelow cX2_partBelow 4 (some .long), Cond.fieldLink RX2 37 "PartsDesk" "partsBelow" "[J"]
def wsL_integral : List Cond := .codeWith yL_integral cL_integral 6 (some .int) [(0, 11, 14, 13)] :: ((wsL_integral_r1 ++ (wsL_integral_r2 ++ wsL_integral_r3)) ++ wsX20 ++ wsX10 ++ (vx_atS RX2 70 "java/lang/IllegalArgumentException" ["java/lang/RuntimeException", "java/lang/Exception"]).filter goodWord)
def wsL_value_r1 : List Cond := [Cond.classLink RL 13 "java/lang/IllegalArgumentException", Cond.methodLink RL 27 yX2_value, Cond.instanceMethod yX2_value, Cond.selects RX2 yX2_value yX2_value, Cond.initialized RX2, Cond.code yX2_value cX2_value 3 (some .long), Cond.classLink RX2 66 "java/lang/IllegalArgumentException", Cond.initialized "java/lang/IllegalArgumentException", Cond.fieldLink RX2 19 "PartsDesk" "above" "LPartsDesk$Polynomial;", Cond.fieldLink RX2 23 "PartsDesk" "below" "LPartsDesk$Polynomial;", Cond.methodLink RX2 109 yX2_many, Cond.instanceMethod yX2_many, Cond.selects RX2 yX2_many yX2_many, Cond.code yX2_many cX2_many 2 (some .int), Cond.fieldLink RX2 29 "PartsDesk" "often" "[I", Cond.methodLink RX2 105 yX2_isPossibleRoot, Cond.static yX2_isPossibleRoot, Cond.code yX2_isPossibleRoot cX2_isPossibleRoot 1 (some .boolean), Cond.methodLink RX2 113 yX2_isSide, Cond.static yX2_isSide, Cond.code yX2_isSide cX2_isSide 1 (some .boolean), Cond.methodLink RX2 137 yX1_exactlyAt, Cond.instanceMethod yX1_exactlyAt, Cond.selects RX1 yX1_exactlyAt yX1_exactlyAt]
def wsL_value_r2 : List Cond := [Cond.initialized RX1, Cond.code yX1_exactlyAt cX1_exactlyAt 5 (some .long), Cond.fieldLink RX1 9 "PartsDesk$Polynomial" "coefficients" "[J", Cond.methodLink RX2 131 yX2_inLowestTerms, Cond.static yX2_inLowestTerms, Cond.code yX2_inLowestTerms cX2_inLowestTerms 9 (some .long), Cond.methodLink RX2 162 yX2_commonDivisor, Cond.static yX2_commonDivisor, Cond.code yX2_commonDivisor cX2_commonDivisor 11 (some .long), Cond.methodLink RX2 166 Lib.MathLoose.abs_long.x, Cond.static Lib.MathLoose.abs_long.x, Cond.initialized "java/lang/Math", Cond.code Lib.MathLoose.abs_long.x Lib.MathLoose.abs_long.code 2 (some .long)]
def wsL_value : List Cond := .codeWith yL_value cL_value 5 (some .int) [(0, 9, 12, 13)] :: ((wsL_value_r1 ++ wsL_value_r2) ++ wsX20 ++ wsX10 ++ (vx_atS RX2 70 "java/lang/IllegalArgumentException" ["java/lang/RuntimeException", "java/lang/Exception"]).filter goodWord)
def wsL_at : List Cond := .codeWith yL_at cL_at 5 (some .int) [(0, 8, 11, 13)] :: ([.classLink RL 13 "java/lang/IllegalArgumentException", .methodLink RL 31 yX2_at, .instanceMethod yX2_at, .selects RX2 yX2_at yX2_at, .initialized RX2, .code yX2_at cX2_at 5 (some .double), .classLink RX2 66 "java/lang/IllegalArgumentException", .initialized "java/lang/IllegalArgumentException", .fieldLink RX2 23 "PartsDesk" "below" "LPartsDesk$Polynomial;", .fieldLink RX2 19 "PartsDesk" "above" "LPartsDesk$Polynomial;", .methodLink RX2 140 yX2_isNear, .static yX2_isNear, .code yX2_isNear cX2_isNear 2 (some .boolean), .constantDouble RX2 154 (13860109328209412096), .constantDouble RX2 156 (4636737291354636288), .methodLink RX2 146 yX1_inDoublesAt, .instanceMethod yX1_inDoublesAt, .selects RX1 yX1_inDoublesAt yX1_inDoublesAt, .initialized RX1, .code yX1_inDoublesAt cX1_inDoublesAt 6 (some .double), .fieldLink RX1 9 "PartsDesk$Polynomial" "coefficients" "[J"] ++ wsX20 ++ wsX10 ++ (vx_atS RX2 70 "java/lang/IllegalArgumentException" ["java/lang/RuntimeException", "java/lang/Exception"]).filter goodWord)
def wsL_byParts_r1 : List Cond := [Cond.classLink RL 13 "java/lang/IllegalArgumentException", Cond.methodLink RL 35 yX2_byParts, Cond.instanceMethod yX2_byParts, Cond.selects RX2 yX2_byParts yX2_byParts, Cond.initialized RX2, Cond.code yX2_byParts cX2_byParts 6 (some .double), Cond.classLink RX2 66 "java/lang/IllegalArgumentException", Cond.initialized "java/lang/IllegalArgumentException", Cond.fieldLink RX2 26 "PartsDesk" "quotient" "LPartsDesk$Polynomial;", Cond.methodLink RX2 140 yX2_isNear, Cond.static yX2_isNear, Cond.code yX2_isNear cX2_isNear 2 (some .boolean), Cond.constantDouble RX2 154 (13860109328209412096), Cond.constantDouble RX2 156 (4636737291354636288), Cond.methodLink RX2 146 yX1_inDoublesAt, Cond.instanceMethod yX1_inDoublesAt, Cond.selects RX1 yX1_inDoublesAt yX1_inDoublesAt, Cond.initialized RX1, Cond.code yX1_inDoublesAt cX1_inDoublesAt 6 (some .double), Cond.fieldLink RX1 9 "PartsDesk$Polynomial" "coefficients" "[J", Cond.methodLink RX2 150 yX2_withPartsOf, Cond.instanceMethod yX2_withPartsOf, Cond.selects RX2 yX2_withPartsOf yX2_withPartsOf, Cond.code yX2_withPartsOf cX2_withPartsOf 14 (some .double)]
def wsL_byParts_r2 : List Cond := [Cond.methodLink RX2 109 yX2_many, Cond.instanceMethod yX2_many, Cond.selects RX2 yX2_many yX2_many, Cond.code yX2_many cX2_many 2 (some .int), Cond.fieldLink RX2 29 "PartsDesk" "often" "[I", Cond.methodLink RX2 105 yX2_isPossibleRoot, Cond.static yX2_isPossibleRoot, Cond.code yX2_isPossibleRoot cX2_isPossibleRoot 1 (some .boolean), Cond.methodLink RX2 118 yX2_partAbove, Cond.instanceMethod yX2_partAbove, Cond.selects RX2 yX2_partAbove yX2_partAbove, Cond.code yX2_partAbove cX2_partAbove 4 (some .long), Cond.fieldLink RX2 33 "PartsDesk" "partsAbove" "[J", Cond.methodLink RX2 158 yX2_placeOfPart, Cond.static yX2_placeOfPart, Cond.code yX2_placeOfPart cX2_placeOfPart 3 (some .int), Cond.methodLink RX2 122 yX2_partBelow, Cond.instanceMethod yX2_partBelow, Cond.selects RX2 yX2_partBelow yX2_partBelow, Cond.code yX2_partBelow cX2_partBelow 4 (some .long), Cond.fieldLink RX2 37 "PartsDesk" "partsBelow" "[J"]
def wsL_byParts : List Cond := .codeWith yL_byParts cL_byParts 5 (some .int) [(0, 8, 11, 13)] :: ((wsL_byParts_r1 ++ wsL_byParts_r2) ++ wsX20 ++ wsX10 ++ (vx_atS RX2 70 "java/lang/IllegalArgumentException" ["java/lang/RuntimeException", "java/lang/Exception"]).filter goodWord)
def wsL_law0_r1 : List Cond := [Cond.classLink RL 8 RX2, Cond.instantiable RX2 11, Cond.initialized RX2, Cond.classLink RL 39 RX3, Cond.instantiable RX3 16, Cond.initialized RX3, Cond.arrayClass .long, Cond.arrayClass .double, Cond.constantDouble RL 79 (4593671619917905920), Cond.methodLink RL 38 yX2_init, Cond.instanceMethod yX2_init, Cond.code yX2_init cX2_init 1 none, Cond.methodLink RX2 3 objectInit, Cond.instanceMethod objectInit, Cond.code objectInit ⟨#[0xb1]⟩ 1 none, Cond.classLink RX2 9 RX0, Cond.instantiable RX0 3, Cond.initialized RX0, Cond.fieldLink RX2 12 "PartsDesk" "draft" "LPartsDesk$Draft;", Cond.classLink RX2 16 RX1, Cond.instantiable RX1 1, Cond.initialized RX1, Cond.fieldLink RX2 19 "PartsDesk" "above" "LPartsDesk$Polynomial;", Cond.fieldLink RX2 23 "PartsDesk" "below" "LPartsDesk$Polynomial;"]
def wsL_law0_r2 : List Cond := [Cond.fieldLink RX2 26 "PartsDesk" "quotient" "LPartsDesk$Polynomial;", Cond.arrayClass .int, Cond.fieldLink RX2 29 "PartsDesk" "often" "[I", Cond.fieldLink RX2 33 "PartsDesk" "partsAbove" "[J", Cond.fieldLink RX2 37 "PartsDesk" "partsBelow" "[J", Cond.fieldLink RX2 40 "PartsDesk" "readTerms" "LPartsDesk$Polynomial;", Cond.fieldLink RX2 43 "PartsDesk" "readOften" "[I", Cond.fieldLink RX2 46 "PartsDesk" "rest" "LPartsDesk$Polynomial;", Cond.fieldLink RX2 49 "PartsDesk" "otherFactors" "LPartsDesk$Polynomial;", Cond.instanceMethod yX0_init, Cond.code yX0_init cX0_init 1 none, Cond.methodLink RX0 3 objectInit, Cond.arrayClass .char, Cond.fieldLink RX0 9 "PartsDesk$Draft" "characters" "[C", Cond.instanceMethod yX1_init, Cond.code yX1_init cX1_init 1 none, Cond.methodLink RX1 3 objectInit, Cond.fieldLink RX1 9 "PartsDesk$Polynomial" "coefficients" "[J", Cond.methodLink RX2 52 yX2_takeApart, Cond.instanceMethod yX2_takeApart, Cond.selects RX2 yX2_takeApart yX2_takeApart, Cond.code yX2_takeApart cX2_takeApart 4 none, Cond.methodLink RX2 172 yX1_becomeOne, Cond.instanceMethod yX1_becomeOne]
def wsL_law0_r3 : List Cond := [Cond.selects RX1 yX1_becomeOne yX1_becomeOne, Cond.code yX1_becomeOne cX1_becomeOne 1 none, Cond.methodLink RX1 21 yX1_becomeZero, Cond.instanceMethod yX1_becomeZero, Cond.selects RX1 yX1_becomeZero yX1_becomeZero, Cond.code yX1_becomeZero cX1_becomeZero 1 none, Cond.methodLink RX1 15 yJ7_fill_d0a16, Cond.static yJ7_fill_d0a16, Cond.initialized RJ7, Cond.code yJ7_fill_d0a16 cJ7_fill_d0a16 5 none, Cond.methodLink RX2 73 yX1_become, Cond.instanceMethod yX1_become, Cond.selects RX1 yX1_become yX1_become, Cond.code yX1_become cX1_become 2 none, Cond.methodLink RX1 24 arraycopyName, Cond.native arraycopyName, Cond.static arraycopyName, Cond.initialized "java/lang/System", Cond.methodLink RX2 175 yJ7_fill_d0a16, Cond.methodLink RX2 109 yX2_many, Cond.instanceMethod yX2_many, Cond.selects RX2 yX2_many yX2_many, Cond.code yX2_many cX2_many 2 (some .int), Cond.methodLink RX2 105 yX2_isPossibleRoot]
def wsL_law0_r4 : List Cond := [Cond.static yX2_isPossibleRoot, Cond.code yX2_isPossibleRoot cX2_isPossibleRoot 1 (some .boolean), Cond.methodLink RX2 181 yX1_multiplyByFactorOf, Cond.instanceMethod yX1_multiplyByFactorOf, Cond.selects RX1 yX1_multiplyByFactorOf yX1_multiplyByFactorOf, Cond.code yX1_multiplyByFactorOf cX1_multiplyByFactorOf 3 none, Cond.methodLink RX2 185 yX1_divideByFactorOf, Cond.instanceMethod yX1_divideByFactorOf, Cond.selects RX1 yX1_divideByFactorOf yX1_divideByFactorOf, Cond.code yX1_divideByFactorOf cX1_divideByFactorOf 7 (some .long), Cond.methodLink RX2 188 yX2_makePartsOf, Cond.instanceMethod yX2_makePartsOf, Cond.selects RX2 yX2_makePartsOf yX2_makePartsOf, Cond.code yX2_makePartsOf cX2_makePartsOf 9 none, Cond.methodLink RX2 191 yX2_multiplyOtherFactors, Cond.instanceMethod yX2_multiplyOtherFactors, Cond.selects RX2 yX2_multiplyOtherFactors yX2_multiplyOtherFactors, Cond.code yX2_multiplyOtherFactors cX2_multiplyOtherFactors 5 none, Cond.methodLink RX2 194 yX2_keepPart, Cond.instanceMethod yX2_keepPart, Cond.selects RX2 yX2_keepPart yX2_keepPart, Cond.code yX2_keepPart cX2_keepPart 8 none, Cond.methodLink RX2 158 yX2_placeOfPart, Cond.static yX2_placeOfPart]
def wsL_law0_r5 : List Cond := [Cond.code yX2_placeOfPart cX2_placeOfPart 3 (some .int), Cond.methodLink RX2 131 yX2_inLowestTerms, Cond.static yX2_inLowestTerms, Cond.code yX2_inLowestTerms cX2_inLowestTerms 9 (some .long), Cond.methodLink RX2 162 yX2_commonDivisor, Cond.static yX2_commonDivisor, Cond.code yX2_commonDivisor cX2_commonDivisor 11 (some .long), Cond.methodLink RX2 166 Lib.MathLoose.abs_long.x, Cond.static Lib.MathLoose.abs_long.x, Cond.initialized "java/lang/Math", Cond.code Lib.MathLoose.abs_long.x Lib.MathLoose.abs_long.code 2 (some .long), Cond.methodLink RX2 198 yX1_mix, Cond.instanceMethod yX1_mix, Cond.selects RX1 yX1_mix yX1_mix, Cond.code yX1_mix cX1_mix 7 none, Cond.methodLink RL 41 yX3_init, Cond.instanceMethod yX3_init, Cond.code yX3_init cX3_init 1 none, Cond.methodLink RX3 1 objectInit, Cond.fieldLink RX3 7 "PartsDeskModel" "draft" "[C", Cond.fieldLink RX3 13 "PartsDeskModel" "top" "[J", Cond.fieldLink RX3 17 "PartsDeskModel" "low" "[J", Cond.fieldLink RX3 20 "PartsDeskModel" "quotient" "[J", Cond.fieldLink RX3 23 "PartsDeskModel" "degree" "I"]
def wsL_law0_r6 : List Cond := [Cond.fieldLink RX3 27 "PartsDeskModel" "many" "[I", Cond.fieldLink RX3 31 "PartsDeskModel" "fresh" "[I", Cond.fieldLink RX3 34 "PartsDeskModel" "near" "[J", Cond.fieldLink RX3 37 "PartsDeskModel" "rest" "[J", Cond.fieldLink RX3 40 "PartsDeskModel" "row" "[J", Cond.fieldLink RX3 43 "PartsDeskModel" "read" "[J", Cond.methodLink RL 42 yX2_write, Cond.instanceMethod yX2_write, Cond.selects RX2 yX2_write yX2_write, Cond.code yX2_write cX2_write 2 (some .boolean), Cond.methodLink RX2 55 yX0_append, Cond.instanceMethod yX0_append, Cond.selects RX0 yX0_append yX0_append, Cond.code yX0_append cX0_append 2 (some .boolean), Cond.fieldLink RX0 15 "PartsDesk$Draft" "length" "I", Cond.methodLink RL 46 yX3_write, Cond.instanceMethod yX3_write, Cond.selects RX3 yX3_write yX3_write, Cond.code yX3_write cX3_write 2 (some .boolean), Cond.fieldLink RX3 46 "PartsDeskModel" "fault" "I", Cond.fieldLink RX3 49 "PartsDeskModel" "drafted" "I", Cond.methodLink RL 47 yL_numerator, Cond.static yL_numerator, Cond.initialized RL]
def wsL_law0_r7 : List Cond := [Cond.codeWith yL_numerator cL_numerator 3 (some .int) [(0, 8, 11, 13)], Cond.classLink RL 13 "java/lang/IllegalArgumentException", Cond.methodLink RL 7 yX2_numerator, Cond.instanceMethod yX2_numerator, Cond.selects RX2 yX2_numerator yX2_numerator, Cond.code yX2_numerator cX2_numerator 2 (some .int), Cond.classLink RX2 66 "java/lang/IllegalArgumentException", Cond.initialized "java/lang/IllegalArgumentException", Cond.methodLink RX2 59 yX2_readPolynomial, Cond.instanceMethod yX2_readPolynomial, Cond.selects RX2 yX2_readPolynomial yX2_readPolynomial, Cond.code yX2_readPolynomial cX2_readPolynomial 3 (some .boolean), Cond.methodLink RX2 202 yX1_becomeZero, Cond.methodLink RX2 205 yX2_readTerm, Cond.instanceMethod yX2_readTerm, Cond.selects RX2 yX2_readTerm yX2_readTerm, Cond.code yX2_readTerm cX2_readTerm 7 (some .boolean), Cond.methodLink RX2 212 yX0_takes, Cond.instanceMethod yX0_takes, Cond.selects RX0 yX0_takes yX0_takes, Cond.code yX0_takes cX0_takes 3 (some .boolean), Cond.fieldLink RX0 19 "PartsDesk$Draft" "next" "I", Cond.methodLink RX0 22 yX0_isAtEnd, Cond.instanceMethod yX0_isAtEnd]
def wsL_law0_r8 : List Cond := [Cond.selects RX0 yX0_isAtEnd yX0_isAtEnd, Cond.code yX0_isAtEnd cX0_isAtEnd 1 (some .boolean), Cond.methodLink RX2 215 yX2_readNumber, Cond.instanceMethod yX2_readNumber, Cond.selects RX2 yX2_readNumber yX2_readNumber, Cond.code yX2_readNumber cX2_readNumber 3 (some .int), Cond.methodLink RX2 225 yX0_takeDigit, Cond.instanceMethod yX0_takeDigit, Cond.selects RX0 yX0_takeDigit yX0_takeDigit, Cond.code yX0_takeDigit cX0_takeDigit 4 (some .int), Cond.methodLink RX2 218 yX2_readPowerOfX, Cond.instanceMethod yX2_readPowerOfX, Cond.selects RX2 yX2_readPowerOfX yX2_readPowerOfX, Cond.code yX2_readPowerOfX cX2_readPowerOfX 1 (some .int), Cond.methodLink RX2 221 yX1_add, Cond.instanceMethod yX1_add, Cond.selects RX1 yX1_add yX1_add, Cond.code yX1_add cX1_add 4 none, Cond.methodLink RX2 209 yX0_isAtEnd, Cond.methodLink RX2 63 yX0_empty, Cond.instanceMethod yX0_empty, Cond.selects RX0 yX0_empty yX0_empty, Cond.code yX0_empty cX0_empty 1 none, Cond.methodLink RX2 77 yX1_degree]
def wsL_law0_r9 : List Cond := [Cond.instanceMethod yX1_degree, Cond.selects RX1 yX1_degree yX1_degree, Cond.code yX1_degree cX1_degree 2 (some .int), Cond.methodLink RL 52 yX3_numerator, Cond.instanceMethod yX3_numerator, Cond.selects RX3 yX3_numerator yX3_numerator, Cond.code yX3_numerator cX3_numerator 4 (some .int), Cond.methodLink RX3 79 yX3_readPolynomial, Cond.instanceMethod yX3_readPolynomial, Cond.selects RX3 yX3_readPolynomial yX3_readPolynomial, Cond.code yX3_readPolynomial cX3_readPolynomial 3 (some .boolean), Cond.fieldLink RX3 52 "PartsDeskModel" "at" "I", Cond.constantLong RX3 73 (-1), Cond.methodLink RX3 69 yX3_pass, Cond.instanceMethod yX3_pass, Cond.selects RX3 yX3_pass yX3_pass, Cond.code yX3_pass cX3_pass 3 (some .boolean), Cond.methodLink RX3 55 yX3_look, Cond.instanceMethod yX3_look, Cond.selects RX3 yX3_look yX3_look, Cond.code yX3_look cX3_look 1 (some .char), Cond.methodLink RX3 75 yX3_readTerm, Cond.instanceMethod yX3_readTerm, Cond.selects RX3 yX3_readTerm yX3_readTerm]
def wsL_law0_r10 : List Cond := [Cond.code yX3_readTerm cX3_readTerm 8 (some .boolean), Cond.constantLong RX3 67 (10), Cond.methodLink RX3 59 yX3_isDigit, Cond.instanceMethod yX3_isDigit, Cond.selects RX3 yX3_isDigit yX3_isDigit, Cond.code yX3_isDigit cX3_isDigit 1 (some .boolean), Cond.methodLink RX3 63 yX3_digit, Cond.instanceMethod yX3_digit, Cond.selects RX3 yX3_digit yX3_digit, Cond.code yX3_digit cX3_digit 1 (some .int), Cond.methodLink RX3 82 yX3_fails, Cond.instanceMethod yX3_fails, Cond.selects RX3 yX3_fails yX3_fails, Cond.code yX3_fails cX3_fails 2 (some .int), Cond.methodLink RL 53 yX3_thrown, Cond.instanceMethod yX3_thrown, Cond.selects RX3 yX3_thrown yX3_thrown, Cond.code yX3_thrown cX3_thrown 1 (some .int), Cond.methodLink RL 56 yL_denominator, Cond.static yL_denominator, Cond.codeWith yL_denominator cL_denominator 3 (some .int) [(0, 8, 11, 13), (0, 8, 14, 18)], Cond.classLink RL 18 "java/lang/IllegalStateException", Cond.methodLink RL 15 yX2_denominator, Cond.instanceMethod yX2_denominator]
def wsL_law0_r11 : List Cond := [Cond.selects RX2 yX2_denominator yX2_denominator, Cond.code yX2_denominator cX2_denominator 2 (some .int), Cond.classLink RX2 90 "java/lang/IllegalStateException", Cond.initialized "java/lang/IllegalStateException", Cond.methodLink RX2 95 arraycopyName, Cond.methodLink RX2 81 yX2_readProduct, Cond.instanceMethod yX2_readProduct, Cond.selects RX2 yX2_readProduct yX2_readProduct, Cond.code yX2_readProduct cX2_readProduct 3 (some .boolean), Cond.methodLink RX2 228 yJ7_fill_53178, Cond.static yJ7_fill_53178, Cond.code yJ7_fill_53178 cJ7_fill_53178 4 none, Cond.methodLink RX2 231 yX2_readFactor, Cond.instanceMethod yX2_readFactor, Cond.selects RX2 yX2_readFactor yX2_readFactor, Cond.code yX2_readFactor cX2_readFactor 3 (some .boolean), Cond.methodLink RX2 234 yX2_readRoot, Cond.instanceMethod yX2_readRoot, Cond.selects RX2 yX2_readRoot yX2_readRoot, Cond.code yX2_readRoot cX2_readRoot 3 (some .int), Cond.methodLink RX2 86 yX2_sum, Cond.static yX2_sum, Cond.code yX2_sum cX2_sum 6 (some .int), Cond.methodLink RL 58 yX3_denominator]
def wsL_law0_r12 : List Cond := [Cond.instanceMethod yX3_denominator, Cond.selects RX3 yX3_denominator yX3_denominator, Cond.code yX3_denominator cX3_denominator 5 (some .int), Cond.methodLink RX3 86 yX3_readFactor, Cond.instanceMethod yX3_readFactor, Cond.selects RX3 yX3_readFactor yX3_readFactor, Cond.code yX3_readFactor cX3_readFactor 4 (some .boolean), Cond.methodLink RX3 89 yX3_times, Cond.static yX3_times, Cond.code yX3_times cX3_times 3 none, Cond.methodLink RL 59 yX2_coefficient, Cond.instanceMethod yX2_coefficient, Cond.selects RX2 yX2_coefficient yX2_coefficient, Cond.code yX2_coefficient cX2_coefficient 3 (some .long), Cond.methodLink RX2 101 yX1_get, Cond.instanceMethod yX1_get, Cond.selects RX1 yX1_get yX1_get, Cond.code yX1_get cX1_get 2 (some .long), Cond.methodLink RL 62 yX3_coefficient, Cond.instanceMethod yX3_coefficient, Cond.selects RX3 yX3_coefficient yX3_coefficient, Cond.code yX3_coefficient cX3_coefficient 3 (some .long), Cond.methodLink RX3 93 yX3_divide, Cond.instanceMethod yX3_divide]
def wsL_law0_r13 : List Cond := [Cond.selects RX3 yX3_divide yX3_divide, Cond.code yX3_divide cX3_divide 5 none, Cond.methodLink RL 63 yX2_many, Cond.methodLink RL 67 yX3_many, Cond.instanceMethod yX3_many, Cond.selects RX3 yX3_many yX3_many, Cond.code yX3_many cX3_many 2 (some .int), Cond.methodLink RL 68 yL_part, Cond.static yL_part, Cond.codeWith yL_part cL_part 6 (some .int) [(0, 11, 14, 13)], Cond.methodLink RL 20 yX2_part, Cond.instanceMethod yX2_part, Cond.selects RX2 yX2_part yX2_part, Cond.code yX2_part cX2_part 4 (some .long), Cond.methodLink RX2 113 yX2_isSide, Cond.static yX2_isSide, Cond.code yX2_isSide cX2_isSide 1 (some .boolean), Cond.methodLink RX2 118 yX2_partAbove, Cond.instanceMethod yX2_partAbove, Cond.selects RX2 yX2_partAbove yX2_partAbove, Cond.code yX2_partAbove cX2_partAbove 4 (some .long), Cond.methodLink RX2 122 yX2_partBelow, Cond.instanceMethod yX2_partBelow, Cond.selects RX2 yX2_partBelow yX2_partBelow]
def wsL_law0_r14 : List Cond := [Cond.code yX2_partBelow cX2_partBelow 4 (some .long), Cond.methodLink RL 71 yX3_part, Cond.instanceMethod yX3_part, Cond.selects RX3 yX3_part yX3_part, Cond.code yX3_part cX3_part 5 (some .long), Cond.fieldLink RX3 96 "PartsDeskModel" "over" "J", Cond.fieldLink RX3 100 "PartsDeskModel" "under" "J", Cond.methodLink RX3 113 yX3_isPart, Cond.instanceMethod yX3_isPart, Cond.selects RX3 yX3_isPart yX3_isPart, Cond.code yX3_isPart cX3_isPart 3 (some .boolean), Cond.methodLink RX3 111 yX3_many, Cond.methodLink RX3 117 yX3_work, Cond.instanceMethod yX3_work, Cond.selects RX3 yX3_work yX3_work, Cond.code yX3_work cX3_work 11 none, Cond.methodLink RX3 103 yX3_around, Cond.instanceMethod yX3_around, Cond.selects RX3 yX3_around yX3_around, Cond.code yX3_around cX3_around 4 none, Cond.methodLink RX3 107 yX3_tell, Cond.instanceMethod yX3_tell, Cond.selects RX3 yX3_tell yX3_tell, Cond.code yX3_tell cX3_tell 11 none]
def wsL_law0_r15 : List Cond := [Cond.methodLink RL 72 yL_integral, Cond.static yL_integral, Cond.codeWith yL_integral cL_integral 6 (some .int) [(0, 11, 14, 13)], Cond.methodLink RL 24 yX2_integral, Cond.instanceMethod yX2_integral, Cond.selects RX2 yX2_integral yX2_integral, Cond.code yX2_integral cX2_integral 4 (some .long), Cond.methodLink RX2 125 yX2_isInIntegral, Cond.instanceMethod yX2_isInIntegral, Cond.selects RX2 yX2_isInIntegral yX2_isInIntegral, Cond.code yX2_isInIntegral cX2_isInIntegral 3 (some .boolean), Cond.methodLink RL 74 yX3_integral, Cond.instanceMethod yX3_integral, Cond.selects RX3 yX3_integral yX3_integral, Cond.code yX3_integral cX3_integral 6 (some .long), Cond.methodLink RL 75 yL_value, Cond.static yL_value, Cond.codeWith yL_value cL_value 5 (some .int) [(0, 9, 12, 13)], Cond.methodLink RL 27 yX2_value, Cond.instanceMethod yX2_value, Cond.selects RX2 yX2_value yX2_value, Cond.code yX2_value cX2_value 3 (some .long), Cond.methodLink RX2 137 yX1_exactlyAt, Cond.instanceMethod yX1_exactlyAt]
def wsL_law0_r16 : List Cond := [Cond.selects RX1 yX1_exactlyAt yX1_exactlyAt, Cond.code yX1_exactlyAt cX1_exactlyAt 5 (some .long), Cond.methodLink RL 78 yX3_value, Cond.instanceMethod yX3_value, Cond.selects RX3 yX3_value yX3_value, Cond.code yX3_value cX3_value 4 (some .long), Cond.methodLink RX3 121 yX3_valueOf, Cond.static yX3_valueOf, Cond.code yX3_valueOf cX3_valueOf 7 (some .long), Cond.methodLink RL 81 yL_at, Cond.static yL_at, Cond.codeWith yL_at cL_at 5 (some .int) [(0, 8, 11, 13)], Cond.methodLink RL 31 yX2_at, Cond.instanceMethod yX2_at, Cond.selects RX2 yX2_at yX2_at, Cond.code yX2_at cX2_at 5 (some .double), Cond.methodLink RX2 140 yX2_isNear, Cond.static yX2_isNear, Cond.code yX2_isNear cX2_isNear 2 (some .boolean), Cond.constantDouble RX2 154 (13860109328209412096), Cond.constantDouble RX2 156 (4636737291354636288), Cond.methodLink RX2 146 yX1_inDoublesAt, Cond.instanceMethod yX1_inDoublesAt, Cond.selects RX1 yX1_inDoublesAt yX1_inDoublesAt]
def wsL_law0_r17 : List Cond := [Cond.code yX1_inDoublesAt cX1_inDoublesAt 6 (some .double), Cond.methodLink RL 84 yX3_at, Cond.instanceMethod yX3_at, Cond.selects RX3 yX3_at yX3_at, Cond.code yX3_at cX3_at 5 (some .double), Cond.methodLink RX3 129 yX3_isPlace, Cond.instanceMethod yX3_isPlace, Cond.selects RX3 yX3_isPlace yX3_isPlace, Cond.code yX3_isPlace cX3_isPlace 3 (some .boolean), Cond.constantDouble RX3 125 (13860109328209412096), Cond.constantDouble RX3 127 (4636737291354636288), Cond.methodLink RX3 133 yX3_valueAt, Cond.static yX3_valueAt, Cond.code yX3_valueAt cX3_valueAt 7 (some .double), Cond.methodLink RL 85 yL_byParts, Cond.static yL_byParts, Cond.codeWith yL_byParts cL_byParts 5 (some .int) [(0, 8, 11, 13)], Cond.methodLink RL 35 yX2_byParts, Cond.instanceMethod yX2_byParts, Cond.selects RX2 yX2_byParts yX2_byParts, Cond.code yX2_byParts cX2_byParts 6 (some .double), Cond.methodLink RX2 150 yX2_withPartsOf, Cond.instanceMethod yX2_withPartsOf, Cond.selects RX2 yX2_withPartsOf yX2_withPartsOf]
def wsL_law0_r18 : List Cond := [Cond.code yX2_withPartsOf cX2_withPartsOf 14 (some .double), Cond.methodLink RL 87 yX3_byParts, Cond.instanceMethod yX3_byParts, Cond.selects RX3 yX3_byParts yX3_byParts, Cond.code yX3_byParts cX3_byParts 9 (some .double)]
def wsL_law0 : List Cond := (wsL_law0_r1 ++ (wsL_law0_r2 ++ (wsL_law0_r3 ++ (wsL_law0_r4 ++ (wsL_law0_r5 ++ (wsL_law0_r6 ++ (wsL_law0_r7 ++ (wsL_law0_r8 ++ (wsL_law0_r9 ++ (wsL_law0_r10 ++ (wsL_law0_r11 ++ (wsL_law0_r12 ++ (wsL_law0_r13 ++ (wsL_law0_r14 ++ (wsL_law0_r15 ++ (wsL_law0_r16 ++ (wsL_law0_r17 ++ wsL_law0_r18))))))))))))))))) ++ wsX20 ++ wsX30 ++ wsX00 ++ wsX10 ++ ([] : List Cond)
def wsL_law : List Cond := wsL_law0 ++ (vx_atS RX2 70 "java/lang/IllegalArgumentException" ["java/lang/RuntimeException", "java/lang/Exception"]).filter goodWord ++ (vx_atS RX2 94 "java/lang/IllegalStateException" ["java/lang/RuntimeException", "java/lang/Exception"]).filter goodWord
theorem mem_at {big : List Cond} (ws : List Cond) (ps : List Nat) (h : ws.map some = ps.map (fun i => big[i]?)) : ∀ w ∈ ws, w ∈ big := by
  intro w hw
  have h1 : some w ∈ ws.map some := List.mem_map_of_mem hw
  rw [h] at h1
  obtain ⟨i, -, hi⟩ := List.mem_map.mp h1
  exact List.mem_of_getElem? hi
set_option maxRecDepth 20000 in
theorem in_wsL_law0_r1 : ∀ w ∈ wsL_law0_r1, w ∈ lw_tbl := mem_at _ [43, 44, 31, 429, 430, 37, 78, 599, 598, 45, 46, 47, 48, 49, 50, 51, 52, 32, 145, 68, 69, 33, 146, 147] (by rfl)
set_option maxRecDepth 20000 in
theorem in_wsL_law0_r2 : ∀ w ∈ wsL_law0_r2, w ∈ lw_tbl := mem_at _ [148, 179, 149, 150, 151, 152, 153, 154, 155, 54, 55, 56, 67, 57, 71, 72, 73, 74, 79, 81, 0, 82, 83, 84] (by rfl)
set_option maxRecDepth 20000 in
theorem in_wsL_law0_r3 : ∀ w ∈ wsL_law0_r3, w ∈ lw_tbl := mem_at _ [85, 86, 87, 88, 89, 90, 91, 92, 34, 93, 94, 95, 96, 97, 98, 100, 99, 35, 101, 102, 103, 104, 105, 106] (by rfl)
set_option maxRecDepth 20000 in
theorem in_wsL_law0_r4 : ∀ w ∈ wsL_law0_r4, w ∈ lw_tbl := mem_at _ [107, 108, 109, 110, 111, 112, 113, 114, 115, 116, 117, 119, 1, 120, 121, 123, 2, 124, 125, 127, 3, 128, 129, 130] (by rfl)
set_option maxRecDepth 20000 in
theorem in_wsL_law0_r5 : ∀ w ∈ wsL_law0_r5, w ∈ lw_tbl := mem_at _ [131, 132, 133, 134, 135, 136, 137, 138, 139, 36, 140, 141, 142, 143, 144, 431, 432, 433, 434, 436, 438, 439, 440, 441] (by rfl)
set_option maxRecDepth 20000 in
theorem in_wsL_law0_r6 : ∀ w ∈ wsL_law0_r6, w ∈ lw_tbl := mem_at _ [442, 443, 446, 447, 448, 449, 180, 181, 182, 183, 184, 185, 186, 187, 58, 488, 489, 490, 491, 435, 437, 197, 198, 30] (by rfl)
set_option maxRecDepth 20000 in
theorem in_wsL_law0_r7 : ∀ w ∈ wsL_law0_r7, w ∈ lw_tbl := mem_at _ [199, 200, 201, 202, 203, 204, 243, 41, 205, 207, 4, 208, 209, 210, 212, 5, 213, 214, 215, 216, 217, 59, 218, 219] (by rfl)
set_option maxRecDepth 20000 in
theorem in_wsL_law0_r8 : ∀ w ∈ wsL_law0_r8, w ∈ lw_tbl := mem_at _ [220, 221, 222, 224, 6, 225, 226, 227, 228, 229, 230, 232, 7, 233, 234, 235, 236, 237, 238, 239, 240, 241, 242, 310] (by rfl)
set_option maxRecDepth 20000 in
theorem in_wsL_law0_r9 : ∀ w ∈ wsL_law0_r9, w ∈ lw_tbl := mem_at _ [311, 312, 313, 492, 493, 494, 495, 496, 498, 16, 499, 450, 508, 500, 502, 17, 503, 504, 506, 18, 507, 509, 511, 19] (by rfl)
set_option maxRecDepth 20000 in
theorem in_wsL_law0_r10 : ∀ w ∈ wsL_law0_r10, w ∈ lw_tbl := mem_at _ [512, 521, 513, 515, 20, 516, 517, 519, 21, 520, 522, 524, 22, 525, 484, 485, 486, 487, 314, 315, 316, 317, 318, 319] (by rfl)
set_option maxRecDepth 20000 in
theorem in_wsL_law0_r11 : ∀ w ∈ wsL_law0_r11, w ∈ lw_tbl := mem_at _ [320, 321, 341, 42, 357, 322, 324, 9, 325, 326, 327, 328, 329, 331, 10, 332, 333, 335, 11, 336, 338, 339, 340, 526] (by rfl)
set_option maxRecDepth 20000 in
theorem in_wsL_law0_r12 : ∀ w ∈ wsL_law0_r12, w ∈ lw_tbl := mem_at _ [527, 528, 529, 530, 532, 23, 533, 534, 535, 536, 188, 189, 190, 191, 192, 193, 194, 195, 537, 538, 539, 540, 541, 543] (by rfl)
set_option maxRecDepth 20000 in
theorem in_wsL_law0_r13 : ∀ w ∈ wsL_law0_r13, w ∈ lw_tbl := mem_at _ [24, 544, 196, 545, 546, 547, 548, 358, 359, 360, 361, 362, 363, 364, 365, 366, 367, 369, 371, 12, 372, 373, 375, 13] (by rfl)
set_option maxRecDepth 20000 in
theorem in_wsL_law0_r14 : ∀ w ∈ wsL_law0_r14, w ∈ lw_tbl := mem_at _ [376, 549, 550, 551, 552, 444, 445, 553, 555, 25, 556, 557, 558, 560, 26, 561, 562, 564, 27, 565, 566, 568, 28, 569] (by rfl)
set_option maxRecDepth 20000 in
theorem in_wsL_law0_r15 : ∀ w ∈ wsL_law0_r15, w ∈ lw_tbl := mem_at _ [377, 378, 379, 380, 381, 382, 383, 384, 386, 14, 387, 570, 571, 572, 573, 389, 390, 391, 392, 393, 394, 395, 397, 398] (by rfl)
set_option maxRecDepth 20000 in
theorem in_wsL_law0_r16 : ∀ w ∈ wsL_law0_r16, w ∈ lw_tbl := mem_at _ [399, 400, 574, 575, 576, 577, 578, 579, 580, 401, 402, 403, 404, 405, 406, 407, 408, 409, 410, 411, 412, 414, 415, 416] (by rfl)
set_option maxRecDepth 20000 in
theorem in_wsL_law0_r17 : ∀ w ∈ wsL_law0_r17, w ∈ lw_tbl := mem_at _ [417, 581, 582, 583, 584, 585, 587, 29, 588, 589, 590, 591, 592, 593, 418, 419, 420, 421, 422, 423, 424, 425, 427, 15] (by rfl)
set_option maxRecDepth 20000 in
theorem in_wsL_law0_r18 : ∀ w ∈ wsL_law0_r18, w ∈ lw_tbl := mem_at _ [428, 594, 595, 596, 597] (by rfl)
set_option maxRecDepth 20000 in
theorem in_wsX00 : ∀ w ∈ wsX00, w ∈ lw_tbl := mem_at _ [60, 62, 64] (by rfl)
set_option maxRecDepth 20000 in
theorem in_wsX10 : ∀ w ∈ wsX10, w ∈ lw_tbl := mem_at _ [75] (by rfl)
set_option maxRecDepth 20000 in
theorem in_wsX20 : ∀ w ∈ wsX20, w ∈ lw_tbl := mem_at _ [156, 158, 160, 162, 164, 166, 168, 170, 172, 174, 176] (by rfl)
set_option maxRecDepth 20000 in
theorem in_wsX30 : ∀ w ∈ wsX30, w ∈ lw_tbl := mem_at _ [451, 453, 455, 457, 459, 461, 463, 465, 467, 469, 471, 473, 475, 477, 479, 481] (by rfl)
theorem wsL_law_in0 : ∀ w ∈ wsL_law0, w ∈ lw_tbl := fun w h => (List.mem_append.mp h).elim (fun h => (List.mem_append.mp h).elim (fun h => (List.mem_append.mp h).elim (fun h => (List.mem_append.mp h).elim (fun h => (List.mem_append.mp h).elim (fun h => (List.mem_append.mp h).elim (fun h => in_wsL_law0_r1 w h) (fun h => (List.mem_append.mp h).elim (fun h => in_wsL_law0_r2 w h) (fun h => (List.mem_append.mp h).elim (fun h => in_wsL_law0_r3 w h) (fun h => (List.mem_append.mp h).elim (fun h => in_wsL_law0_r4 w h) (fun h => (List.mem_append.mp h).elim (fun h => in_wsL_law0_r5 w h) (fun h => (List.mem_append.mp h).elim (fun h => in_wsL_law0_r6 w h) (fun h => (List.mem_append.mp h).elim (fun h => in_wsL_law0_r7 w h) (fun h => (List.mem_append.mp h).elim (fun h => in_wsL_law0_r8 w h) (fun h => (List.mem_append.mp h).elim (fun h => in_wsL_law0_r9 w h) (fun h => (List.mem_append.mp h).elim (fun h => in_wsL_law0_r10 w h) (fun h => (List.mem_append.mp h).elim (fun h => in_wsL_law0_r11 w h) (fun h => (List.mem_append.mp h).elim (fun h => in_wsL_law0_r12 w h) (fun h => (List.mem_append.mp h).elim (fun h => in_wsL_law0_r13 w h) (fun h => (List.mem_append.mp h).elim (fun h => in_wsL_law0_r14 w h) (fun h => (List.mem_append.mp h).elim (fun h => in_wsL_law0_r15 w h) (fun h => (List.mem_append.mp h).elim (fun h => in_wsL_law0_r16 w h) (fun h => (List.mem_append.mp h).elim (fun h => in_wsL_law0_r17 w h) (fun h => in_wsL_law0_r18 w h)))))))))))))))))) (fun h => in_wsX20 w h)) (fun h => in_wsX30 w h)) (fun h => in_wsX00 w h)) (fun h => in_wsX10 w h)) (fun h => nomatch h)
theorem wsL_law_x0 : ∀ w ∈ (vx_atS RX2 70 "java/lang/IllegalArgumentException" ["java/lang/RuntimeException", "java/lang/Exception"]).filter goodWord, w ∈ lw_tbl := by decide +kernel
theorem wsL_law_x1 : ∀ w ∈ (vx_atS RX2 94 "java/lang/IllegalStateException" ["java/lang/RuntimeException", "java/lang/Exception"]).filter goodWord, w ∈ lw_tbl := by decide +kernel
theorem wsL_law_in : ∀ w ∈ wsL_law, w ∈ lw_tbl := fun w h => (List.mem_append.mp h).elim (fun h => (List.mem_append.mp h).elim (fun h => wsL_law_in0 w h) (fun h => wsL_law_x0 w h)) (fun h => wsL_law_x1 w h)
theorem inlX0 : ∀ w ∈ wsX00, w ∈ wsL_law := fun _ h => List.mem_append_left _ (List.mem_append_left _ (List.mem_append_left _ (List.mem_append_left _ (List.mem_append_right _ h))))
theorem inX0 : ∀ w ∈ wsX00, w ∈ lw_tbl := fun w h => wsL_law_in w (inlX0 w h)
theorem inlX1 : ∀ w ∈ wsX10, w ∈ wsL_law := fun _ h => List.mem_append_left _ (List.mem_append_left _ (List.mem_append_left _ (List.mem_append_right _ h)))
theorem inX1 : ∀ w ∈ wsX10, w ∈ lw_tbl := fun w h => wsL_law_in w (inlX1 w h)
theorem inlX2 : ∀ w ∈ wsX20, w ∈ wsL_law := fun _ h => List.mem_append_left _ (List.mem_append_left _ (List.mem_append_left _ (List.mem_append_left _ (List.mem_append_left _ (List.mem_append_left _ (List.mem_append_right _ h))))))
theorem inX2 : ∀ w ∈ wsX20, w ∈ lw_tbl := fun w h => wsL_law_in w (inlX2 w h)
theorem inlX3 : ∀ w ∈ wsX30, w ∈ wsL_law := fun _ h => List.mem_append_left _ (List.mem_append_left _ (List.mem_append_left _ (List.mem_append_left _ (List.mem_append_left _ (List.mem_append_right _ h)))))
theorem inX3 : ∀ w ∈ wsX30, w ∈ lw_tbl := fun w h => wsL_law_in w (inlX3 w h)
theorem inJ9 : ∀ w ∈ wsJ90, w ∈ lw_tbl := by decide +kernel
theorem inJ0 : ∀ w ∈ wsJ00, w ∈ lw_tbl := by decide +kernel
theorem inJ10 : ∀ w ∈ wsJ100, w ∈ lw_tbl := by decide +kernel
theorem inJ7 : ∀ w ∈ wsJ70, w ∈ lw_tbl := by decide +kernel
set_option maxRecDepth 20000 in
theorem ggX0_takes_X0_isAtEnd : GoodIn wsX0_takes wsX0_isAtEnd := goodIn_r _ [7, 2, 8, 9, 10, 11] (by decide +kernel) (by decide +kernel)
set_option maxRecDepth 20000 in
theorem gX0_takes_X0_isAtEnd : GoodIn wsX0_takes (wsV RX0 22 RX0 yX0_isAtEnd wsX0_isAtEnd) := goodIn_app (goodIn_of _ (by decide +kernel)) ggX0_takes_X0_isAtEnd
set_option maxRecDepth 20000 in
theorem ggX0_takeDigit_X0_isAtEnd : GoodIn wsX0_takeDigit wsX0_isAtEnd := goodIn_r _ [7, 2, 8, 9, 10, 11] (by decide +kernel) (by decide +kernel)
set_option maxRecDepth 20000 in
theorem gX0_takeDigit_X0_isAtEnd : GoodIn wsX0_takeDigit (wsV RX0 22 RX0 yX0_isAtEnd wsX0_isAtEnd) := goodIn_app (goodIn_of _ (by decide +kernel)) ggX0_takeDigit_X0_isAtEnd
set_option maxRecDepth 20000 in
theorem ggX1_becomeZero_J7_fill_d0a16 : GoodIn wsX1_becomeZero wsJ7_fill_d0a16 := goodIn_r _ [5] (by decide +kernel) (by decide +kernel)
set_option maxRecDepth 20000 in
theorem gX1_becomeZero_J7_fill_d0a16 : GoodIn wsX1_becomeZero (va_wsS RX1 15 yJ7_fill_d0a16 wsJ7_fill_d0a16) := goodIn_app (goodIn_of _ (by decide +kernel)) ggX1_becomeZero_J7_fill_d0a16
set_option maxRecDepth 20000 in
theorem ggX1_becomeOne_X1_becomeZero : GoodIn wsX1_becomeOne wsX1_becomeZero := goodIn_r _ [6, 1, 7, 8, 9, 10, 11] (by decide +kernel) (by decide +kernel)
set_option maxRecDepth 20000 in
theorem gX1_becomeOne_X1_becomeZero : GoodIn wsX1_becomeOne (wsV RX1 21 RX1 yX1_becomeZero wsX1_becomeZero) := goodIn_app (goodIn_of _ (by decide +kernel)) ggX1_becomeOne_X1_becomeZero
set_option maxRecDepth 20000 in
theorem ggX2_init_X0_init : GoodIn wsX2_init wsX0_init := goodIn_r _ [24, 25, 2, 3, 26, 27, 102, 103, 104] (by decide +kernel) (by decide +kernel)
set_option maxRecDepth 20000 in
theorem gX2_init_X0_init_n11 : GoodIn wsX2_init (wsX0_init) := ggX2_init_X0_init
set_option maxRecDepth 20000 in
theorem ggX2_init_X1_init : GoodIn wsX2_init wsX1_init := goodIn_r _ [29, 30, 2, 3, 16, 31, 116] (by decide +kernel) (by decide +kernel)
set_option maxRecDepth 20000 in
theorem gX2_init_X1_init_n18 : GoodIn wsX2_init (wsX1_init) := ggX2_init_X1_init
set_option maxRecDepth 20000 in
theorem ggX2_init_X2_takeApart : GoodIn wsX2_init wsX2_takeApart := goodIn_r _ [36, 12, 13, 11, 17, 18, 37, 38, 39, 10, 40, 31, 41, 42, 43, 44, 45, 46, 47, 48, 49, 50, 51, 52, 53, 54, 55, 56, 57, 58, 59, 60, 35, 61, 15, 62, 63, 64, 65, 66, 67, 68, 69, 70, 71, 72, 73, 74, 75, 76, 21, 22, 77, 78, 79, 80, 81, 82, 83, 84, 85, 86, 87, 88, 89, 90, 91, 92, 93, 94, 95, 96, 97, 98, 99, 100, 101, 105, 106, 107, 108, 109, 110, 111, 112, 113, 114, 115, 116] (by decide +kernel) (by decide +kernel)
set_option maxRecDepth 20000 in
theorem gX2_init_X2_takeApart : GoodIn wsX2_init (wsV RX2 52 RX2 yX2_takeApart wsX2_takeApart) := goodIn_app (goodIn_of _ (by decide +kernel)) ggX2_init_X2_takeApart
set_option maxRecDepth 20000 in
theorem ggX2_write_X0_append : GoodIn wsX2_write wsX0_append := goodIn_r _ [6, 7, 8, 20, 21, 22] (by decide +kernel) (by decide +kernel)
set_option maxRecDepth 20000 in
theorem gX2_write_X0_append : GoodIn wsX2_write (wsV RX2 55 RX0 yX0_append wsX0_append) := goodIn_app (goodIn_of _ (by decide +kernel)) ggX2_write_X0_append
set_option maxRecDepth 20000 in
theorem ggX2_numerator_X2_readPolynomial : GoodIn wsX2_numerator wsX2_readPolynomial := goodIn_r _ [10, 5, 3, 11, 12, 13, 14, 15, 16, 17, 18, 19, 20, 21, 22, 23, 9, 24, 25, 26, 27, 28, 29, 30, 31, 32, 33, 34, 35, 36, 37, 38, 39, 40, 41, 42, 43, 44, 45, 46, 47, 48, 49, 50, 51, 52, 53, 131, 132, 133, 134, 135, 136, 137, 138, 139, 140, 141, 142, 143, 144, 145] (by decide +kernel) (by decide +kernel)
set_option maxRecDepth 20000 in
theorem gX2_numerator_X2_readPolynomial : GoodIn wsX2_numerator (wsV RX2 59 RX2 yX2_readPolynomial wsX2_readPolynomial) := goodIn_app (goodIn_of _ (by decide +kernel)) ggX2_numerator_X2_readPolynomial
set_option maxRecDepth 20000 in
theorem ggX2_numerator_X0_empty : GoodIn wsX2_numerator wsX0_empty := goodIn_r _ [57, 36, 31, 143, 144, 145] (by decide +kernel) (by decide +kernel)
set_option maxRecDepth 20000 in
theorem gX2_numerator_X0_empty : GoodIn wsX2_numerator (wsV RX2 63 RX0 yX0_empty wsX0_empty) := goodIn_app (goodIn_of _ (by decide +kernel)) ggX2_numerator_X0_empty
set_option maxRecDepth 20000 in
theorem ggX2_numerator_X1_become : GoodIn wsX2_numerator wsX1_become := goodIn_r _ [61, 16, 62, 63, 64, 65, 142] (by decide +kernel) (by decide +kernel)
set_option maxRecDepth 20000 in
theorem gX2_numerator_X1_become : GoodIn wsX2_numerator (wsV RX2 73 RX1 yX1_become wsX1_become) := goodIn_app (goodIn_of _ (by decide +kernel)) ggX2_numerator_X1_become
set_option maxRecDepth 20000 in
theorem ggX2_numerator_X2_takeApart : GoodIn wsX2_numerator wsX2_takeApart := goodIn_r _ [69, 70, 71, 4, 72, 73, 74, 75, 76, 14, 77, 16, 78, 12, 13, 15, 17, 18, 19, 20, 58, 59, 60, 61, 62, 63, 64, 65, 79, 80, 81, 82, 9, 83, 84, 85, 86, 87, 88, 89, 90, 91, 92, 93, 94, 95, 96, 97, 98, 99, 100, 101, 102, 103, 104, 105, 106, 107, 108, 109, 110, 111, 112, 113, 114, 115, 116, 117, 118, 119, 120, 121, 122, 123, 124, 125, 126, 131, 132, 133, 134, 135, 136, 137, 138, 139, 140, 141, 142] (by decide +kernel) (by decide +kernel)
set_option maxRecDepth 20000 in
theorem gX2_numerator_X2_takeApart : GoodIn wsX2_numerator (wsV RX2 52 RX2 yX2_takeApart wsX2_takeApart) := goodIn_app (goodIn_of _ (by decide +kernel)) ggX2_numerator_X2_takeApart
set_option maxRecDepth 20000 in
theorem ggX2_numerator_X1_degree : GoodIn wsX2_numerator wsX1_degree := goodIn_r _ [130, 16, 142] (by decide +kernel) (by decide +kernel)
set_option maxRecDepth 20000 in
theorem gX2_numerator_X1_degree : GoodIn wsX2_numerator (wsV RX2 77 RX1 yX1_degree wsX1_degree) := goodIn_app (goodIn_of _ (by decide +kernel)) ggX2_numerator_X1_degree
set_option maxRecDepth 20000 in
theorem ggX2_denominator_X2_readProduct : GoodIn wsX2_denominator wsX2_readProduct := goodIn_r _ [17, 6, 5, 18, 19, 20, 21, 22, 23, 24, 16, 25, 26, 27, 28, 29, 30, 31, 32, 33, 34, 35, 36, 37, 38, 39, 40, 41, 42, 43, 44, 45, 46, 47, 48, 49, 131, 132, 133, 134, 135, 136, 137, 138, 139, 140, 141, 142, 143, 144] (by decide +kernel) (by decide +kernel)
set_option maxRecDepth 20000 in
theorem gX2_denominator_X2_readProduct : GoodIn wsX2_denominator (wsV RX2 81 RX2 yX2_readProduct wsX2_readProduct) := goodIn_app (goodIn_of _ (by decide +kernel)) ggX2_denominator_X2_readProduct
set_option maxRecDepth 20000 in
theorem ggX2_denominator_X0_empty : GoodIn wsX2_denominator wsX0_empty := goodIn_r _ [53, 37, 32, 142, 143, 144] (by decide +kernel) (by decide +kernel)
set_option maxRecDepth 20000 in
theorem gX2_denominator_X0_empty : GoodIn wsX2_denominator (wsV RX2 63 RX0 yX0_empty wsX0_empty) := goodIn_app (goodIn_of _ (by decide +kernel)) ggX2_denominator_X0_empty
set_option maxRecDepth 20000 in
theorem ggX2_denominator_X2_sum : GoodIn wsX2_denominator wsX2_sum := goodIn_r _ [56] (by decide +kernel) (by decide +kernel)
set_option maxRecDepth 20000 in
theorem gX2_denominator_X2_sum : GoodIn wsX2_denominator (va_wsS RX2 86 yX2_sum wsX2_sum) := goodIn_app (goodIn_of _ (by decide +kernel)) ggX2_denominator_X2_sum
set_option maxRecDepth 20000 in
theorem ggX2_denominator_X2_takeApart : GoodIn wsX2_denominator wsX2_takeApart := goodIn_r _ [60, 12, 61, 62, 63, 64, 65, 66, 67, 68, 69, 70, 71, 72, 73, 74, 75, 76, 20, 77, 78, 79, 80, 81, 82, 9, 10, 11, 83, 84, 85, 86, 16, 87, 7, 46, 47, 48, 88, 89, 90, 91, 92, 93, 94, 95, 96, 97, 98, 99, 100, 101, 102, 103, 104, 105, 106, 107, 108, 109, 110, 111, 112, 113, 114, 115, 116, 117, 118, 119, 120, 121, 122, 123, 124, 125, 126, 131, 132, 133, 134, 135, 136, 137, 138, 139, 140, 141, 145] (by decide +kernel) (by decide +kernel)
set_option maxRecDepth 20000 in
theorem gX2_denominator_X2_takeApart : GoodIn wsX2_denominator (wsV RX2 52 RX2 yX2_takeApart wsX2_takeApart) := goodIn_app (goodIn_of _ (by decide +kernel)) ggX2_denominator_X2_takeApart
set_option maxRecDepth 20000 in
theorem ggX2_denominator_X1_degree : GoodIn wsX2_denominator wsX1_degree := goodIn_r _ [130, 70, 145] (by decide +kernel) (by decide +kernel)
set_option maxRecDepth 20000 in
theorem gX2_denominator_X1_degree : GoodIn wsX2_denominator (wsV RX2 77 RX1 yX1_degree wsX1_degree) := goodIn_app (goodIn_of _ (by decide +kernel)) ggX2_denominator_X1_degree
set_option maxRecDepth 20000 in
theorem ggX2_coefficient_X1_get : GoodIn wsX2_coefficient wsX1_get := goodIn_r _ [8, 9, 21] (by decide +kernel) (by decide +kernel)
set_option maxRecDepth 20000 in
theorem gX2_coefficient_X1_get : GoodIn wsX2_coefficient (wsV RX2 101 RX1 yX1_get wsX1_get) := goodIn_app (goodIn_of _ (by decide +kernel)) ggX2_coefficient_X1_get
set_option maxRecDepth 20000 in
theorem ggX2_many_X2_isPossibleRoot : GoodIn wsX2_many wsX2_isPossibleRoot := goodIn_r _ [5] (by decide +kernel) (by decide +kernel)
set_option maxRecDepth 20000 in
theorem gX2_many_X2_isPossibleRoot : GoodIn wsX2_many (va_wsS RX2 105 yX2_isPossibleRoot wsX2_isPossibleRoot) := goodIn_app (goodIn_of _ (by decide +kernel)) ggX2_many_X2_isPossibleRoot
set_option maxRecDepth 20000 in
theorem ggX2_part_X2_many : GoodIn wsX2_part wsX2_many := goodIn_r _ [7, 8, 9, 10, 6, 11, 28, 29, 30, 31, 32, 33, 34, 35, 36, 37, 38] (by decide +kernel) (by decide +kernel)
set_option maxRecDepth 20000 in
theorem gX2_part_X2_many : GoodIn wsX2_part (wsV RX2 109 RX2 yX2_many wsX2_many) := goodIn_app (goodIn_of _ (by decide +kernel)) ggX2_part_X2_many
set_option maxRecDepth 20000 in
theorem ggX2_part_X2_isSide : GoodIn wsX2_part wsX2_isSide := goodIn_r _ [14] (by decide +kernel) (by decide +kernel)
set_option maxRecDepth 20000 in
theorem gX2_part_X2_isSide : GoodIn wsX2_part (va_wsS RX2 113 yX2_isSide wsX2_isSide) := goodIn_app (goodIn_of _ (by decide +kernel)) ggX2_part_X2_isSide
set_option maxRecDepth 20000 in
theorem ggX2_part_X2_partAbove : GoodIn wsX2_part wsX2_partAbove := goodIn_r _ [18, 19, 20, 21, 6, 22, 9, 10, 11, 28, 29, 30, 31, 32, 33, 34, 35, 36, 37, 38] (by decide +kernel) (by decide +kernel)
set_option maxRecDepth 20000 in
theorem gX2_part_X2_partAbove : GoodIn wsX2_part (wsV RX2 118 RX2 yX2_partAbove wsX2_partAbove) := goodIn_app (goodIn_of _ (by decide +kernel)) ggX2_part_X2_partAbove
set_option maxRecDepth 20000 in
theorem ggX2_part_X2_partBelow : GoodIn wsX2_part wsX2_partBelow := goodIn_r _ [26, 27, 20, 21, 6, 22, 9, 10, 11, 28, 29, 30, 31, 32, 33, 34, 35, 36, 37, 38] (by decide +kernel) (by decide +kernel)
set_option maxRecDepth 20000 in
theorem gX2_part_X2_partBelow : GoodIn wsX2_part (wsV RX2 122 RX2 yX2_partBelow wsX2_partBelow) := goodIn_app (goodIn_of _ (by decide +kernel)) ggX2_part_X2_partBelow
set_option maxRecDepth 20000 in
theorem ggX2_integral_X2_isInIntegral : GoodIn wsX2_integral wsX2_isInIntegral := goodIn_r _ [8, 9, 10, 11, 7, 12, 13, 14, 15, 16, 49, 50, 51, 52, 53, 54, 55, 56, 57, 58, 59] (by decide +kernel) (by decide +kernel)
set_option maxRecDepth 20000 in
theorem gX2_integral_X2_isInIntegral : GoodIn wsX2_integral (wsV RX2 125 RX2 yX2_isInIntegral wsX2_isInIntegral) := goodIn_app (goodIn_of _ (by decide +kernel)) ggX2_integral_X2_isInIntegral
set_option maxRecDepth 20000 in
theorem ggX2_integral_X2_isSide : GoodIn wsX2_integral wsX2_isSide := goodIn_r _ [19] (by decide +kernel) (by decide +kernel)
set_option maxRecDepth 20000 in
theorem gX2_integral_X2_isSide : GoodIn wsX2_integral (va_wsS RX2 113 yX2_isSide wsX2_isSide) := goodIn_app (goodIn_of _ (by decide +kernel)) ggX2_integral_X2_isSide
set_option maxRecDepth 20000 in
theorem ggX2_integral_X1_get : GoodIn wsX2_integral wsX1_get := goodIn_r _ [24, 25, 60] (by decide +kernel) (by decide +kernel)
set_option maxRecDepth 20000 in
theorem gX2_integral_X1_get : GoodIn wsX2_integral (wsV RX2 101 RX1 yX1_get wsX1_get) := goodIn_app (goodIn_of _ (by decide +kernel)) ggX2_integral_X1_get
set_option maxRecDepth 20000 in
theorem ggX2_integral_X2_inLowestTerms : GoodIn wsX2_integral wsX2_inLowestTerms := goodIn_r _ [28, 29, 30, 7, 31, 32, 33, 34, 35] (by decide +kernel) (by decide +kernel)
set_option maxRecDepth 20000 in
theorem gX2_integral_X2_inLowestTerms : GoodIn wsX2_integral (va_wsS RX2 131 yX2_inLowestTerms wsX2_inLowestTerms) := goodIn_app (goodIn_of _ (by decide +kernel)) ggX2_integral_X2_inLowestTerms
set_option maxRecDepth 20000 in
theorem ggX2_integral_X2_partAbove : GoodIn wsX2_integral wsX2_partAbove := goodIn_r _ [39, 40, 41, 42, 7, 43, 14, 15, 16, 49, 50, 51, 52, 53, 54, 55, 56, 57, 58, 59] (by decide +kernel) (by decide +kernel)
set_option maxRecDepth 20000 in
theorem gX2_integral_X2_partAbove : GoodIn wsX2_integral (wsV RX2 118 RX2 yX2_partAbove wsX2_partAbove) := goodIn_app (goodIn_of _ (by decide +kernel)) ggX2_integral_X2_partAbove
set_option maxRecDepth 20000 in
theorem ggX2_integral_X2_partBelow : GoodIn wsX2_integral wsX2_partBelow := goodIn_r _ [47, 48, 41, 42, 7, 43, 14, 15, 16, 49, 50, 51, 52, 53, 54, 55, 56, 57, 58, 59] (by decide +kernel) (by decide +kernel)
set_option maxRecDepth 20000 in
theorem gX2_integral_X2_partBelow : GoodIn wsX2_integral (wsV RX2 122 RX2 yX2_partBelow wsX2_partBelow) := goodIn_app (goodIn_of _ (by decide +kernel)) ggX2_integral_X2_partBelow
set_option maxRecDepth 20000 in
theorem ggX2_value_X2_many : GoodIn wsX2_value wsX2_many := goodIn_r _ [9, 10, 11, 12, 8, 13, 33, 34, 35, 36, 37, 38, 39, 40, 41, 42, 43] (by decide +kernel) (by decide +kernel)
set_option maxRecDepth 20000 in
theorem gX2_value_X2_many : GoodIn wsX2_value (wsV RX2 109 RX2 yX2_many wsX2_many) := goodIn_app (goodIn_of _ (by decide +kernel)) ggX2_value_X2_many
set_option maxRecDepth 20000 in
theorem ggX2_value_X2_isSide : GoodIn wsX2_value wsX2_isSide := goodIn_r _ [16] (by decide +kernel) (by decide +kernel)
set_option maxRecDepth 20000 in
theorem gX2_value_X2_isSide : GoodIn wsX2_value (va_wsS RX2 113 yX2_isSide wsX2_isSide) := goodIn_app (goodIn_of _ (by decide +kernel)) ggX2_value_X2_isSide
set_option maxRecDepth 20000 in
theorem ggX2_value_X1_exactlyAt : GoodIn wsX2_value wsX1_exactlyAt := goodIn_r _ [21, 22, 44] (by decide +kernel) (by decide +kernel)
set_option maxRecDepth 20000 in
theorem gX2_value_X1_exactlyAt : GoodIn wsX2_value (wsV RX2 137 RX1 yX1_exactlyAt wsX1_exactlyAt) := goodIn_app (goodIn_of _ (by decide +kernel)) ggX2_value_X1_exactlyAt
set_option maxRecDepth 20000 in
theorem ggX2_value_X2_inLowestTerms : GoodIn wsX2_value wsX2_inLowestTerms := goodIn_r _ [25, 26, 27, 8, 28, 29, 30, 31, 32] (by decide +kernel) (by decide +kernel)
set_option maxRecDepth 20000 in
theorem gX2_value_X2_inLowestTerms : GoodIn wsX2_value (va_wsS RX2 131 yX2_inLowestTerms wsX2_inLowestTerms) := goodIn_app (goodIn_of _ (by decide +kernel)) ggX2_value_X2_inLowestTerms
set_option maxRecDepth 20000 in
theorem ggX2_at_X2_isNear : GoodIn wsX2_at wsX2_isNear := goodIn_r _ [8, 9, 10] (by decide +kernel) (by decide +kernel)
set_option maxRecDepth 20000 in
theorem gX2_at_X2_isNear : GoodIn wsX2_at (va_wsS RX2 140 yX2_isNear wsX2_isNear) := goodIn_app (goodIn_of _ (by decide +kernel)) ggX2_at_X2_isNear
set_option maxRecDepth 20000 in
theorem ggX2_at_X1_inDoublesAt : GoodIn wsX2_at wsX1_inDoublesAt := goodIn_r _ [15, 16, 28] (by decide +kernel) (by decide +kernel)
set_option maxRecDepth 20000 in
theorem gX2_at_X1_inDoublesAt : GoodIn wsX2_at (wsV RX2 146 RX1 yX1_inDoublesAt wsX1_inDoublesAt) := goodIn_app (goodIn_of _ (by decide +kernel)) ggX2_at_X1_inDoublesAt
set_option maxRecDepth 20000 in
theorem ggX2_byParts_X2_isNear : GoodIn wsX2_byParts wsX2_isNear := goodIn_r _ [7, 8, 9] (by decide +kernel) (by decide +kernel)
set_option maxRecDepth 20000 in
theorem gX2_byParts_X2_isNear : GoodIn wsX2_byParts (va_wsS RX2 140 yX2_isNear wsX2_isNear) := goodIn_app (goodIn_of _ (by decide +kernel)) ggX2_byParts_X2_isNear
set_option maxRecDepth 20000 in
theorem ggX2_byParts_X1_inDoublesAt : GoodIn wsX2_byParts wsX1_inDoublesAt := goodIn_r _ [14, 15, 52] (by decide +kernel) (by decide +kernel)
set_option maxRecDepth 20000 in
theorem gX2_byParts_X1_inDoublesAt : GoodIn wsX2_byParts (wsV RX2 146 RX1 yX1_inDoublesAt wsX1_inDoublesAt) := goodIn_app (goodIn_of _ (by decide +kernel)) ggX2_byParts_X1_inDoublesAt
set_option maxRecDepth 20000 in
theorem ggX2_byParts_X2_withPartsOf : GoodIn wsX2_byParts wsX2_withPartsOf := goodIn_r _ [19, 20, 21, 22, 6, 23, 24, 25, 26, 27, 28, 29, 30, 31, 32, 33, 34, 35, 36, 37, 38, 39, 40, 41, 42, 43, 44, 45, 46, 47, 48, 49, 50, 51] (by decide +kernel) (by decide +kernel)
set_option maxRecDepth 20000 in
theorem gX2_byParts_X2_withPartsOf : GoodIn wsX2_byParts (wsV RX2 150 RX2 yX2_withPartsOf wsX2_withPartsOf) := goodIn_app (goodIn_of _ (by decide +kernel)) ggX2_byParts_X2_withPartsOf
set_option maxRecDepth 20000 in
theorem ggX2_withPartsOf_X2_many : GoodIn wsX2_withPartsOf wsX2_many := goodIn_r _ [5, 6, 7, 8, 4, 9, 23, 24, 25, 26, 27, 28, 29, 30, 31, 32, 33] (by decide +kernel) (by decide +kernel)
set_option maxRecDepth 20000 in
theorem gX2_withPartsOf_X2_many : GoodIn wsX2_withPartsOf (wsV RX2 109 RX2 yX2_many wsX2_many) := goodIn_app (goodIn_of _ (by decide +kernel)) ggX2_withPartsOf_X2_many
set_option maxRecDepth 20000 in
theorem ggX2_withPartsOf_X2_partAbove : GoodIn wsX2_withPartsOf wsX2_partAbove := goodIn_r _ [13, 14, 15, 16, 4, 17, 7, 8, 9, 23, 24, 25, 26, 27, 28, 29, 30, 31, 32, 33] (by decide +kernel) (by decide +kernel)
set_option maxRecDepth 20000 in
theorem gX2_withPartsOf_X2_partAbove : GoodIn wsX2_withPartsOf (wsV RX2 118 RX2 yX2_partAbove wsX2_partAbove) := goodIn_app (goodIn_of _ (by decide +kernel)) ggX2_withPartsOf_X2_partAbove
set_option maxRecDepth 20000 in
theorem ggX2_withPartsOf_X2_partBelow : GoodIn wsX2_withPartsOf wsX2_partBelow := goodIn_r _ [21, 22, 15, 16, 4, 17, 7, 8, 9, 23, 24, 25, 26, 27, 28, 29, 30, 31, 32, 33] (by decide +kernel) (by decide +kernel)
set_option maxRecDepth 20000 in
theorem gX2_withPartsOf_X2_partBelow : GoodIn wsX2_withPartsOf (wsV RX2 122 RX2 yX2_partBelow wsX2_partBelow) := goodIn_app (goodIn_of _ (by decide +kernel)) ggX2_withPartsOf_X2_partBelow
set_option maxRecDepth 20000 in
theorem ggX2_isInIntegral_X2_many : GoodIn wsX2_isInIntegral wsX2_many := goodIn_r _ [5, 6, 7, 8, 4, 9, 10, 11, 12, 13, 14, 15, 16, 17, 18, 19, 20] (by decide +kernel) (by decide +kernel)
set_option maxRecDepth 20000 in
theorem gX2_isInIntegral_X2_many : GoodIn wsX2_isInIntegral (wsV RX2 109 RX2 yX2_many wsX2_many) := goodIn_app (goodIn_of _ (by decide +kernel)) ggX2_isInIntegral_X2_many
set_option maxRecDepth 20000 in
theorem ggX2_placeOfPart_X2_isPossibleRoot : GoodIn wsX2_placeOfPart wsX2_isPossibleRoot := goodIn_r _ [4] (by decide +kernel) (by decide +kernel)
set_option maxRecDepth 20000 in
theorem gX2_placeOfPart_X2_isPossibleRoot : GoodIn wsX2_placeOfPart (va_wsS RX2 105 yX2_isPossibleRoot wsX2_isPossibleRoot) := goodIn_app (goodIn_of _ (by decide +kernel)) ggX2_placeOfPart_X2_isPossibleRoot
set_option maxRecDepth 20000 in
theorem ggX2_partAbove_X2_placeOfPart : GoodIn wsX2_partAbove wsX2_placeOfPart := goodIn_r _ [5, 6, 7, 4, 8] (by decide +kernel) (by decide +kernel)
set_option maxRecDepth 20000 in
theorem gX2_partAbove_X2_placeOfPart : GoodIn wsX2_partAbove (va_wsS RX2 158 yX2_placeOfPart wsX2_placeOfPart) := goodIn_app (goodIn_of _ (by decide +kernel)) ggX2_partAbove_X2_placeOfPart
set_option maxRecDepth 20000 in
theorem ggX2_partBelow_X2_placeOfPart : GoodIn wsX2_partBelow wsX2_placeOfPart := goodIn_r _ [5, 6, 7, 4, 8] (by decide +kernel) (by decide +kernel)
set_option maxRecDepth 20000 in
theorem gX2_partBelow_X2_placeOfPart : GoodIn wsX2_partBelow (va_wsS RX2 158 yX2_placeOfPart wsX2_placeOfPart) := goodIn_app (goodIn_of _ (by decide +kernel)) ggX2_partBelow_X2_placeOfPart
set_option maxRecDepth 20000 in
theorem ggX2_keepPart_X2_placeOfPart : GoodIn wsX2_keepPart wsX2_placeOfPart := goodIn_r _ [6, 7, 8, 5, 9] (by decide +kernel) (by decide +kernel)
set_option maxRecDepth 20000 in
theorem gX2_keepPart_X2_placeOfPart : GoodIn wsX2_keepPart (va_wsS RX2 158 yX2_placeOfPart wsX2_placeOfPart) := goodIn_app (goodIn_of _ (by decide +kernel)) ggX2_keepPart_X2_placeOfPart
set_option maxRecDepth 20000 in
theorem ggX2_keepPart_X2_inLowestTerms : GoodIn wsX2_keepPart wsX2_inLowestTerms := goodIn_r _ [12, 13, 14, 5, 15, 16, 17, 18, 19] (by decide +kernel) (by decide +kernel)
set_option maxRecDepth 20000 in
theorem gX2_keepPart_X2_inLowestTerms : GoodIn wsX2_keepPart (va_wsS RX2 131 yX2_inLowestTerms wsX2_inLowestTerms) := goodIn_app (goodIn_of _ (by decide +kernel)) ggX2_keepPart_X2_inLowestTerms
set_option maxRecDepth 20000 in
theorem ggX2_inLowestTerms_X2_commonDivisor : GoodIn wsX2_inLowestTerms wsX2_commonDivisor := goodIn_r _ [4, 5, 6, 7, 8] (by decide +kernel) (by decide +kernel)
set_option maxRecDepth 20000 in
theorem gX2_inLowestTerms_X2_commonDivisor : GoodIn wsX2_inLowestTerms (va_wsS RX2 162 yX2_commonDivisor wsX2_commonDivisor) := goodIn_app (goodIn_of _ (by decide +kernel)) ggX2_inLowestTerms_X2_commonDivisor
set_option maxRecDepth 20000 in
theorem ggX2_takeApart_X1_becomeOne : GoodIn wsX2_takeApart wsX1_becomeOne := goodIn_r _ [10, 11, 12, 13, 14, 9, 15, 16, 17, 18, 19, 88] (by decide +kernel) (by decide +kernel)
set_option maxRecDepth 20000 in
theorem gX2_takeApart_X1_becomeOne : GoodIn wsX2_takeApart (wsV RX2 172 RX1 yX1_becomeOne wsX1_becomeOne) := goodIn_app (goodIn_of _ (by decide +kernel)) ggX2_takeApart_X1_becomeOne
set_option maxRecDepth 20000 in
theorem ggX2_takeApart_X1_become : GoodIn wsX2_takeApart wsX1_become := goodIn_r _ [23, 11, 24, 25, 26, 27, 88] (by decide +kernel) (by decide +kernel)
set_option maxRecDepth 20000 in
theorem gX2_takeApart_X1_become : GoodIn wsX2_takeApart (wsV RX2 73 RX1 yX1_become wsX1_become) := goodIn_app (goodIn_of _ (by decide +kernel)) ggX2_takeApart_X1_become
set_option maxRecDepth 20000 in
theorem ggX2_takeApart_J7_fill_d0a16 : GoodIn wsX2_takeApart wsJ7_fill_d0a16 := goodIn_r _ [19] (by decide +kernel) (by decide +kernel)
set_option maxRecDepth 20000 in
theorem gX2_takeApart_J7_fill_d0a16 : GoodIn wsX2_takeApart (va_wsS RX2 175 yJ7_fill_d0a16 wsJ7_fill_d0a16) := goodIn_app (goodIn_of _ (by decide +kernel)) ggX2_takeApart_J7_fill_d0a16
set_option maxRecDepth 20000 in
theorem ggX2_takeApart_X2_many : GoodIn wsX2_takeApart wsX2_many := goodIn_r _ [33, 34, 35, 36, 32, 37, 77, 78, 79, 80, 81, 82, 83, 84, 85, 86, 87] (by decide +kernel) (by decide +kernel)
set_option maxRecDepth 20000 in
theorem gX2_takeApart_X2_many : GoodIn wsX2_takeApart (wsV RX2 109 RX2 yX2_many wsX2_many) := goodIn_app (goodIn_of _ (by decide +kernel)) ggX2_takeApart_X2_many
set_option maxRecDepth 20000 in
theorem ggX2_takeApart_X1_multiplyByFactorOf : GoodIn wsX2_takeApart wsX1_multiplyByFactorOf := goodIn_r _ [41, 11, 88] (by decide +kernel) (by decide +kernel)
set_option maxRecDepth 20000 in
theorem gX2_takeApart_X1_multiplyByFactorOf : GoodIn wsX2_takeApart (wsV RX2 181 RX1 yX1_multiplyByFactorOf wsX1_multiplyByFactorOf) := goodIn_app (goodIn_of _ (by decide +kernel)) ggX2_takeApart_X1_multiplyByFactorOf
set_option maxRecDepth 20000 in
theorem ggX2_takeApart_X1_divideByFactorOf : GoodIn wsX2_takeApart wsX1_divideByFactorOf := goodIn_r _ [45, 11, 88] (by decide +kernel) (by decide +kernel)
set_option maxRecDepth 20000 in
theorem gX2_takeApart_X1_divideByFactorOf : GoodIn wsX2_takeApart (wsV RX2 185 RX1 yX1_divideByFactorOf wsX1_divideByFactorOf) := goodIn_app (goodIn_of _ (by decide +kernel)) ggX2_takeApart_X1_divideByFactorOf
set_option maxRecDepth 20000 in
theorem ggX2_takeApart_X2_makePartsOf : GoodIn wsX2_takeApart wsX2_makePartsOf := goodIn_r _ [49, 50, 3, 51, 20, 21, 22, 9, 23, 11, 24, 25, 26, 27, 52, 53, 54, 32, 55, 6, 7, 8, 10, 12, 13, 14, 15, 16, 17, 18, 19, 29, 30, 31, 33, 34, 35, 36, 37, 38, 39, 40, 41, 42, 43, 44, 45, 56, 57, 58, 59, 4, 5, 60, 61, 62, 63, 64, 65, 66, 67, 68, 69, 70, 71, 72, 73, 74, 75, 76, 77, 78, 79, 80, 81, 82, 83, 84, 85, 86, 87, 88] (by decide +kernel) (by decide +kernel)
set_option maxRecDepth 20000 in
theorem gX2_takeApart_X2_makePartsOf : GoodIn wsX2_takeApart (wsV RX2 188 RX2 yX2_makePartsOf wsX2_makePartsOf) := goodIn_app (goodIn_of _ (by decide +kernel)) ggX2_takeApart_X2_makePartsOf
set_option maxRecDepth 20000 in
theorem ggX2_makePartsOf_X1_become : GoodIn wsX2_makePartsOf wsX1_become := goodIn_r _ [8, 9, 10, 11, 12, 13, 81] (by decide +kernel) (by decide +kernel)
set_option maxRecDepth 20000 in
theorem gX2_makePartsOf_X1_become : GoodIn wsX2_makePartsOf (wsV RX2 73 RX1 yX1_become wsX1_become) := goodIn_app (goodIn_of _ (by decide +kernel)) ggX2_makePartsOf_X1_become
set_option maxRecDepth 20000 in
theorem ggX2_makePartsOf_X2_multiplyOtherFactors : GoodIn wsX2_makePartsOf wsX2_multiplyOtherFactors := goodIn_r _ [18, 3, 19, 20, 21, 7, 22, 9, 23, 24, 25, 26, 27, 28, 29, 30, 31, 32, 33, 17, 34, 35, 36, 37, 38, 39, 40, 41, 42, 70, 71, 72, 73, 74, 75, 76, 77, 78, 79, 80, 81] (by decide +kernel) (by decide +kernel)
set_option maxRecDepth 20000 in
theorem gX2_makePartsOf_X2_multiplyOtherFactors : GoodIn wsX2_makePartsOf (wsV RX2 191 RX2 yX2_multiplyOtherFactors wsX2_multiplyOtherFactors) := goodIn_app (goodIn_of _ (by decide +kernel)) ggX2_makePartsOf_X2_multiplyOtherFactors
set_option maxRecDepth 20000 in
theorem ggX2_makePartsOf_X1_divideByFactorOf : GoodIn wsX2_makePartsOf wsX1_divideByFactorOf := goodIn_r _ [46, 9, 81] (by decide +kernel) (by decide +kernel)
set_option maxRecDepth 20000 in
theorem gX2_makePartsOf_X1_divideByFactorOf : GoodIn wsX2_makePartsOf (wsV RX2 185 RX1 yX1_divideByFactorOf wsX1_divideByFactorOf) := goodIn_app (goodIn_of _ (by decide +kernel)) ggX2_makePartsOf_X1_divideByFactorOf
set_option maxRecDepth 20000 in
theorem ggX2_makePartsOf_X2_many : GoodIn wsX2_makePartsOf wsX2_many := goodIn_r _ [34, 35, 36, 37, 17, 38, 70, 71, 72, 73, 74, 75, 76, 77, 78, 79, 80] (by decide +kernel) (by decide +kernel)
set_option maxRecDepth 20000 in
theorem gX2_makePartsOf_X2_many : GoodIn wsX2_makePartsOf (wsV RX2 109 RX2 yX2_many wsX2_many) := goodIn_app (goodIn_of _ (by decide +kernel)) ggX2_makePartsOf_X2_many
set_option maxRecDepth 20000 in
theorem ggX2_makePartsOf_X2_keepPart : GoodIn wsX2_makePartsOf wsX2_keepPart := goodIn_r _ [50, 51, 52, 53, 54, 17, 55, 36, 37, 38, 56, 57, 58, 59, 60, 61, 62, 63, 64, 65, 70, 71, 72, 73, 74, 75, 76, 77, 78, 79, 80] (by decide +kernel) (by decide +kernel)
set_option maxRecDepth 20000 in
theorem gX2_makePartsOf_X2_keepPart : GoodIn wsX2_makePartsOf (wsV RX2 194 RX2 yX2_keepPart wsX2_keepPart) := goodIn_app (goodIn_of _ (by decide +kernel)) ggX2_makePartsOf_X2_keepPart
set_option maxRecDepth 20000 in
theorem ggX2_makePartsOf_X1_mix : GoodIn wsX2_makePartsOf wsX1_mix := goodIn_r _ [69, 9, 81] (by decide +kernel) (by decide +kernel)
set_option maxRecDepth 20000 in
theorem gX2_makePartsOf_X1_mix : GoodIn wsX2_makePartsOf (wsV RX2 198 RX1 yX1_mix wsX1_mix) := goodIn_app (goodIn_of _ (by decide +kernel)) ggX2_makePartsOf_X1_mix
set_option maxRecDepth 20000 in
theorem ggX2_multiplyOtherFactors_X1_becomeOne : GoodIn wsX2_multiplyOtherFactors wsX1_becomeOne := goodIn_r _ [6, 7, 8, 9, 10, 5, 11, 12, 13, 14, 15, 40] (by decide +kernel) (by decide +kernel)
set_option maxRecDepth 20000 in
theorem gX2_multiplyOtherFactors_X1_becomeOne : GoodIn wsX2_multiplyOtherFactors (wsV RX2 172 RX1 yX1_becomeOne wsX1_becomeOne) := goodIn_app (goodIn_of _ (by decide +kernel)) ggX2_multiplyOtherFactors_X1_becomeOne
set_option maxRecDepth 20000 in
theorem ggX2_multiplyOtherFactors_X2_many : GoodIn wsX2_multiplyOtherFactors wsX2_many := goodIn_r _ [20, 21, 22, 23, 19, 24, 29, 30, 31, 32, 33, 34, 35, 36, 37, 38, 39] (by decide +kernel) (by decide +kernel)
set_option maxRecDepth 20000 in
theorem gX2_multiplyOtherFactors_X2_many : GoodIn wsX2_multiplyOtherFactors (wsV RX2 109 RX2 yX2_many wsX2_many) := goodIn_app (goodIn_of _ (by decide +kernel)) ggX2_multiplyOtherFactors_X2_many
set_option maxRecDepth 20000 in
theorem ggX2_multiplyOtherFactors_X1_multiplyByFactorOf : GoodIn wsX2_multiplyOtherFactors wsX1_multiplyByFactorOf := goodIn_r _ [28, 7, 40] (by decide +kernel) (by decide +kernel)
set_option maxRecDepth 20000 in
theorem gX2_multiplyOtherFactors_X1_multiplyByFactorOf : GoodIn wsX2_multiplyOtherFactors (wsV RX2 181 RX1 yX1_multiplyByFactorOf wsX1_multiplyByFactorOf) := goodIn_app (goodIn_of _ (by decide +kernel)) ggX2_multiplyOtherFactors_X1_multiplyByFactorOf
set_option maxRecDepth 20000 in
theorem ggX2_readPolynomial_X1_becomeZero : GoodIn wsX2_readPolynomial wsX1_becomeZero := goodIn_r _ [7, 8, 9, 10, 11, 12, 58] (by decide +kernel) (by decide +kernel)
set_option maxRecDepth 20000 in
theorem gX2_readPolynomial_X1_becomeZero : GoodIn wsX2_readPolynomial (wsV RX2 202 RX1 yX1_becomeZero wsX1_becomeZero) := goodIn_app (goodIn_of _ (by decide +kernel)) ggX2_readPolynomial_X1_becomeZero
set_option maxRecDepth 20000 in
theorem ggX2_readPolynomial_X2_readTerm : GoodIn wsX2_readPolynomial wsX2_readTerm := goodIn_r _ [17, 2, 1, 18, 19, 20, 21, 22, 23, 24, 25, 26, 27, 28, 29, 30, 31, 32, 16, 33, 34, 35, 36, 37, 38, 39, 40, 41, 42, 43, 44, 6, 45, 8, 47, 48, 49, 50, 51, 52, 53, 54, 55, 56, 57, 59, 60, 61, 58] (by decide +kernel) (by decide +kernel)
set_option maxRecDepth 20000 in
theorem gX2_readPolynomial_X2_readTerm : GoodIn wsX2_readPolynomial (wsV RX2 205 RX2 yX2_readTerm wsX2_readTerm) := goodIn_app (goodIn_of _ (by decide +kernel)) ggX2_readPolynomial_X2_readTerm
set_option maxRecDepth 20000 in
theorem ggX2_readPolynomial_X0_isAtEnd : GoodIn wsX2_readPolynomial wsX0_isAtEnd := goodIn_r _ [28, 24, 29, 59, 60, 61] (by decide +kernel) (by decide +kernel)
set_option maxRecDepth 20000 in
theorem gX2_readPolynomial_X0_isAtEnd : GoodIn wsX2_readPolynomial (wsV RX2 209 RX0 yX0_isAtEnd wsX0_isAtEnd) := goodIn_app (goodIn_of _ (by decide +kernel)) ggX2_readPolynomial_X0_isAtEnd
set_option maxRecDepth 20000 in
theorem ggX2_readTerm_X0_takes : GoodIn wsX2_readTerm wsX0_takes := goodIn_r _ [7, 8, 9, 10, 11, 12, 6, 13, 14, 45, 46, 47] (by decide +kernel) (by decide +kernel)
set_option maxRecDepth 20000 in
theorem gX2_readTerm_X0_takes : GoodIn wsX2_readTerm (wsV RX2 212 RX0 yX0_takes wsX0_takes) := goodIn_app (goodIn_of _ (by decide +kernel)) ggX2_readTerm_X0_takes
set_option maxRecDepth 20000 in
theorem ggX2_readTerm_X2_readNumber : GoodIn wsX2_readTerm wsX2_readNumber := goodIn_r _ [19, 1, 20, 21, 22, 6, 23, 8, 9, 10, 11, 12, 13, 14, 34, 35, 36, 37, 38, 39, 40, 41, 42, 43, 44, 45, 46, 47] (by decide +kernel) (by decide +kernel)
set_option maxRecDepth 20000 in
theorem gX2_readTerm_X2_readNumber : GoodIn wsX2_readTerm (wsV RX2 215 RX2 yX2_readNumber wsX2_readNumber) := goodIn_app (goodIn_of _ (by decide +kernel)) ggX2_readTerm_X2_readNumber
set_option maxRecDepth 20000 in
theorem ggX2_readTerm_X2_readPowerOfX : GoodIn wsX2_readTerm wsX2_readPowerOfX := goodIn_r _ [27, 1, 3, 4, 5, 6, 7, 8, 9, 10, 11, 12, 13, 14, 20, 21, 22, 23, 34, 35, 36, 37, 38, 39, 40, 41, 42, 43, 44, 45, 46, 47] (by decide +kernel) (by decide +kernel)
set_option maxRecDepth 20000 in
theorem gX2_readTerm_X2_readPowerOfX : GoodIn wsX2_readTerm (wsV RX2 218 RX2 yX2_readPowerOfX wsX2_readPowerOfX) := goodIn_app (goodIn_of _ (by decide +kernel)) ggX2_readTerm_X2_readPowerOfX
set_option maxRecDepth 20000 in
theorem ggX2_readTerm_X1_add : GoodIn wsX2_readTerm wsX1_add := goodIn_r _ [32, 33, 48] (by decide +kernel) (by decide +kernel)
set_option maxRecDepth 20000 in
theorem gX2_readTerm_X1_add : GoodIn wsX2_readTerm (wsV RX2 221 RX1 yX1_add wsX1_add) := goodIn_app (goodIn_of _ (by decide +kernel)) ggX2_readTerm_X1_add
set_option maxRecDepth 20000 in
theorem ggX2_readNumber_X0_takeDigit : GoodIn wsX2_readNumber wsX0_takeDigit := goodIn_r _ [6, 7, 8, 9, 10, 11, 5, 12, 13, 25, 26, 27] (by decide +kernel) (by decide +kernel)
set_option maxRecDepth 20000 in
theorem gX2_readNumber_X0_takeDigit : GoodIn wsX2_readNumber (wsV RX2 225 RX0 yX0_takeDigit wsX0_takeDigit) := goodIn_app (goodIn_of _ (by decide +kernel)) ggX2_readNumber_X0_takeDigit
set_option maxRecDepth 20000 in
theorem ggX2_readPowerOfX_X0_takes : GoodIn wsX2_readPowerOfX wsX0_takes := goodIn_r _ [6, 7, 8, 9, 10, 11, 5, 12, 13, 29, 30, 31] (by decide +kernel) (by decide +kernel)
set_option maxRecDepth 20000 in
theorem gX2_readPowerOfX_X0_takes : GoodIn wsX2_readPowerOfX (wsV RX2 212 RX0 yX0_takes wsX0_takes) := goodIn_app (goodIn_of _ (by decide +kernel)) ggX2_readPowerOfX_X0_takes
set_option maxRecDepth 20000 in
theorem ggX2_readPowerOfX_X0_takeDigit : GoodIn wsX2_readPowerOfX wsX0_takeDigit := goodIn_r _ [17, 7, 8, 9, 10, 11, 5, 12, 13, 29, 30, 31] (by decide +kernel) (by decide +kernel)
set_option maxRecDepth 20000 in
theorem gX2_readPowerOfX_X0_takeDigit : GoodIn wsX2_readPowerOfX (wsV RX2 225 RX0 yX0_takeDigit wsX0_takeDigit) := goodIn_app (goodIn_of _ (by decide +kernel)) ggX2_readPowerOfX_X0_takeDigit
set_option maxRecDepth 20000 in
theorem ggX2_readProduct_J7_fill_53178 : GoodIn wsX2_readProduct wsJ7_fill_53178 := goodIn_r _ [6] (by decide +kernel) (by decide +kernel)
set_option maxRecDepth 20000 in
theorem gX2_readProduct_J7_fill_53178 : GoodIn wsX2_readProduct (va_wsS RX2 228 yJ7_fill_53178 wsJ7_fill_53178) := goodIn_app (goodIn_of _ (by decide +kernel)) ggX2_readProduct_J7_fill_53178
set_option maxRecDepth 20000 in
theorem ggX2_readProduct_X2_readFactor : GoodIn wsX2_readProduct wsX2_readFactor := goodIn_r _ [11, 2, 1, 12, 13, 14, 15, 16, 17, 18, 19, 20, 21, 22, 23, 24, 25, 26, 10, 27, 28, 29, 30, 31, 32, 33, 34, 36, 37, 38, 39, 40, 41, 42, 43, 44, 45, 46, 47, 48, 49] (by decide +kernel) (by decide +kernel)
set_option maxRecDepth 20000 in
theorem gX2_readProduct_X2_readFactor : GoodIn wsX2_readProduct (wsV RX2 231 RX2 yX2_readFactor wsX2_readFactor) := goodIn_app (goodIn_of _ (by decide +kernel)) ggX2_readProduct_X2_readFactor
set_option maxRecDepth 20000 in
theorem ggX2_readProduct_X0_isAtEnd : GoodIn wsX2_readProduct wsX0_isAtEnd := goodIn_r _ [22, 18, 23, 47, 48, 49] (by decide +kernel) (by decide +kernel)
set_option maxRecDepth 20000 in
theorem gX2_readProduct_X0_isAtEnd : GoodIn wsX2_readProduct (wsV RX2 209 RX0 yX0_isAtEnd wsX0_isAtEnd) := goodIn_app (goodIn_of _ (by decide +kernel)) ggX2_readProduct_X0_isAtEnd
set_option maxRecDepth 20000 in
theorem ggX2_readFactor_X0_takes : GoodIn wsX2_readFactor wsX0_takes := goodIn_r _ [7, 8, 9, 10, 11, 12, 6, 13, 14, 38, 39, 40] (by decide +kernel) (by decide +kernel)
set_option maxRecDepth 20000 in
theorem gX2_readFactor_X0_takes : GoodIn wsX2_readFactor (wsV RX2 212 RX0 yX0_takes wsX0_takes) := goodIn_app (goodIn_of _ (by decide +kernel)) ggX2_readFactor_X0_takes
set_option maxRecDepth 20000 in
theorem ggX2_readFactor_X2_readRoot : GoodIn wsX2_readFactor wsX2_readRoot := goodIn_r _ [19, 1, 3, 4, 5, 6, 7, 8, 9, 10, 11, 12, 13, 14, 20, 21, 22, 23, 27, 28, 29, 30, 31, 32, 33, 34, 35, 36, 37, 38, 39, 40] (by decide +kernel) (by decide +kernel)
set_option maxRecDepth 20000 in
theorem gX2_readFactor_X2_readRoot : GoodIn wsX2_readFactor (wsV RX2 234 RX2 yX2_readRoot wsX2_readRoot) := goodIn_app (goodIn_of _ (by decide +kernel)) ggX2_readFactor_X2_readRoot
set_option maxRecDepth 20000 in
theorem ggX2_readFactor_X2_isPossibleRoot : GoodIn wsX2_readFactor wsX2_isPossibleRoot := goodIn_r _ [26] (by decide +kernel) (by decide +kernel)
set_option maxRecDepth 20000 in
theorem gX2_readFactor_X2_isPossibleRoot : GoodIn wsX2_readFactor (va_wsS RX2 105 yX2_isPossibleRoot wsX2_isPossibleRoot) := goodIn_app (goodIn_of _ (by decide +kernel)) ggX2_readFactor_X2_isPossibleRoot
set_option maxRecDepth 20000 in
theorem ggX2_readFactor_X0_takeDigit : GoodIn wsX2_readFactor wsX0_takeDigit := goodIn_r _ [23, 8, 9, 10, 11, 12, 6, 13, 14, 38, 39, 40] (by decide +kernel) (by decide +kernel)
set_option maxRecDepth 20000 in
theorem gX2_readFactor_X0_takeDigit : GoodIn wsX2_readFactor (wsV RX2 225 RX0 yX0_takeDigit wsX0_takeDigit) := goodIn_app (goodIn_of _ (by decide +kernel)) ggX2_readFactor_X0_takeDigit
set_option maxRecDepth 20000 in
theorem ggX2_readRoot_X0_takes : GoodIn wsX2_readRoot wsX0_takes := goodIn_r _ [6, 7, 8, 9, 10, 11, 5, 12, 13, 29, 30, 31] (by decide +kernel) (by decide +kernel)
set_option maxRecDepth 20000 in
theorem gX2_readRoot_X0_takes : GoodIn wsX2_readRoot (wsV RX2 212 RX0 yX0_takes wsX0_takes) := goodIn_app (goodIn_of _ (by decide +kernel)) ggX2_readRoot_X0_takes
set_option maxRecDepth 20000 in
theorem ggX2_readRoot_X0_takeDigit : GoodIn wsX2_readRoot wsX0_takeDigit := goodIn_r _ [17, 7, 8, 9, 10, 11, 5, 12, 13, 29, 30, 31] (by decide +kernel) (by decide +kernel)
set_option maxRecDepth 20000 in
theorem gX2_readRoot_X0_takeDigit : GoodIn wsX2_readRoot (wsV RX2 225 RX0 yX0_takeDigit wsX0_takeDigit) := goodIn_app (goodIn_of _ (by decide +kernel)) ggX2_readRoot_X0_takeDigit
set_option maxRecDepth 20000 in
theorem ggX3_pass_X3_look : GoodIn wsX3_pass wsX3_look := goodIn_r _ [6, 1, 7, 8, 9, 10, 11, 12, 13, 14, 15, 16, 17, 18, 19, 20, 21, 22, 23, 24] (by decide +kernel) (by decide +kernel)
set_option maxRecDepth 20000 in
theorem gX3_pass_X3_look : GoodIn wsX3_pass (wsV RX3 55 RX3 yX3_look wsX3_look) := goodIn_app (goodIn_of _ (by decide +kernel)) ggX3_pass_X3_look
set_option maxRecDepth 20000 in
theorem ggX3_isDigit_X3_look : GoodIn wsX3_isDigit wsX3_look := goodIn_r _ [5, 6, 7, 8, 9, 10, 11, 12, 13, 14, 15, 16, 17, 18, 19, 20, 21, 22, 23, 24] (by decide +kernel) (by decide +kernel)
set_option maxRecDepth 20000 in
theorem gX3_isDigit_X3_look : GoodIn wsX3_isDigit (wsV RX3 55 RX3 yX3_look wsX3_look) := goodIn_app (goodIn_of _ (by decide +kernel)) ggX3_isDigit_X3_look
set_option maxRecDepth 20000 in
theorem ggX3_readTerm_X3_isDigit : GoodIn wsX3_readTerm wsX3_isDigit := goodIn_r _ [7, 8, 9, 10, 6, 11, 12, 13, 14, 23, 24, 25, 26, 27, 28, 29, 30, 31, 32, 33, 34, 35, 36, 37, 38] (by decide +kernel) (by decide +kernel)
set_option maxRecDepth 20000 in
theorem gX3_readTerm_X3_isDigit : GoodIn wsX3_readTerm (wsV RX3 59 RX3 yX3_isDigit wsX3_isDigit) := goodIn_app (goodIn_of _ (by decide +kernel)) ggX3_readTerm_X3_isDigit
set_option maxRecDepth 20000 in
theorem ggX3_readTerm_X3_digit : GoodIn wsX3_readTerm wsX3_digit := goodIn_r _ [18, 12, 14, 23, 24, 25, 26, 27, 28, 29, 30, 31, 32, 33, 34, 35, 36, 37, 38] (by decide +kernel) (by decide +kernel)
set_option maxRecDepth 20000 in
theorem gX3_readTerm_X3_digit : GoodIn wsX3_readTerm (wsV RX3 63 RX3 yX3_digit wsX3_digit) := goodIn_app (goodIn_of _ (by decide +kernel)) ggX3_readTerm_X3_digit
set_option maxRecDepth 20000 in
theorem ggX3_readTerm_X3_pass : GoodIn wsX3_readTerm wsX3_pass := goodIn_r _ [22, 12, 8, 9, 10, 6, 11, 13, 14, 23, 24, 25, 26, 27, 28, 29, 30, 31, 32, 33, 34, 35, 36, 37, 38] (by decide +kernel) (by decide +kernel)
set_option maxRecDepth 20000 in
theorem gX3_readTerm_X3_pass : GoodIn wsX3_readTerm (wsV RX3 69 RX3 yX3_pass wsX3_pass) := goodIn_app (goodIn_of _ (by decide +kernel)) ggX3_readTerm_X3_pass
set_option maxRecDepth 20000 in
theorem ggX3_readPolynomial_X3_pass : GoodIn wsX3_readPolynomial wsX3_pass := goodIn_r _ [9, 1, 10, 11, 12, 8, 13, 4, 14, 28, 29, 30, 31, 32, 33, 34, 35, 36, 37, 38, 39, 40, 41, 42, 43] (by decide +kernel) (by decide +kernel)
set_option maxRecDepth 20000 in
theorem gX3_readPolynomial_X3_pass : GoodIn wsX3_readPolynomial (wsV RX3 69 RX3 yX3_pass wsX3_pass) := goodIn_app (goodIn_of _ (by decide +kernel)) ggX3_readPolynomial_X3_pass
set_option maxRecDepth 20000 in
theorem ggX3_readPolynomial_X3_readTerm : GoodIn wsX3_readPolynomial wsX3_readTerm := goodIn_r _ [18, 19, 2, 20, 21, 22, 8, 23, 10, 11, 12, 13, 1, 4, 14, 24, 25, 26, 27, 5, 6, 7, 9, 28, 29, 30, 31, 32, 33, 34, 35, 36, 37, 38, 39, 40, 41, 42, 43] (by decide +kernel) (by decide +kernel)
set_option maxRecDepth 20000 in
theorem gX3_readPolynomial_X3_readTerm : GoodIn wsX3_readPolynomial (wsV RX3 75 RX3 yX3_readTerm wsX3_readTerm) := goodIn_app (goodIn_of _ (by decide +kernel)) ggX3_readPolynomial_X3_readTerm
set_option maxRecDepth 20000 in
theorem ggX3_readPolynomial_X3_look : GoodIn wsX3_readPolynomial wsX3_look := goodIn_r _ [13, 1, 4, 14, 28, 29, 30, 31, 32, 33, 34, 35, 36, 37, 38, 39, 40, 41, 42, 43] (by decide +kernel) (by decide +kernel)
set_option maxRecDepth 20000 in
theorem gX3_readPolynomial_X3_look : GoodIn wsX3_readPolynomial (wsV RX3 55 RX3 yX3_look wsX3_look) := goodIn_app (goodIn_of _ (by decide +kernel)) ggX3_readPolynomial_X3_look
set_option maxRecDepth 20000 in
theorem ggX3_numerator_X3_readPolynomial : GoodIn wsX3_numerator wsX3_readPolynomial := goodIn_r _ [9, 10, 4, 11, 2, 12, 13, 14, 8, 15, 16, 17, 18, 19, 20, 21, 22, 23, 24, 25, 26, 27, 28, 29, 30, 31, 32, 33, 38, 39, 40, 41, 42, 43, 44, 45, 46, 47, 48, 49, 50, 51, 52, 53] (by decide +kernel) (by decide +kernel)
set_option maxRecDepth 20000 in
theorem gX3_numerator_X3_readPolynomial : GoodIn wsX3_numerator (wsV RX3 79 RX3 yX3_readPolynomial wsX3_readPolynomial) := goodIn_app (goodIn_of _ (by decide +kernel)) ggX3_numerator_X3_readPolynomial
set_option maxRecDepth 20000 in
theorem ggX3_numerator_X3_fails : GoodIn wsX3_numerator wsX3_fails := goodIn_r _ [37, 1, 38, 39, 40, 41, 42, 43, 44, 45, 46, 47, 48, 49, 50, 51, 52, 53] (by decide +kernel) (by decide +kernel)
set_option maxRecDepth 20000 in
theorem gX3_numerator_X3_fails : GoodIn wsX3_numerator (wsV RX3 82 RX3 yX3_fails wsX3_fails) := goodIn_app (goodIn_of _ (by decide +kernel)) ggX3_numerator_X3_fails
set_option maxRecDepth 20000 in
theorem ggX3_readFactor_X3_pass : GoodIn wsX3_readFactor wsX3_pass := goodIn_r _ [6, 7, 8, 9, 10, 5, 11, 12, 13, 18, 19, 20, 21, 22, 23, 24, 25, 26, 27, 28, 29, 30, 31, 32, 33] (by decide +kernel) (by decide +kernel)
set_option maxRecDepth 20000 in
theorem gX3_readFactor_X3_pass : GoodIn wsX3_readFactor (wsV RX3 69 RX3 yX3_pass wsX3_pass) := goodIn_app (goodIn_of _ (by decide +kernel)) ggX3_readFactor_X3_pass
set_option maxRecDepth 20000 in
theorem ggX3_readFactor_X3_look : GoodIn wsX3_readFactor wsX3_look := goodIn_r _ [11, 7, 12, 13, 18, 19, 20, 21, 22, 23, 24, 25, 26, 27, 28, 29, 30, 31, 32, 33] (by decide +kernel) (by decide +kernel)
set_option maxRecDepth 20000 in
theorem gX3_readFactor_X3_look : GoodIn wsX3_readFactor (wsV RX3 55 RX3 yX3_look wsX3_look) := goodIn_app (goodIn_of _ (by decide +kernel)) ggX3_readFactor_X3_look
set_option maxRecDepth 20000 in
theorem ggX3_readFactor_X3_digit : GoodIn wsX3_readFactor wsX3_digit := goodIn_r _ [17, 7, 13, 18, 19, 20, 21, 22, 23, 24, 25, 26, 27, 28, 29, 30, 31, 32, 33] (by decide +kernel) (by decide +kernel)
set_option maxRecDepth 20000 in
theorem gX3_readFactor_X3_digit : GoodIn wsX3_readFactor (wsV RX3 63 RX3 yX3_digit wsX3_digit) := goodIn_app (goodIn_of _ (by decide +kernel)) ggX3_readFactor_X3_digit
set_option maxRecDepth 20000 in
theorem ggX3_denominator_X3_readFactor : GoodIn wsX3_denominator wsX3_readFactor := goodIn_r _ [12, 3, 13, 14, 15, 11, 16, 2, 17, 18, 19, 20, 4, 21, 22, 23, 24, 25, 33, 34, 35, 36, 37, 38, 39, 40, 41, 42, 43, 44, 45, 46, 47, 48] (by decide +kernel) (by decide +kernel)
set_option maxRecDepth 20000 in
theorem gX3_denominator_X3_readFactor : GoodIn wsX3_denominator (wsV RX3 86 RX3 yX3_readFactor wsX3_readFactor) := goodIn_app (goodIn_of _ (by decide +kernel)) ggX3_denominator_X3_readFactor
set_option maxRecDepth 20000 in
theorem ggX3_denominator_X3_fails : GoodIn wsX3_denominator wsX3_fails := goodIn_r _ [29, 1, 33, 34, 35, 36, 37, 38, 39, 40, 41, 42, 43, 44, 45, 46, 47, 48] (by decide +kernel) (by decide +kernel)
set_option maxRecDepth 20000 in
theorem gX3_denominator_X3_fails : GoodIn wsX3_denominator (wsV RX3 82 RX3 yX3_fails wsX3_fails) := goodIn_app (goodIn_of _ (by decide +kernel)) ggX3_denominator_X3_fails
set_option maxRecDepth 20000 in
theorem ggX3_denominator_X3_times : GoodIn wsX3_denominator wsX3_times := goodIn_r _ [32] (by decide +kernel) (by decide +kernel)
set_option maxRecDepth 20000 in
theorem gX3_denominator_X3_times : GoodIn wsX3_denominator (va_wsS RX3 89 yX3_times wsX3_times) := goodIn_app (goodIn_of _ (by decide +kernel)) ggX3_denominator_X3_times
set_option maxRecDepth 20000 in
theorem ggX3_coefficient_X3_divide : GoodIn wsX3_coefficient wsX3_divide := goodIn_r _ [9, 10, 2, 4, 11, 3, 12, 13, 14, 15, 16, 17, 18, 19, 20, 21, 22, 23, 24, 25, 26, 27] (by decide +kernel) (by decide +kernel)
set_option maxRecDepth 20000 in
theorem gX3_coefficient_X3_divide : GoodIn wsX3_coefficient (wsV RX3 93 RX3 yX3_divide wsX3_divide) := goodIn_app (goodIn_of _ (by decide +kernel)) ggX3_coefficient_X3_divide
set_option maxRecDepth 20000 in
theorem ggX3_around_X3_times : GoodIn wsX3_around wsX3_times := goodIn_r _ [8] (by decide +kernel) (by decide +kernel)
set_option maxRecDepth 20000 in
theorem gX3_around_X3_times : GoodIn wsX3_around (va_wsS RX3 89 yX3_times wsX3_times) := goodIn_app (goodIn_of _ (by decide +kernel)) ggX3_around_X3_times
set_option maxRecDepth 20000 in
theorem ggX3_work_X3_around : GoodIn wsX3_work wsX3_around := goodIn_r _ [9, 2, 10, 3, 1, 11, 12, 8, 13, 20, 21, 22, 23, 24, 25, 26, 27, 28, 29, 30, 31, 32, 33, 34, 35] (by decide +kernel) (by decide +kernel)
set_option maxRecDepth 20000 in
theorem gX3_work_X3_around : GoodIn wsX3_work (wsV RX3 103 RX3 yX3_around wsX3_around) := goodIn_app (goodIn_of _ (by decide +kernel)) ggX3_work_X3_around
set_option maxRecDepth 20000 in
theorem ggX3_work_X3_tell : GoodIn wsX3_work wsX3_tell := goodIn_r _ [17, 18, 19, 20, 21, 22, 23, 24, 25, 26, 27, 28, 29, 30, 31, 32, 33, 34, 35] (by decide +kernel) (by decide +kernel)
set_option maxRecDepth 20000 in
theorem gX3_work_X3_tell : GoodIn wsX3_work (wsV RX3 107 RX3 yX3_tell wsX3_tell) := goodIn_app (goodIn_of _ (by decide +kernel)) ggX3_work_X3_tell
set_option maxRecDepth 20000 in
theorem ggX3_isPart_X3_many : GoodIn wsX3_isPart wsX3_many := goodIn_r _ [5, 6, 7, 8, 9, 10, 11, 12, 13, 14, 15, 16, 17, 18, 19, 20, 21, 22, 23] (by decide +kernel) (by decide +kernel)
set_option maxRecDepth 20000 in
theorem gX3_isPart_X3_many : GoodIn wsX3_isPart (wsV RX3 111 RX3 yX3_many wsX3_many) := goodIn_app (goodIn_of _ (by decide +kernel)) ggX3_isPart_X3_many
set_option maxRecDepth 20000 in
theorem ggX3_part_X3_isPart : GoodIn wsX3_part wsX3_isPart := goodIn_r _ [8, 9, 10, 11, 7, 12, 1, 13, 33, 34, 35, 36, 37, 38, 39, 40, 41, 42, 43, 44, 45, 46, 47, 48] (by decide +kernel) (by decide +kernel)
set_option maxRecDepth 20000 in
theorem gX3_part_X3_isPart : GoodIn wsX3_part (wsV RX3 113 RX3 yX3_isPart wsX3_isPart) := goodIn_app (goodIn_of _ (by decide +kernel)) ggX3_part_X3_isPart
set_option maxRecDepth 20000 in
theorem ggX3_part_X3_work : GoodIn wsX3_part wsX3_work := goodIn_r _ [17, 13, 18, 19, 20, 21, 22, 23, 7, 24, 25, 26, 27, 28, 29, 30, 31, 32, 2, 3, 33, 34, 35, 36, 37, 38, 39, 40, 41, 42, 43, 44, 45, 46, 47, 48] (by decide +kernel) (by decide +kernel)
set_option maxRecDepth 20000 in
theorem gX3_part_X3_work : GoodIn wsX3_part (wsV RX3 117 RX3 yX3_work wsX3_work) := goodIn_app (goodIn_of _ (by decide +kernel)) ggX3_part_X3_work
set_option maxRecDepth 20000 in
theorem ggX3_integral_X3_many : GoodIn wsX3_integral wsX3_many := goodIn_r _ [9, 1, 10, 36, 37, 38, 39, 40, 41, 42, 43, 44, 45, 46, 47, 48, 49, 50, 51] (by decide +kernel) (by decide +kernel)
set_option maxRecDepth 20000 in
theorem gX3_integral_X3_many : GoodIn wsX3_integral (wsV RX3 111 RX3 yX3_many wsX3_many) := goodIn_app (goodIn_of _ (by decide +kernel)) ggX3_integral_X3_many
set_option maxRecDepth 20000 in
theorem ggX3_integral_X3_divide : GoodIn wsX3_integral wsX3_divide := goodIn_r _ [14, 15, 16, 2, 17, 18, 36, 37, 38, 39, 40, 41, 42, 43, 44, 45, 46, 47, 48, 49, 50, 51] (by decide +kernel) (by decide +kernel)
set_option maxRecDepth 20000 in
theorem gX3_integral_X3_divide : GoodIn wsX3_integral (wsV RX3 93 RX3 yX3_divide wsX3_divide) := goodIn_app (goodIn_of _ (by decide +kernel)) ggX3_integral_X3_divide
set_option maxRecDepth 20000 in
theorem ggX3_integral_X3_tell : GoodIn wsX3_integral wsX3_tell := goodIn_r _ [22, 3, 4, 36, 37, 38, 39, 40, 41, 42, 43, 44, 45, 46, 47, 48, 49, 50, 51] (by decide +kernel) (by decide +kernel)
set_option maxRecDepth 20000 in
theorem gX3_integral_X3_tell : GoodIn wsX3_integral (wsV RX3 107 RX3 yX3_tell wsX3_tell) := goodIn_app (goodIn_of _ (by decide +kernel)) ggX3_integral_X3_tell
set_option maxRecDepth 20000 in
theorem ggX3_integral_X3_work : GoodIn wsX3_integral wsX3_work := goodIn_r _ [26, 10, 15, 27, 28, 29, 30, 31, 8, 32, 16, 33, 34, 35, 19, 20, 21, 22, 3, 4, 36, 37, 38, 39, 40, 41, 42, 43, 44, 45, 46, 47, 48, 49, 50, 51] (by decide +kernel) (by decide +kernel)
set_option maxRecDepth 20000 in
theorem gX3_integral_X3_work : GoodIn wsX3_integral (wsV RX3 117 RX3 yX3_work wsX3_work) := goodIn_app (goodIn_of _ (by decide +kernel)) ggX3_integral_X3_work
set_option maxRecDepth 20000 in
theorem ggX3_value_X3_many : GoodIn wsX3_value wsX3_many := goodIn_r _ [10, 1, 11, 19, 20, 21, 22, 23, 24, 25, 26, 27, 28, 29, 30, 31, 32, 33, 34] (by decide +kernel) (by decide +kernel)
set_option maxRecDepth 20000 in
theorem gX3_value_X3_many : GoodIn wsX3_value (wsV RX3 111 RX3 yX3_many wsX3_many) := goodIn_app (goodIn_of _ (by decide +kernel)) ggX3_value_X3_many
set_option maxRecDepth 20000 in
theorem ggX3_value_X3_valueOf : GoodIn wsX3_value wsX3_valueOf := goodIn_r _ [14] (by decide +kernel) (by decide +kernel)
set_option maxRecDepth 20000 in
theorem gX3_value_X3_valueOf : GoodIn wsX3_value (va_wsS RX3 121 yX3_valueOf wsX3_valueOf) := goodIn_app (goodIn_of _ (by decide +kernel)) ggX3_value_X3_valueOf
set_option maxRecDepth 20000 in
theorem ggX3_value_X3_tell : GoodIn wsX3_value wsX3_tell := goodIn_r _ [18, 4, 5, 19, 20, 21, 22, 23, 24, 25, 26, 27, 28, 29, 30, 31, 32, 33, 34] (by decide +kernel) (by decide +kernel)
set_option maxRecDepth 20000 in
theorem gX3_value_X3_tell : GoodIn wsX3_value (wsV RX3 107 RX3 yX3_tell wsX3_tell) := goodIn_app (goodIn_of _ (by decide +kernel)) ggX3_value_X3_tell
set_option maxRecDepth 20000 in
theorem ggX3_at_X3_isPlace : GoodIn wsX3_at wsX3_isPlace := goodIn_r _ [8, 9, 10] (by decide +kernel) (by decide +kernel)
set_option maxRecDepth 20000 in
theorem gX3_at_X3_isPlace : GoodIn wsX3_at (wsV RX3 129 RX3 yX3_isPlace wsX3_isPlace) := goodIn_app (goodIn_of _ (by decide +kernel)) ggX3_at_X3_isPlace
set_option maxRecDepth 20000 in
theorem ggX3_at_X3_valueAt : GoodIn wsX3_at wsX3_valueAt := goodIn_r _ [13] (by decide +kernel) (by decide +kernel)
set_option maxRecDepth 20000 in
theorem gX3_at_X3_valueAt : GoodIn wsX3_at (va_wsS RX3 133 yX3_valueAt wsX3_valueAt) := goodIn_app (goodIn_of _ (by decide +kernel)) ggX3_at_X3_valueAt
set_option maxRecDepth 20000 in
theorem ggX3_byParts_X3_isPlace : GoodIn wsX3_byParts wsX3_isPlace := goodIn_r _ [10, 11, 12] (by decide +kernel) (by decide +kernel)
set_option maxRecDepth 20000 in
theorem gX3_byParts_X3_isPlace : GoodIn wsX3_byParts (wsV RX3 129 RX3 yX3_isPlace wsX3_isPlace) := goodIn_app (goodIn_of _ (by decide +kernel)) ggX3_byParts_X3_isPlace
set_option maxRecDepth 20000 in
theorem ggX3_byParts_X3_divide : GoodIn wsX3_byParts wsX3_divide := goodIn_r _ [16, 17, 18, 2, 19, 20, 41, 42, 43, 44, 45, 46, 47, 48, 49, 50, 51, 52, 53, 54, 55, 56] (by decide +kernel) (by decide +kernel)
set_option maxRecDepth 20000 in
theorem gX3_byParts_X3_divide : GoodIn wsX3_byParts (wsV RX3 93 RX3 yX3_divide wsX3_divide) := goodIn_app (goodIn_of _ (by decide +kernel)) ggX3_byParts_X3_divide
set_option maxRecDepth 20000 in
theorem ggX3_byParts_X3_valueAt : GoodIn wsX3_byParts wsX3_valueAt := goodIn_r _ [23] (by decide +kernel) (by decide +kernel)
set_option maxRecDepth 20000 in
theorem gX3_byParts_X3_valueAt : GoodIn wsX3_byParts (va_wsS RX3 133 yX3_valueAt wsX3_valueAt) := goodIn_app (goodIn_of _ (by decide +kernel)) ggX3_byParts_X3_valueAt
set_option maxRecDepth 20000 in
theorem ggX3_byParts_X3_work : GoodIn wsX3_byParts wsX3_work := goodIn_r _ [27, 3, 17, 28, 29, 30, 31, 32, 9, 33, 18, 34, 35, 36, 37, 38, 39, 40, 4, 5, 41, 42, 43, 44, 45, 46, 47, 48, 49, 50, 51, 52, 53, 54, 55, 56] (by decide +kernel) (by decide +kernel)
set_option maxRecDepth 20000 in
theorem gX3_byParts_X3_work : GoodIn wsX3_byParts (wsV RX3 117 RX3 yX3_work wsX3_work) := goodIn_app (goodIn_of _ (by decide +kernel)) ggX3_byParts_X3_work
set_option maxRecDepth 20000 in
theorem ggL_numerator_X2_numerator : GoodIn wsL_numerator wsX2_numerator := goodIn_ca (goodIn_r _ [6, 7, 8, 9, 10, 11, 12, 13, 14, 5, 15, 16, 17, 18, 19, 20, 21, 22, 23, 24, 25, 26, 27, 28, 29, 30, 31, 32, 33, 34, 35, 36, 37, 38, 39, 40, 41, 42, 43, 44, 45, 46, 47, 48, 49, 50, 51, 52, 53, 54, 55, 56, 57, 58, 59, 60, 61, 62, 63, 64, 65, 66, 67, 68, 69, 70, 71, 72, 73, 74, 75, 76, 77, 78, 79, 80, 81, 82, 83, 84, 85, 86, 87, 88, 89, 90, 91, 92, 93, 94, 95, 96, 97, 98, 99, 100, 101, 102, 103, 104, 105, 106, 107, 108, 109, 110, 111, 112, 113, 114, 115, 116, 117, 118, 119, 120, 121, 122, 123, 124, 125, 126, 127, 128, 129, 130, 131, 132, 133, 134, 135, 136, 137, 138, 139, 140, 141, 142, 143, 144, 145, 146, 147, 148, 149, 150] (by decide +kernel) (by decide +kernel)) (goodIn_sub (fun _ h => List.mem_cons_of_mem _ (List.mem_append_right _ h)) (by decide +kernel))
set_option maxRecDepth 20000 in
theorem gL_numerator_X2_numerator : GoodIn wsL_numerator (wsV RL 7 RX2 yX2_numerator wsX2_numerator) := goodIn_app (goodIn_of _ (by decide +kernel)) ggL_numerator_X2_numerator
set_option maxRecDepth 20000 in
theorem ggL_denominator_X2_denominator : GoodIn wsL_denominator wsX2_denominator := goodIn_ca (goodIn_ca (goodIn_r _ [7, 8, 9, 10, 11, 12, 13, 14, 15, 16, 17, 18, 19, 20, 21, 22, 6, 23, 24, 25, 26, 27, 28, 29, 30, 31, 32, 33, 34, 35, 36, 37, 38, 39, 40, 41, 42, 43, 44, 45, 46, 47, 48, 49, 50, 51, 52, 53, 54, 55, 56, 57, 58, 59, 60, 61, 62, 63, 64, 65, 66, 67, 68, 69, 70, 71, 72, 73, 74, 75, 76, 77, 78, 79, 80, 81, 82, 83, 84, 85, 86, 87, 88, 89, 90, 91, 92, 93, 94, 95, 96, 97, 98, 99, 100, 101, 102, 103, 104, 105, 106, 107, 108, 109, 110, 111, 112, 113, 114, 115, 116, 117, 118, 119, 120, 121, 122, 123, 124, 125, 126, 127, 128, 129, 130, 131, 132, 133, 134, 135, 136, 137, 138, 139, 140, 141, 142, 143, 144, 145, 146, 147, 148, 149, 150, 151] (by decide +kernel) (by decide +kernel)) (goodIn_sub (fun _ h => List.mem_cons_of_mem _ (List.mem_append_left _ (List.mem_append_right _ h))) (by decide +kernel))) (goodIn_sub (fun _ h => List.mem_cons_of_mem _ (List.mem_append_right _ h)) (by decide +kernel))
set_option maxRecDepth 20000 in
theorem gL_denominator_X2_denominator : GoodIn wsL_denominator (wsV RL 15 RX2 yX2_denominator wsX2_denominator) := goodIn_app (goodIn_of _ (by decide +kernel)) ggL_denominator_X2_denominator
set_option maxRecDepth 20000 in
theorem ggL_part_X2_part : GoodIn wsL_part wsX2_part := goodIn_ca (goodIn_r _ [6, 7, 8, 9, 10, 11, 5, 12, 13, 14, 15, 16, 17, 18, 19, 20, 21, 22, 23, 24, 25, 26, 27, 28, 29, 30, 31, 32, 33, 34, 35, 36, 37, 38, 39, 40, 41, 42, 43] (by decide +kernel) (by decide +kernel)) (goodIn_sub (fun _ h => List.mem_cons_of_mem _ (List.mem_append_right _ h)) (by decide +kernel))
set_option maxRecDepth 20000 in
theorem gL_part_X2_part : GoodIn wsL_part (wsV RL 20 RX2 yX2_part wsX2_part) := goodIn_app (goodIn_of _ (by decide +kernel)) ggL_part_X2_part
set_option maxRecDepth 20000 in
theorem ggL_integral_X2_integral : GoodIn wsL_integral wsX2_integral := goodIn_ca (goodIn_r _ [6, 7, 8, 9, 10, 11, 12, 5, 13, 14, 15, 16, 17, 18, 19, 20, 21, 22, 23, 24, 25, 26, 27, 28, 29, 30, 31, 32, 33, 34, 35, 36, 37, 38, 39, 40, 41, 42, 43, 44, 45, 46, 47, 48, 49, 50, 51, 52, 53, 54, 55, 56, 57, 58, 59, 60, 61, 62, 63, 64, 65] (by decide +kernel) (by decide +kernel)) (goodIn_sub (fun _ h => List.mem_cons_of_mem _ (List.mem_append_right _ h)) (by decide +kernel))
set_option maxRecDepth 20000 in
theorem gL_integral_X2_integral : GoodIn wsL_integral (wsV RL 24 RX2 yX2_integral wsX2_integral) := goodIn_app (goodIn_of _ (by decide +kernel)) ggL_integral_X2_integral
set_option maxRecDepth 20000 in
theorem ggL_value_X2_value : GoodIn wsL_value wsX2_value := goodIn_ca (goodIn_r _ [6, 7, 8, 9, 10, 11, 12, 13, 5, 14, 15, 16, 17, 18, 19, 20, 21, 22, 23, 24, 25, 26, 27, 28, 29, 30, 31, 32, 33, 34, 35, 36, 37, 38, 39, 40, 41, 42, 43, 44, 45, 46, 47, 48, 49] (by decide +kernel) (by decide +kernel)) (goodIn_sub (fun _ h => List.mem_cons_of_mem _ (List.mem_append_right _ h)) (by decide +kernel))
set_option maxRecDepth 20000 in
theorem gL_value_X2_value : GoodIn wsL_value (wsV RL 27 RX2 yX2_value wsX2_value) := goodIn_app (goodIn_of _ (by decide +kernel)) ggL_value_X2_value
set_option maxRecDepth 20000 in
theorem ggL_at_X2_at : GoodIn wsL_at wsX2_at := goodIn_ca (goodIn_r _ [6, 7, 8, 9, 10, 11, 12, 5, 13, 14, 15, 16, 17, 18, 19, 20, 21, 22, 23, 24, 25, 26, 27, 28, 29, 30, 31, 32, 33] (by decide +kernel) (by decide +kernel)) (goodIn_sub (fun _ h => List.mem_cons_of_mem _ (List.mem_append_right _ h)) (by decide +kernel))
set_option maxRecDepth 20000 in
theorem gL_at_X2_at : GoodIn wsL_at (wsV RL 31 RX2 yX2_at wsX2_at) := goodIn_app (goodIn_of _ (by decide +kernel)) ggL_at_X2_at
set_option maxRecDepth 20000 in
theorem ggL_byParts_X2_byParts : GoodIn wsL_byParts wsX2_byParts := goodIn_ca (goodIn_r _ [6, 7, 8, 9, 10, 11, 5, 12, 13, 14, 15, 16, 17, 18, 19, 20, 21, 22, 23, 24, 25, 26, 27, 28, 29, 30, 31, 32, 33, 34, 35, 36, 37, 38, 39, 40, 41, 42, 43, 44, 45, 46, 47, 48, 49, 50, 51, 52, 53, 54, 55, 56, 57] (by decide +kernel) (by decide +kernel)) (goodIn_sub (fun _ h => List.mem_cons_of_mem _ (List.mem_append_right _ h)) (by decide +kernel))
set_option maxRecDepth 20000 in
theorem gL_byParts_X2_byParts : GoodIn wsL_byParts (wsV RL 35 RX2 yX2_byParts wsX2_byParts) := goodIn_app (goodIn_of _ (by decide +kernel)) ggL_byParts_X2_byParts
set_option maxRecDepth 20000 in
theorem ggL_law_X2_init : GoodIn wsL_law wsX2_init := goodIn_r _ [11, 12, 13, 14, 15, 16, 17, 18, 19, 20, 21, 22, 23, 24, 25, 26, 6, 27, 28, 29, 30, 31, 32, 33, 34, 35, 36, 37, 38, 39, 40, 41, 42, 43, 44, 2, 45, 46, 47, 48, 49, 50, 51, 52, 53, 54, 55, 56, 57, 58, 59, 60, 61, 62, 63, 64, 65, 66, 67, 68, 69, 70, 71, 72, 73, 74, 75, 76, 77, 78, 79, 80, 81, 82, 83, 84, 85, 86, 87, 88, 89, 90, 91, 92, 93, 94, 95, 96, 97, 98, 99, 100, 101, 102, 103, 104, 105, 106, 107, 108, 109, 110, 440, 441, 442, 413, 414, 415, 416, 417, 418, 419, 420, 421, 422, 423, 443] (by decide +kernel) (by decide +kernel)
set_option maxRecDepth 20000 in
theorem gL_law_X2_init : GoodIn wsL_law (wsX2_init) := ggL_law_X2_init
set_option maxRecDepth 20000 in
theorem ggL_law_X3_init : GoodIn wsL_law wsX3_init := goodIn_r _ [113, 114, 13, 14, 36, 115, 6, 116, 117, 118, 119, 25, 120, 121, 122, 123, 124, 125, 424, 425, 426, 427, 428, 429, 430, 431, 432, 433, 434, 435, 436, 437, 438, 439] (by decide +kernel) (by decide +kernel)
set_option maxRecDepth 20000 in
theorem gL_law_X3_init : GoodIn wsL_law (wsX3_init) := ggL_law_X3_init
set_option maxRecDepth 20000 in
theorem ggL_law_X2_write : GoodIn wsL_law wsX2_write := goodIn_r _ [129, 18, 130, 131, 132, 17, 133, 134, 37, 413, 414, 415, 416, 417, 418, 419, 420, 421, 422, 423, 440, 441, 442] (by decide +kernel) (by decide +kernel)
set_option maxRecDepth 20000 in
theorem gL_law_X2_write : GoodIn wsL_law (wsV RL 42 RX2 yX2_write wsX2_write) := goodIn_app (goodIn_of _ (by decide +kernel)) ggL_law_X2_write
set_option maxRecDepth 20000 in
theorem ggL_law_X3_write : GoodIn wsL_law wsX3_write := goodIn_r _ [138, 139, 140, 115, 424, 425, 426, 427, 428, 429, 430, 431, 432, 433, 434, 435, 436, 437, 438, 439] (by decide +kernel) (by decide +kernel)
set_option maxRecDepth 20000 in
theorem gL_law_X3_write : GoodIn wsL_law (wsV RL 46 RX3 yX3_write wsX3_write) := goodIn_app (goodIn_of _ (by decide +kernel)) ggL_law_X3_write
set_option maxRecDepth 20000 in
theorem ggL_law_L_numerator : GoodIn wsL_law wsL_numerator := goodIn_ca (goodIn_r _ [144, 145, 146, 147, 148, 2, 149, 150, 151, 18, 22, 29, 152, 153, 154, 155, 156, 51, 52, 21, 53, 41, 54, 55, 56, 57, 157, 158, 159, 160, 161, 162, 163, 17, 164, 37, 165, 166, 167, 168, 169, 134, 170, 171, 172, 173, 174, 175, 176, 177, 178, 179, 180, 181, 182, 183, 184, 185, 186, 187, 188, 189, 190, 58, 59, 60, 61, 62, 63, 64, 65, 42, 43, 44, 45, 23, 24, 27, 28, 46, 47, 48, 49, 50, 66, 67, 68, 69, 70, 26, 71, 72, 73, 74, 75, 76, 77, 78, 79, 80, 81, 82, 83, 84, 85, 31, 32, 86, 87, 88, 89, 90, 91, 92, 93, 94, 95, 96, 97, 98, 99, 100, 101, 102, 103, 104, 105, 106, 107, 108, 109, 110, 191, 192, 193, 194, 413, 414, 415, 416, 417, 418, 419, 420, 421, 422, 423, 443, 440, 441, 442] (by decide +kernel) (by decide +kernel)) (goodIn_sub (fun _ h => List.mem_append_left _ (List.mem_append_right _ h)) (by decide +kernel))
set_option maxRecDepth 20000 in
theorem gL_law_L_numerator : GoodIn wsL_law (va_wsS RL 47 yL_numerator wsL_numerator) := goodIn_app (goodIn_of _ (by decide +kernel)) ggL_law_L_numerator
set_option maxRecDepth 20000 in
theorem ggL_law_X3_numerator : GoodIn wsL_law wsX3_numerator := goodIn_r _ [198, 139, 140, 116, 125, 199, 200, 201, 5, 202, 203, 204, 205, 206, 207, 208, 209, 210, 211, 212, 115, 213, 214, 215, 216, 217, 218, 219, 220, 221, 222, 223, 224, 225, 226, 227, 228, 229, 424, 425, 426, 427, 428, 429, 430, 431, 432, 433, 434, 435, 436, 437, 438, 439] (by decide +kernel) (by decide +kernel)
set_option maxRecDepth 20000 in
theorem gL_law_X3_numerator : GoodIn wsL_law (wsV RL 52 RX3 yX3_numerator wsX3_numerator) := goodIn_app (goodIn_of _ (by decide +kernel)) ggL_law_X3_numerator
set_option maxRecDepth 20000 in
theorem ggL_law_X3_thrown : GoodIn wsL_law wsX3_thrown := goodIn_r _ [233, 139, 424, 425, 426, 427, 428, 429, 430, 431, 432, 433, 434, 435, 436, 437, 438, 439] (by decide +kernel) (by decide +kernel)
set_option maxRecDepth 20000 in
theorem gL_law_X3_thrown : GoodIn wsL_law (wsV RL 53 RX3 yX3_thrown wsX3_thrown) := goodIn_app (goodIn_of _ (by decide +kernel)) ggL_law_X3_thrown
set_option maxRecDepth 20000 in
theorem ggL_law_L_denominator : GoodIn wsL_law wsL_denominator := goodIn_ca (goodIn_ca (goodIn_r _ [236, 145, 237, 238, 239, 240, 2, 241, 150, 151, 242, 243, 18, 30, 26, 244, 63, 64, 65, 23, 245, 246, 247, 248, 249, 250, 56, 251, 252, 253, 254, 255, 161, 162, 163, 17, 164, 37, 165, 166, 167, 168, 169, 134, 256, 257, 258, 259, 174, 175, 176, 177, 71, 72, 73, 186, 187, 188, 189, 190, 260, 261, 262, 42, 43, 44, 45, 24, 22, 27, 28, 46, 47, 48, 21, 49, 41, 50, 51, 52, 53, 54, 55, 57, 58, 59, 60, 61, 62, 66, 67, 68, 69, 70, 74, 75, 76, 77, 78, 79, 80, 81, 82, 83, 84, 85, 31, 32, 86, 87, 88, 89, 90, 91, 92, 93, 94, 95, 96, 97, 98, 99, 100, 101, 102, 103, 104, 105, 106, 107, 108, 109, 110, 191, 192, 193, 194, 413, 414, 415, 416, 417, 418, 419, 420, 421, 422, 423, 440, 441, 442, 443] (by decide +kernel) (by decide +kernel)) (goodIn_sub (fun _ h => List.mem_append_left _ (List.mem_append_right _ h)) (by decide +kernel))) (goodIn_sub (fun _ h => List.mem_append_right _ h) (by decide +kernel))
set_option maxRecDepth 20000 in
theorem gL_law_L_denominator : GoodIn wsL_law (va_wsS RL 56 yL_denominator wsL_denominator) := goodIn_app (goodIn_of _ (by decide +kernel)) ggL_law_L_denominator
set_option maxRecDepth 20000 in
theorem ggL_law_X3_denominator : GoodIn wsL_law wsX3_denominator := goodIn_r _ [266, 139, 203, 121, 140, 119, 117, 120, 267, 268, 269, 5, 270, 205, 206, 207, 208, 209, 210, 211, 212, 115, 222, 223, 224, 225, 226, 227, 228, 229, 271, 272, 273, 424, 425, 426, 427, 428, 429, 430, 431, 432, 433, 434, 435, 436, 437, 438, 439] (by decide +kernel) (by decide +kernel)
set_option maxRecDepth 20000 in
theorem gL_law_X3_denominator : GoodIn wsL_law (wsV RL 58 RX3 yX3_denominator wsX3_denominator) := goodIn_app (goodIn_of _ (by decide +kernel)) ggL_law_X3_denominator
set_option maxRecDepth 20000 in
theorem ggL_law_X2_coefficient : GoodIn wsL_law wsX2_coefficient := goodIn_r _ [277, 22, 23, 24, 278, 279, 280, 21, 281, 41, 413, 414, 415, 416, 417, 418, 419, 420, 421, 422, 423, 443] (by decide +kernel) (by decide +kernel)
set_option maxRecDepth 20000 in
theorem gL_law_X2_coefficient : GoodIn wsL_law (wsV RL 59 RX2 yX2_coefficient wsX2_coefficient) := goodIn_app (goodIn_of _ (by decide +kernel)) ggL_law_X2_coefficient
set_option maxRecDepth 20000 in
theorem ggL_law_X3_coefficient : GoodIn wsL_law wsX3_coefficient := goodIn_r _ [285, 139, 116, 117, 118, 286, 287, 288, 5, 289, 122, 119, 424, 425, 426, 427, 428, 429, 430, 431, 432, 433, 434, 435, 436, 437, 438, 439] (by decide +kernel) (by decide +kernel)
set_option maxRecDepth 20000 in
theorem gL_law_X3_coefficient : GoodIn wsL_law (wsV RL 62 RX3 yX3_coefficient wsX3_coefficient) := goodIn_app (goodIn_of _ (by decide +kernel)) ggL_law_X3_coefficient
set_option maxRecDepth 20000 in
theorem ggL_law_X2_many : GoodIn wsL_law wsX2_many := goodIn_r _ [70, 26, 71, 72, 2, 73, 413, 414, 415, 416, 417, 418, 419, 420, 421, 422, 423] (by decide +kernel) (by decide +kernel)
set_option maxRecDepth 20000 in
theorem gL_law_X2_many : GoodIn wsL_law (wsV RL 63 RX2 yX2_many wsX2_many) := goodIn_app (goodIn_of _ (by decide +kernel)) ggL_law_X2_many
set_option maxRecDepth 20000 in
theorem ggL_law_X3_many : GoodIn wsL_law wsX3_many := goodIn_r _ [294, 139, 120, 424, 425, 426, 427, 428, 429, 430, 431, 432, 433, 434, 435, 436, 437, 438, 439] (by decide +kernel) (by decide +kernel)
set_option maxRecDepth 20000 in
theorem gL_law_X3_many : GoodIn wsL_law (wsV RL 67 RX3 yX3_many wsX3_many) := goodIn_app (goodIn_of _ (by decide +kernel)) ggL_law_X3_many
set_option maxRecDepth 20000 in
theorem ggL_law_L_part : GoodIn wsL_law wsL_part := goodIn_ca (goodIn_r _ [297, 145, 298, 299, 300, 2, 301, 150, 151, 67, 68, 69, 70, 26, 71, 72, 73, 302, 303, 304, 305, 306, 307, 308, 27, 94, 95, 96, 309, 310, 311, 312, 28, 413, 414, 415, 416, 417, 418, 419, 420, 421, 422, 423] (by decide +kernel) (by decide +kernel)) (goodIn_sub (fun _ h => List.mem_append_left _ (List.mem_append_right _ h)) (by decide +kernel))
set_option maxRecDepth 20000 in
theorem gL_law_L_part : GoodIn wsL_law (va_wsS RL 68 yL_part wsL_part) := goodIn_app (goodIn_of _ (by decide +kernel)) ggL_law_L_part
set_option maxRecDepth 20000 in
theorem ggL_law_X3_part : GoodIn wsL_law wsX3_part := goodIn_r _ [316, 139, 317, 318, 319, 320, 321, 5, 322, 323, 292, 293, 294, 120, 324, 325, 326, 327, 122, 123, 124, 328, 329, 330, 331, 116, 271, 272, 273, 332, 333, 334, 335, 424, 425, 426, 427, 428, 429, 430, 431, 432, 433, 434, 435, 436, 437, 438, 439] (by decide +kernel) (by decide +kernel)
set_option maxRecDepth 20000 in
theorem gL_law_X3_part : GoodIn wsL_law (wsV RL 71 RX3 yX3_part wsX3_part) := goodIn_app (goodIn_of _ (by decide +kernel)) ggL_law_X3_part
set_option maxRecDepth 20000 in
theorem ggL_law_L_integral : GoodIn wsL_law wsL_integral := goodIn_ca (goodIn_r _ [338, 145, 339, 340, 341, 2, 342, 150, 151, 24, 343, 344, 345, 346, 67, 68, 69, 70, 26, 71, 72, 73, 302, 303, 304, 278, 279, 280, 21, 281, 41, 97, 98, 99, 100, 101, 102, 103, 104, 105, 106, 305, 306, 307, 308, 27, 94, 95, 96, 309, 310, 311, 312, 28, 413, 414, 415, 416, 417, 418, 419, 420, 421, 422, 423, 443] (by decide +kernel) (by decide +kernel)) (goodIn_sub (fun _ h => List.mem_append_left _ (List.mem_append_right _ h)) (by decide +kernel))
set_option maxRecDepth 20000 in
theorem gL_law_L_integral : GoodIn wsL_law (va_wsS RL 72 yL_integral wsL_integral) := goodIn_app (goodIn_of _ (by decide +kernel)) ggL_law_L_integral
set_option maxRecDepth 20000 in
theorem ggL_law_X3_integral : GoodIn wsL_law wsX3_integral := goodIn_r _ [350, 139, 118, 317, 318, 323, 292, 293, 5, 294, 120, 286, 287, 288, 289, 122, 116, 119, 117, 332, 333, 334, 335, 324, 325, 326, 327, 123, 124, 328, 329, 330, 331, 271, 272, 273, 424, 425, 426, 427, 428, 429, 430, 431, 432, 433, 434, 435, 436, 437, 438, 439] (by decide +kernel) (by decide +kernel)
set_option maxRecDepth 20000 in
theorem gL_law_X3_integral : GoodIn wsL_law (wsV RL 74 RX3 yX3_integral wsX3_integral) := goodIn_app (goodIn_of _ (by decide +kernel)) ggL_law_X3_integral
set_option maxRecDepth 20000 in
theorem ggL_law_L_value : GoodIn wsL_law wsL_value := goodIn_ca (goodIn_r _ [353, 145, 354, 355, 356, 2, 357, 150, 151, 22, 23, 67, 68, 69, 70, 26, 71, 72, 73, 302, 303, 304, 358, 359, 360, 21, 361, 41, 97, 98, 99, 100, 101, 102, 103, 104, 105, 106, 413, 414, 415, 416, 417, 418, 419, 420, 421, 422, 423, 443] (by decide +kernel) (by decide +kernel)) (goodIn_sub (fun _ h => List.mem_append_left _ (List.mem_append_right _ h)) (by decide +kernel))
set_option maxRecDepth 20000 in
theorem gL_law_L_value : GoodIn wsL_law (va_wsS RL 75 yL_value wsL_value) := goodIn_app (goodIn_of _ (by decide +kernel)) ggL_law_L_value
set_option maxRecDepth 20000 in
theorem ggL_law_X3_value : GoodIn wsL_law wsX3_value := goodIn_r _ [365, 139, 116, 117, 317, 318, 323, 292, 293, 5, 294, 120, 366, 367, 368, 332, 333, 334, 335, 424, 425, 426, 427, 428, 429, 430, 431, 432, 433, 434, 435, 436, 437, 438, 439] (by decide +kernel) (by decide +kernel)
set_option maxRecDepth 20000 in
theorem gL_law_X3_value : GoodIn wsL_law (wsV RL 78 RX3 yX3_value wsX3_value) := goodIn_app (goodIn_of _ (by decide +kernel)) ggL_law_X3_value
set_option maxRecDepth 20000 in
theorem ggL_law_L_at : GoodIn wsL_law wsL_at := goodIn_ca (goodIn_r _ [371, 145, 372, 373, 374, 2, 375, 150, 151, 23, 22, 376, 377, 378, 379, 380, 381, 382, 383, 21, 384, 41, 413, 414, 415, 416, 417, 418, 419, 420, 421, 422, 423, 443] (by decide +kernel) (by decide +kernel)) (goodIn_sub (fun _ h => List.mem_append_left _ (List.mem_append_right _ h)) (by decide +kernel))
set_option maxRecDepth 20000 in
theorem gL_law_L_at : GoodIn wsL_law (va_wsS RL 81 yL_at wsL_at) := goodIn_app (goodIn_of _ (by decide +kernel)) ggL_law_L_at
set_option maxRecDepth 20000 in
theorem ggL_law_X3_at : GoodIn wsL_law wsX3_at := goodIn_r _ [388, 139, 117, 116, 389, 390, 391, 5, 392, 393, 394, 395, 396, 397, 424, 425, 426, 427, 428, 429, 430, 431, 432, 433, 434, 435, 436, 437, 438, 439] (by decide +kernel) (by decide +kernel)
set_option maxRecDepth 20000 in
theorem gL_law_X3_at : GoodIn wsL_law (wsV RL 84 RX3 yX3_at wsX3_at) := goodIn_app (goodIn_of _ (by decide +kernel)) ggL_law_X3_at
set_option maxRecDepth 20000 in
theorem ggL_law_L_byParts : GoodIn wsL_law wsL_byParts := goodIn_ca (goodIn_r _ [400, 145, 401, 402, 403, 2, 404, 150, 151, 24, 376, 377, 378, 379, 380, 381, 382, 383, 21, 384, 41, 405, 406, 407, 408, 67, 68, 69, 70, 26, 71, 72, 73, 305, 306, 307, 308, 27, 94, 95, 96, 309, 310, 311, 312, 28, 413, 414, 415, 416, 417, 418, 419, 420, 421, 422, 423, 443] (by decide +kernel) (by decide +kernel)) (goodIn_sub (fun _ h => List.mem_append_left _ (List.mem_append_right _ h)) (by decide +kernel))
set_option maxRecDepth 20000 in
theorem gL_law_L_byParts : GoodIn wsL_law (va_wsS RL 85 yL_byParts wsL_byParts) := goodIn_app (goodIn_of _ (by decide +kernel)) ggL_law_L_byParts
set_option maxRecDepth 20000 in
theorem ggL_law_X3_byParts : GoodIn wsL_law wsX3_byParts := goodIn_r _ [412, 139, 118, 120, 317, 318, 389, 390, 391, 5, 392, 393, 394, 286, 287, 288, 289, 122, 116, 119, 117, 395, 396, 397, 324, 325, 326, 327, 123, 124, 328, 329, 330, 331, 271, 272, 273, 332, 333, 334, 335, 424, 425, 426, 427, 428, 429, 430, 431, 432, 433, 434, 435, 436, 437, 438, 439] (by decide +kernel) (by decide +kernel)
set_option maxRecDepth 20000 in
theorem gL_law_X3_byParts : GoodIn wsL_law (wsV RL 87 RX3 yX3_byParts wsX3_byParts) := goodIn_app (goodIn_of _ (by decide +kernel)) ggL_law_X3_byParts
abbrev vwCl : List vw_C := [(RX0, TX0, 3), (RX1, TX1, 1), (RX2, TX2, 11), (RX3, TX3, 16)]
