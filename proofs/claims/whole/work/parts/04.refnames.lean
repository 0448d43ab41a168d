/-! printed by wip/whole/gen/refnames.py: names of the reference -/
def RM0 : String := "ExactNumbersModel"
def TM0 : u_T := fun k => match k with
  | 0 => ("ExactNumbersModel", "thrown", "I", false)
  | 1 => ("ExactNumbersModel", "digit", "[I", true)
  | 2 => ("ExactNumbersModel", "below", "[Z", true)
  | 3 => ("ExactNumbersModel", "limit", "[I", true)
  | 4 => ("ExactNumbersModel", "left", "[I", true)
  | 5 => ("ExactNumbersModel", "right", "[I", true)
  | 6 => ("ExactNumbersModel", "out", "[I", true)
  | 7 => ("ExactNumbersModel", "rest", "[I", true)
  | 8 => ("ExactNumbersModel", "leftBelow", "Z", false)
  | 9 => ("ExactNumbersModel", "rightBelow", "Z", false)
  | 10 => ("ExactNumbersModel", "outBelow", "Z", false)
  | 11 => ("ExactNumbersModel", "bitsLeft", "[I", true)
  | 12 => ("ExactNumbersModel", "bitsRight", "[I", true)
  | 13 => ("ExactNumbersModel", "typed", "I", false)
  | 14 => ("ExactNumbersModel", "type", "[I", true)
  | 15 => ("ExactNumbersModel", "written", "I", false)
  | _ => ("ExactNumbersModel", "text", "[I", true)
def tyM0 : Nat → FieldType := fun k => match k with
  | 0 => .int
  | 1 => .array .int
  | 2 => .array .boolean
  | 3 => .array .int
  | 4 => .array .int
  | 5 => .array .int
  | 6 => .array .int
  | 7 => .array .int
  | 8 => .boolean
  | 9 => .boolean
  | 10 => .boolean
  | 11 => .array .int
  | 12 => .array .int
  | 13 => .int
  | 14 => .array .int
  | 15 => .int
  | _ => .array .int
abbrev wsM00 : List Cond := u_ws RM0 TM0 17
theorem nmM0 : ∀ a, a < 17 → ∀ b, b < 17 → a ≠ b → (TM0 a).2.1 ≠ (TM0 b).2.1 := by decide +kernel
theorem tyM0_ok : ∀ k, k < 17 → parseFieldDescriptor (TM0 k).2.2.1 = some (tyM0 k) := by decide +kernel
abbrev cM0_init : ByteArray := prog_4_method_1_code
def yM0_init : MethodName := ⟨RM0, "<init>", "()V"⟩
abbrev cM0_power : ByteArray := prog_4_method_12_code
def yM0_power : MethodName := ⟨RM0, "power", "([II)V"⟩
abbrev cM0_clear : ByteArray := prog_4_method_4_code
def yM0_clear : MethodName := ⟨RM0, "clear", "([I)V"⟩
abbrev cM0_grow : ByteArray := prog_4_method_8_code
def yM0_grow : MethodName := ⟨RM0, "grow", "([III)V"⟩
abbrev cM0_set : ByteArray := prog_4_method_16_code
def yM0_set : MethodName := ⟨RM0, "set", "(IJZ)I"⟩
abbrev cM0_isSlot : ByteArray := prog_4_method_3_code
def yM0_isSlot : MethodName := ⟨RM0, "isSlot", "(I)Z"⟩
abbrev cM0_keep : ByteArray := prog_4_method_15_code
def yM0_keep : MethodName := ⟨RM0, "keep", "(I)I"⟩
abbrev cM0_order : ByteArray := prog_4_method_7_code
def yM0_order : MethodName := ⟨RM0, "order", "([I[I)I"⟩
abbrev cM0_isZero : ByteArray := prog_4_method_6_code
def yM0_isZero : MethodName := ⟨RM0, "isZero", "([I)Z"⟩
abbrev cM0_digits : ByteArray := prog_4_method_18_code
def yM0_digits : MethodName := ⟨RM0, "digits", "(J)Z"⟩
abbrev cM0_worth : ByteArray := prog_4_method_17_code
def yM0_worth : MethodName := ⟨RM0, "worth", "(I)I"⟩
abbrev cM0_read : ByteArray := prog_4_method_19_code
def yM0_read : MethodName := ⟨RM0, "read", "(II)I"⟩
abbrev cM0_work : ByteArray := prog_4_method_26_code
def yM0_work : MethodName := ⟨RM0, "work", "(IIII)I"⟩
abbrev cM0_loadBoth : ByteArray := prog_4_method_14_code
def yM0_loadBoth : MethodName := ⟨RM0, "loadBoth", "(II)V"⟩
abbrev cM0_load : ByteArray := prog_4_method_13_code
def yM0_load : MethodName := ⟨RM0, "load", "(I[I)V"⟩
abbrev cM0_sum : ByteArray := prog_4_method_20_code
def yM0_sum : MethodName := ⟨RM0, "sum", "(Z)V"⟩
abbrev cM0_copy : ByteArray := prog_4_method_5_code
def yM0_copy : MethodName := ⟨RM0, "copy", "([I[I)V"⟩
abbrev cM0_add : ByteArray := prog_4_method_10_code
def yM0_add : MethodName := ⟨RM0, "add", "([I[I)V"⟩
abbrev cM0_subtract : ByteArray := prog_4_method_11_code
def yM0_subtract : MethodName := ⟨RM0, "subtract", "([I[I)V"⟩
abbrev cM0_times : ByteArray := prog_4_method_21_code
def yM0_times : MethodName := ⟨RM0, "times", "()V"⟩
abbrev cM0_divide : ByteArray := prog_4_method_22_code
def yM0_divide : MethodName := ⟨RM0, "divide", "()V"⟩
abbrev cM0_bitwise : ByteArray := prog_4_method_25_code
def yM0_bitwise : MethodName := ⟨RM0, "bitwise", "(I)V"⟩
abbrev cM0_toBits : ByteArray := prog_4_method_23_code
def yM0_toBits : MethodName := ⟨RM0, "toBits", "([IZ[I)V"⟩
abbrev cM0_shrink : ByteArray := prog_4_method_9_code
def yM0_shrink : MethodName := ⟨RM0, "shrink", "([II)I"⟩
abbrev cM0_fromBits : ByteArray := prog_4_method_24_code
def yM0_fromBits : MethodName := ⟨RM0, "fromBits", "([I)V"⟩
abbrev cM0_shift : ByteArray := prog_4_method_27_code
def yM0_shift : MethodName := ⟨RM0, "shift", "(IIIZ)I"⟩
abbrev cM0_turn : ByteArray := prog_4_method_28_code
def yM0_turn : MethodName := ⟨RM0, "turn", "(IIZ)I"⟩
abbrev cM0_compare : ByteArray := prog_4_method_29_code
def yM0_compare : MethodName := ⟨RM0, "compare", "(II)I"⟩
abbrev cM0_bits : ByteArray := prog_4_method_30_code
def yM0_bits : MethodName := ⟨RM0, "bits", "(I)I"⟩
abbrev cM0_fits : ByteArray := prog_4_method_31_code
def yM0_fits : MethodName := ⟨RM0, "fits", "(IIZ)Z"⟩
abbrev cM0_cut : ByteArray := prog_4_method_32_code
def yM0_cut : MethodName := ⟨RM0, "cut", "(IIZ)J"⟩
abbrev cM0_write : ByteArray := prog_4_method_33_code
def yM0_write : MethodName := ⟨RM0, "write", "(II)I"⟩
abbrev cM0_byteOf : ByteArray := prog_4_method_34_code
def yM0_byteOf : MethodName := ⟨RM0, "byteOf", "(I)I"⟩
def wsM0_clear : List Cond := .code yM0_clear cM0_clear 2 none :: ([])
def wsM0_grow : List Cond := .code yM0_grow cM0_grow 6 none :: ([])
def wsM0_power : List Cond := .code yM0_power cM0_power 3 none :: ([.methodLink RM0 52 yM0_clear, .static yM0_clear, .initialized RM0, .code yM0_clear cM0_clear 2 none, .methodLink RM0 56 yM0_grow, .static yM0_grow, .code yM0_grow cM0_grow 6 none])
def wsM0_init : List Cond := .code yM0_init cM0_init 1 none :: ([.methodLink RM0 1 objectInit, .instanceMethod objectInit, .code objectInit ⟨#[0xb1]⟩ 1 none, .arrayClass .int, .fieldLink RM0 7 "ExactNumbersModel" "digit" "[I", .arrayClass .boolean, .fieldLink RM0 13 "ExactNumbersModel" "below" "[Z", .fieldLink RM0 17 "ExactNumbersModel" "limit" "[I", .fieldLink RM0 20 "ExactNumbersModel" "left" "[I", .fieldLink RM0 23 "ExactNumbersModel" "right" "[I", .fieldLink RM0 26 "ExactNumbersModel" "out" "[I", .fieldLink RM0 29 "ExactNumbersModel" "rest" "[I", .fieldLink RM0 32 "ExactNumbersModel" "bitsLeft" "[I", .fieldLink RM0 35 "ExactNumbersModel" "bitsRight" "[I", .fieldLink RM0 38 "ExactNumbersModel" "type" "[I", .fieldLink RM0 41 "ExactNumbersModel" "text" "[I", .methodLink RM0 44 yM0_power, .static yM0_power, .initialized RM0, .code yM0_power cM0_power 3 none, .methodLink RM0 52 yM0_clear, .static yM0_clear, .code yM0_clear cM0_clear 2 none, .methodLink RM0 56 yM0_grow, .static yM0_grow, .code yM0_grow cM0_grow 6 none] ++ wsM00)
def wsM0_isSlot : List Cond := .code yM0_isSlot cM0_isSlot 1 (some .boolean) :: ([])
def wsM0_order : List Cond := .code yM0_order cM0_order 3 (some .int) :: ([])
def wsM0_isZero : List Cond := .code yM0_isZero cM0_isZero 3 (some .boolean) :: ([])
def wsM0_keep : List Cond := .code yM0_keep cM0_keep 3 (some .int) :: ([.fieldLink RM0 26 "ExactNumbersModel" "out" "[I", .fieldLink RM0 17 "ExactNumbersModel" "limit" "[I", .fieldLink RM0 7 "ExactNumbersModel" "digit" "[I", .fieldLink RM0 13 "ExactNumbersModel" "below" "[Z", .fieldLink RM0 75 "ExactNumbersModel" "outBelow" "Z", .methodLink RM0 71 yM0_order, .static yM0_order, .initialized RM0, .code yM0_order cM0_order 3 (some .int), .methodLink RM0 78 yM0_isZero, .static yM0_isZero, .code yM0_isZero cM0_isZero 3 (some .boolean)] ++ wsM00)
def wsM0_set : List Cond := .code yM0_set cM0_set 8 (some .int) :: ([.fieldLink RM0 48 "ExactNumbersModel" "thrown" "I", .fieldLink RM0 75 "ExactNumbersModel" "outBelow" "Z", .fieldLink RM0 26 "ExactNumbersModel" "out" "[I", .methodLink RM0 82 yM0_isSlot, .static yM0_isSlot, .initialized RM0, .code yM0_isSlot cM0_isSlot 1 (some .boolean), .methodLink RM0 52 yM0_clear, .static yM0_clear, .code yM0_clear cM0_clear 2 none, .methodLink RM0 56 yM0_grow, .static yM0_grow, .code yM0_grow cM0_grow 6 none, .methodLink RM0 86 yM0_keep, .instanceMethod yM0_keep, .selects RM0 yM0_keep yM0_keep, .code yM0_keep cM0_keep 3 (some .int), .fieldLink RM0 17 "ExactNumbersModel" "limit" "[I", .fieldLink RM0 7 "ExactNumbersModel" "digit" "[I", .fieldLink RM0 13 "ExactNumbersModel" "below" "[Z", .methodLink RM0 71 yM0_order, .static yM0_order, .code yM0_order cM0_order 3 (some .int), .methodLink RM0 78 yM0_isZero, .static yM0_isZero, .code yM0_isZero cM0_isZero 3 (some .boolean)] ++ wsM00)
def wsM0_worth : List Cond := .code yM0_worth cM0_worth 1 (some .int) :: ([])
def wsM0_digits : List Cond := .code yM0_digits cM0_digits 6 (some .boolean) :: ([.fieldLink RM0 48 "ExactNumbersModel" "thrown" "I", .constantLong RM0 90 (255), .fieldLink RM0 95 "ExactNumbersModel" "typed" "I", .fieldLink RM0 38 "ExactNumbersModel" "type" "[I", .methodLink RM0 92 yM0_worth, .static yM0_worth, .initialized RM0, .code yM0_worth cM0_worth 1 (some .int)] ++ wsM00)
def wsM0_read : List Cond := .code yM0_read cM0_read 6 (some .int) :: ([.fieldLink RM0 48 "ExactNumbersModel" "thrown" "I", .fieldLink RM0 95 "ExactNumbersModel" "typed" "I", .fieldLink RM0 26 "ExactNumbersModel" "out" "[I", .fieldLink RM0 38 "ExactNumbersModel" "type" "[I", .fieldLink RM0 17 "ExactNumbersModel" "limit" "[I", .fieldLink RM0 75 "ExactNumbersModel" "outBelow" "Z", .methodLink RM0 82 yM0_isSlot, .static yM0_isSlot, .initialized RM0, .code yM0_isSlot cM0_isSlot 1 (some .boolean), .methodLink RM0 52 yM0_clear, .static yM0_clear, .code yM0_clear cM0_clear 2 none, .methodLink RM0 56 yM0_grow, .static yM0_grow, .code yM0_grow cM0_grow 6 none, .methodLink RM0 71 yM0_order, .static yM0_order, .code yM0_order cM0_order 3 (some .int), .methodLink RM0 86 yM0_keep, .instanceMethod yM0_keep, .selects RM0 yM0_keep yM0_keep, .code yM0_keep cM0_keep 3 (some .int), .fieldLink RM0 7 "ExactNumbersModel" "digit" "[I", .fieldLink RM0 13 "ExactNumbersModel" "below" "[Z", .methodLink RM0 78 yM0_isZero, .static yM0_isZero, .code yM0_isZero cM0_isZero 3 (some .boolean)] ++ wsM00)
def wsM0_load : List Cond := .code yM0_load cM0_load 4 none :: ([.fieldLink RM0 7 "ExactNumbersModel" "digit" "[I", .methodLink RM0 52 yM0_clear, .static yM0_clear, .initialized RM0, .code yM0_clear cM0_clear 2 none] ++ wsM00)
def wsM0_loadBoth : List Cond := .code yM0_loadBoth cM0_loadBoth 3 none :: ([.fieldLink RM0 20 "ExactNumbersModel" "left" "[I", .fieldLink RM0 23 "ExactNumbersModel" "right" "[I", .fieldLink RM0 13 "ExactNumbersModel" "below" "[Z", .fieldLink RM0 64 "ExactNumbersModel" "leftBelow" "Z", .fieldLink RM0 68 "ExactNumbersModel" "rightBelow" "Z", .methodLink RM0 60 yM0_load, .instanceMethod yM0_load, .selects RM0 yM0_load yM0_load, .initialized RM0, .code yM0_load cM0_load 4 none, .fieldLink RM0 7 "ExactNumbersModel" "digit" "[I", .methodLink RM0 52 yM0_clear, .static yM0_clear, .code yM0_clear cM0_clear 2 none] ++ wsM00)
def wsM0_copy : List Cond := .code yM0_copy cM0_copy 3 none :: ([])
def wsM0_add : List Cond := .code yM0_add cM0_add 5 none :: ([])
def wsM0_subtract : List Cond := .code yM0_subtract cM0_subtract 5 none :: ([])
def wsM0_sum : List Cond := .code yM0_sum cM0_sum 3 none :: ([.fieldLink RM0 68 "ExactNumbersModel" "rightBelow" "Z", .fieldLink RM0 20 "ExactNumbersModel" "left" "[I", .fieldLink RM0 26 "ExactNumbersModel" "out" "[I", .fieldLink RM0 64 "ExactNumbersModel" "leftBelow" "Z", .fieldLink RM0 75 "ExactNumbersModel" "outBelow" "Z", .fieldLink RM0 23 "ExactNumbersModel" "right" "[I", .methodLink RM0 98 yM0_copy, .static yM0_copy, .initialized RM0, .code yM0_copy cM0_copy 3 none, .methodLink RM0 102 yM0_add, .static yM0_add, .code yM0_add cM0_add 5 none, .methodLink RM0 71 yM0_order, .static yM0_order, .code yM0_order cM0_order 3 (some .int), .methodLink RM0 105 yM0_subtract, .static yM0_subtract, .code yM0_subtract cM0_subtract 5 none] ++ wsM00)
def wsM0_times : List Cond := .code yM0_times cM0_times 3 none :: ([.fieldLink RM0 26 "ExactNumbersModel" "out" "[I", .fieldLink RM0 23 "ExactNumbersModel" "right" "[I", .fieldLink RM0 20 "ExactNumbersModel" "left" "[I", .fieldLink RM0 64 "ExactNumbersModel" "leftBelow" "Z", .fieldLink RM0 68 "ExactNumbersModel" "rightBelow" "Z", .fieldLink RM0 75 "ExactNumbersModel" "outBelow" "Z", .methodLink RM0 52 yM0_clear, .static yM0_clear, .initialized RM0, .code yM0_clear cM0_clear 2 none, .methodLink RM0 56 yM0_grow, .static yM0_grow, .code yM0_grow cM0_grow 6 none, .methodLink RM0 102 yM0_add, .static yM0_add, .code yM0_add cM0_add 5 none] ++ wsM00)
def wsM0_divide : List Cond := .code yM0_divide cM0_divide 2 none :: ([.fieldLink RM0 26 "ExactNumbersModel" "out" "[I", .fieldLink RM0 29 "ExactNumbersModel" "rest" "[I", .fieldLink RM0 20 "ExactNumbersModel" "left" "[I", .fieldLink RM0 23 "ExactNumbersModel" "right" "[I", .fieldLink RM0 64 "ExactNumbersModel" "leftBelow" "Z", .fieldLink RM0 68 "ExactNumbersModel" "rightBelow" "Z", .fieldLink RM0 75 "ExactNumbersModel" "outBelow" "Z", .methodLink RM0 52 yM0_clear, .static yM0_clear, .initialized RM0, .code yM0_clear cM0_clear 2 none, .methodLink RM0 56 yM0_grow, .static yM0_grow, .code yM0_grow cM0_grow 6 none, .methodLink RM0 71 yM0_order, .static yM0_order, .code yM0_order cM0_order 3 (some .int), .methodLink RM0 105 yM0_subtract, .static yM0_subtract, .code yM0_subtract cM0_subtract 5 none] ++ wsM00)
def wsM0_shrink : List Cond := .code yM0_shrink cM0_shrink 5 (some .int) :: ([])
def wsM0_toBits : List Cond := .code yM0_toBits cM0_toBits 7 none :: ([.fieldLink RM0 29 "ExactNumbersModel" "rest" "[I", .methodLink RM0 98 yM0_copy, .static yM0_copy, .initialized RM0, .code yM0_copy cM0_copy 3 none, .methodLink RM0 108 yM0_shrink, .static yM0_shrink, .code yM0_shrink cM0_shrink 5 (some .int)] ++ wsM00)
def wsM0_fromBits : List Cond := .code yM0_fromBits cM0_fromBits 3 none :: ([.fieldLink RM0 75 "ExactNumbersModel" "outBelow" "Z", .fieldLink RM0 26 "ExactNumbersModel" "out" "[I", .fieldLink RM0 29 "ExactNumbersModel" "rest" "[I", .methodLink RM0 52 yM0_clear, .static yM0_clear, .initialized RM0, .code yM0_clear cM0_clear 2 none, .methodLink RM0 56 yM0_grow, .static yM0_grow, .code yM0_grow cM0_grow 6 none, .methodLink RM0 102 yM0_add, .static yM0_add, .code yM0_add cM0_add 5 none] ++ wsM00)
def wsM0_bitwise : List Cond := .code yM0_bitwise cM0_bitwise 5 none :: ([.fieldLink RM0 20 "ExactNumbersModel" "left" "[I", .fieldLink RM0 64 "ExactNumbersModel" "leftBelow" "Z", .fieldLink RM0 32 "ExactNumbersModel" "bitsLeft" "[I", .fieldLink RM0 23 "ExactNumbersModel" "right" "[I", .fieldLink RM0 68 "ExactNumbersModel" "rightBelow" "Z", .fieldLink RM0 35 "ExactNumbersModel" "bitsRight" "[I", .methodLink RM0 112 yM0_toBits, .instanceMethod yM0_toBits, .selects RM0 yM0_toBits yM0_toBits, .initialized RM0, .code yM0_toBits cM0_toBits 7 none, .fieldLink RM0 29 "ExactNumbersModel" "rest" "[I", .methodLink RM0 98 yM0_copy, .static yM0_copy, .code yM0_copy cM0_copy 3 none, .methodLink RM0 108 yM0_shrink, .static yM0_shrink, .code yM0_shrink cM0_shrink 5 (some .int), .methodLink RM0 116 yM0_fromBits, .instanceMethod yM0_fromBits, .selects RM0 yM0_fromBits yM0_fromBits, .code yM0_fromBits cM0_fromBits 3 none, .fieldLink RM0 75 "ExactNumbersModel" "outBelow" "Z", .fieldLink RM0 26 "ExactNumbersModel" "out" "[I", .methodLink RM0 52 yM0_clear, .static yM0_clear, .code yM0_clear cM0_clear 2 none, .methodLink RM0 56 yM0_grow, .static yM0_grow, .code yM0_grow cM0_grow 6 none, .methodLink RM0 102 yM0_add, .static yM0_add, .code yM0_add cM0_add 5 none] ++ wsM00)
def wsM0_work : List Cond := .code yM0_work cM0_work 5 (some .int) :: ([.fieldLink RM0 48 "ExactNumbersModel" "thrown" "I", .fieldLink RM0 23 "ExactNumbersModel" "right" "[I", .fieldLink RM0 29 "ExactNumbersModel" "rest" "[I", .fieldLink RM0 26 "ExactNumbersModel" "out" "[I", .fieldLink RM0 64 "ExactNumbersModel" "leftBelow" "Z", .fieldLink RM0 75 "ExactNumbersModel" "outBelow" "Z", .methodLink RM0 82 yM0_isSlot, .static yM0_isSlot, .initialized RM0, .code yM0_isSlot cM0_isSlot 1 (some .boolean), .methodLink RM0 119 yM0_loadBoth, .instanceMethod yM0_loadBoth, .selects RM0 yM0_loadBoth yM0_loadBoth, .code yM0_loadBoth cM0_loadBoth 3 none, .fieldLink RM0 20 "ExactNumbersModel" "left" "[I", .fieldLink RM0 13 "ExactNumbersModel" "below" "[Z", .fieldLink RM0 68 "ExactNumbersModel" "rightBelow" "Z", .methodLink RM0 60 yM0_load, .instanceMethod yM0_load, .selects RM0 yM0_load yM0_load, .code yM0_load cM0_load 4 none, .fieldLink RM0 7 "ExactNumbersModel" "digit" "[I", .methodLink RM0 52 yM0_clear, .static yM0_clear, .code yM0_clear cM0_clear 2 none, .methodLink RM0 78 yM0_isZero, .static yM0_isZero, .code yM0_isZero cM0_isZero 3 (some .boolean), .methodLink RM0 123 yM0_sum, .instanceMethod yM0_sum, .selects RM0 yM0_sum yM0_sum, .code yM0_sum cM0_sum 3 none, .methodLink RM0 98 yM0_copy, .static yM0_copy, .code yM0_copy cM0_copy 3 none, .methodLink RM0 102 yM0_add, .static yM0_add, .code yM0_add cM0_add 5 none, .methodLink RM0 71 yM0_order, .static yM0_order, .code yM0_order cM0_order 3 (some .int), .methodLink RM0 105 yM0_subtract, .static yM0_subtract, .code yM0_subtract cM0_subtract 5 none, .methodLink RM0 127 yM0_times, .instanceMethod yM0_times, .selects RM0 yM0_times yM0_times, .code yM0_times cM0_times 3 none, .methodLink RM0 56 yM0_grow, .static yM0_grow, .code yM0_grow cM0_grow 6 none, .methodLink RM0 130 yM0_divide, .instanceMethod yM0_divide, .selects RM0 yM0_divide yM0_divide, .code yM0_divide cM0_divide 2 none, .methodLink RM0 133 yM0_bitwise, .instanceMethod yM0_bitwise, .selects RM0 yM0_bitwise yM0_bitwise, .code yM0_bitwise cM0_bitwise 5 none, .fieldLink RM0 32 "ExactNumbersModel" "bitsLeft" "[I", .fieldLink RM0 35 "ExactNumbersModel" "bitsRight" "[I", .methodLink RM0 112 yM0_toBits, .instanceMethod yM0_toBits, .selects RM0 yM0_toBits yM0_toBits, .code yM0_toBits cM0_toBits 7 none, .methodLink RM0 108 yM0_shrink, .static yM0_shrink, .code yM0_shrink cM0_shrink 5 (some .int), .methodLink RM0 116 yM0_fromBits, .instanceMethod yM0_fromBits, .selects RM0 yM0_fromBits yM0_fromBits, .code yM0_fromBits cM0_fromBits 3 none, .methodLink RM0 86 yM0_keep, .instanceMethod yM0_keep, .selects RM0 yM0_keep yM0_keep, .code yM0_keep cM0_keep 3 (some .int), .fieldLink RM0 17 "ExactNumbersModel" "limit" "[I"] ++ wsM00)
def wsM0_shift : List Cond := .code yM0_shift cM0_shift 7 (some .int) :: ([.fieldLink RM0 48 "ExactNumbersModel" "thrown" "I", .fieldLink RM0 26 "ExactNumbersModel" "out" "[I", .fieldLink RM0 13 "ExactNumbersModel" "below" "[Z", .fieldLink RM0 75 "ExactNumbersModel" "outBelow" "Z", .fieldLink RM0 17 "ExactNumbersModel" "limit" "[I", .methodLink RM0 82 yM0_isSlot, .static yM0_isSlot, .initialized RM0, .code yM0_isSlot cM0_isSlot 1 (some .boolean), .methodLink RM0 60 yM0_load, .instanceMethod yM0_load, .selects RM0 yM0_load yM0_load, .code yM0_load cM0_load 4 none, .fieldLink RM0 7 "ExactNumbersModel" "digit" "[I", .methodLink RM0 52 yM0_clear, .static yM0_clear, .code yM0_clear cM0_clear 2 none, .methodLink RM0 56 yM0_grow, .static yM0_grow, .code yM0_grow cM0_grow 6 none, .methodLink RM0 71 yM0_order, .static yM0_order, .code yM0_order cM0_order 3 (some .int), .methodLink RM0 108 yM0_shrink, .static yM0_shrink, .code yM0_shrink cM0_shrink 5 (some .int), .methodLink RM0 86 yM0_keep, .instanceMethod yM0_keep, .selects RM0 yM0_keep yM0_keep, .code yM0_keep cM0_keep 3 (some .int), .methodLink RM0 78 yM0_isZero, .static yM0_isZero, .code yM0_isZero cM0_isZero 3 (some .boolean)] ++ wsM00)
def wsM0_turn : List Cond := .code yM0_turn cM0_turn 4 (some .int) :: ([.fieldLink RM0 48 "ExactNumbersModel" "thrown" "I", .fieldLink RM0 26 "ExactNumbersModel" "out" "[I", .fieldLink RM0 13 "ExactNumbersModel" "below" "[Z", .fieldLink RM0 75 "ExactNumbersModel" "outBelow" "Z", .fieldLink RM0 20 "ExactNumbersModel" "left" "[I", .fieldLink RM0 23 "ExactNumbersModel" "right" "[I", .fieldLink RM0 64 "ExactNumbersModel" "leftBelow" "Z", .fieldLink RM0 68 "ExactNumbersModel" "rightBelow" "Z", .methodLink RM0 82 yM0_isSlot, .static yM0_isSlot, .initialized RM0, .code yM0_isSlot cM0_isSlot 1 (some .boolean), .methodLink RM0 60 yM0_load, .instanceMethod yM0_load, .selects RM0 yM0_load yM0_load, .code yM0_load cM0_load 4 none, .fieldLink RM0 7 "ExactNumbersModel" "digit" "[I", .methodLink RM0 52 yM0_clear, .static yM0_clear, .code yM0_clear cM0_clear 2 none, .methodLink RM0 86 yM0_keep, .instanceMethod yM0_keep, .selects RM0 yM0_keep yM0_keep, .code yM0_keep cM0_keep 3 (some .int), .fieldLink RM0 17 "ExactNumbersModel" "limit" "[I", .methodLink RM0 71 yM0_order, .static yM0_order, .code yM0_order cM0_order 3 (some .int), .methodLink RM0 78 yM0_isZero, .static yM0_isZero, .code yM0_isZero cM0_isZero 3 (some .boolean), .methodLink RM0 119 yM0_loadBoth, .instanceMethod yM0_loadBoth, .selects RM0 yM0_loadBoth yM0_loadBoth, .code yM0_loadBoth cM0_loadBoth 3 none, .methodLink RM0 98 yM0_copy, .static yM0_copy, .code yM0_copy cM0_copy 3 none, .methodLink RM0 123 yM0_sum, .instanceMethod yM0_sum, .selects RM0 yM0_sum yM0_sum, .code yM0_sum cM0_sum 3 none, .methodLink RM0 102 yM0_add, .static yM0_add, .code yM0_add cM0_add 5 none, .methodLink RM0 105 yM0_subtract, .static yM0_subtract, .code yM0_subtract cM0_subtract 5 none] ++ wsM00)
def wsM0_compare : List Cond := .code yM0_compare cM0_compare 4 (some .int) :: ([.fieldLink RM0 48 "ExactNumbersModel" "thrown" "I", .fieldLink RM0 64 "ExactNumbersModel" "leftBelow" "Z", .fieldLink RM0 68 "ExactNumbersModel" "rightBelow" "Z", .fieldLink RM0 20 "ExactNumbersModel" "left" "[I", .fieldLink RM0 23 "ExactNumbersModel" "right" "[I", .methodLink RM0 82 yM0_isSlot, .static yM0_isSlot, .initialized RM0, .code yM0_isSlot cM0_isSlot 1 (some .boolean), .methodLink RM0 119 yM0_loadBoth, .instanceMethod yM0_loadBoth, .selects RM0 yM0_loadBoth yM0_loadBoth, .code yM0_loadBoth cM0_loadBoth 3 none, .fieldLink RM0 13 "ExactNumbersModel" "below" "[Z", .methodLink RM0 60 yM0_load, .instanceMethod yM0_load, .selects RM0 yM0_load yM0_load, .code yM0_load cM0_load 4 none, .fieldLink RM0 7 "ExactNumbersModel" "digit" "[I", .methodLink RM0 52 yM0_clear, .static yM0_clear, .code yM0_clear cM0_clear 2 none, .methodLink RM0 71 yM0_order, .static yM0_order, .code yM0_order cM0_order 3 (some .int)] ++ wsM00)
def wsM0_bits : List Cond := .code yM0_bits cM0_bits 4 (some .int) :: ([.fieldLink RM0 48 "ExactNumbersModel" "thrown" "I", .fieldLink RM0 20 "ExactNumbersModel" "left" "[I", .methodLink RM0 82 yM0_isSlot, .static yM0_isSlot, .initialized RM0, .code yM0_isSlot cM0_isSlot 1 (some .boolean), .methodLink RM0 60 yM0_load, .instanceMethod yM0_load, .selects RM0 yM0_load yM0_load, .code yM0_load cM0_load 4 none, .fieldLink RM0 7 "ExactNumbersModel" "digit" "[I", .methodLink RM0 52 yM0_clear, .static yM0_clear, .code yM0_clear cM0_clear 2 none, .methodLink RM0 78 yM0_isZero, .static yM0_isZero, .code yM0_isZero cM0_isZero 3 (some .boolean), .methodLink RM0 108 yM0_shrink, .static yM0_shrink, .code yM0_shrink cM0_shrink 5 (some .int)] ++ wsM00)
def wsM0_fits : List Cond := .code yM0_fits cM0_fits 5 (some .boolean) :: ([.fieldLink RM0 48 "ExactNumbersModel" "thrown" "I", .fieldLink RM0 20 "ExactNumbersModel" "left" "[I", .fieldLink RM0 23 "ExactNumbersModel" "right" "[I", .fieldLink RM0 13 "ExactNumbersModel" "below" "[Z", .methodLink RM0 82 yM0_isSlot, .static yM0_isSlot, .initialized RM0, .code yM0_isSlot cM0_isSlot 1 (some .boolean), .methodLink RM0 60 yM0_load, .instanceMethod yM0_load, .selects RM0 yM0_load yM0_load, .code yM0_load cM0_load 4 none, .fieldLink RM0 7 "ExactNumbersModel" "digit" "[I", .methodLink RM0 52 yM0_clear, .static yM0_clear, .code yM0_clear cM0_clear 2 none, .methodLink RM0 44 yM0_power, .static yM0_power, .code yM0_power cM0_power 3 none, .methodLink RM0 56 yM0_grow, .static yM0_grow, .code yM0_grow cM0_grow 6 none, .methodLink RM0 71 yM0_order, .static yM0_order, .code yM0_order cM0_order 3 (some .int)] ++ wsM00)
def wsM0_cut : List Cond := .code yM0_cut cM0_cut 7 (some .long) :: ([.fieldLink RM0 48 "ExactNumbersModel" "thrown" "I", .constantLong RM0 137 (10), .fieldLink RM0 7 "ExactNumbersModel" "digit" "[I", .fieldLink RM0 13 "ExactNumbersModel" "below" "[Z", .methodLink RM0 82 yM0_isSlot, .static yM0_isSlot, .initialized RM0, .code yM0_isSlot cM0_isSlot 1 (some .boolean)] ++ wsM00)
def wsM0_write : List Cond := .code yM0_write cM0_write 5 (some .int) :: ([.fieldLink RM0 48 "ExactNumbersModel" "thrown" "I", .fieldLink RM0 20 "ExactNumbersModel" "left" "[I", .fieldLink RM0 41 "ExactNumbersModel" "text" "[I", .fieldLink RM0 13 "ExactNumbersModel" "below" "[Z", .fieldLink RM0 139 "ExactNumbersModel" "written" "I", .methodLink RM0 82 yM0_isSlot, .static yM0_isSlot, .initialized RM0, .code yM0_isSlot cM0_isSlot 1 (some .boolean), .methodLink RM0 60 yM0_load, .instanceMethod yM0_load, .selects RM0 yM0_load yM0_load, .code yM0_load cM0_load 4 none, .fieldLink RM0 7 "ExactNumbersModel" "digit" "[I", .methodLink RM0 52 yM0_clear, .static yM0_clear, .code yM0_clear cM0_clear 2 none, .methodLink RM0 78 yM0_isZero, .static yM0_isZero, .code yM0_isZero cM0_isZero 3 (some .boolean), .methodLink RM0 108 yM0_shrink, .static yM0_shrink, .code yM0_shrink cM0_shrink 5 (some .int)] ++ wsM00)
def wsM0_byteOf : List Cond := .code yM0_byteOf cM0_byteOf 2 (some .int) :: ([.fieldLink RM0 48 "ExactNumbersModel" "thrown" "I", .fieldLink RM0 139 "ExactNumbersModel" "written" "I", .fieldLink RM0 41 "ExactNumbersModel" "text" "[I"] ++ wsM00)
set_option maxRecDepth 20000 in
theorem ggM0_power_M0_clear : GoodIn wsM0_power wsM0_clear := goodIn_r _ [4] (by decide +kernel) (by decide +kernel)
set_option maxRecDepth 20000 in
theorem gM0_power_M0_clear : GoodIn wsM0_power (va_wsS RM0 52 yM0_clear wsM0_clear) := goodIn_app (goodIn_of _ (by decide +kernel)) ggM0_power_M0_clear
set_option maxRecDepth 20000 in
theorem ggM0_power_M0_grow : GoodIn wsM0_power wsM0_grow := goodIn_r _ [7] (by decide +kernel) (by decide +kernel)
set_option maxRecDepth 20000 in
theorem gM0_power_M0_grow : GoodIn wsM0_power (va_wsS RM0 56 yM0_grow wsM0_grow) := goodIn_app (goodIn_of _ (by decide +kernel)) ggM0_power_M0_grow
set_option maxRecDepth 20000 in
theorem ggM0_init_M0_power : GoodIn wsM0_init wsM0_power := goodIn_r _ [20, 21, 22, 19, 23, 24, 25, 26] (by decide +kernel) (by decide +kernel)
set_option maxRecDepth 20000 in
theorem gM0_init_M0_power : GoodIn wsM0_init (va_wsS RM0 44 yM0_power wsM0_power) := goodIn_app (goodIn_of _ (by decide +kernel)) ggM0_init_M0_power
set_option maxRecDepth 20000 in
theorem ggM0_keep_M0_order : GoodIn wsM0_keep wsM0_order := goodIn_r _ [9] (by decide +kernel) (by decide +kernel)
set_option maxRecDepth 20000 in
theorem gM0_keep_M0_order : GoodIn wsM0_keep (va_wsS RM0 71 yM0_order wsM0_order) := goodIn_app (goodIn_of _ (by decide +kernel)) ggM0_keep_M0_order
set_option maxRecDepth 20000 in
theorem ggM0_keep_M0_isZero : GoodIn wsM0_keep wsM0_isZero := goodIn_r _ [12] (by decide +kernel) (by decide +kernel)
set_option maxRecDepth 20000 in
theorem gM0_keep_M0_isZero : GoodIn wsM0_keep (va_wsS RM0 78 yM0_isZero wsM0_isZero) := goodIn_app (goodIn_of _ (by decide +kernel)) ggM0_keep_M0_isZero
set_option maxRecDepth 20000 in
theorem ggM0_set_M0_isSlot : GoodIn wsM0_set wsM0_isSlot := goodIn_r _ [7] (by decide +kernel) (by decide +kernel)
set_option maxRecDepth 20000 in
theorem gM0_set_M0_isSlot : GoodIn wsM0_set (va_wsS RM0 82 yM0_isSlot wsM0_isSlot) := goodIn_app (goodIn_of _ (by decide +kernel)) ggM0_set_M0_isSlot
set_option maxRecDepth 20000 in
theorem ggM0_set_M0_clear : GoodIn wsM0_set wsM0_clear := goodIn_r _ [10] (by decide +kernel) (by decide +kernel)
set_option maxRecDepth 20000 in
theorem gM0_set_M0_clear : GoodIn wsM0_set (va_wsS RM0 52 yM0_clear wsM0_clear) := goodIn_app (goodIn_of _ (by decide +kernel)) ggM0_set_M0_clear
set_option maxRecDepth 20000 in
theorem ggM0_set_M0_grow : GoodIn wsM0_set wsM0_grow := goodIn_r _ [13] (by decide +kernel) (by decide +kernel)
set_option maxRecDepth 20000 in
theorem gM0_set_M0_grow : GoodIn wsM0_set (va_wsS RM0 56 yM0_grow wsM0_grow) := goodIn_app (goodIn_of _ (by decide +kernel)) ggM0_set_M0_grow
set_option maxRecDepth 20000 in
theorem ggM0_set_M0_keep : GoodIn wsM0_set wsM0_keep := goodIn_r _ [17, 3, 18, 19, 20, 2, 21, 22, 6, 23, 24, 25, 26, 27, 28, 29, 30, 31, 32, 33, 34, 35, 36, 37, 38, 39, 40, 41, 42, 43] (by decide +kernel) (by decide +kernel)
set_option maxRecDepth 20000 in
theorem gM0_set_M0_keep : GoodIn wsM0_set (wsV RM0 86 RM0 yM0_keep wsM0_keep) := goodIn_app (goodIn_of _ (by decide +kernel)) ggM0_set_M0_keep
set_option maxRecDepth 20000 in
theorem ggM0_digits_M0_worth : GoodIn wsM0_digits wsM0_worth := goodIn_r _ [8] (by decide +kernel) (by decide +kernel)
set_option maxRecDepth 20000 in
theorem gM0_digits_M0_worth : GoodIn wsM0_digits (va_wsS RM0 92 yM0_worth wsM0_worth) := goodIn_app (goodIn_of _ (by decide +kernel)) ggM0_digits_M0_worth
set_option maxRecDepth 20000 in
theorem ggM0_read_M0_isSlot : GoodIn wsM0_read wsM0_isSlot := goodIn_r _ [10] (by decide +kernel) (by decide +kernel)
set_option maxRecDepth 20000 in
theorem gM0_read_M0_isSlot : GoodIn wsM0_read (va_wsS RM0 82 yM0_isSlot wsM0_isSlot) := goodIn_app (goodIn_of _ (by decide +kernel)) ggM0_read_M0_isSlot
set_option maxRecDepth 20000 in
theorem ggM0_read_M0_clear : GoodIn wsM0_read wsM0_clear := goodIn_r _ [13] (by decide +kernel) (by decide +kernel)
set_option maxRecDepth 20000 in
theorem gM0_read_M0_clear : GoodIn wsM0_read (va_wsS RM0 52 yM0_clear wsM0_clear) := goodIn_app (goodIn_of _ (by decide +kernel)) ggM0_read_M0_clear
set_option maxRecDepth 20000 in
theorem ggM0_read_M0_grow : GoodIn wsM0_read wsM0_grow := goodIn_r _ [16] (by decide +kernel) (by decide +kernel)
set_option maxRecDepth 20000 in
theorem gM0_read_M0_grow : GoodIn wsM0_read (va_wsS RM0 56 yM0_grow wsM0_grow) := goodIn_app (goodIn_of _ (by decide +kernel)) ggM0_read_M0_grow
set_option maxRecDepth 20000 in
theorem ggM0_read_M0_order : GoodIn wsM0_read wsM0_order := goodIn_r _ [19] (by decide +kernel) (by decide +kernel)
set_option maxRecDepth 20000 in
theorem gM0_read_M0_order : GoodIn wsM0_read (va_wsS RM0 71 yM0_order wsM0_order) := goodIn_app (goodIn_of _ (by decide +kernel)) ggM0_read_M0_order
set_option maxRecDepth 20000 in
theorem ggM0_read_M0_keep : GoodIn wsM0_read wsM0_keep := goodIn_r _ [23, 3, 5, 24, 25, 6, 17, 18, 9, 19, 26, 27, 28, 29, 30, 31, 32, 33, 34, 35, 36, 37, 38, 39, 40, 41, 42, 43, 44, 45] (by decide +kernel) (by decide +kernel)
set_option maxRecDepth 20000 in
theorem gM0_read_M0_keep : GoodIn wsM0_read (wsV RM0 86 RM0 yM0_keep wsM0_keep) := goodIn_app (goodIn_of _ (by decide +kernel)) ggM0_read_M0_keep
set_option maxRecDepth 20000 in
theorem ggM0_load_M0_clear : GoodIn wsM0_load wsM0_clear := goodIn_r _ [5] (by decide +kernel) (by decide +kernel)
set_option maxRecDepth 20000 in
theorem gM0_load_M0_clear : GoodIn wsM0_load (va_wsS RM0 52 yM0_clear wsM0_clear) := goodIn_app (goodIn_of _ (by decide +kernel)) ggM0_load_M0_clear
set_option maxRecDepth 20000 in
theorem ggM0_loadBoth_M0_load : GoodIn wsM0_loadBoth wsM0_load := goodIn_r _ [10, 11, 12, 13, 9, 14, 15, 16, 17, 18, 19, 20, 21, 22, 23, 24, 25, 26, 27, 28, 29, 30, 31] (by decide +kernel) (by decide +kernel)
set_option maxRecDepth 20000 in
theorem gM0_loadBoth_M0_load : GoodIn wsM0_loadBoth (wsV RM0 60 RM0 yM0_load wsM0_load) := goodIn_app (goodIn_of _ (by decide +kernel)) ggM0_loadBoth_M0_load
set_option maxRecDepth 20000 in
theorem ggM0_sum_M0_copy : GoodIn wsM0_sum wsM0_copy := goodIn_r _ [10] (by decide +kernel) (by decide +kernel)
set_option maxRecDepth 20000 in
theorem gM0_sum_M0_copy : GoodIn wsM0_sum (va_wsS RM0 98 yM0_copy wsM0_copy) := goodIn_app (goodIn_of _ (by decide +kernel)) ggM0_sum_M0_copy
set_option maxRecDepth 20000 in
theorem ggM0_sum_M0_add : GoodIn wsM0_sum wsM0_add := goodIn_r _ [13] (by decide +kernel) (by decide +kernel)
set_option maxRecDepth 20000 in
theorem gM0_sum_M0_add : GoodIn wsM0_sum (va_wsS RM0 102 yM0_add wsM0_add) := goodIn_app (goodIn_of _ (by decide +kernel)) ggM0_sum_M0_add
set_option maxRecDepth 20000 in
theorem ggM0_sum_M0_order : GoodIn wsM0_sum wsM0_order := goodIn_r _ [16] (by decide +kernel) (by decide +kernel)
set_option maxRecDepth 20000 in
theorem gM0_sum_M0_order : GoodIn wsM0_sum (va_wsS RM0 71 yM0_order wsM0_order) := goodIn_app (goodIn_of _ (by decide +kernel)) ggM0_sum_M0_order
set_option maxRecDepth 20000 in
theorem ggM0_sum_M0_subtract : GoodIn wsM0_sum wsM0_subtract := goodIn_r _ [19] (by decide +kernel) (by decide +kernel)
set_option maxRecDepth 20000 in
theorem gM0_sum_M0_subtract : GoodIn wsM0_sum (va_wsS RM0 105 yM0_subtract wsM0_subtract) := goodIn_app (goodIn_of _ (by decide +kernel)) ggM0_sum_M0_subtract
set_option maxRecDepth 20000 in
theorem ggM0_times_M0_clear : GoodIn wsM0_times wsM0_clear := goodIn_r _ [10] (by decide +kernel) (by decide +kernel)
set_option maxRecDepth 20000 in
theorem gM0_times_M0_clear : GoodIn wsM0_times (va_wsS RM0 52 yM0_clear wsM0_clear) := goodIn_app (goodIn_of _ (by decide +kernel)) ggM0_times_M0_clear
set_option maxRecDepth 20000 in
theorem ggM0_times_M0_grow : GoodIn wsM0_times wsM0_grow := goodIn_r _ [13] (by decide +kernel) (by decide +kernel)
set_option maxRecDepth 20000 in
theorem gM0_times_M0_grow : GoodIn wsM0_times (va_wsS RM0 56 yM0_grow wsM0_grow) := goodIn_app (goodIn_of _ (by decide +kernel)) ggM0_times_M0_grow
set_option maxRecDepth 20000 in
theorem ggM0_times_M0_add : GoodIn wsM0_times wsM0_add := goodIn_r _ [16] (by decide +kernel) (by decide +kernel)
set_option maxRecDepth 20000 in
theorem gM0_times_M0_add : GoodIn wsM0_times (va_wsS RM0 102 yM0_add wsM0_add) := goodIn_app (goodIn_of _ (by decide +kernel)) ggM0_times_M0_add
set_option maxRecDepth 20000 in
theorem ggM0_divide_M0_clear : GoodIn wsM0_divide wsM0_clear := goodIn_r _ [11] (by decide +kernel) (by decide +kernel)
set_option maxRecDepth 20000 in
theorem gM0_divide_M0_clear : GoodIn wsM0_divide (va_wsS RM0 52 yM0_clear wsM0_clear) := goodIn_app (goodIn_of _ (by decide +kernel)) ggM0_divide_M0_clear
set_option maxRecDepth 20000 in
theorem ggM0_divide_M0_grow : GoodIn wsM0_divide wsM0_grow := goodIn_r _ [14] (by decide +kernel) (by decide +kernel)
set_option maxRecDepth 20000 in
theorem gM0_divide_M0_grow : GoodIn wsM0_divide (va_wsS RM0 56 yM0_grow wsM0_grow) := goodIn_app (goodIn_of _ (by decide +kernel)) ggM0_divide_M0_grow
set_option maxRecDepth 20000 in
theorem ggM0_divide_M0_order : GoodIn wsM0_divide wsM0_order := goodIn_r _ [17] (by decide +kernel) (by decide +kernel)
set_option maxRecDepth 20000 in
theorem gM0_divide_M0_order : GoodIn wsM0_divide (va_wsS RM0 71 yM0_order wsM0_order) := goodIn_app (goodIn_of _ (by decide +kernel)) ggM0_divide_M0_order
set_option maxRecDepth 20000 in
theorem ggM0_divide_M0_subtract : GoodIn wsM0_divide wsM0_subtract := goodIn_r _ [20] (by decide +kernel) (by decide +kernel)
set_option maxRecDepth 20000 in
theorem gM0_divide_M0_subtract : GoodIn wsM0_divide (va_wsS RM0 105 yM0_subtract wsM0_subtract) := goodIn_app (goodIn_of _ (by decide +kernel)) ggM0_divide_M0_subtract
set_option maxRecDepth 20000 in
theorem ggM0_toBits_M0_copy : GoodIn wsM0_toBits wsM0_copy := goodIn_r _ [5] (by decide +kernel) (by decide +kernel)
set_option maxRecDepth 20000 in
theorem gM0_toBits_M0_copy : GoodIn wsM0_toBits (va_wsS RM0 98 yM0_copy wsM0_copy) := goodIn_app (goodIn_of _ (by decide +kernel)) ggM0_toBits_M0_copy
set_option maxRecDepth 20000 in
theorem ggM0_toBits_M0_shrink : GoodIn wsM0_toBits wsM0_shrink := goodIn_r _ [8] (by decide +kernel) (by decide +kernel)
set_option maxRecDepth 20000 in
theorem gM0_toBits_M0_shrink : GoodIn wsM0_toBits (va_wsS RM0 108 yM0_shrink wsM0_shrink) := goodIn_app (goodIn_of _ (by decide +kernel)) ggM0_toBits_M0_shrink
set_option maxRecDepth 20000 in
theorem ggM0_fromBits_M0_clear : GoodIn wsM0_fromBits wsM0_clear := goodIn_r _ [7] (by decide +kernel) (by decide +kernel)
set_option maxRecDepth 20000 in
theorem gM0_fromBits_M0_clear : GoodIn wsM0_fromBits (va_wsS RM0 52 yM0_clear wsM0_clear) := goodIn_app (goodIn_of _ (by decide +kernel)) ggM0_fromBits_M0_clear
set_option maxRecDepth 20000 in
theorem ggM0_fromBits_M0_grow : GoodIn wsM0_fromBits wsM0_grow := goodIn_r _ [10] (by decide +kernel) (by decide +kernel)
set_option maxRecDepth 20000 in
theorem gM0_fromBits_M0_grow : GoodIn wsM0_fromBits (va_wsS RM0 56 yM0_grow wsM0_grow) := goodIn_app (goodIn_of _ (by decide +kernel)) ggM0_fromBits_M0_grow
set_option maxRecDepth 20000 in
theorem ggM0_fromBits_M0_add : GoodIn wsM0_fromBits wsM0_add := goodIn_r _ [13] (by decide +kernel) (by decide +kernel)
set_option maxRecDepth 20000 in
theorem gM0_fromBits_M0_add : GoodIn wsM0_fromBits (va_wsS RM0 102 yM0_add wsM0_add) := goodIn_app (goodIn_of _ (by decide +kernel)) ggM0_fromBits_M0_add
set_option maxRecDepth 20000 in
theorem ggM0_bitwise_M0_toBits : GoodIn wsM0_bitwise wsM0_toBits := goodIn_r _ [11, 12, 13, 14, 10, 15, 16, 17, 18, 34, 35, 36, 37, 38, 39, 40, 41, 42, 43, 44, 45, 46, 47, 48, 49, 50] (by decide +kernel) (by decide +kernel)
set_option maxRecDepth 20000 in
theorem gM0_bitwise_M0_toBits : GoodIn wsM0_bitwise (wsV RM0 112 RM0 yM0_toBits wsM0_toBits) := goodIn_app (goodIn_of _ (by decide +kernel)) ggM0_bitwise_M0_toBits
set_option maxRecDepth 20000 in
theorem ggM0_bitwise_M0_fromBits : GoodIn wsM0_bitwise wsM0_fromBits := goodIn_r _ [22, 23, 24, 12, 25, 26, 10, 27, 28, 29, 30, 31, 32, 33, 34, 35, 36, 37, 38, 39, 40, 41, 42, 43, 44, 45, 46, 47, 48, 49, 50] (by decide +kernel) (by decide +kernel)
set_option maxRecDepth 20000 in
theorem gM0_bitwise_M0_fromBits : GoodIn wsM0_bitwise (wsV RM0 116 RM0 yM0_fromBits wsM0_fromBits) := goodIn_app (goodIn_of _ (by decide +kernel)) ggM0_bitwise_M0_fromBits
set_option maxRecDepth 20000 in
theorem ggM0_work_M0_isSlot : GoodIn wsM0_work wsM0_isSlot := goodIn_r _ [10] (by decide +kernel) (by decide +kernel)
set_option maxRecDepth 20000 in
theorem gM0_work_M0_isSlot : GoodIn wsM0_work (va_wsS RM0 82 yM0_isSlot wsM0_isSlot) := goodIn_app (goodIn_of _ (by decide +kernel)) ggM0_work_M0_isSlot
set_option maxRecDepth 20000 in
theorem ggM0_work_M0_loadBoth : GoodIn wsM0_work wsM0_loadBoth := goodIn_r _ [14, 15, 2, 16, 5, 17, 18, 19, 20, 9, 21, 22, 23, 24, 25, 78, 79, 80, 81, 82, 83, 84, 85, 86, 87, 88, 89, 90, 91, 92, 93, 94] (by decide +kernel) (by decide +kernel)
set_option maxRecDepth 20000 in
theorem gM0_work_M0_loadBoth : GoodIn wsM0_work (wsV RM0 119 RM0 yM0_loadBoth wsM0_loadBoth) := goodIn_app (goodIn_of _ (by decide +kernel)) ggM0_work_M0_loadBoth
set_option maxRecDepth 20000 in
theorem ggM0_work_M0_isZero : GoodIn wsM0_work wsM0_isZero := goodIn_r _ [28] (by decide +kernel) (by decide +kernel)
set_option maxRecDepth 20000 in
theorem gM0_work_M0_isZero : GoodIn wsM0_work (va_wsS RM0 78 yM0_isZero wsM0_isZero) := goodIn_app (goodIn_of _ (by decide +kernel)) ggM0_work_M0_isZero
set_option maxRecDepth 20000 in
theorem ggM0_work_M0_sum : GoodIn wsM0_work wsM0_sum := goodIn_r _ [32, 17, 15, 4, 5, 6, 2, 33, 34, 9, 35, 36, 37, 38, 39, 40, 41, 42, 43, 44, 78, 79, 80, 81, 82, 83, 84, 85, 86, 87, 88, 89, 90, 91, 92, 93, 94] (by decide +kernel) (by decide +kernel)
set_option maxRecDepth 20000 in
theorem gM0_work_M0_sum : GoodIn wsM0_work (wsV RM0 123 RM0 yM0_sum wsM0_sum) := goodIn_app (goodIn_of _ (by decide +kernel)) ggM0_work_M0_sum
set_option maxRecDepth 20000 in
theorem ggM0_work_M0_times : GoodIn wsM0_work wsM0_times := goodIn_r _ [48, 4, 2, 15, 5, 17, 6, 23, 24, 9, 25, 49, 50, 51, 36, 37, 38, 78, 79, 80, 81, 82, 83, 84, 85, 86, 87, 88, 89, 90, 91, 92, 93, 94] (by decide +kernel) (by decide +kernel)
set_option maxRecDepth 20000 in
theorem gM0_work_M0_times : GoodIn wsM0_work (wsV RM0 127 RM0 yM0_times wsM0_times) := goodIn_app (goodIn_of _ (by decide +kernel)) ggM0_work_M0_times
set_option maxRecDepth 20000 in
theorem ggM0_work_M0_divide : GoodIn wsM0_work wsM0_divide := goodIn_r _ [55, 4, 3, 15, 2, 5, 17, 6, 23, 24, 9, 25, 49, 50, 51, 39, 40, 41, 42, 43, 44, 78, 79, 80, 81, 82, 83, 84, 85, 86, 87, 88, 89, 90, 91, 92, 93, 94] (by decide +kernel) (by decide +kernel)
set_option maxRecDepth 20000 in
theorem gM0_work_M0_divide : GoodIn wsM0_work (wsV RM0 130 RM0 yM0_divide wsM0_divide) := goodIn_app (goodIn_of _ (by decide +kernel)) ggM0_work_M0_divide
set_option maxRecDepth 20000 in
theorem ggM0_work_M0_copy : GoodIn wsM0_work wsM0_copy := goodIn_r _ [35] (by decide +kernel) (by decide +kernel)
set_option maxRecDepth 20000 in
theorem gM0_work_M0_copy : GoodIn wsM0_work (va_wsS RM0 98 yM0_copy wsM0_copy) := goodIn_app (goodIn_of _ (by decide +kernel)) ggM0_work_M0_copy
set_option maxRecDepth 20000 in
theorem ggM0_work_M0_bitwise : GoodIn wsM0_work wsM0_bitwise := goodIn_r _ [59, 15, 5, 60, 2, 17, 61, 62, 63, 64, 9, 65, 3, 33, 34, 35, 66, 67, 68, 69, 70, 71, 72, 6, 4, 23, 24, 25, 49, 50, 51, 36, 37, 38, 78, 79, 80, 81, 82, 83, 84, 85, 86, 87, 88, 89, 90, 91, 92, 93, 94] (by decide +kernel) (by decide +kernel)
set_option maxRecDepth 20000 in
theorem gM0_work_M0_bitwise : GoodIn wsM0_work (wsV RM0 133 RM0 yM0_bitwise wsM0_bitwise) := goodIn_app (goodIn_of _ (by decide +kernel)) ggM0_work_M0_bitwise
set_option maxRecDepth 20000 in
theorem ggM0_work_M0_keep : GoodIn wsM0_work wsM0_keep := goodIn_r _ [76, 4, 77, 22, 16, 6, 39, 40, 9, 41, 26, 27, 28, 78, 79, 80, 81, 82, 83, 84, 85, 86, 87, 88, 89, 90, 91, 92, 93, 94] (by decide +kernel) (by decide +kernel)
set_option maxRecDepth 20000 in
theorem gM0_work_M0_keep : GoodIn wsM0_work (wsV RM0 86 RM0 yM0_keep wsM0_keep) := goodIn_app (goodIn_of _ (by decide +kernel)) ggM0_work_M0_keep
set_option maxRecDepth 20000 in
theorem ggM0_shift_M0_isSlot : GoodIn wsM0_shift wsM0_isSlot := goodIn_r _ [9] (by decide +kernel) (by decide +kernel)
set_option maxRecDepth 20000 in
theorem gM0_shift_M0_isSlot : GoodIn wsM0_shift (va_wsS RM0 82 yM0_isSlot wsM0_isSlot) := goodIn_app (goodIn_of _ (by decide +kernel)) ggM0_shift_M0_isSlot
set_option maxRecDepth 20000 in
theorem ggM0_shift_M0_load : GoodIn wsM0_shift wsM0_load := goodIn_r _ [13, 14, 15, 16, 8, 17, 34, 35, 36, 37, 38, 39, 40, 41, 42, 43, 44, 45, 46, 47, 48, 49, 50] (by decide +kernel) (by decide +kernel)
set_option maxRecDepth 20000 in
theorem gM0_shift_M0_load : GoodIn wsM0_shift (wsV RM0 60 RM0 yM0_load wsM0_load) := goodIn_app (goodIn_of _ (by decide +kernel)) ggM0_shift_M0_load
set_option maxRecDepth 20000 in
theorem ggM0_shift_M0_grow : GoodIn wsM0_shift wsM0_grow := goodIn_r _ [20] (by decide +kernel) (by decide +kernel)
set_option maxRecDepth 20000 in
theorem gM0_shift_M0_grow : GoodIn wsM0_shift (va_wsS RM0 56 yM0_grow wsM0_grow) := goodIn_app (goodIn_of _ (by decide +kernel)) ggM0_shift_M0_grow
set_option maxRecDepth 20000 in
theorem ggM0_shift_M0_order : GoodIn wsM0_shift wsM0_order := goodIn_r _ [23] (by decide +kernel) (by decide +kernel)
set_option maxRecDepth 20000 in
theorem gM0_shift_M0_order : GoodIn wsM0_shift (va_wsS RM0 71 yM0_order wsM0_order) := goodIn_app (goodIn_of _ (by decide +kernel)) ggM0_shift_M0_order
set_option maxRecDepth 20000 in
theorem ggM0_shift_M0_shrink : GoodIn wsM0_shift wsM0_shrink := goodIn_r _ [26] (by decide +kernel) (by decide +kernel)
set_option maxRecDepth 20000 in
theorem gM0_shift_M0_shrink : GoodIn wsM0_shift (va_wsS RM0 108 yM0_shrink wsM0_shrink) := goodIn_app (goodIn_of _ (by decide +kernel)) ggM0_shift_M0_shrink
set_option maxRecDepth 20000 in
theorem ggM0_shift_M0_keep : GoodIn wsM0_shift wsM0_keep := goodIn_r _ [30, 2, 5, 14, 3, 4, 21, 22, 8, 23, 31, 32, 33, 34, 35, 36, 37, 38, 39, 40, 41, 42, 43, 44, 45, 46, 47, 48, 49, 50] (by decide +kernel) (by decide +kernel)
set_option maxRecDepth 20000 in
theorem gM0_shift_M0_keep : GoodIn wsM0_shift (wsV RM0 86 RM0 yM0_keep wsM0_keep) := goodIn_app (goodIn_of _ (by decide +kernel)) ggM0_shift_M0_keep
set_option maxRecDepth 20000 in
theorem ggM0_turn_M0_isSlot : GoodIn wsM0_turn wsM0_isSlot := goodIn_r _ [12] (by decide +kernel) (by decide +kernel)
set_option maxRecDepth 20000 in
theorem gM0_turn_M0_isSlot : GoodIn wsM0_turn (va_wsS RM0 82 yM0_isSlot wsM0_isSlot) := goodIn_app (goodIn_of _ (by decide +kernel)) ggM0_turn_M0_isSlot
set_option maxRecDepth 20000 in
theorem ggM0_turn_M0_load : GoodIn wsM0_turn wsM0_load := goodIn_r _ [16, 17, 18, 19, 11, 20, 49, 50, 51, 52, 53, 54, 55, 56, 57, 58, 59, 60, 61, 62, 63, 64, 65] (by decide +kernel) (by decide +kernel)
set_option maxRecDepth 20000 in
theorem gM0_turn_M0_load : GoodIn wsM0_turn (wsV RM0 60 RM0 yM0_load wsM0_load) := goodIn_app (goodIn_of _ (by decide +kernel)) ggM0_turn_M0_load
set_option maxRecDepth 20000 in
theorem ggM0_turn_M0_keep : GoodIn wsM0_turn wsM0_keep := goodIn_r _ [24, 2, 25, 17, 3, 4, 26, 27, 11, 28, 29, 30, 31, 49, 50, 51, 52, 53, 54, 55, 56, 57, 58, 59, 60, 61, 62, 63, 64, 65] (by decide +kernel) (by decide +kernel)
set_option maxRecDepth 20000 in
theorem gM0_turn_M0_keep : GoodIn wsM0_turn (wsV RM0 86 RM0 yM0_keep wsM0_keep) := goodIn_app (goodIn_of _ (by decide +kernel)) ggM0_turn_M0_keep
set_option maxRecDepth 20000 in
theorem ggM0_turn_M0_loadBoth : GoodIn wsM0_turn wsM0_loadBoth := goodIn_r _ [35, 5, 6, 3, 7, 8, 13, 14, 15, 11, 16, 17, 18, 19, 20, 49, 50, 51, 52, 53, 54, 55, 56, 57, 58, 59, 60, 61, 62, 63, 64, 65] (by decide +kernel) (by decide +kernel)
set_option maxRecDepth 20000 in
theorem gM0_turn_M0_loadBoth : GoodIn wsM0_turn (wsV RM0 119 RM0 yM0_loadBoth wsM0_loadBoth) := goodIn_app (goodIn_of _ (by decide +kernel)) ggM0_turn_M0_loadBoth
set_option maxRecDepth 20000 in
theorem ggM0_turn_M0_copy : GoodIn wsM0_turn wsM0_copy := goodIn_r _ [38] (by decide +kernel) (by decide +kernel)
set_option maxRecDepth 20000 in
theorem gM0_turn_M0_copy : GoodIn wsM0_turn (va_wsS RM0 98 yM0_copy wsM0_copy) := goodIn_app (goodIn_of _ (by decide +kernel)) ggM0_turn_M0_copy
set_option maxRecDepth 20000 in
theorem ggM0_turn_M0_clear : GoodIn wsM0_turn wsM0_clear := goodIn_r _ [20] (by decide +kernel) (by decide +kernel)
set_option maxRecDepth 20000 in
theorem gM0_turn_M0_clear : GoodIn wsM0_turn (va_wsS RM0 52 yM0_clear wsM0_clear) := goodIn_app (goodIn_of _ (by decide +kernel)) ggM0_turn_M0_clear
set_option maxRecDepth 20000 in
theorem ggM0_turn_M0_sum : GoodIn wsM0_turn wsM0_sum := goodIn_r _ [42, 8, 5, 2, 7, 4, 6, 36, 37, 11, 38, 43, 44, 45, 26, 27, 28, 46, 47, 48, 49, 50, 51, 52, 53, 54, 55, 56, 57, 58, 59, 60, 61, 62, 63, 64, 65] (by decide +kernel) (by decide +kernel)
set_option maxRecDepth 20000 in
theorem gM0_turn_M0_sum : GoodIn wsM0_turn (wsV RM0 123 RM0 yM0_sum wsM0_sum) := goodIn_app (goodIn_of _ (by decide +kernel)) ggM0_turn_M0_sum
set_option maxRecDepth 20000 in
theorem ggM0_compare_M0_isSlot : GoodIn wsM0_compare wsM0_isSlot := goodIn_r _ [9] (by decide +kernel) (by decide +kernel)
set_option maxRecDepth 20000 in
theorem gM0_compare_M0_isSlot : GoodIn wsM0_compare (va_wsS RM0 82 yM0_isSlot wsM0_isSlot) := goodIn_app (goodIn_of _ (by decide +kernel)) ggM0_compare_M0_isSlot
set_option maxRecDepth 20000 in
theorem ggM0_compare_M0_loadBoth : GoodIn wsM0_compare wsM0_loadBoth := goodIn_r _ [13, 4, 5, 14, 2, 3, 15, 16, 17, 8, 18, 19, 20, 21, 22, 26, 27, 28, 29, 30, 31, 32, 33, 34, 35, 36, 37, 38, 39, 40, 41, 42] (by decide +kernel) (by decide +kernel)
set_option maxRecDepth 20000 in
theorem gM0_compare_M0_loadBoth : GoodIn wsM0_compare (wsV RM0 119 RM0 yM0_loadBoth wsM0_loadBoth) := goodIn_app (goodIn_of _ (by decide +kernel)) ggM0_compare_M0_loadBoth
set_option maxRecDepth 20000 in
theorem ggM0_compare_M0_order : GoodIn wsM0_compare wsM0_order := goodIn_r _ [25] (by decide +kernel) (by decide +kernel)
set_option maxRecDepth 20000 in
theorem gM0_compare_M0_order : GoodIn wsM0_compare (va_wsS RM0 71 yM0_order wsM0_order) := goodIn_app (goodIn_of _ (by decide +kernel)) ggM0_compare_M0_order
set_option maxRecDepth 20000 in
theorem ggM0_bits_M0_isSlot : GoodIn wsM0_bits wsM0_isSlot := goodIn_r _ [6] (by decide +kernel) (by decide +kernel)
set_option maxRecDepth 20000 in
theorem gM0_bits_M0_isSlot : GoodIn wsM0_bits (va_wsS RM0 82 yM0_isSlot wsM0_isSlot) := goodIn_app (goodIn_of _ (by decide +kernel)) ggM0_bits_M0_isSlot
set_option maxRecDepth 20000 in
theorem ggM0_bits_M0_load : GoodIn wsM0_bits wsM0_load := goodIn_r _ [10, 11, 12, 13, 5, 14, 21, 22, 23, 24, 25, 26, 27, 28, 29, 30, 31, 32, 33, 34, 35, 36, 37] (by decide +kernel) (by decide +kernel)
set_option maxRecDepth 20000 in
theorem gM0_bits_M0_load : GoodIn wsM0_bits (wsV RM0 60 RM0 yM0_load wsM0_load) := goodIn_app (goodIn_of _ (by decide +kernel)) ggM0_bits_M0_load
set_option maxRecDepth 20000 in
theorem ggM0_bits_M0_isZero : GoodIn wsM0_bits wsM0_isZero := goodIn_r _ [17] (by decide +kernel) (by decide +kernel)
set_option maxRecDepth 20000 in
theorem gM0_bits_M0_isZero : GoodIn wsM0_bits (va_wsS RM0 78 yM0_isZero wsM0_isZero) := goodIn_app (goodIn_of _ (by decide +kernel)) ggM0_bits_M0_isZero
set_option maxRecDepth 20000 in
theorem ggM0_bits_M0_shrink : GoodIn wsM0_bits wsM0_shrink := goodIn_r _ [20] (by decide +kernel) (by decide +kernel)
set_option maxRecDepth 20000 in
theorem gM0_bits_M0_shrink : GoodIn wsM0_bits (va_wsS RM0 108 yM0_shrink wsM0_shrink) := goodIn_app (goodIn_of _ (by decide +kernel)) ggM0_bits_M0_shrink
set_option maxRecDepth 20000 in
theorem ggM0_fits_M0_isSlot : GoodIn wsM0_fits wsM0_isSlot := goodIn_r _ [8] (by decide +kernel) (by decide +kernel)
set_option maxRecDepth 20000 in
theorem gM0_fits_M0_isSlot : GoodIn wsM0_fits (va_wsS RM0 82 yM0_isSlot wsM0_isSlot) := goodIn_app (goodIn_of _ (by decide +kernel)) ggM0_fits_M0_isSlot
set_option maxRecDepth 20000 in
theorem ggM0_fits_M0_load : GoodIn wsM0_fits wsM0_load := goodIn_r _ [12, 13, 14, 15, 7, 16, 26, 27, 28, 29, 30, 31, 32, 33, 34, 35, 36, 37, 38, 39, 40, 41, 42] (by decide +kernel) (by decide +kernel)
set_option maxRecDepth 20000 in
theorem gM0_fits_M0_load : GoodIn wsM0_fits (wsV RM0 60 RM0 yM0_load wsM0_load) := goodIn_app (goodIn_of _ (by decide +kernel)) ggM0_fits_M0_load
set_option maxRecDepth 20000 in
theorem ggM0_fits_M0_power : GoodIn wsM0_fits wsM0_power := goodIn_r _ [19, 14, 15, 7, 16, 20, 21, 22] (by decide +kernel) (by decide +kernel)
set_option maxRecDepth 20000 in
theorem gM0_fits_M0_power : GoodIn wsM0_fits (va_wsS RM0 44 yM0_power wsM0_power) := goodIn_app (goodIn_of _ (by decide +kernel)) ggM0_fits_M0_power
set_option maxRecDepth 20000 in
theorem ggM0_fits_M0_order : GoodIn wsM0_fits wsM0_order := goodIn_r _ [25] (by decide +kernel) (by decide +kernel)
set_option maxRecDepth 20000 in
theorem gM0_fits_M0_order : GoodIn wsM0_fits (va_wsS RM0 71 yM0_order wsM0_order) := goodIn_app (goodIn_of _ (by decide +kernel)) ggM0_fits_M0_order
set_option maxRecDepth 20000 in
theorem ggM0_cut_M0_isSlot : GoodIn wsM0_cut wsM0_isSlot := goodIn_r _ [8] (by decide +kernel) (by decide +kernel)
set_option maxRecDepth 20000 in
theorem gM0_cut_M0_isSlot : GoodIn wsM0_cut (va_wsS RM0 82 yM0_isSlot wsM0_isSlot) := goodIn_app (goodIn_of _ (by decide +kernel)) ggM0_cut_M0_isSlot
set_option maxRecDepth 20000 in
theorem ggM0_write_M0_isSlot : GoodIn wsM0_write wsM0_isSlot := goodIn_r _ [9] (by decide +kernel) (by decide +kernel)
set_option maxRecDepth 20000 in
theorem gM0_write_M0_isSlot : GoodIn wsM0_write (va_wsS RM0 82 yM0_isSlot wsM0_isSlot) := goodIn_app (goodIn_of _ (by decide +kernel)) ggM0_write_M0_isSlot
set_option maxRecDepth 20000 in
theorem ggM0_write_M0_load : GoodIn wsM0_write wsM0_load := goodIn_r _ [13, 14, 15, 16, 8, 17, 24, 25, 26, 27, 28, 29, 30, 31, 32, 33, 34, 35, 36, 37, 38, 39, 40] (by decide +kernel) (by decide +kernel)
set_option maxRecDepth 20000 in
theorem gM0_write_M0_load : GoodIn wsM0_write (wsV RM0 60 RM0 yM0_load wsM0_load) := goodIn_app (goodIn_of _ (by decide +kernel)) ggM0_write_M0_load
set_option maxRecDepth 20000 in
theorem ggM0_write_M0_isZero : GoodIn wsM0_write wsM0_isZero := goodIn_r _ [20] (by decide +kernel) (by decide +kernel)
set_option maxRecDepth 20000 in
theorem gM0_write_M0_isZero : GoodIn wsM0_write (va_wsS RM0 78 yM0_isZero wsM0_isZero) := goodIn_app (goodIn_of _ (by decide +kernel)) ggM0_write_M0_isZero
set_option maxRecDepth 20000 in
theorem ggM0_write_M0_shrink : GoodIn wsM0_write wsM0_shrink := goodIn_r _ [23] (by decide +kernel) (by decide +kernel)
set_option maxRecDepth 20000 in
theorem gM0_write_M0_shrink : GoodIn wsM0_write (va_wsS RM0 108 yM0_shrink wsM0_shrink) := goodIn_app (goodIn_of _ (by decide +kernel)) ggM0_write_M0_shrink
theorem inX1 : ∀ w ∈ wsX10, w ∈ lw_tbl := by decide +kernel
theorem inM0 : ∀ w ∈ wsM00, w ∈ lw_tbl := by decide +kernel
abbrev vwCl : List vw_C := [(RX1, TX1, 9), (RM0, TM0, 17)]
