-- ===== PART A: goes FIRST, ahead of the names: the tables' words, and 'selects' of the private methods out of them =====
/-- a private method of a class that the tables say can be made, by its rows of tables_1 -/
def lw_okq (q : MethodName × Nat) : Prop := (q.1.cls ≠ "java/lang/invoke/MethodHandle" ∧ q.1.cls ≠ "java/lang/invoke/VarHandle") ∧ Cond.instantiable q.1.cls q.2 ∈ tables_1 ∧ Cond.privateMethod q.1 ∈ tables_1 ∧ Cond.instanceMethod q.1 ∈ tables_1
theorem lw_p0 : lw_okq (⟨"AffineRanges$Reader", "take", "(C)Z"⟩, 5) := ⟨⟨by decide +kernel, by decide +kernel⟩, List.mem_of_getElem? (i := 91) (by decide +kernel), List.mem_of_getElem? (i := 282) (by decide +kernel), List.mem_of_getElem? (i := 283) (by decide +kernel)⟩
theorem lw_p1 : lw_okq (⟨"AffineRanges$Reader", "hold", "(II)Z"⟩, 5) := ⟨⟨by decide +kernel, by decide +kernel⟩, List.mem_of_getElem? (i := 91) (by decide +kernel), List.mem_of_getElem? (i := 286) (by decide +kernel), List.mem_of_getElem? (i := 287) (by decide +kernel)⟩
theorem lw_p2 : lw_okq (⟨"AffineRanges$Reader", "takeOperand", "(C)Z"⟩, 5) := ⟨⟨by decide +kernel, by decide +kernel⟩, List.mem_of_getElem? (i := 91) (by decide +kernel), List.mem_of_getElem? (i := 290) (by decide +kernel), List.mem_of_getElem? (i := 291) (by decide +kernel)⟩
theorem lw_p3 : lw_okq (⟨"AffineRanges$Reader", "addDigit", "(CII)Z"⟩, 5) := ⟨⟨by decide +kernel, by decide +kernel⟩, List.mem_of_getElem? (i := 91) (by decide +kernel), List.mem_of_getElem? (i := 301) (by decide +kernel), List.mem_of_getElem? (i := 302) (by decide +kernel)⟩
theorem lw_p4 : lw_okq (⟨"AffineRanges$Reader", "open", "(I)Z"⟩, 5) := ⟨⟨by decide +kernel, by decide +kernel⟩, List.mem_of_getElem? (i := 91) (by decide +kernel), List.mem_of_getElem? (i := 313) (by decide +kernel), List.mem_of_getElem? (i := 314) (by decide +kernel)⟩
theorem lw_p5 : lw_okq (⟨"AffineRanges$Reader", "takeInWhole", "(C)Z"⟩, 5) := ⟨⟨by decide +kernel, by decide +kernel⟩, List.mem_of_getElem? (i := 91) (by decide +kernel), List.mem_of_getElem? (i := 317) (by decide +kernel), List.mem_of_getElem? (i := 318) (by decide +kernel)⟩
theorem lw_p6 : lw_okq (⟨"AffineRanges$Reader", "takeBehind", "(C)Z"⟩, 5) := ⟨⟨by decide +kernel, by decide +kernel⟩, List.mem_of_getElem? (i := 91) (by decide +kernel), List.mem_of_getElem? (i := 321) (by decide +kernel), List.mem_of_getElem? (i := 322) (by decide +kernel)⟩
theorem lw_p7 : lw_okq (⟨"AffineRanges$Reader", "operator", "(II)Z"⟩, 5) := ⟨⟨by decide +kernel, by decide +kernel⟩, List.mem_of_getElem? (i := 91) (by decide +kernel), List.mem_of_getElem? (i := 325) (by decide +kernel), List.mem_of_getElem? (i := 326) (by decide +kernel)⟩
theorem lw_p8 : lw_okq (⟨"AffineRanges$Reader", "complete", "(I)V"⟩, 5) := ⟨⟨by decide +kernel, by decide +kernel⟩, List.mem_of_getElem? (i := 91) (by decide +kernel), List.mem_of_getElem? (i := 329) (by decide +kernel), List.mem_of_getElem? (i := 330) (by decide +kernel)⟩
theorem lw_p9 : lw_okq (⟨"AffineRanges$Reader", "close", "()Z"⟩, 5) := ⟨⟨by decide +kernel, by decide +kernel⟩, List.mem_of_getElem? (i := 91) (by decide +kernel), List.mem_of_getElem? (i := 336) (by decide +kernel), List.mem_of_getElem? (i := 337) (by decide +kernel)⟩
theorem lw_p10 : lw_okq (⟨"AffineRanges$Reader", "passComma", "()Z"⟩, 5) := ⟨⟨by decide +kernel, by decide +kernel⟩, List.mem_of_getElem? (i := 91) (by decide +kernel), List.mem_of_getElem? (i := 340) (by decide +kernel), List.mem_of_getElem? (i := 341) (by decide +kernel)⟩
theorem lw_p11 : lw_okq (⟨"AffineRanges$Reader", "takePower", "(C)Z"⟩, 5) := ⟨⟨by decide +kernel, by decide +kernel⟩, List.mem_of_getElem? (i := 91) (by decide +kernel), List.mem_of_getElem? (i := 344) (by decide +kernel), List.mem_of_getElem? (i := 345) (by decide +kernel)⟩
theorem lw_p12 : lw_okq (⟨"AffineRanges", "find", "(I)LAffineRanges$Steps;"⟩, 13) := ⟨⟨by decide +kernel, by decide +kernel⟩, List.mem_of_getElem? (i := 13) (by decide +kernel), List.mem_of_getElem? (i := 393) (by decide +kernel), List.mem_of_getElem? (i := 394) (by decide +kernel)⟩
theorem lw_p13 : lw_okq (⟨"AffineRanges$Machine", "perform", "(IILAffineRanges$Box;)V"⟩, 5) := ⟨⟨by decide +kernel, by decide +kernel⟩, List.mem_of_getElem? (i := 117) (by decide +kernel), List.mem_of_getElem? (i := 412) (by decide +kernel), List.mem_of_getElem? (i := 413) (by decide +kernel)⟩
theorem lw_p14 : lw_okq (⟨"AffineRanges$Machine", "top", "()LAffineRanges$Form;"⟩, 5) := ⟨⟨by decide +kernel, by decide +kernel⟩, List.mem_of_getElem? (i := 117) (by decide +kernel), List.mem_of_getElem? (i := 441) (by decide +kernel), List.mem_of_getElem? (i := 442) (by decide +kernel)⟩
theorem lw_p15 : lw_okq (⟨"AffineRanges$Machine", "combine", "(ILAffineRanges$Form;LAffineRanges$Form;LAffineRanges$Form;)V"⟩, 5) := ⟨⟨by decide +kernel, by decide +kernel⟩, List.mem_of_getElem? (i := 117) (by decide +kernel), List.mem_of_getElem? (i := 494) (by decide +kernel), List.mem_of_getElem? (i := 495) (by decide +kernel)⟩
def lw_privs_1 : List (MethodName × Nat) := [(⟨"AffineRanges$Reader", "take", "(C)Z"⟩, 5), (⟨"AffineRanges$Reader", "hold", "(II)Z"⟩, 5), (⟨"AffineRanges$Reader", "takeOperand", "(C)Z"⟩, 5), (⟨"AffineRanges$Reader", "addDigit", "(CII)Z"⟩, 5), (⟨"AffineRanges$Reader", "open", "(I)Z"⟩, 5), (⟨"AffineRanges$Reader", "takeInWhole", "(C)Z"⟩, 5), (⟨"AffineRanges$Reader", "takeBehind", "(C)Z"⟩, 5), (⟨"AffineRanges$Reader", "operator", "(II)Z"⟩, 5), (⟨"AffineRanges$Reader", "complete", "(I)V"⟩, 5), (⟨"AffineRanges$Reader", "close", "()Z"⟩, 5), (⟨"AffineRanges$Reader", "passComma", "()Z"⟩, 5), (⟨"AffineRanges$Reader", "takePower", "(C)Z"⟩, 5), (⟨"AffineRanges", "find", "(I)LAffineRanges$Steps;"⟩, 13), (⟨"AffineRanges$Machine", "perform", "(IILAffineRanges$Box;)V"⟩, 5), (⟨"AffineRanges$Machine", "top", "()LAffineRanges$Form;"⟩, 5), (⟨"AffineRanges$Machine", "combine", "(ILAffineRanges$Form;LAffineRanges$Form;LAffineRanges$Form;)V"⟩, 5)]
theorem lw_r1 : ∀ q ∈ lw_privs_1, lw_okq q := List.forall_mem_cons.mpr ⟨lw_p0, List.forall_mem_cons.mpr ⟨lw_p1, List.forall_mem_cons.mpr ⟨lw_p2, List.forall_mem_cons.mpr ⟨lw_p3, List.forall_mem_cons.mpr ⟨lw_p4, List.forall_mem_cons.mpr ⟨lw_p5, List.forall_mem_cons.mpr ⟨lw_p6, List.forall_mem_cons.mpr ⟨lw_p7, List.forall_mem_cons.mpr ⟨lw_p8, List.forall_mem_cons.mpr ⟨lw_p9, List.forall_mem_cons.mpr ⟨lw_p10, List.forall_mem_cons.mpr ⟨lw_p11, List.forall_mem_cons.mpr ⟨lw_p12, List.forall_mem_cons.mpr ⟨lw_p13, List.forall_mem_cons.mpr ⟨lw_p14, List.forall_mem_cons.mpr ⟨lw_p15, fun _ h => absurd h List.not_mem_nil⟩⟩⟩⟩⟩⟩⟩⟩⟩⟩⟩⟩⟩⟩⟩⟩
theorem lw_p16 : lw_okq (⟨"AffineRanges$Machine", "nameLoosePart", "(LAffineRanges$Form;)V"⟩, 5) := ⟨⟨by decide +kernel, by decide +kernel⟩, List.mem_of_getElem? (i := 117) (by decide +kernel), List.mem_of_getElem? (i := 540) (by decide +kernel), List.mem_of_getElem? (i := 541) (by decide +kernel)⟩
theorem lw_p17 : lw_okq (⟨"AffineRanges$Machine", "weightOf", "(I)J"⟩, 5) := ⟨⟨by decide +kernel, by decide +kernel⟩, List.mem_of_getElem? (i := 117) (by decide +kernel), List.mem_of_getElem? (i := 544) (by decide +kernel), List.mem_of_getElem? (i := 545) (by decide +kernel)⟩
theorem lw_p18 : lw_okq (⟨"AffineRanges", "isMiddleAtMost", "(LAffineRanges$Steps;LAffineRanges$Box;I)Z"⟩, 13) := ⟨⟨by decide +kernel, by decide +kernel⟩, List.mem_of_getElem? (i := 13) (by decide +kernel), List.mem_of_getElem? (i := 664) (by decide +kernel), List.mem_of_getElem? (i := 665) (by decide +kernel)⟩
theorem lw_p19 : lw_okq (⟨"AffineRanges", "rank", "(ILAffineRanges$Box;LAffineRanges$Steps;I)V"⟩, 13) := ⟨⟨by decide +kernel, by decide +kernel⟩, List.mem_of_getElem? (i := 13) (by decide +kernel), List.mem_of_getElem? (i := 706) (by decide +kernel), List.mem_of_getElem? (i := 707) (by decide +kernel)⟩
def lw_privs_2 : List (MethodName × Nat) := [(⟨"AffineRanges$Machine", "nameLoosePart", "(LAffineRanges$Form;)V"⟩, 5), (⟨"AffineRanges$Machine", "weightOf", "(I)J"⟩, 5), (⟨"AffineRanges", "isMiddleAtMost", "(LAffineRanges$Steps;LAffineRanges$Box;I)Z"⟩, 13), (⟨"AffineRanges", "rank", "(ILAffineRanges$Box;LAffineRanges$Steps;I)V"⟩, 13)]
theorem lw_r2 : ∀ q ∈ lw_privs_2, lw_okq q := List.forall_mem_cons.mpr ⟨lw_p16, List.forall_mem_cons.mpr ⟨lw_p17, List.forall_mem_cons.mpr ⟨lw_p18, List.forall_mem_cons.mpr ⟨lw_p19, fun _ h => absurd h List.not_mem_nil⟩⟩⟩⟩
def lw_privs : List (MethodName × Nat) := lw_privs_1 ++ (lw_privs_2)
def lw_tbl : List Cond := k2_sels lw_privs ++ tables_1
theorem lw_privs_ok : ∀ q ∈ lw_privs, lw_okq q := by
  show ∀ q ∈ lw_privs_1 ++ (lw_privs_2), lw_okq q
  exact List.forall_mem_append.mpr ⟨lw_r1, lw_r2⟩

def RX0 : String := "AffineRanges$Box"
def TX0 : u_T := fun k => match k with
  | 0 => ("AffineRanges$Box", "lo", "[I", true)
  | _ => ("AffineRanges$Box", "hi", "[I", true)
def tyX0 : Nat → FieldType := fun k => match k with
  | 0 => .array .int
  | _ => .array .int
abbrev wsX00 : List Cond := u_ws RX0 TX0 2
theorem nmX0 : ∀ a, a < 2 → ∀ b, b < 2 → a ≠ b → (TX0 a).2.1 ≠ (TX0 b).2.1 := by decide +kernel
theorem tyX0_ok : ∀ k, k < 2 → parseFieldDescriptor (TX0 k).2.2.1 = some (tyX0 k) := by decide +kernel
abbrev cX0_init : ByteArray := prog_2_method_1_code
def yX0_init : MethodName := ⟨RX0, "<init>", "()V"⟩
abbrev cX0_setEnds : ByteArray := prog_2_method_2_code
def yX0_setEnds : MethodName := ⟨RX0, "setEnds", "(III)V"⟩
abbrev cX0_copyFrom : ByteArray := prog_2_method_3_code
def yX0_copyFrom : MethodName := ⟨RX0, "copyFrom", "(LAffineRanges$Box;)V"⟩
abbrev cX0_width : ByteArray := prog_2_method_4_code
def yX0_width : MethodName := ⟨RX0, "width", "(I)I"⟩
abbrev cX0_middle : ByteArray := prog_2_method_5_code
def yX0_middle : MethodName := ⟨RX0, "middle", "(I)I"⟩
abbrev cX0_place : ByteArray := prog_2_method_6_code
def yX0_place : MethodName := ⟨RX0, "place", "(II)I"⟩
abbrev cX0_wideInputs : ByteArray := prog_2_method_7_code
def yX0_wideInputs : MethodName := ⟨RX0, "wideInputs", "()I"⟩
abbrev cX0_inputToSplit : ByteArray := prog_2_method_8_code
def yX0_inputToSplit : MethodName := ⟨RX0, "inputToSplit", "(LAffineRanges$Form;)I"⟩
abbrev cX0_split : ByteArray := prog_2_method_9_code
def yX0_split : MethodName := ⟨RX0, "split", "(ILAffineRanges$Box;LAffineRanges$Box;)V"⟩
def RX1 : String := "AffineRanges$BoxList"
def TX1 : u_T := fun k => match k with
  | 0 => ("AffineRanges$BoxList", "los", "[I", true)
  | 1 => ("AffineRanges$BoxList", "his", "[I", true)
  | 2 => ("AffineRanges$BoxList", "ranks", "[J", true)
  | 3 => ("AffineRanges$BoxList", "splits", "[I", true)
  | _ => ("AffineRanges$BoxList", "size", "I", false)
def tyX1 : Nat → FieldType := fun k => match k with
  | 0 => .array .int
  | 1 => .array .int
  | 2 => .array .long
  | 3 => .array .int
  | _ => .int
abbrev wsX10 : List Cond := u_ws RX1 TX1 5
theorem nmX1 : ∀ a, a < 5 → ∀ b, b < 5 → a ≠ b → (TX1 a).2.1 ≠ (TX1 b).2.1 := by decide +kernel
theorem tyX1_ok : ∀ k, k < 5 → parseFieldDescriptor (TX1 k).2.2.1 = some (tyX1 k) := by decide +kernel
abbrev cX1_init : ByteArray := prog_3_method_1_code
def yX1_init : MethodName := ⟨RX1, "<init>", "()V"⟩
abbrev cX1_clear : ByteArray := prog_3_method_2_code
def yX1_clear : MethodName := ⟨RX1, "clear", "()V"⟩
abbrev cX1_append : ByteArray := prog_3_method_3_code
def yX1_append : MethodName := ⟨RX1, "append", "(LAffineRanges$Box;)V"⟩
abbrev cX1_replace : ByteArray := prog_3_method_4_code
def yX1_replace : MethodName := ⟨RX1, "replace", "(ILAffineRanges$Box;)V"⟩
abbrev cX1_copyTo : ByteArray := prog_3_method_5_code
def yX1_copyTo : MethodName := ⟨RX1, "copyTo", "(ILAffineRanges$Box;)V"⟩
abbrev cX1_takeLast : ByteArray := prog_3_method_6_code
def yX1_takeLast : MethodName := ⟨RX1, "takeLast", "(LAffineRanges$Box;)Z"⟩
abbrev cX1_note : ByteArray := prog_3_method_7_code
def yX1_note : MethodName := ⟨RX1, "note", "(IJI)V"⟩
abbrev cX1_worst : ByteArray := prog_3_method_8_code
def yX1_worst : MethodName := ⟨RX1, "worst", "()I"⟩
def RX2 : String := "AffineRanges$Form"
def TX2 : u_T := fun k => match k with
  | 0 => ("AffineRanges$Form", "why", "I", false)
  | 1 => ("AffineRanges$Form", "center", "J", false)
  | 2 => ("AffineRanges$Form", "loose", "J", false)
  | 3 => ("AffineRanges$Form", "lo", "J", false)
  | 4 => ("AffineRanges$Form", "hi", "J", false)
  | 5 => ("AffineRanges$Form", "coefficients", "[J", true)
  | 6 => ("AffineRanges$Form", "radius", "J", false)
  | 7 => ("AffineRanges$Form", "low", "J", false)
  | _ => ("AffineRanges$Form", "high", "J", false)
def tyX2 : Nat → FieldType := fun k => match k with
  | 0 => .int
  | 1 => .long
  | 2 => .long
  | 3 => .long
  | 4 => .long
  | 5 => .array .long
  | 6 => .long
  | 7 => .long
  | _ => .long
abbrev wsX20 : List Cond := u_ws RX2 TX2 9
theorem nmX2 : ∀ a, a < 9 → ∀ b, b < 9 → a ≠ b → (TX2 a).2.1 ≠ (TX2 b).2.1 := by decide +kernel
theorem tyX2_ok : ∀ k, k < 9 → parseFieldDescriptor (TX2 k).2.2.1 = some (tyX2 k) := by decide +kernel
abbrev cX2_init : ByteArray := prog_4_method_1_code
def yX2_init : MethodName := ⟨RX2, "<init>", "()V"⟩
abbrev cX2_becomeWild : ByteArray := prog_4_method_2_code
def yX2_becomeWild : MethodName := ⟨RX2, "becomeWild", "(I)V"⟩
abbrev cX2_measure : ByteArray := prog_4_method_3_code
def yX2_measure : MethodName := ⟨RX2, "measure", "()V"⟩
abbrev cX2_bestEnd : ByteArray := prog_4_method_4_code
def yX2_bestEnd : MethodName := ⟨RX2, "bestEnd", "(I)J"⟩
abbrev cX2_holdsZero : ByteArray := prog_4_method_5_code
def yX2_holdsZero : MethodName := ⟨RX2, "holdsZero", "()Z"⟩
abbrev cX2_weight : ByteArray := prog_4_method_6_code
def yX2_weight : MethodName := ⟨RX2, "weight", "(I)J"⟩
abbrev cX2_condense : ByteArray := prog_4_method_7_code
def yX2_condense : MethodName := ⟨RX2, "condense", "(I)V"⟩
abbrev cX2_nameLoosePart : ByteArray := prog_4_method_8_code
def yX2_nameLoosePart : MethodName := ⟨RX2, "nameLoosePart", "(I)V"⟩
abbrev cX2_setRange : ByteArray := prog_4_method_9_code
def yX2_setRange : MethodName := ⟨RX2, "setRange", "(JJ)V"⟩
abbrev cX2_setNumber : ByteArray := prog_4_method_10_code
def yX2_setNumber : MethodName := ⟨RX2, "setNumber", "(I)V"⟩
abbrev cX2_setInput : ByteArray := prog_4_method_11_code
def yX2_setInput : MethodName := ⟨RX2, "setInput", "(III)V"⟩
abbrev cX2_copyFrom : ByteArray := prog_4_method_12_code
def yX2_copyFrom : MethodName := ⟨RX2, "copyFrom", "(LAffineRanges$Form;)V"⟩
abbrev cX2_add : ByteArray := prog_4_method_13_code
def yX2_add : MethodName := ⟨RX2, "add", "(LAffineRanges$Form;LAffineRanges$Form;)V"⟩
abbrev cX2_subtract : ByteArray := prog_4_method_14_code
def yX2_subtract : MethodName := ⟨RX2, "subtract", "(LAffineRanges$Form;LAffineRanges$Form;)V"⟩
abbrev cX2_negate : ByteArray := prog_4_method_15_code
def yX2_negate : MethodName := ⟨RX2, "negate", "(LAffineRanges$Form;)V"⟩
abbrev cX2_multiply : ByteArray := prog_4_method_16_code
def yX2_multiply : MethodName := ⟨RX2, "multiply", "(LAffineRanges$Form;LAffineRanges$Form;)V"⟩
abbrev cX2_square : ByteArray := prog_4_method_17_code
def yX2_square : MethodName := ⟨RX2, "square", "(LAffineRanges$Form;)V"⟩
abbrev cX2_invert : ByteArray := prog_4_method_18_code
def yX2_invert : MethodName := ⟨RX2, "invert", "(LAffineRanges$Form;)V"⟩
abbrev cX2_absolute : ByteArray := prog_4_method_19_code
def yX2_absolute : MethodName := ⟨RX2, "absolute", "(LAffineRanges$Form;)V"⟩
abbrev cX2_root : ByteArray := prog_4_method_20_code
def yX2_root : MethodName := ⟨RX2, "root", "(LAffineRanges$Form;)V"⟩
abbrev cX2_least : ByteArray := prog_4_method_21_code
def yX2_least : MethodName := ⟨RX2, "least", "(LAffineRanges$Form;LAffineRanges$Form;)V"⟩
abbrev cX2_greatest : ByteArray := prog_4_method_22_code
def yX2_greatest : MethodName := ⟨RX2, "greatest", "(LAffineRanges$Form;LAffineRanges$Form;)V"⟩
abbrev cX2_isLarge : ByteArray := prog_4_method_23_code
def yX2_isLarge : MethodName := ⟨RX2, "isLarge", "(J)Z"⟩
abbrev cX2_roundings : ByteArray := prog_4_method_24_code
def yX2_roundings : MethodName := ⟨RX2, "roundings", "(JI)I"⟩
abbrev cX2_roundedUp : ByteArray := prog_4_method_25_code
def yX2_roundedUp : MethodName := ⟨RX2, "roundedUp", "(JI)J"⟩
abbrev cX2_rootDown : ByteArray := prog_4_method_26_code
def yX2_rootDown : MethodName := ⟨RX2, "rootDown", "(J)J"⟩
def RX3 : String := "AffineRanges$Machine"
def TX3 : u_T := fun k => match k with
  | 0 => ("AffineRanges$Machine", "forms", "[LAffineRanges$Form;", true)
  | 1 => ("AffineRanges$Machine", "spare", "LAffineRanges$Form;", false)
  | 2 => ("AffineRanges$Machine", "reciprocal", "LAffineRanges$Form;", true)
  | 3 => ("AffineRanges$Machine", "depth", "I", false)
  | _ => ("AffineRanges$Machine", "symbols", "I", false)
def tyX3 : Nat → FieldType := fun k => match k with
  | 0 => .array (.object "AffineRanges$Form")
  | 1 => .object "AffineRanges$Form"
  | 2 => .object "AffineRanges$Form"
  | 3 => .int
  | _ => .int
abbrev wsX30 : List Cond := u_ws RX3 TX3 5
theorem nmX3 : ∀ a, a < 5 → ∀ b, b < 5 → a ≠ b → (TX3 a).2.1 ≠ (TX3 b).2.1 := by decide +kernel
theorem tyX3_ok : ∀ k, k < 5 → parseFieldDescriptor (TX3 k).2.2.1 = some (tyX3 k) := by decide +kernel
abbrev cX3_init : ByteArray := prog_5_method_1_code
def yX3_init : MethodName := ⟨RX3, "<init>", "()V"⟩
abbrev cX3_evaluate : ByteArray := prog_5_method_2_code
def yX3_evaluate : MethodName := ⟨RX3, "evaluate", "(LAffineRanges$Steps;ILAffineRanges$Box;I)LAffineRanges$Form;"⟩
abbrev cX3_difference : ByteArray := prog_5_method_3_code
def yX3_difference : MethodName := ⟨RX3, "difference", "(LAffineRanges$Steps;LAffineRanges$Steps;LAffineRanges$Box;I)LAffineRanges$Form;"⟩
abbrev cX3_top : ByteArray := prog_5_method_4_code
def yX3_top : MethodName := ⟨RX3, "top", "()LAffineRanges$Form;"⟩
abbrev cX3_perform : ByteArray := prog_5_method_5_code
def yX3_perform : MethodName := ⟨RX3, "perform", "(IILAffineRanges$Box;)V"⟩
abbrev cX3_operands : ByteArray := prog_5_method_6_code
def yX3_operands : MethodName := ⟨RX3, "operands", "(I)I"⟩
abbrev cX3_change : ByteArray := prog_5_method_7_code
def yX3_change : MethodName := ⟨RX3, "change", "(ILAffineRanges$Form;LAffineRanges$Form;)V"⟩
abbrev cX3_combine : ByteArray := prog_5_method_8_code
def yX3_combine : MethodName := ⟨RX3, "combine", "(ILAffineRanges$Form;LAffineRanges$Form;LAffineRanges$Form;)V"⟩
abbrev cX3_nameLoosePart : ByteArray := prog_5_method_9_code
def yX3_nameLoosePart : MethodName := ⟨RX3, "nameLoosePart", "(LAffineRanges$Form;)V"⟩
abbrev cX3_weightOf : ByteArray := prog_5_method_10_code
def yX3_weightOf : MethodName := ⟨RX3, "weightOf", "(I)J"⟩
def RX4 : String := "AffineRanges$Reader"
def TX4 : u_T := fun k => match k with
  | 0 => ("AffineRanges$Reader", "made", "LAffineRanges$Steps;", true)
  | 1 => ("AffineRanges$Reader", "waiting", "[I", true)
  | 2 => ("AffineRanges$Reader", "waits", "I", false)
  | 3 => ("AffineRanges$Reader", "at", "I", false)
  | _ => ("AffineRanges$Reader", "opened", "I", false)
def tyX4 : Nat → FieldType := fun k => match k with
  | 0 => .object "AffineRanges$Steps"
  | 1 => .array .int
  | 2 => .int
  | 3 => .int
  | _ => .int
abbrev wsX40 : List Cond := u_ws RX4 TX4 5
theorem nmX4 : ∀ a, a < 5 → ∀ b, b < 5 → a ≠ b → (TX4 a).2.1 ≠ (TX4 b).2.1 := by decide +kernel
theorem tyX4_ok : ∀ k, k < 5 → parseFieldDescriptor (TX4 k).2.2.1 = some (tyX4 k) := by decide +kernel
abbrev cX4_init : ByteArray := prog_6_method_1_code
def yX4_init : MethodName := ⟨RX4, "<init>", "()V"⟩
abbrev cX4_read : ByteArray := prog_6_method_2_code
def yX4_read : MethodName := ⟨RX4, "read", "([CI)I"⟩
abbrev cX4_take : ByteArray := prog_6_method_3_code
def yX4_take : MethodName := ⟨RX4, "take", "(C)Z"⟩
abbrev cX4_takeOperand : ByteArray := prog_6_method_4_code
def yX4_takeOperand : MethodName := ⟨RX4, "takeOperand", "(C)Z"⟩
abbrev cX4_takeInWhole : ByteArray := prog_6_method_5_code
def yX4_takeInWhole : MethodName := ⟨RX4, "takeInWhole", "(C)Z"⟩
abbrev cX4_addDigit : ByteArray := prog_6_method_6_code
def yX4_addDigit : MethodName := ⟨RX4, "addDigit", "(CII)Z"⟩
abbrev cX4_takePower : ByteArray := prog_6_method_7_code
def yX4_takePower : MethodName := ⟨RX4, "takePower", "(C)Z"⟩
abbrev cX4_takeBehind : ByteArray := prog_6_method_8_code
def yX4_takeBehind : MethodName := ⟨RX4, "takeBehind", "(C)Z"⟩
abbrev cX4_operator : ByteArray := prog_6_method_9_code
def yX4_operator : MethodName := ⟨RX4, "operator", "(II)Z"⟩
abbrev cX4_open : ByteArray := prog_6_method_10_code
def yX4_open : MethodName := ⟨RX4, "open", "(I)Z"⟩
abbrev cX4_close : ByteArray := prog_6_method_11_code
def yX4_close : MethodName := ⟨RX4, "close", "()Z"⟩
abbrev cX4_passComma : ByteArray := prog_6_method_12_code
def yX4_passComma : MethodName := ⟨RX4, "passComma", "()Z"⟩
abbrev cX4_hold : ByteArray := prog_6_method_13_code
def yX4_hold : MethodName := ⟨RX4, "hold", "(II)Z"⟩
abbrev cX4_complete : ByteArray := prog_6_method_14_code
def yX4_complete : MethodName := ⟨RX4, "complete", "(I)V"⟩
abbrev cX4_bindingOf : ByteArray := prog_6_method_15_code
def yX4_bindingOf : MethodName := ⟨RX4, "bindingOf", "(I)I"⟩
abbrev cX4_isDigit : ByteArray := prog_6_method_16_code
def yX4_isDigit : MethodName := ⟨RX4, "isDigit", "(C)Z"⟩
def RX5 : String := "AffineRanges$State"
def TX5 : u_T := fun k => match k with
  | 0 => ("AffineRanges$State", "box", "LAffineRanges$Box;", true)
  | 1 => ("AffineRanges$State", "expressions", "[LAffineRanges$Steps;", true)
  | _ => ("AffineRanges$State", "symbols", "I", false)
def tyX5 : Nat → FieldType := fun k => match k with
  | 0 => .object "AffineRanges$Box"
  | 1 => .array (.object "AffineRanges$Steps")
  | _ => .int
abbrev wsX50 : List Cond := u_ws RX5 TX5 3
theorem nmX5 : ∀ a, a < 3 → ∀ b, b < 3 → a ≠ b → (TX5 a).2.1 ≠ (TX5 b).2.1 := by decide +kernel
theorem tyX5_ok : ∀ k, k < 3 → parseFieldDescriptor (TX5 k).2.2.1 = some (tyX5 k) := by decide +kernel
abbrev cX5_init : ByteArray := prog_7_method_1_code
def yX5_init : MethodName := ⟨RX5, "<init>", "()V"⟩
abbrev cX5_copyFrom : ByteArray := prog_7_method_2_code
def yX5_copyFrom : MethodName := ⟨RX5, "copyFrom", "(LAffineRanges$State;)V"⟩
abbrev cX5_expressionSet : ByteArray := prog_7_method_3_code
def yX5_expressionSet : MethodName := ⟨RX5, "expressionSet", "()I"⟩
def RX6 : String := "AffineRanges$Steps"
def TX6 : u_T := fun k => match k with
  | 0 => ("AffineRanges$Steps", "kinds", "[I", true)
  | 1 => ("AffineRanges$Steps", "values", "[I", true)
  | _ => ("AffineRanges$Steps", "size", "I", false)
def tyX6 : Nat → FieldType := fun k => match k with
  | 0 => .array .int
  | 1 => .array .int
  | _ => .int
abbrev wsX60 : List Cond := u_ws RX6 TX6 3
theorem nmX6 : ∀ a, a < 3 → ∀ b, b < 3 → a ≠ b → (TX6 a).2.1 ≠ (TX6 b).2.1 := by decide +kernel
theorem tyX6_ok : ∀ k, k < 3 → parseFieldDescriptor (TX6 k).2.2.1 = some (tyX6 k) := by decide +kernel
abbrev cX6_init : ByteArray := prog_8_method_1_code
def yX6_init : MethodName := ⟨RX6, "<init>", "()V"⟩
abbrev cX6_copyFrom : ByteArray := prog_8_method_2_code
def yX6_copyFrom : MethodName := ⟨RX6, "copyFrom", "(LAffineRanges$Steps;)V"⟩
abbrev cX6_append : ByteArray := prog_8_method_3_code
def yX6_append : MethodName := ⟨RX6, "append", "(II)V"⟩
abbrev cX6_lastValue : ByteArray := prog_8_method_4_code
def yX6_lastValue : MethodName := ⟨RX6, "lastValue", "()I"⟩
abbrev cX6_setLastValue : ByteArray := prog_8_method_5_code
def yX6_setLastValue : MethodName := ⟨RX6, "setLastValue", "(I)V"⟩
def RX7 : String := "AffineRanges"
def TX7 : u_T := fun k => match k with
  | 0 => ("AffineRanges", "pad", "[C", true)
  | 1 => ("AffineRanges", "padLength", "I", false)
  | 2 => ("AffineRanges", "now", "LAffineRanges$State;", true)
  | 3 => ("AffineRanges", "slots", "[LAffineRanges$State;", true)
  | 4 => ("AffineRanges", "saved", "[Z", true)
  | 5 => ("AffineRanges", "reader", "LAffineRanges$Reader;", true)
  | 6 => ("AffineRanges", "machine", "LAffineRanges$Machine;", true)
  | 7 => ("AffineRanges", "list", "LAffineRanges$BoxList;", true)
  | 8 => ("AffineRanges", "proofBox", "LAffineRanges$Box;", true)
  | 9 => ("AffineRanges", "proofCount", "I", false)
  | 10 => ("AffineRanges", "point", "LAffineRanges$Box;", true)
  | 11 => ("AffineRanges", "lowerPart", "LAffineRanges$Box;", true)
  | _ => ("AffineRanges", "upperPart", "LAffineRanges$Box;", true)
def tyX7 : Nat → FieldType := fun k => match k with
  | 0 => .array .char
  | 1 => .int
  | 2 => .object "AffineRanges$State"
  | 3 => .array (.object "AffineRanges$State")
  | 4 => .array .boolean
  | 5 => .object "AffineRanges$Reader"
  | 6 => .object "AffineRanges$Machine"
  | 7 => .object "AffineRanges$BoxList"
  | 8 => .object "AffineRanges$Box"
  | 9 => .int
  | 10 => .object "AffineRanges$Box"
  | 11 => .object "AffineRanges$Box"
  | _ => .object "AffineRanges$Box"
abbrev wsX70 : List Cond := u_ws RX7 TX7 13
theorem nmX7 : ∀ a, a < 13 → ∀ b, b < 13 → a ≠ b → (TX7 a).2.1 ≠ (TX7 b).2.1 := by decide +kernel
theorem tyX7_ok : ∀ k, k < 13 → parseFieldDescriptor (TX7 k).2.2.1 = some (tyX7 k) := by decide +kernel
abbrev cX7_init : ByteArray := prog_1_method_1_code
def yX7_init : MethodName := ⟨RX7, "<init>", "()V"⟩
abbrev cX7_setDomain : ByteArray := prog_1_method_2_code
def yX7_setDomain : MethodName := ⟨RX7, "setDomain", "(III)I"⟩
abbrev cX7_domain : ByteArray := prog_1_method_3_code
def yX7_domain : MethodName := ⟨RX7, "domain", "(II)I"⟩
abbrev cX7_setSymbols : ByteArray := prog_1_method_4_code
def yX7_setSymbols : MethodName := ⟨RX7, "setSymbols", "(I)I"⟩
abbrev cX7_say : ByteArray := prog_1_method_5_code
def yX7_say : MethodName := ⟨RX7, "say", "(I)I"⟩
abbrev cX7_fault : ByteArray := prog_1_method_7_code
def yX7_fault : MethodName := ⟨RX7, "fault", "()I"⟩
abbrev cX7_load : ByteArray := prog_1_method_8_code
def yX7_load : MethodName := ⟨RX7, "load", "(I)I"⟩
abbrev cX7_step : ByteArray := prog_1_method_9_code
def yX7_step : MethodName := ⟨RX7, "step", "(III)I"⟩
abbrev cX7_inputs : ByteArray := prog_1_method_10_code
def yX7_inputs : MethodName := ⟨RX7, "inputs", "(I)I"⟩
abbrev cX7_reason : ByteArray := prog_1_method_11_code
def yX7_reason : MethodName := ⟨RX7, "reason", "(I)I"⟩
abbrev cX7_bound : ByteArray := prog_1_method_12_code
def yX7_bound : MethodName := ⟨RX7, "bound", "(III)J"⟩
abbrev cX7_part : ByteArray := prog_1_method_13_code
def yX7_part : MethodName := ⟨RX7, "part", "(II)J"⟩
abbrev cX7_trace : ByteArray := prog_1_method_14_code
def yX7_trace : MethodName := ⟨RX7, "trace", "(III)J"⟩
abbrev cX7_dominant : ByteArray := prog_1_method_15_code
def yX7_dominant : MethodName := ⟨RX7, "dominant", "(I)I"⟩
abbrev cX7_gain : ByteArray := prog_1_method_16_code
def yX7_gain : MethodName := ⟨RX7, "gain", "(I)J"⟩
abbrev cX7_sample : ByteArray := prog_1_method_17_code
def yX7_sample : MethodName := ⟨RX7, "sample", "(III)J"⟩
abbrev cX7_compare : ByteArray := prog_1_method_18_code
def yX7_compare : MethodName := ⟨RX7, "compare", "(II)I"⟩
abbrev cX7_prove : ByteArray := prog_1_method_19_code
def yX7_prove : MethodName := ⟨RX7, "prove", "(III)I"⟩
abbrev cX7_proof : ByteArray := prog_1_method_20_code
def yX7_proof : MethodName := ⟨RX7, "proof", "(I)J"⟩
abbrev cX7_tighten : ByteArray := prog_1_method_21_code
def yX7_tighten : MethodName := ⟨RX7, "tighten", "(III)J"⟩
abbrev cX7_roots : ByteArray := prog_1_method_22_code
def yX7_roots : MethodName := ⟨RX7, "roots", "(III)I"⟩
abbrev cX7_count : ByteArray := prog_1_method_23_code
def yX7_count : MethodName := ⟨RX7, "count", "(I)I"⟩
abbrev cX7_save : ByteArray := prog_1_method_24_code
def yX7_save : MethodName := ⟨RX7, "save", "(I)I"⟩
abbrev cX7_restore : ByteArray := prog_1_method_25_code
def yX7_restore : MethodName := ⟨RX7, "restore", "(I)I"⟩
abbrev cX7_find : ByteArray := prog_1_method_26_code
def yX7_find : MethodName := ⟨RX7, "find", "(I)LAffineRanges$Steps;"⟩
abbrev cX7_isMiddleAtMost : ByteArray := prog_1_method_27_code
def yX7_isMiddleAtMost : MethodName := ⟨RX7, "isMiddleAtMost", "(LAffineRanges$Steps;LAffineRanges$Box;I)Z"⟩
abbrev cX7_rank : ByteArray := prog_1_method_28_code
def yX7_rank : MethodName := ⟨RX7, "rank", "(ILAffineRanges$Box;LAffineRanges$Steps;I)V"⟩
abbrev cX7_endOf : ByteArray := prog_1_method_29_code
def yX7_endOf : MethodName := ⟨RX7, "endOf", "(LAffineRanges$Form;I)J"⟩
abbrev cX7_gone : ByteArray := prog_1_method_30_code
def yX7_gone : MethodName := ⟨RX7, "gone", "(I)J"⟩
abbrev cX7_isInput : ByteArray := prog_1_method_31_code
def yX7_isInput : MethodName := ⟨RX7, "isInput", "(I)Z"⟩
abbrev cX7_isSide : ByteArray := prog_1_method_32_code
def yX7_isSide : MethodName := ⟨RX7, "isSide", "(I)Z"⟩
def RX8 : String := "AffineRangesModel"
def TX8 : u_T := fun k => match k with
  | _ => ("", "", "", false)
def tyX8 : Nat → FieldType := fun k => match k with
  | _ => .int
abbrev wsX80 : List Cond := u_ws RX8 TX8 0
theorem nmX8 : ∀ a, a < 0 → ∀ b, b < 0 → a ≠ b → (TX8 a).2.1 ≠ (TX8 b).2.1 := by decide +kernel
theorem tyX8_ok : ∀ k, k < 0 → parseFieldDescriptor (TX8 k).2.2.1 = some (tyX8 k) := by decide +kernel
def RJ9 : String := "java/lang/Math"
def TJ9 : u_T := fun k => match k with
  | _ => ("", "", "", false)
def tyJ9 : Nat → FieldType := fun k => match k with
  | _ => .int
abbrev wsJ90 : List Cond := u_ws RJ9 TJ9 0
theorem nmJ9 : ∀ a, a < 0 → ∀ b, b < 0 → a ≠ b → (TJ9 a).2.1 ≠ (TJ9 b).2.1 := by decide +kernel
theorem tyJ9_ok : ∀ k, k < 0 → parseFieldDescriptor (TJ9 k).2.2.1 = some (tyJ9 k) := by decide +kernel
abbrev cJ9_floorDiv_f86c9 : ByteArray := prog_11_method_49_code
def yJ9_floorDiv_f86c9 : MethodName := ⟨RJ9, "floorDiv", "(JJ)J"⟩
abbrev cJ9_abs_067f4 : ByteArray := prog_11_method_61_code
def yJ9_abs_067f4 : MethodName := ⟨RJ9, "abs", "(J)J"⟩
abbrev cJ9_max_f86c9 : ByteArray := prog_11_method_66_code
def yJ9_max_f86c9 : MethodName := ⟨RJ9, "max", "(JJ)J"⟩
abbrev cJ9_min_7cf53 : ByteArray := prog_11_method_69_code
def yJ9_min_7cf53 : MethodName := ⟨RJ9, "min", "(II)I"⟩
abbrev cJ9_min_f86c9 : ByteArray := prog_11_method_70_code
def yJ9_min_f86c9 : MethodName := ⟨RJ9, "min", "(JJ)J"⟩
def RJ10 : String := "java/lang/System"
def TJ10 : u_T := fun k => match k with
  | _ => ("", "", "", false)
def tyJ10 : Nat → FieldType := fun k => match k with
  | _ => .int
abbrev wsJ100 : List Cond := u_ws RJ10 TJ10 0
theorem nmJ10 : ∀ a, a < 0 → ∀ b, b < 0 → a ≠ b → (TJ10 a).2.1 ≠ (TJ10 b).2.1 := by decide +kernel
theorem tyJ10_ok : ∀ k, k < 0 → parseFieldDescriptor (TJ10 k).2.2.1 = some (tyJ10 k) := by decide +kernel
def RJ7 : String := "java/util/Arrays"
def TJ7 : u_T := fun k => match k with
  | _ => ("", "", "", false)
def tyJ7 : Nat → FieldType := fun k => match k with
  | _ => .int
abbrev wsJ70 : List Cond := u_ws RJ7 TJ7 0
theorem nmJ7 : ∀ a, a < 0 → ∀ b, b < 0 → a ≠ b → (TJ7 a).2.1 ≠ (TJ7 b).2.1 := by decide +kernel
theorem tyJ7_ok : ∀ k, k < 0 → parseFieldDescriptor (TJ7 k).2.2.1 = some (tyJ7 k) := by decide +kernel
abbrev cJ7_fill_d0a16 : ByteArray := prog_13_method_101_code
def yJ7_fill_d0a16 : MethodName := ⟨RJ7, "fill", "([JJ)V"⟩
def RL : String := "AffineRangesLaw"
abbrev cL_cell : ByteArray := method_2_code
def yL_cell : MethodName := ⟨RL, "cell", "([II)I"⟩
abbrev cL_up : ByteArray := method_3_code
def yL_up : MethodName := ⟨RL, "up", "(II)I"⟩
abbrev cL_law : ByteArray := code
def yL_law : MethodName := ⟨RL, "law", "([I)Z"⟩
abbrev cL_text : ByteArray := method_5_code
def yL_text : MethodName := ⟨RL, "text", "(LAffineRanges;II)I"⟩
abbrev cL_abs : ByteArray := method_6_code
def yL_abs : MethodName := ⟨RL, "abs", "(J)J"⟩
abbrev cL_parts : ByteArray := method_7_code
def yL_parts : MethodName := ⟨RL, "parts", "(LAffineRanges;I)Z"⟩
abbrev cL_meets : ByteArray := method_8_code
def yL_meets : MethodName := ⟨RL, "meets", "(LAffineRanges;II)Z"⟩
abbrev cL_proves : ByteArray := method_9_code
def yL_proves : MethodName := ⟨RL, "proves", "(LAffineRanges;III)Z"⟩
abbrev cL_isPoint : ByteArray := method_10_code
def yL_isPoint : MethodName := ⟨RL, "isPoint", "(LAffineRanges;)Z"⟩
abbrev cL_tightens : ByteArray := method_11_code
def yL_tightens : MethodName := ⟨RL, "tightens", "(LAffineRanges;II)Z"⟩
abbrev cL_zeros : ByteArray := method_12_code
def yL_zeros : MethodName := ⟨RL, "zeros", "(LAffineRanges;II)Z"⟩
abbrev cL_compares : ByteArray := method_13_code
def yL_compares : MethodName := ⟨RL, "compares", "(LAffineRanges;II)Z"⟩
abbrev cL_saved : ByteArray := method_14_code
def yL_saved : MethodName := ⟨RL, "saved", "(LAffineRanges;I)Z"⟩
abbrev cL_refused : ByteArray := method_15_code
def yL_refused : MethodName := ⟨RL, "refused", "(LAffineRanges;I)Z"⟩

abbrev vwCl : List vw_C := [(RX0, TX0, 2), (RX1, TX1, 5), (RX2, TX2, 9), (RX3, TX3, 5), (RX4, TX4, 5), (RX5, TX5, 3), (RX6, TX6, 3), (RX7, TX7, 13)]
