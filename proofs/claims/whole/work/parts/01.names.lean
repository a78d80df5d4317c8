-- ===== PART A: goes FIRST, ahead of the names: the tables' words, and 'selects' of the private methods out of them =====
/-- a private method of a class that the tables say can be made, by its rows of tables_1 -/
def lw_okq (q : MethodName × Nat) : Prop := (q.1.cls ≠ "java/lang/invoke/MethodHandle" ∧ q.1.cls ≠ "java/lang/invoke/VarHandle") ∧ Cond.instantiable q.1.cls q.2 ∈ tables_1 ∧ Cond.privateMethod q.1 ∈ tables_1 ∧ Cond.instanceMethod q.1 ∈ tables_1
theorem lw_p0 : lw_okq (⟨"AffineRanges$Reader", "take", "(C)Z"⟩, 5) := ⟨⟨by decide +kernel, by decide +kernel⟩, List.mem_of_getElem? (i := 92) (by decide +kernel), List.mem_of_getElem? (i := 299) (by decide +kernel), List.mem_of_getElem? (i := 300) (by decide +kernel)⟩
theorem lw_p1 : lw_okq (⟨"AffineRanges$Reader", "hold", "(II)Z"⟩, 5) := ⟨⟨by decide +kernel, by decide +kernel⟩, List.mem_of_getElem? (i := 92) (by decide +kernel), List.mem_of_getElem? (i := 303) (by decide +kernel), List.mem_of_getElem? (i := 304) (by decide +kernel)⟩
theorem lw_p2 : lw_okq (⟨"AffineRanges$Reader", "takeOperand", "(C)Z"⟩, 5) := ⟨⟨by decide +kernel, by decide +kernel⟩, List.mem_of_getElem? (i := 92) (by decide +kernel), List.mem_of_getElem? (i := 307) (by decide +kernel), List.mem_of_getElem? (i := 308) (by decide +kernel)⟩
theorem lw_p3 : lw_okq (⟨"AffineRanges$Reader", "addDigit", "(CII)Z"⟩, 5) := ⟨⟨by decide +kernel, by decide +kernel⟩, List.mem_of_getElem? (i := 92) (by decide +kernel), List.mem_of_getElem? (i := 318) (by decide +kernel), List.mem_of_getElem? (i := 319) (by decide +kernel)⟩
theorem lw_p4 : lw_okq (⟨"AffineRanges$Reader", "open", "(I)Z"⟩, 5) := ⟨⟨by decide +kernel, by decide +kernel⟩, List.mem_of_getElem? (i := 92) (by decide +kernel), List.mem_of_getElem? (i := 330) (by decide +kernel), List.mem_of_getElem? (i := 331) (by decide +kernel)⟩
theorem lw_p5 : lw_okq (⟨"AffineRanges$Reader", "takeInWhole", "(C)Z"⟩, 5) := ⟨⟨by decide +kernel, by decide +kernel⟩, List.mem_of_getElem? (i := 92) (by decide +kernel), List.mem_of_getElem? (i := 334) (by decide +kernel), List.mem_of_getElem? (i := 335) (by decide +kernel)⟩
theorem lw_p6 : lw_okq (⟨"AffineRanges$Reader", "takeBehind", "(C)Z"⟩, 5) := ⟨⟨by decide +kernel, by decide +kernel⟩, List.mem_of_getElem? (i := 92) (by decide +kernel), List.mem_of_getElem? (i := 338) (by decide +kernel), List.mem_of_getElem? (i := 339) (by decide +kernel)⟩
theorem lw_p7 : lw_okq (⟨"AffineRanges$Reader", "operator", "(II)Z"⟩, 5) := ⟨⟨by decide +kernel, by decide +kernel⟩, List.mem_of_getElem? (i := 92) (by decide +kernel), List.mem_of_getElem? (i := 342) (by decide +kernel), List.mem_of_getElem? (i := 343) (by decide +kernel)⟩
theorem lw_p8 : lw_okq (⟨"AffineRanges$Reader", "complete", "(I)V"⟩, 5) := ⟨⟨by decide +kernel, by decide +kernel⟩, List.mem_of_getElem? (i := 92) (by decide +kernel), List.mem_of_getElem? (i := 346) (by decide +kernel), List.mem_of_getElem? (i := 347) (by decide +kernel)⟩
theorem lw_p9 : lw_okq (⟨"AffineRanges$Reader", "close", "()Z"⟩, 5) := ⟨⟨by decide +kernel, by decide +kernel⟩, List.mem_of_getElem? (i := 92) (by decide +kernel), List.mem_of_getElem? (i := 353) (by decide +kernel), List.mem_of_getElem? (i := 354) (by decide +kernel)⟩
theorem lw_p10 : lw_okq (⟨"AffineRanges$Reader", "passComma", "()Z"⟩, 5) := ⟨⟨by decide +kernel, by decide +kernel⟩, List.mem_of_getElem? (i := 92) (by decide +kernel), List.mem_of_getElem? (i := 357) (by decide +kernel), List.mem_of_getElem? (i := 358) (by decide +kernel)⟩
theorem lw_p11 : lw_okq (⟨"AffineRanges$Reader", "takePower", "(C)Z"⟩, 5) := ⟨⟨by decide +kernel, by decide +kernel⟩, List.mem_of_getElem? (i := 92) (by decide +kernel), List.mem_of_getElem? (i := 361) (by decide +kernel), List.mem_of_getElem? (i := 362) (by decide +kernel)⟩
theorem lw_p12 : lw_okq (⟨"AffineRanges", "find", "(I)LAffineRanges$Steps;"⟩, 13) := ⟨⟨by decide +kernel, by decide +kernel⟩, List.mem_of_getElem? (i := 14) (by decide +kernel), List.mem_of_getElem? (i := 380) (by decide +kernel), List.mem_of_getElem? (i := 381) (by decide +kernel)⟩
theorem lw_p13 : lw_okq (⟨"AffineRanges$Machine", "perform", "(IILAffineRanges$Box;)V"⟩, 5) := ⟨⟨by decide +kernel, by decide +kernel⟩, List.mem_of_getElem? (i := 118) (by decide +kernel), List.mem_of_getElem? (i := 396) (by decide +kernel), List.mem_of_getElem? (i := 397) (by decide +kernel)⟩
theorem lw_p14 : lw_okq (⟨"AffineRanges$Machine", "top", "()LAffineRanges$Form;"⟩, 5) := ⟨⟨by decide +kernel, by decide +kernel⟩, List.mem_of_getElem? (i := 118) (by decide +kernel), List.mem_of_getElem? (i := 425) (by decide +kernel), List.mem_of_getElem? (i := 426) (by decide +kernel)⟩
theorem lw_p15 : lw_okq (⟨"AffineRanges$Machine", "combine", "(ILAffineRanges$Form;LAffineRanges$Form;LAffineRanges$Form;)V"⟩, 5) := ⟨⟨by decide +kernel, by decide +kernel⟩, List.mem_of_getElem? (i := 118) (by decide +kernel), List.mem_of_getElem? (i := 478) (by decide +kernel), List.mem_of_getElem? (i := 479) (by decide +kernel)⟩
def lw_privs_1 : List (MethodName × Nat) := [(⟨"AffineRanges$Reader", "take", "(C)Z"⟩, 5), (⟨"AffineRanges$Reader", "hold", "(II)Z"⟩, 5), (⟨"AffineRanges$Reader", "takeOperand", "(C)Z"⟩, 5), (⟨"AffineRanges$Reader", "addDigit", "(CII)Z"⟩, 5), (⟨"AffineRanges$Reader", "open", "(I)Z"⟩, 5), (⟨"AffineRanges$Reader", "takeInWhole", "(C)Z"⟩, 5), (⟨"AffineRanges$Reader", "takeBehind", "(C)Z"⟩, 5), (⟨"AffineRanges$Reader", "operator", "(II)Z"⟩, 5), (⟨"AffineRanges$Reader", "complete", "(I)V"⟩, 5), (⟨"AffineRanges$Reader", "close", "()Z"⟩, 5), (⟨"AffineRanges$Reader", "passComma", "()Z"⟩, 5), (⟨"AffineRanges$Reader", "takePower", "(C)Z"⟩, 5), (⟨"AffineRanges", "find", "(I)LAffineRanges$Steps;"⟩, 13), (⟨"AffineRanges$Machine", "perform", "(IILAffineRanges$Box;)V"⟩, 5), (⟨"AffineRanges$Machine", "top", "()LAffineRanges$Form;"⟩, 5), (⟨"AffineRanges$Machine", "combine", "(ILAffineRanges$Form;LAffineRanges$Form;LAffineRanges$Form;)V"⟩, 5)]
theorem lw_r1 : ∀ q ∈ lw_privs_1, lw_okq q := List.forall_mem_cons.mpr ⟨lw_p0, List.forall_mem_cons.mpr ⟨lw_p1, List.forall_mem_cons.mpr ⟨lw_p2, List.forall_mem_cons.mpr ⟨lw_p3, List.forall_mem_cons.mpr ⟨lw_p4, List.forall_mem_cons.mpr ⟨lw_p5, List.forall_mem_cons.mpr ⟨lw_p6, List.forall_mem_cons.mpr ⟨lw_p7, List.forall_mem_cons.mpr ⟨lw_p8, List.forall_mem_cons.mpr ⟨lw_p9, List.forall_mem_cons.mpr ⟨lw_p10, List.forall_mem_cons.mpr ⟨lw_p11, List.forall_mem_cons.mpr ⟨lw_p12, List.forall_mem_cons.mpr ⟨lw_p13, List.forall_mem_cons.mpr ⟨lw_p14, List.forall_mem_cons.mpr ⟨lw_p15, fun _ h => absurd h List.not_mem_nil⟩⟩⟩⟩⟩⟩⟩⟩⟩⟩⟩⟩⟩⟩⟩⟩
theorem lw_p16 : lw_okq (⟨"AffineRanges$Machine", "nameLoosePart", "(LAffineRanges$Form;)V"⟩, 5) := ⟨⟨by decide +kernel, by decide +kernel⟩, List.mem_of_getElem? (i := 118) (by decide +kernel), List.mem_of_getElem? (i := 524) (by decide +kernel), List.mem_of_getElem? (i := 525) (by decide +kernel)⟩
theorem lw_p17 : lw_okq (⟨"AffineRanges$Machine", "weightOf", "(I)J"⟩, 5) := ⟨⟨by decide +kernel, by decide +kernel⟩, List.mem_of_getElem? (i := 118) (by decide +kernel), List.mem_of_getElem? (i := 528) (by decide +kernel), List.mem_of_getElem? (i := 529) (by decide +kernel)⟩
theorem lw_p18 : lw_okq (⟨"AffineRanges", "isMiddleAtMost", "(LAffineRanges$Steps;LAffineRanges$Box;I)Z"⟩, 13) := ⟨⟨by decide +kernel, by decide +kernel⟩, List.mem_of_getElem? (i := 14) (by decide +kernel), List.mem_of_getElem? (i := 628) (by decide +kernel), List.mem_of_getElem? (i := 629) (by decide +kernel)⟩
theorem lw_p19 : lw_okq (⟨"AffineRanges", "rank", "(ILAffineRanges$Box;LAffineRanges$Steps;I)V"⟩, 13) := ⟨⟨by decide +kernel, by decide +kernel⟩, List.mem_of_getElem? (i := 14) (by decide +kernel), List.mem_of_getElem? (i := 650) (by decide +kernel), List.mem_of_getElem? (i := 651) (by decide +kernel)⟩
theorem lw_p20 : lw_okq (⟨"AffineRangesModel", "next", "(II)I"⟩, 30) := ⟨⟨by decide +kernel, by decide +kernel⟩, List.mem_of_getElem? (i := 696) (by decide +kernel), List.mem_of_getElem? (i := 829) (by decide +kernel), List.mem_of_getElem? (i := 830) (by decide +kernel)⟩
theorem lw_p21 : lw_okq (⟨"AffineRangesModel", "beginAtom", "(I)I"⟩, 30) := ⟨⟨by decide +kernel, by decide +kernel⟩, List.mem_of_getElem? (i := 696) (by decide +kernel), List.mem_of_getElem? (i := 833) (by decide +kernel), List.mem_of_getElem? (i := 834) (by decide +kernel)⟩
theorem lw_p22 : lw_okq (⟨"AffineRangesModel", "goOn", "(I)I"⟩, 30) := ⟨⟨by decide +kernel, by decide +kernel⟩, List.mem_of_getElem? (i := 696) (by decide +kernel), List.mem_of_getElem? (i := 840) (by decide +kernel), List.mem_of_getElem? (i := 841) (by decide +kernel)⟩
theorem lw_p23 : lw_okq (⟨"AffineRangesModel", "openBracket", "(II)I"⟩, 30) := ⟨⟨by decide +kernel, by decide +kernel⟩, List.mem_of_getElem? (i := 696) (by decide +kernel), List.mem_of_getElem? (i := 844) (by decide +kernel), List.mem_of_getElem? (i := 845) (by decide +kernel)⟩
theorem lw_p24 : lw_okq (⟨"AffineRangesModel", "laySteps", "()V"⟩, 30) := ⟨⟨by decide +kernel, by decide +kernel⟩, List.mem_of_getElem? (i := 696) (by decide +kernel), List.mem_of_getElem? (i := 853) (by decide +kernel), List.mem_of_getElem? (i := 854) (by decide +kernel)⟩
theorem lw_p25 : lw_okq (⟨"AffineRangesModel", "takeNumber", "(I)I"⟩, 30) := ⟨⟨by decide +kernel, by decide +kernel⟩, List.mem_of_getElem? (i := 696) (by decide +kernel), List.mem_of_getElem? (i := 857) (by decide +kernel), List.mem_of_getElem? (i := 858) (by decide +kernel)⟩
theorem lw_p26 : lw_okq (⟨"AffineRangesModel", "addStep", "(II)V"⟩, 30) := ⟨⟨by decide +kernel, by decide +kernel⟩, List.mem_of_getElem? (i := 696) (by decide +kernel), List.mem_of_getElem? (i := 861) (by decide +kernel), List.mem_of_getElem? (i := 862) (by decide +kernel)⟩
theorem lw_p27 : lw_okq (⟨"AffineRangesModel", "power", "(I)V"⟩, 30) := ⟨⟨by decide +kernel, by decide +kernel⟩, List.mem_of_getElem? (i := 696) (by decide +kernel), List.mem_of_getElem? (i := 865) (by decide +kernel), List.mem_of_getElem? (i := 866) (by decide +kernel)⟩
theorem lw_p28 : lw_okq (⟨"AffineRangesModel", "hold", "(I)V"⟩, 30) := ⟨⟨by decide +kernel, by decide +kernel⟩, List.mem_of_getElem? (i := 696) (by decide +kernel), List.mem_of_getElem? (i := 869) (by decide +kernel), List.mem_of_getElem? (i := 870) (by decide +kernel)⟩
theorem lw_p29 : lw_okq (⟨"AffineRangesModel", "release", "(I)V"⟩, 30) := ⟨⟨by decide +kernel, by decide +kernel⟩, List.mem_of_getElem? (i := 696) (by decide +kernel), List.mem_of_getElem? (i := 876) (by decide +kernel), List.mem_of_getElem? (i := 877) (by decide +kernel)⟩
theorem lw_p30 : lw_okq (⟨"AffineRangesModel", "isExpression", "(I)Z"⟩, 30) := ⟨⟨by decide +kernel, by decide +kernel⟩, List.mem_of_getElem? (i := 696) (by decide +kernel), List.mem_of_getElem? (i := 887) (by decide +kernel), List.mem_of_getElem? (i := 888) (by decide +kernel)⟩
theorem lw_p31 : lw_okq (⟨"AffineRangesModel", "evaluateWhole", "(I)V"⟩, 30) := ⟨⟨by decide +kernel, by decide +kernel⟩, List.mem_of_getElem? (i := 696) (by decide +kernel), List.mem_of_getElem? (i := 899) (by decide +kernel), List.mem_of_getElem? (i := 900) (by decide +kernel)⟩
def lw_privs_2 : List (MethodName × Nat) := [(⟨"AffineRanges$Machine", "nameLoosePart", "(LAffineRanges$Form;)V"⟩, 5), (⟨"AffineRanges$Machine", "weightOf", "(I)J"⟩, 5), (⟨"AffineRanges", "isMiddleAtMost", "(LAffineRanges$Steps;LAffineRanges$Box;I)Z"⟩, 13), (⟨"AffineRanges", "rank", "(ILAffineRanges$Box;LAffineRanges$Steps;I)V"⟩, 13), (⟨"AffineRangesModel", "next", "(II)I"⟩, 30), (⟨"AffineRangesModel", "beginAtom", "(I)I"⟩, 30), (⟨"AffineRangesModel", "goOn", "(I)I"⟩, 30), (⟨"AffineRangesModel", "openBracket", "(II)I"⟩, 30), (⟨"AffineRangesModel", "laySteps", "()V"⟩, 30), (⟨"AffineRangesModel", "takeNumber", "(I)I"⟩, 30), (⟨"AffineRangesModel", "addStep", "(II)V"⟩, 30), (⟨"AffineRangesModel", "power", "(I)V"⟩, 30), (⟨"AffineRangesModel", "hold", "(I)V"⟩, 30), (⟨"AffineRangesModel", "release", "(I)V"⟩, 30), (⟨"AffineRangesModel", "isExpression", "(I)Z"⟩, 30), (⟨"AffineRangesModel", "evaluateWhole", "(I)V"⟩, 30)]
theorem lw_r2 : ∀ q ∈ lw_privs_2, lw_okq q := List.forall_mem_cons.mpr ⟨lw_p16, List.forall_mem_cons.mpr ⟨lw_p17, List.forall_mem_cons.mpr ⟨lw_p18, List.forall_mem_cons.mpr ⟨lw_p19, List.forall_mem_cons.mpr ⟨lw_p20, List.forall_mem_cons.mpr ⟨lw_p21, List.forall_mem_cons.mpr ⟨lw_p22, List.forall_mem_cons.mpr ⟨lw_p23, List.forall_mem_cons.mpr ⟨lw_p24, List.forall_mem_cons.mpr ⟨lw_p25, List.forall_mem_cons.mpr ⟨lw_p26, List.forall_mem_cons.mpr ⟨lw_p27, List.forall_mem_cons.mpr ⟨lw_p28, List.forall_mem_cons.mpr ⟨lw_p29, List.forall_mem_cons.mpr ⟨lw_p30, List.forall_mem_cons.mpr ⟨lw_p31, fun _ h => absurd h List.not_mem_nil⟩⟩⟩⟩⟩⟩⟩⟩⟩⟩⟩⟩⟩⟩⟩⟩
theorem lw_p32 : lw_okq (⟨"AffineRangesModel", "wholeBox", "()V"⟩, 30) := ⟨⟨by decide +kernel, by decide +kernel⟩, List.mem_of_getElem? (i := 696) (by decide +kernel), List.mem_of_getElem? (i := 903) (by decide +kernel), List.mem_of_getElem? (i := 904) (by decide +kernel)⟩
theorem lw_p33 : lw_okq (⟨"AffineRangesModel", "evaluate", "(I)V"⟩, 30) := ⟨⟨by decide +kernel, by decide +kernel⟩, List.mem_of_getElem? (i := 696) (by decide +kernel), List.mem_of_getElem? (i := 907) (by decide +kernel), List.mem_of_getElem? (i := 908) (by decide +kernel)⟩
theorem lw_p34 : lw_okq (⟨"AffineRangesModel", "addRun", "(I)V"⟩, 30) := ⟨⟨by decide +kernel, by decide +kernel⟩, List.mem_of_getElem? (i := 696) (by decide +kernel), List.mem_of_getElem? (i := 911) (by decide +kernel), List.mem_of_getElem? (i := 912) (by decide +kernel)⟩
theorem lw_p35 : lw_okq (⟨"AffineRangesModel", "run", "()V"⟩, 30) := ⟨⟨by decide +kernel, by decide +kernel⟩, List.mem_of_getElem? (i := 696) (by decide +kernel), List.mem_of_getElem? (i := 915) (by decide +kernel), List.mem_of_getElem? (i := 916) (by decide +kernel)⟩
theorem lw_p36 : lw_okq (⟨"AffineRangesModel", "layNumber", "(I)V"⟩, 30) := ⟨⟨by decide +kernel, by decide +kernel⟩, List.mem_of_getElem? (i := 696) (by decide +kernel), List.mem_of_getElem? (i := 919) (by decide +kernel), List.mem_of_getElem? (i := 920) (by decide +kernel)⟩
theorem lw_p37 : lw_okq (⟨"AffineRangesModel", "clearForm", "(I)V"⟩, 30) := ⟨⟨by decide +kernel, by decide +kernel⟩, List.mem_of_getElem? (i := 696) (by decide +kernel), List.mem_of_getElem? (i := 925) (by decide +kernel), List.mem_of_getElem? (i := 926) (by decide +kernel)⟩
theorem lw_p38 : lw_okq (⟨"AffineRangesModel", "layInput", "(I)V"⟩, 30) := ⟨⟨by decide +kernel, by decide +kernel⟩, List.mem_of_getElem? (i := 696) (by decide +kernel), List.mem_of_getElem? (i := 929) (by decide +kernel), List.mem_of_getElem? (i := 930) (by decide +kernel)⟩
theorem lw_p39 : lw_okq (⟨"AffineRangesModel", "make", "(I)V"⟩, 30) := ⟨⟨by decide +kernel, by decide +kernel⟩, List.mem_of_getElem? (i := 696) (by decide +kernel), List.mem_of_getElem? (i := 936) (by decide +kernel), List.mem_of_getElem? (i := 937) (by decide +kernel)⟩
theorem lw_p40 : lw_okq (⟨"AffineRangesModel", "copyForm", "(II)V"⟩, 30) := ⟨⟨by decide +kernel, by decide +kernel⟩, List.mem_of_getElem? (i := 696) (by decide +kernel), List.mem_of_getElem? (i := 940) (by decide +kernel), List.mem_of_getElem? (i := 941) (by decide +kernel)⟩
theorem lw_p41 : lw_okq (⟨"AffineRangesModel", "isWild", "(I)Z"⟩, 30) := ⟨⟨by decide +kernel, by decide +kernel⟩, List.mem_of_getElem? (i := 696) (by decide +kernel), List.mem_of_getElem? (i := 947) (by decide +kernel), List.mem_of_getElem? (i := 948) (by decide +kernel)⟩
theorem lw_p42 : lw_okq (⟨"AffineRangesModel", "goWild", "(II)V"⟩, 30) := ⟨⟨by decide +kernel, by decide +kernel⟩, List.mem_of_getElem? (i := 696) (by decide +kernel), List.mem_of_getElem? (i := 951) (by decide +kernel), List.mem_of_getElem? (i := 952) (by decide +kernel)⟩
theorem lw_p43 : lw_okq (⟨"AffineRangesModel", "operate", "(III)V"⟩, 30) := ⟨⟨by decide +kernel, by decide +kernel⟩, List.mem_of_getElem? (i := 696) (by decide +kernel), List.mem_of_getElem? (i := 955) (by decide +kernel), List.mem_of_getElem? (i := 956) (by decide +kernel)⟩
theorem lw_p44 : lw_okq (⟨"AffineRangesModel", "sum", "(IIZ)V"⟩, 30) := ⟨⟨by decide +kernel, by decide +kernel⟩, List.mem_of_getElem? (i := 696) (by decide +kernel), List.mem_of_getElem? (i := 959) (by decide +kernel), List.mem_of_getElem? (i := 960) (by decide +kernel)⟩
theorem lw_p45 : lw_okq (⟨"AffineRangesModel", "negate", "(I)V"⟩, 30) := ⟨⟨by decide +kernel, by decide +kernel⟩, List.mem_of_getElem? (i := 696) (by decide +kernel), List.mem_of_getElem? (i := 963) (by decide +kernel), List.mem_of_getElem? (i := 964) (by decide +kernel)⟩
theorem lw_p46 : lw_okq (⟨"AffineRangesModel", "multiply", "(II)V"⟩, 30) := ⟨⟨by decide +kernel, by decide +kernel⟩, List.mem_of_getElem? (i := 696) (by decide +kernel), List.mem_of_getElem? (i := 967) (by decide +kernel), List.mem_of_getElem? (i := 968) (by decide +kernel)⟩
theorem lw_p47 : lw_okq (⟨"AffineRangesModel", "radius", "(I)J"⟩, 30) := ⟨⟨by decide +kernel, by decide +kernel⟩, List.mem_of_getElem? (i := 696) (by decide +kernel), List.mem_of_getElem? (i := 974) (by decide +kernel), List.mem_of_getElem? (i := 975) (by decide +kernel)⟩
def lw_privs_3 : List (MethodName × Nat) := [(⟨"AffineRangesModel", "wholeBox", "()V"⟩, 30), (⟨"AffineRangesModel", "evaluate", "(I)V"⟩, 30), (⟨"AffineRangesModel", "addRun", "(I)V"⟩, 30), (⟨"AffineRangesModel", "run", "()V"⟩, 30), (⟨"AffineRangesModel", "layNumber", "(I)V"⟩, 30), (⟨"AffineRangesModel", "clearForm", "(I)V"⟩, 30), (⟨"AffineRangesModel", "layInput", "(I)V"⟩, 30), (⟨"AffineRangesModel", "make", "(I)V"⟩, 30), (⟨"AffineRangesModel", "copyForm", "(II)V"⟩, 30), (⟨"AffineRangesModel", "isWild", "(I)Z"⟩, 30), (⟨"AffineRangesModel", "goWild", "(II)V"⟩, 30), (⟨"AffineRangesModel", "operate", "(III)V"⟩, 30), (⟨"AffineRangesModel", "sum", "(IIZ)V"⟩, 30), (⟨"AffineRangesModel", "negate", "(I)V"⟩, 30), (⟨"AffineRangesModel", "multiply", "(II)V"⟩, 30), (⟨"AffineRangesModel", "radius", "(I)J"⟩, 30)]
theorem lw_r3 : ∀ q ∈ lw_privs_3, lw_okq q := List.forall_mem_cons.mpr ⟨lw_p32, List.forall_mem_cons.mpr ⟨lw_p33, List.forall_mem_cons.mpr ⟨lw_p34, List.forall_mem_cons.mpr ⟨lw_p35, List.forall_mem_cons.mpr ⟨lw_p36, List.forall_mem_cons.mpr ⟨lw_p37, List.forall_mem_cons.mpr ⟨lw_p38, List.forall_mem_cons.mpr ⟨lw_p39, List.forall_mem_cons.mpr ⟨lw_p40, List.forall_mem_cons.mpr ⟨lw_p41, List.forall_mem_cons.mpr ⟨lw_p42, List.forall_mem_cons.mpr ⟨lw_p43, List.forall_mem_cons.mpr ⟨lw_p44, List.forall_mem_cons.mpr ⟨lw_p45, List.forall_mem_cons.mpr ⟨lw_p46, List.forall_mem_cons.mpr ⟨lw_p47, fun _ h => absurd h List.not_mem_nil⟩⟩⟩⟩⟩⟩⟩⟩⟩⟩⟩⟩⟩⟩⟩⟩
theorem lw_p48 : lw_okq (⟨"AffineRangesModel", "square", "(I)V"⟩, 30) := ⟨⟨by decide +kernel, by decide +kernel⟩, List.mem_of_getElem? (i := 696) (by decide +kernel), List.mem_of_getElem? (i := 987) (by decide +kernel), List.mem_of_getElem? (i := 988) (by decide +kernel)⟩
theorem lw_p49 : lw_okq (⟨"AffineRangesModel", "divide", "(II)V"⟩, 30) := ⟨⟨by decide +kernel, by decide +kernel⟩, List.mem_of_getElem? (i := 696) (by decide +kernel), List.mem_of_getElem? (i := 994) (by decide +kernel), List.mem_of_getElem? (i := 995) (by decide +kernel)⟩
theorem lw_p50 : lw_okq (⟨"AffineRangesModel", "bestLow", "(I)J"⟩, 30) := ⟨⟨by decide +kernel, by decide +kernel⟩, List.mem_of_getElem? (i := 696) (by decide +kernel), List.mem_of_getElem? (i := 998) (by decide +kernel), List.mem_of_getElem? (i := 999) (by decide +kernel)⟩
theorem lw_p51 : lw_okq (⟨"AffineRangesModel", "bestHigh", "(I)J"⟩, 30) := ⟨⟨by decide +kernel, by decide +kernel⟩, List.mem_of_getElem? (i := 696) (by decide +kernel), List.mem_of_getElem? (i := 1002) (by decide +kernel), List.mem_of_getElem? (i := 1003) (by decide +kernel)⟩
theorem lw_p52 : lw_okq (⟨"AffineRangesModel", "layPlain", "(IJJ)V"⟩, 30) := ⟨⟨by decide +kernel, by decide +kernel⟩, List.mem_of_getElem? (i := 696) (by decide +kernel), List.mem_of_getElem? (i := 1007) (by decide +kernel), List.mem_of_getElem? (i := 1008) (by decide +kernel)⟩
theorem lw_p53 : lw_okq (⟨"AffineRangesModel", "absolute", "(I)V"⟩, 30) := ⟨⟨by decide +kernel, by decide +kernel⟩, List.mem_of_getElem? (i := 696) (by decide +kernel), List.mem_of_getElem? (i := 1011) (by decide +kernel), List.mem_of_getElem? (i := 1012) (by decide +kernel)⟩
theorem lw_p54 : lw_okq (⟨"AffineRangesModel", "squareRoot", "(I)V"⟩, 30) := ⟨⟨by decide +kernel, by decide +kernel⟩, List.mem_of_getElem? (i := 696) (by decide +kernel), List.mem_of_getElem? (i := 1015) (by decide +kernel), List.mem_of_getElem? (i := 1016) (by decide +kernel)⟩
theorem lw_p55 : lw_okq (⟨"AffineRangesModel", "extreme", "(IIZ)V"⟩, 30) := ⟨⟨by decide +kernel, by decide +kernel⟩, List.mem_of_getElem? (i := 696) (by decide +kernel), List.mem_of_getElem? (i := 1023) (by decide +kernel), List.mem_of_getElem? (i := 1024) (by decide +kernel)⟩
theorem lw_p56 : lw_okq (⟨"AffineRangesModel", "isTooLarge", "(I)Z"⟩, 30) := ⟨⟨by decide +kernel, by decide +kernel⟩, List.mem_of_getElem? (i := 696) (by decide +kernel), List.mem_of_getElem? (i := 1027) (by decide +kernel), List.mem_of_getElem? (i := 1028) (by decide +kernel)⟩
theorem lw_p57 : lw_okq (⟨"AffineRangesModel", "name", "()V"⟩, 30) := ⟨⟨by decide +kernel, by decide +kernel⟩, List.mem_of_getElem? (i := 696) (by decide +kernel), List.mem_of_getElem? (i := 1036) (by decide +kernel), List.mem_of_getElem? (i := 1037) (by decide +kernel)⟩
theorem lw_p58 : lw_okq (⟨"AffineRangesModel", "keepBox", "(I)V"⟩, 30) := ⟨⟨by decide +kernel, by decide +kernel⟩, List.mem_of_getElem? (i := 696) (by decide +kernel), List.mem_of_getElem? (i := 1076) (by decide +kernel), List.mem_of_getElem? (i := 1077) (by decide +kernel)⟩
theorem lw_p59 : lw_okq (⟨"AffineRangesModel", "takeBox", "(I)V"⟩, 30) := ⟨⟨by decide +kernel, by decide +kernel⟩, List.mem_of_getElem? (i := 696) (by decide +kernel), List.mem_of_getElem? (i := 1080) (by decide +kernel), List.mem_of_getElem? (i := 1081) (by decide +kernel)⟩
theorem lw_p60 : lw_okq (⟨"AffineRangesModel", "noteProof", "(II)V"⟩, 30) := ⟨⟨by decide +kernel, by decide +kernel⟩, List.mem_of_getElem? (i := 696) (by decide +kernel), List.mem_of_getElem? (i := 1084) (by decide +kernel), List.mem_of_getElem? (i := 1085) (by decide +kernel)⟩
theorem lw_p61 : lw_okq (⟨"AffineRangesModel", "splitInput", "()I"⟩, 30) := ⟨⟨by decide +kernel, by decide +kernel⟩, List.mem_of_getElem? (i := 696) (by decide +kernel), List.mem_of_getElem? (i := 1088) (by decide +kernel), List.mem_of_getElem? (i := 1089) (by decide +kernel)⟩
theorem lw_p62 : lw_okq (⟨"AffineRangesModel", "isRefuted", "(II)Z"⟩, 30) := ⟨⟨by decide +kernel, by decide +kernel⟩, List.mem_of_getElem? (i := 696) (by decide +kernel), List.mem_of_getElem? (i := 1092) (by decide +kernel), List.mem_of_getElem? (i := 1093) (by decide +kernel)⟩
theorem lw_p63 : lw_okq (⟨"AffineRangesModel", "half", "(IZ)V"⟩, 30) := ⟨⟨by decide +kernel, by decide +kernel⟩, List.mem_of_getElem? (i := 696) (by decide +kernel), List.mem_of_getElem? (i := 1096) (by decide +kernel), List.mem_of_getElem? (i := 1097) (by decide +kernel)⟩
def lw_privs_4 : List (MethodName × Nat) := [(⟨"AffineRangesModel", "square", "(I)V"⟩, 30), (⟨"AffineRangesModel", "divide", "(II)V"⟩, 30), (⟨"AffineRangesModel", "bestLow", "(I)J"⟩, 30), (⟨"AffineRangesModel", "bestHigh", "(I)J"⟩, 30), (⟨"AffineRangesModel", "layPlain", "(IJJ)V"⟩, 30), (⟨"AffineRangesModel", "absolute", "(I)V"⟩, 30), (⟨"AffineRangesModel", "squareRoot", "(I)V"⟩, 30), (⟨"AffineRangesModel", "extreme", "(IIZ)V"⟩, 30), (⟨"AffineRangesModel", "isTooLarge", "(I)Z"⟩, 30), (⟨"AffineRangesModel", "name", "()V"⟩, 30), (⟨"AffineRangesModel", "keepBox", "(I)V"⟩, 30), (⟨"AffineRangesModel", "takeBox", "(I)V"⟩, 30), (⟨"AffineRangesModel", "noteProof", "(II)V"⟩, 30), (⟨"AffineRangesModel", "splitInput", "()I"⟩, 30), (⟨"AffineRangesModel", "isRefuted", "(II)Z"⟩, 30), (⟨"AffineRangesModel", "half", "(IZ)V"⟩, 30)]
theorem lw_r4 : ∀ q ∈ lw_privs_4, lw_okq q := List.forall_mem_cons.mpr ⟨lw_p48, List.forall_mem_cons.mpr ⟨lw_p49, List.forall_mem_cons.mpr ⟨lw_p50, List.forall_mem_cons.mpr ⟨lw_p51, List.forall_mem_cons.mpr ⟨lw_p52, List.forall_mem_cons.mpr ⟨lw_p53, List.forall_mem_cons.mpr ⟨lw_p54, List.forall_mem_cons.mpr ⟨lw_p55, List.forall_mem_cons.mpr ⟨lw_p56, List.forall_mem_cons.mpr ⟨lw_p57, List.forall_mem_cons.mpr ⟨lw_p58, List.forall_mem_cons.mpr ⟨lw_p59, List.forall_mem_cons.mpr ⟨lw_p60, List.forall_mem_cons.mpr ⟨lw_p61, List.forall_mem_cons.mpr ⟨lw_p62, List.forall_mem_cons.mpr ⟨lw_p63, fun _ h => absurd h List.not_mem_nil⟩⟩⟩⟩⟩⟩⟩⟩⟩⟩⟩⟩⟩⟩⟩⟩
theorem lw_p64 : lw_okq (⟨"AffineRangesModel", "takeBoxAside", "()V"⟩, 30) := ⟨⟨by decide +kernel, by decide +kernel⟩, List.mem_of_getElem? (i := 696) (by decide +kernel), List.mem_of_getElem? (i := 1100) (by decide +kernel), List.mem_of_getElem? (i := 1101) (by decide +kernel)⟩
theorem lw_p65 : lw_okq (⟨"AffineRangesModel", "putBothBack", "(I)V"⟩, 30) := ⟨⟨by decide +kernel, by decide +kernel⟩, List.mem_of_getElem? (i := 696) (by decide +kernel), List.mem_of_getElem? (i := 1104) (by decide +kernel), List.mem_of_getElem? (i := 1105) (by decide +kernel)⟩
theorem lw_p66 : lw_okq (⟨"AffineRangesModel", "keepFound", "(II)V"⟩, 30) := ⟨⟨by decide +kernel, by decide +kernel⟩, List.mem_of_getElem? (i := 696) (by decide +kernel), List.mem_of_getElem? (i := 1117) (by decide +kernel), List.mem_of_getElem? (i := 1118) (by decide +kernel)⟩
theorem lw_p67 : lw_okq (⟨"AffineRangesModel", "worst", "(I)I"⟩, 30) := ⟨⟨by decide +kernel, by decide +kernel⟩, List.mem_of_getElem? (i := 696) (by decide +kernel), List.mem_of_getElem? (i := 1121) (by decide +kernel), List.mem_of_getElem? (i := 1122) (by decide +kernel)⟩
theorem lw_p68 : lw_okq (⟨"AffineRangesModel", "expressions", "()I"⟩, 30) := ⟨⟨by decide +kernel, by decide +kernel⟩, List.mem_of_getElem? (i := 696) (by decide +kernel), List.mem_of_getElem? (i := 1133) (by decide +kernel), List.mem_of_getElem? (i := 1134) (by decide +kernel)⟩
theorem lw_p69 : lw_okq (⟨"AffineRangesModel", "wides", "()I"⟩, 30) := ⟨⟨by decide +kernel, by decide +kernel⟩, List.mem_of_getElem? (i := 696) (by decide +kernel), List.mem_of_getElem? (i := 1137) (by decide +kernel), List.mem_of_getElem? (i := 1138) (by decide +kernel)⟩
def lw_privs_5 : List (MethodName × Nat) := [(⟨"AffineRangesModel", "takeBoxAside", "()V"⟩, 30), (⟨"AffineRangesModel", "putBothBack", "(I)V"⟩, 30), (⟨"AffineRangesModel", "keepFound", "(II)V"⟩, 30), (⟨"AffineRangesModel", "worst", "(I)I"⟩, 30), (⟨"AffineRangesModel", "expressions", "()I"⟩, 30), (⟨"AffineRangesModel", "wides", "()I"⟩, 30)]
theorem lw_r5 : ∀ q ∈ lw_privs_5, lw_okq q := List.forall_mem_cons.mpr ⟨lw_p64, List.forall_mem_cons.mpr ⟨lw_p65, List.forall_mem_cons.mpr ⟨lw_p66, List.forall_mem_cons.mpr ⟨lw_p67, List.forall_mem_cons.mpr ⟨lw_p68, List.forall_mem_cons.mpr ⟨lw_p69, fun _ h => absurd h List.not_mem_nil⟩⟩⟩⟩⟩⟩
def lw_privs : List (MethodName × Nat) := lw_privs_1 ++ (lw_privs_2 ++ (lw_privs_3 ++ (lw_privs_4 ++ (lw_privs_5))))
def lw_tbl : List Cond := k2_sels lw_privs ++ tables_1
theorem lw_privs_ok : ∀ q ∈ lw_privs, lw_okq q := by
  show ∀ q ∈ lw_privs_1 ++ (lw_privs_2 ++ (lw_privs_3 ++ (lw_privs_4 ++ (lw_privs_5)))), lw_okq q
  exact List.forall_mem_append.mpr ⟨lw_r1, List.forall_mem_append.mpr ⟨lw_r2, List.forall_mem_append.mpr ⟨lw_r3, List.forall_mem_append.mpr ⟨lw_r4, lw_r5⟩⟩⟩⟩

def RX0 : String := "AffineRanges$Box"
def TX0 : u_T := fun k => match k with
  | 0 => ("AffineRanges$Box", "lo", "[I", true)
  | _ => ("AffineRanges$Box", "hi", "[I", true)
def tyX0 : Nat → FieldType := fun k => match k with
  | 0 => .array .int
  | _ => .array .int
abbrev wsX00 : List Cond := u_ws RX0 TX0 2
theorem nmX0 : ∀ a, a < 2 → ∀ b, b < 2 → a ≠ b → (TX0 a).2.1 ≠ (TX0 b).2.1 := by decide +kernel
theorem tyX0_ok : ∀ k, k < 2 → parseFieldDescriptor (TX0 k).2.2.1 = some (tyX0 k) := by decide +kernel
abbrev cX0_init : ByteArray := prog_2_method_1_code
def yX0_init : MethodName := ⟨RX0, "<init>", "()V"⟩
abbrev cX0_setEnds : ByteArray := prog_2_method_2_code
def yX0_setEnds : MethodName := ⟨RX0, "setEnds", "(III)V"⟩
abbrev cX0_copyFrom : ByteArray := prog_2_method_3_code
def yX0_copyFrom : MethodName := ⟨RX0, "copyFrom", "(LAffineRanges$Box;)V"⟩
abbrev cX0_width : ByteArray := prog_2_method_4_code
def yX0_width : MethodName := ⟨RX0, "width", "(I)I"⟩
abbrev cX0_middle : ByteArray := prog_2_method_5_code
def yX0_middle : MethodName := ⟨RX0, "middle", "(I)I"⟩
abbrev cX0_place : ByteArray := prog_2_method_6_code
def yX0_place : MethodName := ⟨RX0, "place", "(II)I"⟩
abbrev cX0_wideInputs : ByteArray := prog_2_method_7_code
def yX0_wideInputs : MethodName := ⟨RX0, "wideInputs", "()I"⟩
abbrev cX0_inputToSplit : ByteArray := prog_2_method_8_code
def yX0_inputToSplit : MethodName := ⟨RX0, "inputToSplit", "(LAffineRanges$Form;)I"⟩
abbrev cX0_split : ByteArray := prog_2_method_9_code
def yX0_split : MethodName := ⟨RX0, "split", "(ILAffineRanges$Box;LAffineRanges$Box;)V"⟩
def RX1 : String := "AffineRanges$BoxList"
def TX1 : u_T := fun k => match k with
  | 0 => ("AffineRanges$BoxList", "los", "[I", true)
  | 1 => ("AffineRanges$BoxList", "his", "[I", true)
  | 2 => ("AffineRanges$BoxList", "ranks", "[J", true)
  | 3 => ("AffineRanges$BoxList", "splits", "[I", true)
  | _ => ("AffineRanges$BoxList", "size", "I", false)
def tyX1 : Nat → FieldType := fun k => match k with
  | 0 => .array .int
  | 1 => .array .int
  | 2 => .array .long
  | 3 => .array .int
  | _ => .int
abbrev wsX10 : List Cond := u_ws RX1 TX1 5
theorem nmX1 : ∀ a, a < 5 → ∀ b, b < 5 → a ≠ b → (TX1 a).2.1 ≠ (TX1 b).2.1 := by decide +kernel
theorem tyX1_ok : ∀ k, k < 5 → parseFieldDescriptor (TX1 k).2.2.1 = some (tyX1 k) := by decide +kernel
abbrev cX1_init : ByteArray := prog_3_method_1_code
def yX1_init : MethodName := ⟨RX1, "<init>", "()V"⟩
abbrev cX1_clear : ByteArray := prog_3_method_2_code
def yX1_clear : MethodName := ⟨RX1, "clear", "()V"⟩
abbrev cX1_append : ByteArray := prog_3_method_3_code
def yX1_append : MethodName := ⟨RX1, "append", "(LAffineRanges$Box;)V"⟩
abbrev cX1_replace : ByteArray := prog_3_method_4_code
def yX1_replace : MethodName := ⟨RX1, "replace", "(ILAffineRanges$Box;)V"⟩
abbrev cX1_copyTo : ByteArray := prog_3_method_5_code
def yX1_copyTo : MethodName := ⟨RX1, "copyTo", "(ILAffineRanges$Box;)V"⟩
abbrev cX1_takeLast : ByteArray := prog_3_method_6_code
def yX1_takeLast : MethodName := ⟨RX1, "takeLast", "(LAffineRanges$Box;)Z"⟩
abbrev cX1_note : ByteArray := prog_3_method_7_code
def yX1_note : MethodName := ⟨RX1, "note", "(IJI)V"⟩
abbrev cX1_worst : ByteArray := prog_3_method_8_code
def yX1_worst : MethodName := ⟨RX1, "worst", "()I"⟩
def RX2 : String := "AffineRanges$Form"
def TX2 : u_T := fun k => match k with
  | 0 => ("AffineRanges$Form", "why", "I", false)
  | 1 => ("AffineRanges$Form", "center", "J", false)
  | 2 => ("AffineRanges$Form", "loose", "J", false)
  | 3 => ("AffineRanges$Form", "lo", "J", false)
  | 4 => ("AffineRanges$Form", "hi", "J", false)
  | 5 => ("AffineRanges$Form", "coefficients", "[J", true)
  | 6 => ("AffineRanges$Form", "radius", "J", false)
  | 7 => ("AffineRanges$Form", "low", "J", false)
  | _ => ("AffineRanges$Form", "high", "J", false)
def tyX2 : Nat → FieldType := fun k => match k with
  | 0 => .int
  | 1 => .long
  | 2 => .long
  | 3 => .long
  | 4 => .long
  | 5 => .array .long
  | 6 => .long
  | 7 => .long
  | _ => .long
abbrev wsX20 : List Cond := u_ws RX2 TX2 9
theorem nmX2 : ∀ a, a < 9 → ∀ b, b < 9 → a ≠ b → (TX2 a).2.1 ≠ (TX2 b).2.1 := by decide +kernel
theorem tyX2_ok : ∀ k, k < 9 → parseFieldDescriptor (TX2 k).2.2.1 = some (tyX2 k) := by decide +kernel
abbrev cX2_init : ByteArray := prog_4_method_1_code
def yX2_init : MethodName := ⟨RX2, "<init>", "()V"⟩
abbrev cX2_becomeWild : ByteArray := prog_4_method_2_code
def yX2_becomeWild : MethodName := ⟨RX2, "becomeWild", "(I)V"⟩
abbrev cX2_measure : ByteArray := prog_4_method_3_code
def yX2_measure : MethodName := ⟨RX2, "measure", "()V"⟩
abbrev cX2_bestEnd : ByteArray := prog_4_method_4_code
def yX2_bestEnd : MethodName := ⟨RX2, "bestEnd", "(I)J"⟩
abbrev cX2_holdsZero : ByteArray := prog_4_method_5_code
def yX2_holdsZero : MethodName := ⟨RX2, "holdsZero", "()Z"⟩
abbrev cX2_weight : ByteArray := prog_4_method_6_code
def yX2_weight : MethodName := ⟨RX2, "weight", "(I)J"⟩
abbrev cX2_condense : ByteArray := prog_4_method_7_code
def yX2_condense : MethodName := ⟨RX2, "condense", "(I)V"⟩
abbrev cX2_nameLoosePart : ByteArray := prog_4_method_8_code
def yX2_nameLoosePart : MethodName := ⟨RX2, "nameLoosePart", "(I)V"⟩
abbrev cX2_setRange : ByteArray := prog_4_method_9_code
def yX2_setRange : MethodName := ⟨RX2, "setRange", "(JJ)V"⟩
abbrev cX2_setNumber : ByteArray := prog_4_method_10_code
def yX2_setNumber : MethodName := ⟨RX2, "setNumber", "(I)V"⟩
abbrev cX2_setInput : ByteArray := prog_4_method_11_code
def yX2_setInput : MethodName := ⟨RX2, "setInput", "(III)V"⟩
abbrev cX2_copyFrom : ByteArray := prog_4_method_12_code
def yX2_copyFrom : MethodName := ⟨RX2, "copyFrom", "(LAffineRanges$Form;)V"⟩
abbrev cX2_add : ByteArray := prog_4_method_13_code
def yX2_add : MethodName := ⟨RX2, "add", "(LAffineRanges$Form;LAffineRanges$Form;)V"⟩
abbrev cX2_subtract : ByteArray := prog_4_method_14_code
def yX2_subtract : MethodName := ⟨RX2, "subtract", "(LAffineRanges$Form;LAffineRanges$Form;)V"⟩
abbrev cX2_negate : ByteArray := prog_4_method_15_code
def yX2_negate : MethodName := ⟨RX2, "negate", "(LAffineRanges$Form;)V"⟩
abbrev cX2_multiply : ByteArray := prog_4_method_16_code
def yX2_multiply : MethodName := ⟨RX2, "multiply", "(LAffineRanges$Form;LAffineRanges$Form;)V"⟩
abbrev cX2_square : ByteArray := prog_4_method_17_code
def yX2_square : MethodName := ⟨RX2, "square", "(LAffineRanges$Form;)V"⟩
abbrev cX2_invert : ByteArray := prog_4_method_18_code
def yX2_invert : MethodName := ⟨RX2, "invert", "(LAffineRanges$Form;)V"⟩
abbrev cX2_absolute : ByteArray := prog_4_method_19_code
def yX2_absolute : MethodName := ⟨RX2, "absolute", "(LAffineRanges$Form;)V"⟩
abbrev cX2_root : ByteArray := prog_4_method_20_code
def yX2_root : MethodName := ⟨RX2, "root", "(LAffineRanges$Form;)V"⟩
abbrev cX2_least : ByteArray := prog_4_method_21_code
def yX2_least : MethodName := ⟨RX2, "least", "(LAffineRanges$Form;LAffineRanges$Form;)V"⟩
abbrev cX2_greatest : ByteArray := prog_4_method_22_code
def yX2_greatest : MethodName := ⟨RX2, "greatest", "(LAffineRanges$Form;LAffineRanges$Form;)V"⟩
abbrev cX2_isLarge : ByteArray := prog_4_method_23_code
def yX2_isLarge : MethodName := ⟨RX2, "isLarge", "(J)Z"⟩
abbrev cX2_roundings : ByteArray := prog_4_method_24_code
def yX2_roundings : MethodName := ⟨RX2, "roundings", "(JI)I"⟩
abbrev cX2_roundedUp : ByteArray := prog_4_method_25_code
def yX2_roundedUp : MethodName := ⟨RX2, "roundedUp", "(JI)J"⟩
abbrev cX2_rootDown : ByteArray := prog_4_method_26_code
def yX2_rootDown : MethodName := ⟨RX2, "rootDown", "(J)J"⟩
def RX3 : String := "AffineRanges$Machine"
def TX3 : u_T := fun k => match k with
  | 0 => ("AffineRanges$Machine", "forms", "[LAffineRanges$Form;", true)
  | 1 => ("AffineRanges$Machine", "spare", "LAffineRanges$Form;", false)
  | 2 => ("AffineRanges$Machine", "reciprocal", "LAffineRanges$Form;", true)
  | 3 => ("AffineRanges$Machine", "depth", "I", false)
  | _ => ("AffineRanges$Machine", "symbols", "I", false)
def tyX3 : Nat → FieldType := fun k => match k with
  | 0 => .array (.object "AffineRanges$Form")
  | 1 => .object "AffineRanges$Form"
  | 2 => .object "AffineRanges$Form"
  | 3 => .int
  | _ => .int
abbrev wsX30 : List Cond := u_ws RX3 TX3 5
theorem nmX3 : ∀ a, a < 5 → ∀ b, b < 5 → a ≠ b → (TX3 a).2.1 ≠ (TX3 b).2.1 := by decide +kernel
theorem tyX3_ok : ∀ k, k < 5 → parseFieldDescriptor (TX3 k).2.2.1 = some (tyX3 k) := by decide +kernel
abbrev cX3_init : ByteArray := prog_5_method_1_code
def yX3_init : MethodName := ⟨RX3, "<init>", "()V"⟩
abbrev cX3_evaluate : ByteArray := prog_5_method_2_code
def yX3_evaluate : MethodName := ⟨RX3, "evaluate", "(LAffineRanges$Steps;ILAffineRanges$Box;I)LAffineRanges$Form;"⟩
abbrev cX3_difference : ByteArray := prog_5_method_3_code
def yX3_difference : MethodName := ⟨RX3, "difference", "(LAffineRanges$Steps;LAffineRanges$Steps;LAffineRanges$Box;I)LAffineRanges$Form;"⟩
abbrev cX3_top : ByteArray := prog_5_method_4_code
def yX3_top : MethodName := ⟨RX3, "top", "()LAffineRanges$Form;"⟩
abbrev cX3_perform : ByteArray := prog_5_method_5_code
def yX3_perform : MethodName := ⟨RX3, "perform", "(IILAffineRanges$Box;)V"⟩
abbrev cX3_operands : ByteArray := prog_5_method_6_code
def yX3_operands : MethodName := ⟨RX3, "operands", "(I)I"⟩
abbrev cX3_change : ByteArray := prog_5_method_7_code
def yX3_change : MethodName := ⟨RX3, "change", "(ILAffineRanges$Form;LAffineRanges$Form;)V"⟩
abbrev cX3_combine : ByteArray := prog_5_method_8_code
def yX3_combine : MethodName := ⟨RX3, "combine", "(ILAffineRanges$Form;LAffineRanges$Form;LAffineRanges$Form;)V"⟩
abbrev cX3_nameLoosePart : ByteArray := prog_5_method_9_code
def yX3_nameLoosePart : MethodName := ⟨RX3, "nameLoosePart", "(LAffineRanges$Form;)V"⟩
abbrev cX3_weightOf : ByteArray := prog_5_method_10_code
def yX3_weightOf : MethodName := ⟨RX3, "weightOf", "(I)J"⟩
def RX4 : String := "AffineRanges$Reader"
def TX4 : u_T := fun k => match k with
  | 0 => ("AffineRanges$Reader", "made", "LAffineRanges$Steps;", true)
  | 1 => ("AffineRanges$Reader", "waiting", "[I", true)
  | 2 => ("AffineRanges$Reader", "waits", "I", false)
  | 3 => ("AffineRanges$Reader", "at", "I", false)
  | _ => ("AffineRanges$Reader", "opened", "I", false)
def tyX4 : Nat → FieldType := fun k => match k with
  | 0 => .object "AffineRanges$Steps"
  | 1 => .array .int
  | 2 => .int
  | 3 => .int
  | _ => .int
abbrev wsX40 : List Cond := u_ws RX4 TX4 5
theorem nmX4 : ∀ a, a < 5 → ∀ b, b < 5 → a ≠ b → (TX4 a).2.1 ≠ (TX4 b).2.1 := by decide +kernel
theorem tyX4_ok : ∀ k, k < 5 → parseFieldDescriptor (TX4 k).2.2.1 = some (tyX4 k) := by decide +kernel
abbrev cX4_init : ByteArray := prog_6_method_1_code
def yX4_init : MethodName := ⟨RX4, "<init>", "()V"⟩
abbrev cX4_read : ByteArray := prog_6_method_2_code
def yX4_read : MethodName := ⟨RX4, "read", "([CI)I"⟩
abbrev cX4_take : ByteArray := prog_6_method_3_code
def yX4_take : MethodName := ⟨RX4, "take", "(C)Z"⟩
abbrev cX4_takeOperand : ByteArray := prog_6_method_4_code
def yX4_takeOperand : MethodName := ⟨RX4, "takeOperand", "(C)Z"⟩
abbrev cX4_takeInWhole : ByteArray := prog_6_method_5_code
def yX4_takeInWhole : MethodName := ⟨RX4, "takeInWhole", "(C)Z"⟩
abbrev cX4_addDigit : ByteArray := prog_6_method_6_code
def yX4_addDigit : MethodName := ⟨RX4, "addDigit", "(CII)Z"⟩
abbrev cX4_takePower : ByteArray := prog_6_method_7_code
def yX4_takePower : MethodName := ⟨RX4, "takePower", "(C)Z"⟩
abbrev cX4_takeBehind : ByteArray := prog_6_method_8_code
def yX4_takeBehind : MethodName := ⟨RX4, "takeBehind", "(C)Z"⟩
abbrev cX4_operator : ByteArray := prog_6_method_9_code
def yX4_operator : MethodName := ⟨RX4, "operator", "(II)Z"⟩
abbrev cX4_open : ByteArray := prog_6_method_10_code
def yX4_open : MethodName := ⟨RX4, "open", "(I)Z"⟩
abbrev cX4_close : ByteArray := prog_6_method_11_code
def yX4_close : MethodName := ⟨RX4, "close", "()Z"⟩
abbrev cX4_passComma : ByteArray := prog_6_method_12_code
def yX4_passComma : MethodName := ⟨RX4, "passComma", "()Z"⟩
abbrev cX4_hold : ByteArray := prog_6_method_13_code
def yX4_hold : MethodName := ⟨RX4, "hold", "(II)Z"⟩
abbrev cX4_complete : ByteArray := prog_6_method_14_code
def yX4_complete : MethodName := ⟨RX4, "complete", "(I)V"⟩
abbrev cX4_bindingOf : ByteArray := prog_6_method_15_code
def yX4_bindingOf : MethodName := ⟨RX4, "bindingOf", "(I)I"⟩
abbrev cX4_isDigit : ByteArray := prog_6_method_16_code
def yX4_isDigit : MethodName := ⟨RX4, "isDigit", "(C)Z"⟩
def RX5 : String := "AffineRanges$State"
def TX5 : u_T := fun k => match k with
  | 0 => ("AffineRanges$State", "box", "LAffineRanges$Box;", true)
  | 1 => ("AffineRanges$State", "expressions", "[LAffineRanges$Steps;", true)
  | _ => ("AffineRanges$State", "symbols", "I", false)
def tyX5 : Nat → FieldType := fun k => match k with
  | 0 => .object "AffineRanges$Box"
  | 1 => .array (.object "AffineRanges$Steps")
  | _ => .int
abbrev wsX50 : List Cond := u_ws RX5 TX5 3
theorem nmX5 : ∀ a, a < 3 → ∀ b, b < 3 → a ≠ b → (TX5 a).2.1 ≠ (TX5 b).2.1 := by decide +kernel
theorem tyX5_ok : ∀ k, k < 3 → parseFieldDescriptor (TX5 k).2.2.1 = some (tyX5 k) := by decide +kernel
abbrev cX5_init : ByteArray := prog_7_method_1_code
def yX5_init : MethodName := ⟨RX5, "<init>", "()V"⟩
abbrev cX5_copyFrom : ByteArray := prog_7_method_2_code
def yX5_copyFrom : MethodName := ⟨RX5, "copyFrom", "(LAffineRanges$State;)V"⟩
abbrev cX5_expressionSet : ByteArray := prog_7_method_3_code
def yX5_expressionSet : MethodName := ⟨RX5, "expressionSet", "()I"⟩
def RX6 : String := "AffineRanges$Steps"
def TX6 : u_T := fun k => match k with
  | 0 => ("AffineRanges$Steps", "kinds", "[I", true)
  | 1 => ("AffineRanges$Steps", "values", "[I", true)
  | _ => ("AffineRanges$Steps", "size", "I", false)
def tyX6 : Nat → FieldType := fun k => match k with
  | 0 => .array .int
  | 1 => .array .int
  | _ => .int
abbrev wsX60 : List Cond := u_ws RX6 TX6 3
theorem nmX6 : ∀ a, a < 3 → ∀ b, b < 3 → a ≠ b → (TX6 a).2.1 ≠ (TX6 b).2.1 := by decide +kernel
theorem tyX6_ok : ∀ k, k < 3 → parseFieldDescriptor (TX6 k).2.2.1 = some (tyX6 k) := by decide +kernel
abbrev cX6_init : ByteArray := prog_8_method_1_code
def yX6_init : MethodName := ⟨RX6, "<init>", "()V"⟩
abbrev cX6_copyFrom : ByteArray := prog_8_method_2_code
def yX6_copyFrom : MethodName := ⟨RX6, "copyFrom", "(LAffineRanges$Steps;)V"⟩
abbrev cX6_append : ByteArray := prog_8_method_3_code
def yX6_append : MethodName := ⟨RX6, "append", "(II)V"⟩
abbrev cX6_lastValue : ByteArray := prog_8_method_4_code
def yX6_lastValue : MethodName := ⟨RX6, "lastValue", "()I"⟩
abbrev cX6_setLastValue : ByteArray := prog_8_method_5_code
def yX6_setLastValue : MethodName := ⟨RX6, "setLastValue", "(I)V"⟩
def RX7 : String := "AffineRanges"
def TX7 : u_T := fun k => match k with
  | 0 => ("AffineRanges", "pad", "[C", true)
  | 1 => ("AffineRanges", "padLength", "I", false)
  | 2 => ("AffineRanges", "now", "LAffineRanges$State;", true)
  | 3 => ("AffineRanges", "slots", "[LAffineRanges$State;", true)
  | 4 => ("AffineRanges", "saved", "[Z", true)
  | 5 => ("AffineRanges", "reader", "LAffineRanges$Reader;", true)
  | 6 => ("AffineRanges", "machine", "LAffineRanges$Machine;", true)
  | 7 => ("AffineRanges", "list", "LAffineRanges$BoxList;", true)
  | 8 => ("AffineRanges", "proofBox", "LAffineRanges$Box;", true)
  | 9 => ("AffineRanges", "proofCount", "I", false)
  | 10 => ("AffineRanges", "point", "LAffineRanges$Box;", true)
  | 11 => ("AffineRanges", "lowerPart", "LAffineRanges$Box;", true)
  | _ => ("AffineRanges", "upperPart", "LAffineRanges$Box;", true)
def tyX7 : Nat → FieldType := fun k => match k with
  | 0 => .array .char
  | 1 => .int
  | 2 => .object "AffineRanges$State"
  | 3 => .array (.object "AffineRanges$State")
  | 4 => .array .boolean
  | 5 => .object "AffineRanges$Reader"
  | 6 => .object "AffineRanges$Machine"
  | 7 => .object "AffineRanges$BoxList"
  | 8 => .object "AffineRanges$Box"
  | 9 => .int
  | 10 => .object "AffineRanges$Box"
  | 11 => .object "AffineRanges$Box"
  | _ => .object "AffineRanges$Box"
abbrev wsX70 : List Cond := u_ws RX7 TX7 13
theorem nmX7 : ∀ a, a < 13 → ∀ b, b < 13 → a ≠ b → (TX7 a).2.1 ≠ (TX7 b).2.1 := by decide +kernel
theorem tyX7_ok : ∀ k, k < 13 → parseFieldDescriptor (TX7 k).2.2.1 = some (tyX7 k) := by decide +kernel
abbrev cX7_init : ByteArray := prog_1_method_1_code
def yX7_init : MethodName := ⟨RX7, "<init>", "()V"⟩
abbrev cX7_setDomain : ByteArray := prog_1_method_2_code
def yX7_setDomain : MethodName := ⟨RX7, "setDomain", "(III)I"⟩
abbrev cX7_domain : ByteArray := prog_1_method_3_code
def yX7_domain : MethodName := ⟨RX7, "domain", "(II)I"⟩
abbrev cX7_setSymbols : ByteArray := prog_1_method_4_code
def yX7_setSymbols : MethodName := ⟨RX7, "setSymbols", "(I)I"⟩
abbrev cX7_say : ByteArray := prog_1_method_5_code
def yX7_say : MethodName := ⟨RX7, "say", "(I)I"⟩
abbrev cX7_wipe : ByteArray := prog_1_method_6_code
def yX7_wipe : MethodName := ⟨RX7, "wipe", "()I"⟩
abbrev cX7_fault : ByteArray := prog_1_method_7_code
def yX7_fault : MethodName := ⟨RX7, "fault", "()I"⟩
abbrev cX7_load : ByteArray := prog_1_method_8_code
def yX7_load : MethodName := ⟨RX7, "load", "(I)I"⟩
abbrev cX7_step : ByteArray := prog_1_method_9_code
def yX7_step : MethodName := ⟨RX7, "step", "(III)I"⟩
abbrev cX7_inputs : ByteArray := prog_1_method_10_code
def yX7_inputs : MethodName := ⟨RX7, "inputs", "(I)I"⟩
abbrev cX7_reason : ByteArray := prog_1_method_11_code
def yX7_reason : MethodName := ⟨RX7, "reason", "(I)I"⟩
abbrev cX7_bound : ByteArray := prog_1_method_12_code
def yX7_bound : MethodName := ⟨RX7, "bound", "(III)J"⟩
abbrev cX7_part : ByteArray := prog_1_method_13_code
def yX7_part : MethodName := ⟨RX7, "part", "(II)J"⟩
abbrev cX7_trace : ByteArray := prog_1_method_14_code
def yX7_trace : MethodName := ⟨RX7, "trace", "(III)J"⟩
abbrev cX7_dominant : ByteArray := prog_1_method_15_code
def yX7_dominant : MethodName := ⟨RX7, "dominant", "(I)I"⟩
abbrev cX7_gain : ByteArray := prog_1_method_16_code
def yX7_gain : MethodName := ⟨RX7, "gain", "(I)J"⟩
abbrev cX7_sample : ByteArray := prog_1_method_17_code
def yX7_sample : MethodName := ⟨RX7, "sample", "(III)J"⟩
abbrev cX7_compare : ByteArray := prog_1_method_18_code
def yX7_compare : MethodName := ⟨RX7, "compare", "(II)I"⟩
abbrev cX7_prove : ByteArray := prog_1_method_19_code
def yX7_prove : MethodName := ⟨RX7, "prove", "(III)I"⟩
abbrev cX7_proof : ByteArray := prog_1_method_20_code
def yX7_proof : MethodName := ⟨RX7, "proof", "(I)J"⟩
abbrev cX7_tighten : ByteArray := prog_1_method_21_code
def yX7_tighten : MethodName := ⟨RX7, "tighten", "(III)J"⟩
abbrev cX7_roots : ByteArray := prog_1_method_22_code
def yX7_roots : MethodName := ⟨RX7, "roots", "(III)I"⟩
abbrev cX7_count : ByteArray := prog_1_method_23_code
def yX7_count : MethodName := ⟨RX7, "count", "(I)I"⟩
abbrev cX7_save : ByteArray := prog_1_method_24_code
def yX7_save : MethodName := ⟨RX7, "save", "(I)I"⟩
abbrev cX7_restore : ByteArray := prog_1_method_25_code
def yX7_restore : MethodName := ⟨RX7, "restore", "(I)I"⟩
abbrev cX7_find : ByteArray := prog_1_method_26_code
def yX7_find : MethodName := ⟨RX7, "find", "(I)LAffineRanges$Steps;"⟩
abbrev cX7_isMiddleAtMost : ByteArray := prog_1_method_27_code
def yX7_isMiddleAtMost : MethodName := ⟨RX7, "isMiddleAtMost", "(LAffineRanges$Steps;LAffineRanges$Box;I)Z"⟩
abbrev cX7_rank : ByteArray := prog_1_method_28_code
def yX7_rank : MethodName := ⟨RX7, "rank", "(ILAffineRanges$Box;LAffineRanges$Steps;I)V"⟩
abbrev cX7_endOf : ByteArray := prog_1_method_29_code
def yX7_endOf : MethodName := ⟨RX7, "endOf", "(LAffineRanges$Form;I)J"⟩
abbrev cX7_gone : ByteArray := prog_1_method_30_code
def yX7_gone : MethodName := ⟨RX7, "gone", "(I)J"⟩
abbrev cX7_isInput : ByteArray := prog_1_method_31_code
def yX7_isInput : MethodName := ⟨RX7, "isInput", "(I)Z"⟩
abbrev cX7_isSide : ByteArray := prog_1_method_32_code
def yX7_isSide : MethodName := ⟨RX7, "isSide", "(I)Z"⟩
def RX8 : String := "AffineRangesModel"
def TX8 : u_T := fun k => match k with
  | 0 => ("AffineRangesModel", "at", "[I", true)
  | 1 => ("AffineRangesModel", "slots", "[I", true)
  | 2 => ("AffineRangesModel", "isSaved", "[Z", true)
  | 3 => ("AffineRangesModel", "pad", "[I", true)
  | 4 => ("AffineRangesModel", "padMany", "I", false)
  | 5 => ("AffineRangesModel", "open", "[I", true)
  | 6 => ("AffineRangesModel", "opens", "I", false)
  | 7 => ("AffineRangesModel", "wait", "[I", true)
  | 8 => ("AffineRangesModel", "waits", "I", false)
  | 9 => ("AffineRangesModel", "target", "I", false)
  | 10 => ("AffineRangesModel", "form", "[J", true)
  | 11 => ("AffineRangesModel", "forms", "I", false)
  | 12 => ("AffineRangesModel", "reason", "I", false)
  | 13 => ("AffineRangesModel", "runWhat", "[I", true)
  | 14 => ("AffineRangesModel", "runValue", "[I", true)
  | 15 => ("AffineRangesModel", "runMany", "I", false)
  | 16 => ("AffineRangesModel", "boxLo", "[I", true)
  | 17 => ("AffineRangesModel", "boxHi", "[I", true)
  | 18 => ("AffineRangesModel", "traceLow", "[J", true)
  | 19 => ("AffineRangesModel", "traceHigh", "[J", true)
  | 20 => ("AffineRangesModel", "traceWild", "[Z", true)
  | 21 => ("AffineRangesModel", "list", "[I", true)
  | 22 => ("AffineRangesModel", "listMany", "I", false)
  | 23 => ("AffineRangesModel", "middle", "I", false)
  | 24 => ("AffineRangesModel", "proof", "[J", true)
  | 25 => ("AffineRangesModel", "hasProof", "Z", false)
  | 26 => ("AffineRangesModel", "aside", "[I", true)
  | 27 => ("AffineRangesModel", "listWild", "[Z", true)
  | 28 => ("AffineRangesModel", "listLow", "[J", true)
  | _ => ("AffineRangesModel", "listHigh", "[J", true)
def tyX8 : Nat → FieldType := fun k => match k with
  | 0 => .array .int
  | 1 => .array .int
  | 2 => .array .boolean
  | 3 => .array .int
  | 4 => .int
  | 5 => .array .int
  | 6 => .int
  | 7 => .array .int
  | 8 => .int
  | 9 => .int
  | 10 => .array .long
  | 11 => .int
  | 12 => .int
  | 13 => .array .int
  | 14 => .array .int
  | 15 => .int
  | 16 => .array .int
  | 17 => .array .int
  | 18 => .array .long
  | 19 => .array .long
  | 20 => .array .boolean
  | 21 => .array .int
  | 22 => .int
  | 23 => .int
  | 24 => .array .long
  | 25 => .boolean
  | 26 => .array .int
  | 27 => .array .boolean
  | 28 => .array .long
  | _ => .array .long
abbrev wsX80 : List Cond := u_ws RX8 TX8 30
theorem nmX8 : ∀ a, a < 30 → ∀ b, b < 30 → a ≠ b → (TX8 a).2.1 ≠ (TX8 b).2.1 := by decide +kernel
theorem tyX8_ok : ∀ k, k < 30 → parseFieldDescriptor (TX8 k).2.2.1 = some (tyX8 k) := by decide +kernel
abbrev cX8_init : ByteArray := prog_10_method_1_code
def yX8_init : MethodName := ⟨RX8, "<init>", "()V"⟩
abbrev cX8_in : ByteArray := prog_10_method_2_code
def yX8_in : MethodName := ⟨RX8, "in", "(III)Z"⟩
abbrev cX8_isInput : ByteArray := prog_10_method_3_code
def yX8_isInput : MethodName := ⟨RX8, "isInput", "(I)Z"⟩
abbrev cX8_isExpression : ByteArray := prog_10_method_4_code
def yX8_isExpression : MethodName := ⟨RX8, "isExpression", "(I)Z"⟩
abbrev cX8_isSide : ByteArray := prog_10_method_5_code
def yX8_isSide : MethodName := ⟨RX8, "isSide", "(I)Z"⟩
abbrev cX8_setDomain : ByteArray := prog_10_method_6_code
def yX8_setDomain : MethodName := ⟨RX8, "setDomain", "(III)I"⟩
abbrev cX8_domain : ByteArray := prog_10_method_7_code
def yX8_domain : MethodName := ⟨RX8, "domain", "(II)I"⟩
abbrev cX8_setSymbols : ByteArray := prog_10_method_8_code
def yX8_setSymbols : MethodName := ⟨RX8, "setSymbols", "(I)I"⟩
abbrev cX8_say : ByteArray := prog_10_method_9_code
def yX8_say : MethodName := ⟨RX8, "say", "(I)I"⟩
abbrev cX8_wipe : ByteArray := prog_10_method_10_code
def yX8_wipe : MethodName := ⟨RX8, "wipe", "()I"⟩
abbrev cX8_isDigit : ByteArray := prog_10_method_11_code
def yX8_isDigit : MethodName := ⟨RX8, "isDigit", "(I)Z"⟩
abbrev cX8_beginAtom : ByteArray := prog_10_method_12_code
def yX8_beginAtom : MethodName := ⟨RX8, "beginAtom", "(I)I"⟩
abbrev cX8_goOn : ByteArray := prog_10_method_13_code
def yX8_goOn : MethodName := ⟨RX8, "goOn", "(I)I"⟩
abbrev cX8_openBracket : ByteArray := prog_10_method_14_code
def yX8_openBracket : MethodName := ⟨RX8, "openBracket", "(II)I"⟩
abbrev cX8_next : ByteArray := prog_10_method_15_code
def yX8_next : MethodName := ⟨RX8, "next", "(II)I"⟩
abbrev cX8_fault : ByteArray := prog_10_method_16_code
def yX8_fault : MethodName := ⟨RX8, "fault", "()I"⟩
abbrev cX8_addStep : ByteArray := prog_10_method_17_code
def yX8_addStep : MethodName := ⟨RX8, "addStep", "(II)V"⟩
abbrev cX8_strength : ByteArray := prog_10_method_18_code
def yX8_strength : MethodName := ⟨RX8, "strength", "(I)I"⟩
abbrev cX8_release : ByteArray := prog_10_method_19_code
def yX8_release : MethodName := ⟨RX8, "release", "(I)V"⟩
abbrev cX8_hold : ByteArray := prog_10_method_20_code
def yX8_hold : MethodName := ⟨RX8, "hold", "(I)V"⟩
abbrev cX8_power : ByteArray := prog_10_method_21_code
def yX8_power : MethodName := ⟨RX8, "power", "(I)V"⟩
abbrev cX8_functionOf : ByteArray := prog_10_method_22_code
def yX8_functionOf : MethodName := ⟨RX8, "functionOf", "(I)I"⟩
abbrev cX8_takeNumber : ByteArray := prog_10_method_23_code
def yX8_takeNumber : MethodName := ⟨RX8, "takeNumber", "(I)I"⟩
abbrev cX8_laySteps : ByteArray := prog_10_method_24_code
def yX8_laySteps : MethodName := ⟨RX8, "laySteps", "()V"⟩
abbrev cX8_load : ByteArray := prog_10_method_25_code
def yX8_load : MethodName := ⟨RX8, "load", "(I)I"⟩
abbrev cX8_step : ByteArray := prog_10_method_26_code
def yX8_step : MethodName := ⟨RX8, "step", "(III)I"⟩
abbrev cX8_inputs : ByteArray := prog_10_method_27_code
def yX8_inputs : MethodName := ⟨RX8, "inputs", "(I)I"⟩
abbrev cX8_size : ByteArray := prog_10_method_28_code
def yX8_size : MethodName := ⟨RX8, "size", "(J)J"⟩
abbrev cX8_radius : ByteArray := prog_10_method_29_code
def yX8_radius : MethodName := ⟨RX8, "radius", "(I)J"⟩
abbrev cX8_bestLow : ByteArray := prog_10_method_30_code
def yX8_bestLow : MethodName := ⟨RX8, "bestLow", "(I)J"⟩
abbrev cX8_bestHigh : ByteArray := prog_10_method_31_code
def yX8_bestHigh : MethodName := ⟨RX8, "bestHigh", "(I)J"⟩
abbrev cX8_isWild : ByteArray := prog_10_method_32_code
def yX8_isWild : MethodName := ⟨RX8, "isWild", "(I)Z"⟩
abbrev cX8_clearForm : ByteArray := prog_10_method_33_code
def yX8_clearForm : MethodName := ⟨RX8, "clearForm", "(I)V"⟩
abbrev cX8_copyForm : ByteArray := prog_10_method_34_code
def yX8_copyForm : MethodName := ⟨RX8, "copyForm", "(II)V"⟩
abbrev cX8_goWild : ByteArray := prog_10_method_35_code
def yX8_goWild : MethodName := ⟨RX8, "goWild", "(II)V"⟩
abbrev cX8_layPlain : ByteArray := prog_10_method_36_code
def yX8_layPlain : MethodName := ⟨RX8, "layPlain", "(IJJ)V"⟩
abbrev cX8_negate : ByteArray := prog_10_method_37_code
def yX8_negate : MethodName := ⟨RX8, "negate", "(I)V"⟩
abbrev cX8_down : ByteArray := prog_10_method_38_code
def yX8_down : MethodName := ⟨RX8, "down", "(JJ)J"⟩
abbrev cX8_up : ByteArray := prog_10_method_39_code
def yX8_up : MethodName := ⟨RX8, "up", "(JJ)J"⟩
abbrev cX8_sum : ByteArray := prog_10_method_40_code
def yX8_sum : MethodName := ⟨RX8, "sum", "(IIZ)V"⟩
abbrev cX8_least : ByteArray := prog_10_method_41_code
def yX8_least : MethodName := ⟨RX8, "least", "(JJ)J"⟩
abbrev cX8_most : ByteArray := prog_10_method_42_code
def yX8_most : MethodName := ⟨RX8, "most", "(JJ)J"⟩
abbrev cX8_multiply : ByteArray := prog_10_method_43_code
def yX8_multiply : MethodName := ⟨RX8, "multiply", "(II)V"⟩
abbrev cX8_square : ByteArray := prog_10_method_44_code
def yX8_square : MethodName := ⟨RX8, "square", "(I)V"⟩
abbrev cX8_root : ByteArray := prog_10_method_45_code
def yX8_root : MethodName := ⟨RX8, "root", "(J)J"⟩
abbrev cX8_divide : ByteArray := prog_10_method_46_code
def yX8_divide : MethodName := ⟨RX8, "divide", "(II)V"⟩
abbrev cX8_absolute : ByteArray := prog_10_method_47_code
def yX8_absolute : MethodName := ⟨RX8, "absolute", "(I)V"⟩
abbrev cX8_squareRoot : ByteArray := prog_10_method_48_code
def yX8_squareRoot : MethodName := ⟨RX8, "squareRoot", "(I)V"⟩
abbrev cX8_extreme : ByteArray := prog_10_method_49_code
def yX8_extreme : MethodName := ⟨RX8, "extreme", "(IIZ)V"⟩
abbrev cX8_name : ByteArray := prog_10_method_50_code
def yX8_name : MethodName := ⟨RX8, "name", "()V"⟩
abbrev cX8_isGreat : ByteArray := prog_10_method_51_code
def yX8_isGreat : MethodName := ⟨RX8, "isGreat", "(J)Z"⟩
abbrev cX8_isTooLarge : ByteArray := prog_10_method_52_code
def yX8_isTooLarge : MethodName := ⟨RX8, "isTooLarge", "(I)Z"⟩
abbrev cX8_addRun : ByteArray := prog_10_method_53_code
def yX8_addRun : MethodName := ⟨RX8, "addRun", "(I)V"⟩
abbrev cX8_wholeBox : ByteArray := prog_10_method_54_code
def yX8_wholeBox : MethodName := ⟨RX8, "wholeBox", "()V"⟩
abbrev cX8_layInput : ByteArray := prog_10_method_55_code
def yX8_layInput : MethodName := ⟨RX8, "layInput", "(I)V"⟩
abbrev cX8_layNumber : ByteArray := prog_10_method_56_code
def yX8_layNumber : MethodName := ⟨RX8, "layNumber", "(I)V"⟩
abbrev cX8_operate : ByteArray := prog_10_method_57_code
def yX8_operate : MethodName := ⟨RX8, "operate", "(III)V"⟩
abbrev cX8_isOfTwo : ByteArray := prog_10_method_58_code
def yX8_isOfTwo : MethodName := ⟨RX8, "isOfTwo", "(I)Z"⟩
abbrev cX8_make : ByteArray := prog_10_method_59_code
def yX8_make : MethodName := ⟨RX8, "make", "(I)V"⟩
abbrev cX8_run : ByteArray := prog_10_method_60_code
def yX8_run : MethodName := ⟨RX8, "run", "()V"⟩
abbrev cX8_evaluate : ByteArray := prog_10_method_61_code
def yX8_evaluate : MethodName := ⟨RX8, "evaluate", "(I)V"⟩
abbrev cX8_evaluateWhole : ByteArray := prog_10_method_62_code
def yX8_evaluateWhole : MethodName := ⟨RX8, "evaluateWhole", "(I)V"⟩
abbrev cX8_reason : ByteArray := prog_10_method_63_code
def yX8_reason : MethodName := ⟨RX8, "reason", "(I)I"⟩
abbrev cX8_bound : ByteArray := prog_10_method_64_code
def yX8_bound : MethodName := ⟨RX8, "bound", "(III)J"⟩
abbrev cX8_part : ByteArray := prog_10_method_65_code
def yX8_part : MethodName := ⟨RX8, "part", "(II)J"⟩
abbrev cX8_trace : ByteArray := prog_10_method_66_code
def yX8_trace : MethodName := ⟨RX8, "trace", "(III)J"⟩
abbrev cX8_dominant : ByteArray := prog_10_method_67_code
def yX8_dominant : MethodName := ⟨RX8, "dominant", "(I)I"⟩
abbrev cX8_gain : ByteArray := prog_10_method_68_code
def yX8_gain : MethodName := ⟨RX8, "gain", "(I)J"⟩
abbrev cX8_sample : ByteArray := prog_10_method_69_code
def yX8_sample : MethodName := ⟨RX8, "sample", "(III)J"⟩
abbrev cX8_compare : ByteArray := prog_10_method_70_code
def yX8_compare : MethodName := ⟨RX8, "compare", "(II)I"⟩
abbrev cX8_keepBox : ByteArray := prog_10_method_71_code
def yX8_keepBox : MethodName := ⟨RX8, "keepBox", "(I)V"⟩
abbrev cX8_takeBox : ByteArray := prog_10_method_72_code
def yX8_takeBox : MethodName := ⟨RX8, "takeBox", "(I)V"⟩
abbrev cX8_splitInput : ByteArray := prog_10_method_73_code
def yX8_splitInput : MethodName := ⟨RX8, "splitInput", "()I"⟩
abbrev cX8_half : ByteArray := prog_10_method_74_code
def yX8_half : MethodName := ⟨RX8, "half", "(IZ)V"⟩
abbrev cX8_noteProof : ByteArray := prog_10_method_75_code
def yX8_noteProof : MethodName := ⟨RX8, "noteProof", "(II)V"⟩
abbrev cX8_isRefuted : ByteArray := prog_10_method_76_code
def yX8_isRefuted : MethodName := ⟨RX8, "isRefuted", "(II)Z"⟩
abbrev cX8_prove : ByteArray := prog_10_method_77_code
def yX8_prove : MethodName := ⟨RX8, "prove", "(III)I"⟩
abbrev cX8_takeBoxAside : ByteArray := prog_10_method_78_code
def yX8_takeBoxAside : MethodName := ⟨RX8, "takeBoxAside", "()V"⟩
abbrev cX8_putBothBack : ByteArray := prog_10_method_79_code
def yX8_putBothBack : MethodName := ⟨RX8, "putBothBack", "(I)V"⟩
abbrev cX8_proof : ByteArray := prog_10_method_80_code
def yX8_proof : MethodName := ⟨RX8, "proof", "(I)J"⟩
abbrev cX8_keepFound : ByteArray := prog_10_method_81_code
def yX8_keepFound : MethodName := ⟨RX8, "keepFound", "(II)V"⟩
abbrev cX8_worst : ByteArray := prog_10_method_82_code
def yX8_worst : MethodName := ⟨RX8, "worst", "(I)I"⟩
abbrev cX8_tighten : ByteArray := prog_10_method_83_code
def yX8_tighten : MethodName := ⟨RX8, "tighten", "(III)J"⟩
abbrev cX8_roots : ByteArray := prog_10_method_84_code
def yX8_roots : MethodName := ⟨RX8, "roots", "(III)I"⟩
abbrev cX8_expressions : ByteArray := prog_10_method_85_code
def yX8_expressions : MethodName := ⟨RX8, "expressions", "()I"⟩
abbrev cX8_wides : ByteArray := prog_10_method_86_code
def yX8_wides : MethodName := ⟨RX8, "wides", "()I"⟩
abbrev cX8_count : ByteArray := prog_10_method_87_code
def yX8_count : MethodName := ⟨RX8, "count", "(I)I"⟩
abbrev cX8_save : ByteArray := prog_10_method_88_code
def yX8_save : MethodName := ⟨RX8, "save", "(I)I"⟩
abbrev cX8_restore : ByteArray := prog_10_method_89_code
def yX8_restore : MethodName := ⟨RX8, "restore", "(I)I"⟩
def RJ9 : String := "java/lang/Math"
def TJ9 : u_T := fun k => match k with
  | _ => ("", "", "", false)
def tyJ9 : Nat → FieldType := fun k => match k with
  | _ => .int
abbrev wsJ90 : List Cond := u_ws RJ9 TJ9 0
theorem nmJ9 : ∀ a, a < 0 → ∀ b, b < 0 → a ≠ b → (TJ9 a).2.1 ≠ (TJ9 b).2.1 := by decide +kernel
theorem tyJ9_ok : ∀ k, k < 0 → parseFieldDescriptor (TJ9 k).2.2.1 = some (tyJ9 k) := by decide +kernel
abbrev cJ9_floorDiv_f86c9 : ByteArray := prog_11_method_49_code
def yJ9_floorDiv_f86c9 : MethodName := ⟨RJ9, "floorDiv", "(JJ)J"⟩
abbrev cJ9_abs_067f4 : ByteArray := prog_11_method_61_code
def yJ9_abs_067f4 : MethodName := ⟨RJ9, "abs", "(J)J"⟩
abbrev cJ9_max_f86c9 : ByteArray := prog_11_method_66_code
def yJ9_max_f86c9 : MethodName := ⟨RJ9, "max", "(JJ)J"⟩
abbrev cJ9_min_7cf53 : ByteArray := prog_11_method_69_code
def yJ9_min_7cf53 : MethodName := ⟨RJ9, "min", "(II)I"⟩
abbrev cJ9_min_f86c9 : ByteArray := prog_11_method_70_code
def yJ9_min_f86c9 : MethodName := ⟨RJ9, "min", "(JJ)J"⟩
def RJ10 : String := "java/lang/System"
def TJ10 : u_T := fun k => match k with
  | _ => ("", "", "", false)
def tyJ10 : Nat → FieldType := fun k => match k with
  | _ => .int
abbrev wsJ100 : List Cond := u_ws RJ10 TJ10 0
theorem nmJ10 : ∀ a, a < 0 → ∀ b, b < 0 → a ≠ b → (TJ10 a).2.1 ≠ (TJ10 b).2.1 := by decide +kernel
theorem tyJ10_ok : ∀ k, k < 0 → parseFieldDescriptor (TJ10 k).2.2.1 = some (tyJ10 k) := by decide +kernel
def RJ7 : String := "java/util/Arrays"
def TJ7 : u_T := fun k => match k with
  | _ => ("", "", "", false)
def tyJ7 : Nat → FieldType := fun k => match k with
  | _ => .int
abbrev wsJ70 : List Cond := u_ws RJ7 TJ7 0
theorem nmJ7 : ∀ a, a < 0 → ∀ b, b < 0 → a ≠ b → (TJ7 a).2.1 ≠ (TJ7 b).2.1 := by decide +kernel
theorem tyJ7_ok : ∀ k, k < 0 → parseFieldDescriptor (TJ7 k).2.2.1 = some (tyJ7 k) := by decide +kernel
abbrev cJ7_fill_d0a16 : ByteArray := prog_13_method_101_code
def yJ7_fill_d0a16 : MethodName := ⟨RJ7, "fill", "([JJ)V"⟩
def RL : String := "AffineRangesLaw"
abbrev cL_law : ByteArray := code
def yL_law : MethodName := ⟨RL, "law", "([I)Z"⟩

abbrev vwCl : List vw_C := [(RX0, TX0, 2), (RX1, TX1, 5), (RX2, TX2, 9), (RX3, TX3, 5), (RX4, TX4, 5), (RX5, TX5, 3), (RX6, TX6, 3), (RX7, TX7, 13), (RX8, TX8, 30)]
