/-! ===== one rule for each instruction of the class (1) ===== -/
section
variable {L : zLS} {S : List Value} {sh : zSh} {mi : zI} {mj : zJ} {mr : zR} {x y z : Int32} {u v : Int64} {o o2 : Nat} {l0 l1 l2 l3 l4 l5 l6 l7 l8 l9 l10 l11 l12 l13 l14 l15 l16 l17 l18 : Option Value}
theorem zk_0 : zM[0]? = some (yL_law, cL_law, 7, (some .boolean), 9, 10, 1, 0, 20) := rfl
theorem zk_1 : zM[1]? = some (yX0_init, cX0_init, 1, none, 0, 1, 0, 50, 23) := rfl
theorem zk_2 : zM[2]? = some (yX0_setEnds, cX0_setEnds, 4, none, 0, 1, 3, 72, 23) := rfl
theorem zk_3 : zM[3]? = some (yX0_copyFrom, cX0_copyFrom, 3, none, 0, 2, 1, 695, 23) := rfl
theorem zk_4 : zM[4]? = some (yX0_width, cX0_width, 2, (some .int), 0, 1, 1, 284, 23) := rfl
theorem zk_5 : zM[5]? = some (yX0_middle, cX0_middle, 2, (some .int), 0, 1, 1, 645, 23) := rfl
theorem zk_6 : zM[6]? = some (yX0_place, cX0_place, 3, (some .int), 0, 2, 2, 641, 23) := rfl
theorem zk_7 : zM[7]? = some (yX0_wideInputs, cX0_wideInputs, 3, (some .int), 0, 1, 0, 389, 23) := rfl
theorem zk_8 : zM[8]? = some (yX0_inputToSplit, cX0_inputToSplit, 8, (some .int), 0, 3, 1, 680, 23) := rfl
theorem zk_9 : zM[9]? = some (yX0_split, cX0_split, 5, none, 0, 3, 3, 691, 23) := rfl
theorem zk_10 : zM[10]? = some (yX1_init, cX1_init, 1, none, 1, 1, 0, 209, 28) := rfl
theorem zk_11 : zM[11]? = some (yX1_clear, cX1_clear, 1, none, 1, 1, 0, 659, 28) := rfl
theorem zk_12 : zM[12]? = some (yX1_append, cX1_append, 2, none, 1, 2, 1, 663, 28) := rfl
theorem zk_13 : zM[13]? = some (yX1_replace, cX1_replace, 3, none, 1, 1, 2, 667, 28) := rfl
theorem zk_14 : zM[14]? = some (yX1_copyTo, cX1_copyTo, 3, none, 1, 1, 2, 676, 28) := rfl
theorem zk_15 : zM[15]? = some (yX1_takeLast, cX1_takeLast, 2, (some .boolean), 1, 2, 1, 672, 28) := rfl
theorem zk_16 : zM[16]? = some (yX1_note, cX1_note, 5, none, 1, 1, 3, 732, 28) := rfl
theorem zk_17 : zM[17]? = some (yX1_worst, cX1_worst, 3, (some .int), 1, 1, 0, 736, 28) := rfl
theorem zk_18 : zM[18]? = some (yX2_init, cX2_init, 1, none, 2, 1, 0, 147, 27) := rfl
theorem zk_19 : zM[19]? = some (yX2_becomeWild, cX2_becomeWild, 2, none, 2, 1, 1, 475, 27) := rfl
theorem zk_20 : zM[20]? = some (yX2_measure, cX2_measure, 2, none, 2, 2, 0, 545, 27) := rfl
theorem zk_21 : zM[21]? = some (yX2_bestEnd, cX2_bestEnd, 2, (some .long), 2, 1, 1, 583, 27) := rfl
theorem zk_22 : zM[22]? = some (yX2_holdsZero, cX2_holdsZero, 1, (some .boolean), 2, 1, 0, 532, 27) := rfl
theorem zk_23 : zM[23]? = some (yX2_weight, cX2_weight, 2, (some .long), 2, 2, 1, 570, 27) := rfl
theorem zk_24 : zM[24]? = some (yX2_condense, cX2_condense, 2, none, 2, 3, 1, 574, 27) := rfl
theorem zk_25 : zM[25]? = some (yX2_nameLoosePart, cX2_nameLoosePart, 2, none, 2, 1, 1, 459, 27) := rfl
theorem zk_26 : zM[26]? = some (yX2_setRange, cX2_setRange, 5, none, 2, 2, 2, 452, 27) := rfl
theorem zk_27 : zM[27]? = some (yX2_setNumber, cX2_setNumber, 3, none, 2, 2, 1, 441, 27) := rfl
theorem zk_28 : zM[28]? = some (yX2_setInput, cX2_setInput, 4, none, 2, 3, 3, 448, 27) := rfl
theorem zk_29 : zM[29]? = some (yX2_copyFrom, cX2_copyFrom, 2, none, 2, 1, 1, 467, 27) := rfl
theorem zk_30 : zM[30]? = some (yX2_add, cX2_add, 4, none, 2, 1, 2, 520, 27) := rfl
theorem zk_31 : zM[31]? = some (yX2_subtract, cX2_subtract, 4, none, 2, 1, 2, 524, 27) := rfl
theorem zk_32 : zM[32]? = some (yX2_negate, cX2_negate, 3, none, 2, 1, 1, 479, 27) := rfl
theorem zk_33 : zM[33]? = some (yX2_multiply, cX2_multiply, 17, none, 2, 2, 2, 528, 27) := rfl
theorem zk_34 : zM[34]? = some (yX2_square, cX2_square, 10, none, 2, 2, 1, 483, 27) := rfl
theorem zk_35 : zM[35]? = some (yX2_invert, cX2_invert, 2, none, 2, 3, 1, 536, 27) := rfl
theorem zk_36 : zM[36]? = some (yX2_absolute, cX2_absolute, 2, none, 2, 3, 1, 501, 27) := rfl
theorem zk_37 : zM[37]? = some (yX2_root, cX2_root, 6, none, 2, 3, 1, 507, 27) := rfl
theorem zk_38 : zM[38]? = some (yX2_least, cX2_least, 3, none, 2, 3, 2, 554, 27) := rfl
theorem zk_39 : zM[39]? = some (yX2_greatest, cX2_greatest, 3, none, 2, 3, 2, 558, 27) := rfl
theorem zk_40 : zM[40]? = some (yX2_isLarge, cX2_isLarge, 2, (some .boolean), 2, 1, 1, 548, 27) := rfl
theorem zk_41 : zM[41]? = some (yX2_roundings, cX2_roundings, 3, (some .int), 2, 1, 2, 487, 27) := rfl
theorem zk_42 : zM[42]? = some (yX2_roundedUp, cX2_roundedUp, 3, (some .long), 2, 1, 2, 494, 27) := rfl
theorem zk_43 : zM[43]? = some (yX2_rootDown, cX2_rootDown, 7, (some .long), 2, 1, 1, 512, 27) := rfl
theorem zk_44 : zM[44]? = some (yX3_init, cX3_init, 2, none, 3, 2, 0, 140, 26) := rfl
theorem zk_45 : zM[45]? = some (yX3_evaluate, cX3_evaluate, 6, (some (.object "AffineRanges$Form")), 3, 6, 4, 430, 26) := rfl
theorem zk_46 : zM[46]? = some (yX3_difference, cX3_difference, 6, (some (.object "AffineRanges$Form")), 3, 7, 4, 612, 26) := rfl
theorem zk_47 : zM[47]? = some (yX3_top, cX3_top, 1, (some (.object "AffineRanges$Form")), 3, 1, 0, 463, 26) := rfl
theorem zk_48 : zM[48]? = some (yX3_perform, cX3_perform, 6, none, 3, 5, 3, 434, 26) := rfl
theorem zk_49 : zM[49]? = some (yX3_operands, cX3_operands, 1, (some .int), 3, 1, 1, 437, 26) := rfl
theorem zk_50 : zM[50]? = some (yX3_change, cX3_change, 3, none, 3, 4, 3, 471, 26) := rfl
theorem zk_51 : zM[51]? = some (yX3_combine, cX3_combine, 5, none, 3, 4, 4, 516, 26) := rfl
theorem zk_52 : zM[52]? = some (yX3_nameLoosePart, cX3_nameLoosePart, 8, none, 3, 4, 1, 562, 26) := rfl
theorem zk_53 : zM[53]? = some (yX3_weightOf, cX3_weightOf, 5, (some .long), 3, 3, 1, 566, 26) := rfl
theorem zk_54 : zM[54]? = some (yX4_init, cX4_init, 1, none, 4, 2, 0, 114, 25) := rfl
theorem zk_55 : zM[55]? = some (yX4_read, cX4_read, 5, (some .int), 4, 6, 2, 297, 25) := rfl
theorem zk_56 : zM[56]? = some (yX4_take, cX4_take, 2, (some .boolean), 4, 5, 1, 304, 25) := rfl
theorem zk_57 : zM[57]? = some (yX4_takeOperand, cX4_takeOperand, 2, (some .boolean), 4, 3, 1, 312, 25) := rfl
theorem zk_58 : zM[58]? = some (yX4_takeInWhole, cX4_takeInWhole, 3, (some .boolean), 4, 3, 1, 339, 25) := rfl
theorem zk_59 : zM[59]? = some (yX4_addDigit, cX4_addDigit, 4, (some .boolean), 4, 2, 3, 323, 25) := rfl
theorem zk_60 : zM[60]? = some (yX4_takePower, cX4_takePower, 2, (some .boolean), 4, 2, 1, 366, 25) := rfl
theorem zk_61 : zM[61]? = some (yX4_takeBehind, cX4_takeBehind, 2, (some .boolean), 4, 4, 1, 343, 25) := rfl
theorem zk_62 : zM[62]? = some (yX4_operator, cX4_operator, 3, (some .boolean), 4, 3, 2, 347, 25) := rfl
theorem zk_63 : zM[63]? = some (yX4_open, cX4_open, 2, (some .boolean), 4, 1, 1, 335, 25) := rfl
theorem zk_64 : zM[64]? = some (yX4_close, cX4_close, 2, (some .boolean), 4, 3, 0, 358, 25) := rfl
theorem zk_65 : zM[65]? = some (yX4_passComma, cX4_passComma, 1, (some .boolean), 4, 3, 0, 362, 25) := rfl
theorem zk_66 : zM[66]? = some (yX4_hold, cX4_hold, 3, (some .boolean), 4, 1, 2, 308, 25) := rfl
theorem zk_67 : zM[67]? = some (yX4_complete, cX4_complete, 2, none, 4, 2, 1, 351, 25) := rfl
theorem zk_68 : zM[68]? = some (yX4_bindingOf, cX4_bindingOf, 1, (some .int), 4, 1, 1, 354, 25) := rfl
theorem zk_69 : zM[69]? = some (yX4_isDigit, cX4_isDigit, 1, (some .boolean), 4, 1, 1, 319, 25) := rfl
theorem zk_70 : zM[70]? = some (yX5_init, cX5_init, 2, none, 5, 2, 0, 44, 22) := rfl
theorem zk_71 : zM[71]? = some (yX5_copyFrom, cX5_copyFrom, 3, none, 5, 3, 1, 711, 22) := rfl
theorem zk_72 : zM[72]? = some (yX5_expressionSet, cX5_expressionSet, 3, (some .int), 5, 1, 0, 385, 22) := rfl
theorem zk_73 : zM[73]? = some (yX6_init, cX6_init, 1, none, 6, 1, 0, 76, 24) := rfl
theorem zk_74 : zM[74]? = some (yX6_copyFrom, cX6_copyFrom, 2, none, 6, 1, 1, 374, 24) := rfl
theorem zk_75 : zM[75]? = some (yX6_append, cX6_append, 3, none, 6, 1, 2, 316, 24) := rfl
theorem zk_76 : zM[76]? = some (yX6_lastValue, cX6_lastValue, 1, (some .int), 6, 1, 0, 327, 24) := rfl
theorem zk_77 : zM[77]? = some (yX6_setLastValue, cX6_setLastValue, 2, none, 6, 1, 1, 331, 24) := rfl
theorem zk_78 : zM[78]? = some (yX7_init, cX7_init, 2, none, 7, 3, 0, 36, 21) := rfl
theorem zk_79 : zM[79]? = some (yX7_setDomain, cX7_setDomain, 5, (some .int), 7, 2, 3, 275, 21) := rfl
theorem zk_80 : zM[80]? = some (yX7_domain, cX7_domain, 3, (some .int), 7, 2, 2, 587, 21) := rfl
theorem zk_81 : zM[81]? = some (yX7_setSymbols, cX7_setSymbols, 3, (some .int), 7, 1, 1, 289, 21) := rfl
theorem zk_82 : zM[82]? = some (yX7_say, cX7_say, 2, (some .int), 7, 1, 1, 404, 21) := rfl
theorem zk_83 : zM[83]? = some (yL_cell, cL_cell, 2, (some .int), 9, 1, 2, 392, 20) := rfl
theorem zk_84 : zM[84]? = some (yX7_fault, cX7_fault, 1, (some .int), 7, 7, 0, 293, 21) := rfl
theorem zk_85 : zM[85]? = some (yX7_load, cX7_load, 2, (some .int), 7, 7, 1, 370, 21) := rfl
theorem zk_86 : zM[86]? = some (yX7_step, cX7_step, 5, (some .int), 7, 2, 3, 411, 21) := rfl
theorem zk_87 : zM[87]? = some (yX7_inputs, cX7_inputs, 6, (some .int), 7, 2, 1, 596, 21) := rfl
theorem zk_88 : zM[88]? = some (yX7_reason, cX7_reason, 3, (some .int), 7, 7, 1, 600, 21) := rfl
theorem zk_89 : zM[89]? = some (yX7_bound, cX7_bound, 6, (some .long), 7, 7, 3, 604, 21) := rfl
theorem zk_90 : zM[90]? = some (yX7_part, cX7_part, 5, (some .long), 7, 7, 2, 617, 21) := rfl
theorem zk_91 : zM[91]? = some (yX7_trace, cX7_trace, 5, (some .long), 7, 7, 3, 419, 21) := rfl
theorem zk_92 : zM[92]? = some (yX7_dominant, cX7_dominant, 10, (some .int), 7, 7, 1, 629, 21) := rfl
theorem zk_93 : zM[93]? = some (yX7_gain, cX7_gain, 4, (some .long), 7, 7, 1, 624, 21) := rfl
theorem zk_94 : zM[94]? = some (yX7_sample, cX7_sample, 7, (some .long), 7, 7, 3, 637, 21) := rfl
theorem zk_95 : zM[95]? = some (yX7_compare, cX7_compare, 6, (some .int), 7, 8, 2, 608, 21) := rfl
theorem zk_96 : zM[96]? = some (yX7_prove, cX7_prove, 8, (some .int), 7, 8, 3, 654, 21) := rfl
theorem zk_97 : zM[97]? = some (yX7_proof, cX7_proof, 2, (some .long), 7, 2, 1, 700, 21) := rfl
theorem zk_98 : zM[98]? = some (yX7_tighten, cX7_tighten, 8, (some .long), 7, 8, 3, 724, 21) := rfl
theorem zk_99 : zM[99]? = some (yX7_roots, cX7_roots, 10, (some .int), 7, 7, 3, 745, 21) := rfl
theorem zk_100 : zM[100]? = some (yX7_count, cX7_count, 2, (some .int), 7, 2, 1, 381, 21) := rfl
theorem zk_101 : zM[101]? = some (yX7_save, cX7_save, 2, (some .int), 7, 4, 1, 707, 21) := rfl
theorem zk_102 : zM[102]? = some (yX7_restore, cX7_restore, 2, (some .int), 7, 4, 1, 717, 21) := rfl
theorem zk_103 : zM[103]? = some (yX7_find, cX7_find, 3, (some (.object "AffineRanges$Steps")), 7, 1, 1, 415, 21) := rfl
theorem zk_104 : zM[104]? = some (yX7_isMiddleAtMost, cX7_isMiddleAtMost, 6, (some .boolean), 7, 7, 3, 686, 21) := rfl
theorem zk_105 : zM[105]? = some (yX7_rank, cX7_rank, 8, none, 7, 7, 4, 728, 21) := rfl
theorem zk_106 : zM[106]? = some (yX7_endOf, cX7_endOf, 2, (some .long), 7, 2, 2, 579, 21) := rfl
theorem zk_107 : zM[107]? = some (yX7_gone, cX7_gone, 1, (some .long), 7, 1, 1, 422, 21) := rfl
theorem zk_108 : zM[108]? = some (yX7_isInput, cX7_isInput, 1, (some .boolean), 7, 1, 1, 278, 21) := rfl
theorem zk_109 : zM[109]? = some (yX7_isSide, cX7_isSide, 1, (some .boolean), 7, 1, 1, 426, 21) := rfl
theorem zk_110 : zM[110]? = some (yJ9_floorDiv_f86c9, cJ9_floorDiv_f86c9, 6, (some .long), 10, 1, 2, 540, 29) := rfl
theorem zk_111 : zM[111]? = some (yJ9_abs_067f4, cJ9_abs_067f4, 2, (some .long), 10, 1, 1, 491, 29) := rfl
theorem zk_112 : zM[112]? = some (yJ9_max_f86c9, cJ9_max_f86c9, 4, (some .long), 10, 1, 2, 455, 29) := rfl
theorem zk_113 : zM[113]? = some (yJ9_min_7cf53, cJ9_min_7cf53, 2, (some .int), 10, 1, 2, 300, 29) := rfl
theorem zk_114 : zM[114]? = some (yJ9_min_f86c9, cJ9_min_f86c9, 4, (some .long), 10, 1, 2, 497, 29) := rfl
theorem zk_115 : zM[115]? = some (yJ7_fill_d0a16, cJ7_fill_d0a16, 5, none, 11, 1, 2, 444, 31) := rfl
theorem zk_116 : zM[116]? = some (yL_up, cL_up, 2, (some .int), 9, 1, 2, 396, 20) := rfl
theorem zk_117 : zM[117]? = some (yL_text, cL_text, 11, (some .int), 9, 2, 3, 400, 20) := rfl
theorem zk_118 : zM[118]? = some (yL_abs, cL_abs, 2, (some .long), 9, 1, 1, 620, 20) := rfl
theorem zk_119 : zM[119]? = some (yL_parts, cL_parts, 16, (some .boolean), 9, 9, 2, 407, 20) := rfl
theorem zk_120 : zM[120]? = some (yL_meets, cL_meets, 9, (some .boolean), 9, 8, 3, 633, 20) := rfl
theorem zk_121 : zM[121]? = some (yL_proves, cL_proves, 12, (some .boolean), 9, 9, 4, 648, 20) := rfl
theorem zk_122 : zM[122]? = some (yL_isPoint, cL_isPoint, 3, (some .boolean), 9, 3, 1, 703, 20) := rfl
theorem zk_123 : zM[123]? = some (yL_tightens, cL_tightens, 12, (some .boolean), 9, 9, 3, 720, 20) := rfl
theorem zk_124 : zM[124]? = some (yL_zeros, cL_zeros, 9, (some .boolean), 9, 8, 3, 741, 20) := rfl
theorem zk_125 : zM[125]? = some (yL_compares, cL_compares, 13, (some .boolean), 9, 9, 3, 750, 20) := rfl
theorem zk_126 : zM[126]? = some (yL_saved, cL_saved, 9, (some .boolean), 9, 8, 2, 753, 20) := rfl
theorem zk_127 : zM[127]? = some (yL_refused, cL_refused, 3, (some .boolean), 9, 9, 2, 756, 20) := rfl
theorem d_1_0 : decode cX0_init 0 = .ok (.aload_n 0, 1) := by decide +kernel
theorem d_1_1 : decode cX0_init 1 = .ok (.invokespecial 3, 3) := by decide +kernel
theorem d_1_4 : decode cX0_init 4 = .ok (.aload_n 0, 1) := by decide +kernel
theorem d_1_5 : decode cX0_init 5 = .ok (.iconst 4, 1) := by decide +kernel
theorem d_1_6 : decode cX0_init 6 = .ok (.newarray .int, 2) := by decide +kernel
theorem d_1_8 : decode cX0_init 8 = .ok (.putfield 9, 3) := by decide +kernel
theorem d_1_11 : decode cX0_init 11 = .ok (.aload_n 0, 1) := by decide +kernel
theorem d_1_12 : decode cX0_init 12 = .ok (.iconst 4, 1) := by decide +kernel
theorem d_1_13 : decode cX0_init 13 = .ok (.newarray .int, 2) := by decide +kernel
theorem d_1_15 : decode cX0_init 15 = .ok (.putfield 15, 3) := by decide +kernel
theorem d_1_18 : decode cX0_init 18 = .ok (.return_, 1) := by decide +kernel
theorem q_1_0r : zRun 1 0 [some (.ref o)] S sh mi mj mr = zRun 1 1 [some (.ref o)] (.ref o :: S) sh mi mj mr := zr_l (zD_of zk_1 d_1_0 rfl rfl) rfl rfl rfl
theorem q_1_0n : zRun 1 0 [some (.null)] S sh mi mj mr = zRun 1 1 [some (.null)] (.null :: S) sh mi mj mr := zr_l (zD_of zk_1 d_1_0 rfl rfl) rfl rfl rfl
theorem q_1_1 (h : zcat S ≤ 8) : zRun 1 1 L (.ref o :: S) sh mi mj mr = zRun 1 4 L S sh mi mj mr := zr_obj (zD_of zk_1 d_1_1 rfl rfl) rfl h
theorem q_1_4r : zRun 1 4 [some (.ref o)] S sh mi mj mr = zRun 1 5 [some (.ref o)] (.ref o :: S) sh mi mj mr := zr_l (zD_of zk_1 d_1_4 rfl rfl) rfl rfl rfl
theorem q_1_4n : zRun 1 4 [some (.null)] S sh mi mj mr = zRun 1 5 [some (.null)] (.null :: S) sh mi mj mr := zr_l (zD_of zk_1 d_1_4 rfl rfl) rfl rfl rfl
theorem q_1_5  : zRun 1 5 L S sh mi mj mr = zRun 1 6 L (.int 4 :: S) sh mi mj mr := zr_p (zD_of zk_1 d_1_5 rfl rfl) rfl
theorem q_1_6 (h : 0 ≤ x ∧ x ≤ 100000) : zRun 1 6 L (.int x :: S) sh mi mj mr = zRun 1 8 L (.ref sh.length :: S) (sh ++ [(1, x.toNatClampNeg)]) mi mj mr := zr_w (zD_of zk_1 d_1_6 rfl rfl) rfl rfl rfl rfl (if_pos h)
theorem q_1_8 (h : zIs sh o 0 0) : zRun 1 8 L (.ref o2 :: .ref o :: S) sh mi mj mr = zRun 1 11 L S sh mi mj (zup mr o 0 (some o2)) := zr_putR (zD_of zk_1 d_1_8 rfl rfl) rfl rfl rfl (Or.inr ⟨rfl, rfl⟩) h
theorem q_1_11r : zRun 1 11 [some (.ref o)] S sh mi mj mr = zRun 1 12 [some (.ref o)] (.ref o :: S) sh mi mj mr := zr_l (zD_of zk_1 d_1_11 rfl rfl) rfl rfl rfl
theorem q_1_11n : zRun 1 11 [some (.null)] S sh mi mj mr = zRun 1 12 [some (.null)] (.null :: S) sh mi mj mr := zr_l (zD_of zk_1 d_1_11 rfl rfl) rfl rfl rfl
theorem q_1_12  : zRun 1 12 L S sh mi mj mr = zRun 1 13 L (.int 4 :: S) sh mi mj mr := zr_p (zD_of zk_1 d_1_12 rfl rfl) rfl
theorem q_1_13 (h : 0 ≤ x ∧ x ≤ 100000) : zRun 1 13 L (.int x :: S) sh mi mj mr = zRun 1 15 L (.ref sh.length :: S) (sh ++ [(1, x.toNatClampNeg)]) mi mj mr := zr_w (zD_of zk_1 d_1_13 rfl rfl) rfl rfl rfl rfl (if_pos h)
theorem q_1_15 (h : zIs sh o 0 0) : zRun 1 15 L (.ref o2 :: .ref o :: S) sh mi mj mr = zRun 1 18 L S sh mi mj (zup mr o 1 (some o2)) := zr_putR (zD_of zk_1 d_1_15 rfl rfl) rfl rfl rfl (Or.inr ⟨rfl, rfl⟩) h
theorem q_1_18  : zRun 1 18 L [] sh mi mj mr = some (none, sh, mi, mj, mr) := zr_ret (zD_of zk_1 d_1_18 rfl rfl) rfl rfl rfl rfl rfl rfl
theorem e_1 : zCall 1 [.ref o] sh mi mj mr = zRun 1 0 [some (.ref o)] [] sh mi mj mr := rfl
theorem d_2_0 : decode cX0_setEnds 0 = .ok (.aload_n 0, 1) := by decide +kernel
theorem d_2_1 : decode cX0_setEnds 1 = .ok (.getfield 9, 3) := by decide +kernel
theorem d_2_4 : decode cX0_setEnds 4 = .ok (.iload_n 1, 1) := by decide +kernel
theorem d_2_5 : decode cX0_setEnds 5 = .ok (.iload_n 2, 1) := by decide +kernel
theorem d_2_6 : decode cX0_setEnds 6 = .ok (.iastore, 1) := by decide +kernel
theorem d_2_7 : decode cX0_setEnds 7 = .ok (.aload_n 0, 1) := by decide +kernel
theorem d_2_8 : decode cX0_setEnds 8 = .ok (.getfield 15, 3) := by decide +kernel
theorem d_2_11 : decode cX0_setEnds 11 = .ok (.iload_n 1, 1) := by decide +kernel
theorem d_2_12 : decode cX0_setEnds 12 = .ok (.iload_n 3, 1) := by decide +kernel
theorem d_2_13 : decode cX0_setEnds 13 = .ok (.iastore, 1) := by decide +kernel
theorem d_2_14 : decode cX0_setEnds 14 = .ok (.return_, 1) := by decide +kernel
theorem q_2_0r : zRun 2 0 [some (.ref o), l1, l2, l3] S sh mi mj mr = zRun 2 1 [some (.ref o), l1, l2, l3] (.ref o :: S) sh mi mj mr := zr_l (zD_of zk_2 d_2_0 rfl rfl) rfl rfl rfl
theorem q_2_0n : zRun 2 0 [some (.null), l1, l2, l3] S sh mi mj mr = zRun 2 1 [some (.null), l1, l2, l3] (.null :: S) sh mi mj mr := zr_l (zD_of zk_2 d_2_0 rfl rfl) rfl rfl rfl
theorem q_2_1 (h : zIs sh o 0 0) : zRun 2 1 L (.ref o :: S) sh mi mj mr = zRun 2 4 L (va_rf (mr o 0) :: S) sh mi mj mr := zr_getR (zD_of zk_2 d_2_1 rfl rfl) rfl rfl rfl h
theorem q_2_4 : zRun 2 4 [l0, some (.int x), l2, l3] S sh mi mj mr = zRun 2 5 [l0, some (.int x), l2, l3] (.int x :: S) sh mi mj mr := zr_l (zD_of zk_2 d_2_4 rfl rfl) rfl rfl rfl
theorem q_2_5 : zRun 2 5 [l0, l1, some (.int x), l3] S sh mi mj mr = zRun 2 6 [l0, l1, some (.int x), l3] (.int x :: S) sh mi mj mr := zr_l (zD_of zk_2 d_2_5 rfl rfl) rfl rfl rfl
theorem q_2_6 (h : zAt sh o 1 x) : zRun 2 6 L (.int y :: .int x :: .ref o :: S) sh mi mj mr = zRun 2 7 L S sh (zup mi o x.toNatClampNeg y) mj mr := zr_iast (zD_of zk_2 d_2_6 rfl rfl) h
theorem q_2_7r : zRun 2 7 [some (.ref o), l1, l2, l3] S sh mi mj mr = zRun 2 8 [some (.ref o), l1, l2, l3] (.ref o :: S) sh mi mj mr := zr_l (zD_of zk_2 d_2_7 rfl rfl) rfl rfl rfl
theorem q_2_7n : zRun 2 7 [some (.null), l1, l2, l3] S sh mi mj mr = zRun 2 8 [some (.null), l1, l2, l3] (.null :: S) sh mi mj mr := zr_l (zD_of zk_2 d_2_7 rfl rfl) rfl rfl rfl
theorem q_2_8 (h : zIs sh o 0 0) : zRun 2 8 L (.ref o :: S) sh mi mj mr = zRun 2 11 L (va_rf (mr o 1) :: S) sh mi mj mr := zr_getR (zD_of zk_2 d_2_8 rfl rfl) rfl rfl rfl h
theorem q_2_11 : zRun 2 11 [l0, some (.int x), l2, l3] S sh mi mj mr = zRun 2 12 [l0, some (.int x), l2, l3] (.int x :: S) sh mi mj mr := zr_l (zD_of zk_2 d_2_11 rfl rfl) rfl rfl rfl
theorem q_2_12 : zRun 2 12 [l0, l1, l2, some (.int x)] S sh mi mj mr = zRun 2 13 [l0, l1, l2, some (.int x)] (.int x :: S) sh mi mj mr := zr_l (zD_of zk_2 d_2_12 rfl rfl) rfl rfl rfl
theorem q_2_13 (h : zAt sh o 1 x) : zRun 2 13 L (.int y :: .int x :: .ref o :: S) sh mi mj mr = zRun 2 14 L S sh (zup mi o x.toNatClampNeg y) mj mr := zr_iast (zD_of zk_2 d_2_13 rfl rfl) h
theorem q_2_14  : zRun 2 14 L [] sh mi mj mr = some (none, sh, mi, mj, mr) := zr_ret (zD_of zk_2 d_2_14 rfl rfl) rfl rfl rfl rfl rfl rfl
theorem e_2 {x0 x1 x2 : Int32} : zCall 2 [.ref o, .int x0, .int x1, .int x2] sh mi mj mr = zRun 2 0 [some (.ref o), some (.int x0), some (.int x1), some (.int x2)] [] sh mi mj mr := rfl
theorem d_3_0 : decode cX0_copyFrom 0 = .ok (.iconst 0, 1) := by decide +kernel
theorem d_3_1 : decode cX0_copyFrom 1 = .ok (.istore_n 2, 1) := by decide +kernel
theorem d_3_2 : decode cX0_copyFrom 2 = .ok (.iload_n 2, 1) := by decide +kernel
theorem d_3_3 : decode cX0_copyFrom 3 = .ok (.iconst 4, 1) := by decide +kernel
theorem d_3_4 : decode cX0_copyFrom 4 = .ok (.if_icmp .ge 26, 3) := by decide +kernel
theorem d_3_7 : decode cX0_copyFrom 7 = .ok (.aload_n 0, 1) := by decide +kernel
theorem d_3_8 : decode cX0_copyFrom 8 = .ok (.iload_n 2, 1) := by decide +kernel
theorem d_3_9 : decode cX0_copyFrom 9 = .ok (.aload_n 1, 1) := by decide +kernel
theorem d_3_10 : decode cX0_copyFrom 10 = .ok (.getfield 9, 3) := by decide +kernel
theorem d_3_13 : decode cX0_copyFrom 13 = .ok (.iload_n 2, 1) := by decide +kernel
theorem d_3_14 : decode cX0_copyFrom 14 = .ok (.iaload, 1) := by decide +kernel
theorem d_3_15 : decode cX0_copyFrom 15 = .ok (.aload_n 1, 1) := by decide +kernel
theorem d_3_16 : decode cX0_copyFrom 16 = .ok (.getfield 15, 3) := by decide +kernel
theorem d_3_19 : decode cX0_copyFrom 19 = .ok (.iload_n 2, 1) := by decide +kernel
theorem d_3_20 : decode cX0_copyFrom 20 = .ok (.iaload, 1) := by decide +kernel
theorem d_3_21 : decode cX0_copyFrom 21 = .ok (.invokevirtual 18, 3) := by decide +kernel
theorem d_3_24 : decode cX0_copyFrom 24 = .ok (.iinc 2 1, 3) := by decide +kernel
theorem d_3_27 : decode cX0_copyFrom 27 = .ok (.goto (-25), 3) := by decide +kernel
theorem d_3_30 : decode cX0_copyFrom 30 = .ok (.return_, 1) := by decide +kernel
theorem q_3_0  : zRun 3 0 L S sh mi mj mr = zRun 3 1 L (.int 0 :: S) sh mi mj mr := zr_p (zD_of zk_3 d_3_0 rfl rfl) rfl
theorem q_3_1 : zRun 3 1 [l0, l1, l2] (.int x :: S) sh mi mj mr = zRun 3 2 [l0, zk2 l1, some (.int x)] S sh mi mj mr := zr_s1 (i := 2) (v := .int x) (L := [l0, l1, l2]) (zD_of zk_3 d_3_1 rfl rfl) rfl rfl rfl rfl
theorem q_3_2 : zRun 3 2 [l0, l1, some (.int x)] S sh mi mj mr = zRun 3 3 [l0, l1, some (.int x)] (.int x :: S) sh mi mj mr := zr_l (zD_of zk_3 d_3_2 rfl rfl) rfl rfl rfl
theorem q_3_3  : zRun 3 3 L S sh mi mj mr = zRun 3 4 L (.int 4 :: S) sh mi mj mr := zr_p (zD_of zk_3 d_3_3 rfl rfl) rfl
theorem q_3_4  : zRun 3 4 L (.int y :: .int x :: S) sh mi mj mr = if y ≤ x then zRun 3 30 L S sh mi mj mr else zRun 3 7 L S sh mi mj mr := zr_if (off := 26) (P := y ≤ x) (zD_of zk_3 d_3_4 rfl rfl) rfl rfl (by decide)
theorem q_3_7r : zRun 3 7 [some (.ref o), l1, l2] S sh mi mj mr = zRun 3 8 [some (.ref o), l1, l2] (.ref o :: S) sh mi mj mr := zr_l (zD_of zk_3 d_3_7 rfl rfl) rfl rfl rfl
theorem q_3_7n : zRun 3 7 [some (.null), l1, l2] S sh mi mj mr = zRun 3 8 [some (.null), l1, l2] (.null :: S) sh mi mj mr := zr_l (zD_of zk_3 d_3_7 rfl rfl) rfl rfl rfl
theorem q_3_8 : zRun 3 8 [l0, l1, some (.int x)] S sh mi mj mr = zRun 3 9 [l0, l1, some (.int x)] (.int x :: S) sh mi mj mr := zr_l (zD_of zk_3 d_3_8 rfl rfl) rfl rfl rfl
theorem q_3_9r : zRun 3 9 [l0, some (.ref o), l2] S sh mi mj mr = zRun 3 10 [l0, some (.ref o), l2] (.ref o :: S) sh mi mj mr := zr_l (zD_of zk_3 d_3_9 rfl rfl) rfl rfl rfl
theorem q_3_9n : zRun 3 9 [l0, some (.null), l2] S sh mi mj mr = zRun 3 10 [l0, some (.null), l2] (.null :: S) sh mi mj mr := zr_l (zD_of zk_3 d_3_9 rfl rfl) rfl rfl rfl
theorem q_3_10 (h : zIs sh o 0 0) : zRun 3 10 L (.ref o :: S) sh mi mj mr = zRun 3 13 L (va_rf (mr o 0) :: S) sh mi mj mr := zr_getR (zD_of zk_3 d_3_10 rfl rfl) rfl rfl rfl h
theorem q_3_13 : zRun 3 13 [l0, l1, some (.int x)] S sh mi mj mr = zRun 3 14 [l0, l1, some (.int x)] (.int x :: S) sh mi mj mr := zr_l (zD_of zk_3 d_3_13 rfl rfl) rfl rfl rfl
theorem q_3_14 (h : zAt sh o 1 x) : zRun 3 14 L (.int x :: .ref o :: S) sh mi mj mr = zRun 3 15 L (.int (mi o x.toNatClampNeg) :: S) sh mi mj mr := zr_iald (zD_of zk_3 d_3_14 rfl rfl) h
theorem q_3_15r : zRun 3 15 [l0, some (.ref o), l2] S sh mi mj mr = zRun 3 16 [l0, some (.ref o), l2] (.ref o :: S) sh mi mj mr := zr_l (zD_of zk_3 d_3_15 rfl rfl) rfl rfl rfl
theorem q_3_15n : zRun 3 15 [l0, some (.null), l2] S sh mi mj mr = zRun 3 16 [l0, some (.null), l2] (.null :: S) sh mi mj mr := zr_l (zD_of zk_3 d_3_15 rfl rfl) rfl rfl rfl
theorem q_3_16 (h : zIs sh o 0 0) : zRun 3 16 L (.ref o :: S) sh mi mj mr = zRun 3 19 L (va_rf (mr o 1) :: S) sh mi mj mr := zr_getR (zD_of zk_3 d_3_16 rfl rfl) rfl rfl rfl h
theorem q_3_19 : zRun 3 19 [l0, l1, some (.int x)] S sh mi mj mr = zRun 3 20 [l0, l1, some (.int x)] (.int x :: S) sh mi mj mr := zr_l (zD_of zk_3 d_3_19 rfl rfl) rfl rfl rfl
theorem q_3_20 (h : zAt sh o 1 x) : zRun 3 20 L (.int x :: .ref o :: S) sh mi mj mr = zRun 3 21 L (.int (mi o x.toNatClampNeg) :: S) sh mi mj mr := zr_iald (zD_of zk_3 d_3_20 rfl rfl) h
theorem q_3_21  {x0 x1 x2 : Int32} (hS : zcat S ≤ 8) (h : zIs sh o 0 0) : zRun 3 21 L (.int x2 :: .int x1 :: .int x0 :: .ref o :: S) sh mi mj mr = (zCall 2 [.ref o, .int x0, .int x1, .int x2] sh mi mj mr).bind fun r => zRun 3 24 L (r.1.toList ++ S) r.2.1 r.2.2.1 r.2.2.2.1 r.2.2.2.2 := zr_V (zD_of zk_3 d_3_21 rfl rfl) rfl zk_2 rfl rfl rfl hS h
theorem q_3_24  : zRun 3 24 [l0, l1, some (.int x)] S sh mi mj mr = zRun 3 27 [l0, zk2 l1, some (.int (x + 1))] S sh mi mj mr := zr_s1 (i := 2) (v := .int (x + 1)) (L := [l0, l1, some (.int x)]) (zD_of zk_3 d_3_24 rfl rfl) rfl rfl rfl rfl
theorem q_3_27  : zRun 3 27 L S sh mi mj mr = zRun 3 2 L S sh mi mj mr := zr_go (off := (-25)) (zD_of zk_3 d_3_27 rfl rfl) rfl rfl (by decide)
theorem q_3_30  : zRun 3 30 L [] sh mi mj mr = some (none, sh, mi, mj, mr) := zr_ret (zD_of zk_3 d_3_30 rfl rfl) rfl rfl rfl rfl rfl rfl
theorem e_3 {o0 : Nat} : zCall 3 [.ref o, .ref o0] sh mi mj mr = zRun 3 0 [some (.ref o), some (.ref o0), none] [] sh mi mj mr := rfl
theorem d_4_0 : decode cX0_width 0 = .ok (.aload_n 0, 1) := by decide +kernel
theorem d_4_1 : decode cX0_width 1 = .ok (.getfield 15, 3) := by decide +kernel
theorem d_4_4 : decode cX0_width 4 = .ok (.iload_n 1, 1) := by decide +kernel
theorem d_4_5 : decode cX0_width 5 = .ok (.iaload, 1) := by decide +kernel
theorem d_4_6 : decode cX0_width 6 = .ok (.aload_n 0, 1) := by decide +kernel
theorem d_4_7 : decode cX0_width 7 = .ok (.getfield 9, 3) := by decide +kernel
theorem d_4_10 : decode cX0_width 10 = .ok (.iload_n 1, 1) := by decide +kernel
theorem d_4_11 : decode cX0_width 11 = .ok (.iaload, 1) := by decide +kernel
theorem d_4_12 : decode cX0_width 12 = .ok (.isub, 1) := by decide +kernel
theorem d_4_13 : decode cX0_width 13 = .ok (.ireturn, 1) := by decide +kernel
theorem q_4_0r : zRun 4 0 [some (.ref o), l1] S sh mi mj mr = zRun 4 1 [some (.ref o), l1] (.ref o :: S) sh mi mj mr := zr_l (zD_of zk_4 d_4_0 rfl rfl) rfl rfl rfl
theorem q_4_0n : zRun 4 0 [some (.null), l1] S sh mi mj mr = zRun 4 1 [some (.null), l1] (.null :: S) sh mi mj mr := zr_l (zD_of zk_4 d_4_0 rfl rfl) rfl rfl rfl
theorem q_4_1 (h : zIs sh o 0 0) : zRun 4 1 L (.ref o :: S) sh mi mj mr = zRun 4 4 L (va_rf (mr o 1) :: S) sh mi mj mr := zr_getR (zD_of zk_4 d_4_1 rfl rfl) rfl rfl rfl h
theorem q_4_4 : zRun 4 4 [l0, some (.int x)] S sh mi mj mr = zRun 4 5 [l0, some (.int x)] (.int x :: S) sh mi mj mr := zr_l (zD_of zk_4 d_4_4 rfl rfl) rfl rfl rfl
theorem q_4_5 (h : zAt sh o 1 x) : zRun 4 5 L (.int x :: .ref o :: S) sh mi mj mr = zRun 4 6 L (.int (mi o x.toNatClampNeg) :: S) sh mi mj mr := zr_iald (zD_of zk_4 d_4_5 rfl rfl) h
theorem q_4_6r : zRun 4 6 [some (.ref o), l1] S sh mi mj mr = zRun 4 7 [some (.ref o), l1] (.ref o :: S) sh mi mj mr := zr_l (zD_of zk_4 d_4_6 rfl rfl) rfl rfl rfl
theorem q_4_6n : zRun 4 6 [some (.null), l1] S sh mi mj mr = zRun 4 7 [some (.null), l1] (.null :: S) sh mi mj mr := zr_l (zD_of zk_4 d_4_6 rfl rfl) rfl rfl rfl
theorem q_4_7 (h : zIs sh o 0 0) : zRun 4 7 L (.ref o :: S) sh mi mj mr = zRun 4 10 L (va_rf (mr o 0) :: S) sh mi mj mr := zr_getR (zD_of zk_4 d_4_7 rfl rfl) rfl rfl rfl h
theorem q_4_10 : zRun 4 10 [l0, some (.int x)] S sh mi mj mr = zRun 4 11 [l0, some (.int x)] (.int x :: S) sh mi mj mr := zr_l (zD_of zk_4 d_4_10 rfl rfl) rfl rfl rfl
theorem q_4_11 (h : zAt sh o 1 x) : zRun 4 11 L (.int x :: .ref o :: S) sh mi mj mr = zRun 4 12 L (.int (mi o x.toNatClampNeg) :: S) sh mi mj mr := zr_iald (zD_of zk_4 d_4_11 rfl rfl) h
theorem q_4_12  : zRun 4 12 L (.int y :: .int x :: S) sh mi mj mr = zRun 4 13 L (.int (x - y) :: S) sh mi mj mr := zr_p (zD_of zk_4 d_4_12 rfl rfl) rfl
theorem q_4_13  : zRun 4 13 L ([.int x]) sh mi mj mr = some (some (.int x), sh, mi, mj, mr) := zr_ret (zD_of zk_4 d_4_13 rfl rfl) rfl rfl rfl rfl rfl (if_pos rfl)
theorem e_4 {x0 : Int32} : zCall 4 [.ref o, .int x0] sh mi mj mr = zRun 4 0 [some (.ref o), some (.int x0)] [] sh mi mj mr := rfl
theorem d_5_0 : decode cX0_middle 0 = .ok (.aload_n 0, 1) := by decide +kernel
theorem d_5_1 : decode cX0_middle 1 = .ok (.getfield 9, 3) := by decide +kernel
theorem d_5_4 : decode cX0_middle 4 = .ok (.iload_n 1, 1) := by decide +kernel
theorem d_5_5 : decode cX0_middle 5 = .ok (.iaload, 1) := by decide +kernel
theorem d_5_6 : decode cX0_middle 6 = .ok (.aload_n 0, 1) := by decide +kernel
theorem d_5_7 : decode cX0_middle 7 = .ok (.getfield 15, 3) := by decide +kernel
theorem d_5_10 : decode cX0_middle 10 = .ok (.iload_n 1, 1) := by decide +kernel
theorem d_5_11 : decode cX0_middle 11 = .ok (.iaload, 1) := by decide +kernel
theorem d_5_12 : decode cX0_middle 12 = .ok (.iadd, 1) := by decide +kernel
theorem d_5_13 : decode cX0_middle 13 = .ok (.iconst 1, 1) := by decide +kernel
theorem d_5_14 : decode cX0_middle 14 = .ok (.ishr, 1) := by decide +kernel
theorem d_5_15 : decode cX0_middle 15 = .ok (.ireturn, 1) := by decide +kernel
theorem q_5_0r : zRun 5 0 [some (.ref o), l1] S sh mi mj mr = zRun 5 1 [some (.ref o), l1] (.ref o :: S) sh mi mj mr := zr_l (zD_of zk_5 d_5_0 rfl rfl) rfl rfl rfl
theorem q_5_0n : zRun 5 0 [some (.null), l1] S sh mi mj mr = zRun 5 1 [some (.null), l1] (.null :: S) sh mi mj mr := zr_l (zD_of zk_5 d_5_0 rfl rfl) rfl rfl rfl
theorem q_5_1 (h : zIs sh o 0 0) : zRun 5 1 L (.ref o :: S) sh mi mj mr = zRun 5 4 L (va_rf (mr o 0) :: S) sh mi mj mr := zr_getR (zD_of zk_5 d_5_1 rfl rfl) rfl rfl rfl h
theorem q_5_4 : zRun 5 4 [l0, some (.int x)] S sh mi mj mr = zRun 5 5 [l0, some (.int x)] (.int x :: S) sh mi mj mr := zr_l (zD_of zk_5 d_5_4 rfl rfl) rfl rfl rfl
theorem q_5_5 (h : zAt sh o 1 x) : zRun 5 5 L (.int x :: .ref o :: S) sh mi mj mr = zRun 5 6 L (.int (mi o x.toNatClampNeg) :: S) sh mi mj mr := zr_iald (zD_of zk_5 d_5_5 rfl rfl) h
theorem q_5_6r : zRun 5 6 [some (.ref o), l1] S sh mi mj mr = zRun 5 7 [some (.ref o), l1] (.ref o :: S) sh mi mj mr := zr_l (zD_of zk_5 d_5_6 rfl rfl) rfl rfl rfl
theorem q_5_6n : zRun 5 6 [some (.null), l1] S sh mi mj mr = zRun 5 7 [some (.null), l1] (.null :: S) sh mi mj mr := zr_l (zD_of zk_5 d_5_6 rfl rfl) rfl rfl rfl
theorem q_5_7 (h : zIs sh o 0 0) : zRun 5 7 L (.ref o :: S) sh mi mj mr = zRun 5 10 L (va_rf (mr o 1) :: S) sh mi mj mr := zr_getR (zD_of zk_5 d_5_7 rfl rfl) rfl rfl rfl h
theorem q_5_10 : zRun 5 10 [l0, some (.int x)] S sh mi mj mr = zRun 5 11 [l0, some (.int x)] (.int x :: S) sh mi mj mr := zr_l (zD_of zk_5 d_5_10 rfl rfl) rfl rfl rfl
theorem q_5_11 (h : zAt sh o 1 x) : zRun 5 11 L (.int x :: .ref o :: S) sh mi mj mr = zRun 5 12 L (.int (mi o x.toNatClampNeg) :: S) sh mi mj mr := zr_iald (zD_of zk_5 d_5_11 rfl rfl) h
theorem q_5_12  : zRun 5 12 L (.int y :: .int x :: S) sh mi mj mr = zRun 5 13 L (.int (x + y) :: S) sh mi mj mr := zr_p (zD_of zk_5 d_5_12 rfl rfl) rfl
theorem q_5_13  : zRun 5 13 L S sh mi mj mr = zRun 5 14 L (.int 1 :: S) sh mi mj mr := zr_p (zD_of zk_5 d_5_13 rfl rfl) rfl
theorem q_5_14  : zRun 5 14 L (.int y :: .int x :: S) sh mi mj mr = zRun 5 15 L (.int (x >>> (y &&& 31)) :: S) sh mi mj mr := zr_p (zD_of zk_5 d_5_14 rfl rfl) rfl
theorem q_5_15  : zRun 5 15 L ([.int x]) sh mi mj mr = some (some (.int x), sh, mi, mj, mr) := zr_ret (zD_of zk_5 d_5_15 rfl rfl) rfl rfl rfl rfl rfl (if_pos rfl)
theorem e_5 {x0 : Int32} : zCall 5 [.ref o, .int x0] sh mi mj mr = zRun 5 0 [some (.ref o), some (.int x0)] [] sh mi mj mr := rfl
theorem d_6_0 : decode cX0_place 0 = .ok (.iload_n 2, 1) := by decide +kernel
theorem d_6_1 : decode cX0_place 1 = .ok (.tableswitch 47 0 2 #[27, 34, 41], 27) := by decide +kernel
theorem d_6_28 : decode cX0_place 28 = .ok (.aload_n 0, 1) := by decide +kernel
theorem d_6_29 : decode cX0_place 29 = .ok (.getfield 9, 3) := by decide +kernel
theorem d_6_32 : decode cX0_place 32 = .ok (.iload_n 1, 1) := by decide +kernel
theorem d_6_33 : decode cX0_place 33 = .ok (.iaload, 1) := by decide +kernel
theorem d_6_34 : decode cX0_place 34 = .ok (.ireturn, 1) := by decide +kernel
theorem d_6_35 : decode cX0_place 35 = .ok (.aload_n 0, 1) := by decide +kernel
theorem d_6_36 : decode cX0_place 36 = .ok (.getfield 15, 3) := by decide +kernel
theorem d_6_39 : decode cX0_place 39 = .ok (.iload_n 1, 1) := by decide +kernel
theorem d_6_40 : decode cX0_place 40 = .ok (.iaload, 1) := by decide +kernel
theorem d_6_41 : decode cX0_place 41 = .ok (.ireturn, 1) := by decide +kernel
theorem d_6_42 : decode cX0_place 42 = .ok (.aload_n 0, 1) := by decide +kernel
theorem d_6_43 : decode cX0_place 43 = .ok (.iload_n 1, 1) := by decide +kernel
theorem d_6_44 : decode cX0_place 44 = .ok (.invokevirtual 22, 3) := by decide +kernel
theorem d_6_47 : decode cX0_place 47 = .ok (.ireturn, 1) := by decide +kernel
theorem d_6_48 : decode cX0_place 48 = .ok (.iconst 3, 1) := by decide +kernel
theorem d_6_49 : decode cX0_place 49 = .ok (.aload_n 0, 1) := by decide +kernel
theorem d_6_50 : decode cX0_place 50 = .ok (.getfield 9, 3) := by decide +kernel
theorem d_6_53 : decode cX0_place 53 = .ok (.iload_n 1, 1) := by decide +kernel
theorem d_6_54 : decode cX0_place 54 = .ok (.iaload, 1) := by decide +kernel
theorem d_6_55 : decode cX0_place 55 = .ok (.imul, 1) := by decide +kernel
theorem d_6_56 : decode cX0_place 56 = .ok (.aload_n 0, 1) := by decide +kernel
theorem d_6_57 : decode cX0_place 57 = .ok (.getfield 15, 3) := by decide +kernel
theorem d_6_60 : decode cX0_place 60 = .ok (.iload_n 1, 1) := by decide +kernel
theorem d_6_61 : decode cX0_place 61 = .ok (.iaload, 1) := by decide +kernel
theorem d_6_62 : decode cX0_place 62 = .ok (.iadd, 1) := by decide +kernel
theorem d_6_63 : decode cX0_place 63 = .ok (.iconst 2, 1) := by decide +kernel
theorem d_6_64 : decode cX0_place 64 = .ok (.ishr, 1) := by decide +kernel
theorem d_6_65 : decode cX0_place 65 = .ok (.ireturn, 1) := by decide +kernel
theorem q_6_0 : zRun 6 0 [l0, l1, some (.int x)] S sh mi mj mr = zRun 6 1 [l0, l1, some (.int x)] (.int x :: S) sh mi mj mr := zr_l (zD_of zk_6 d_6_0 rfl rfl) rfl rfl rfl
theorem q_6_1 : zRun 6 1 L (.int x :: S) sh mi mj mr = if x = 0 then zRun 6 28 L S sh mi mj mr else if x = 1 then zRun 6 35 L S sh mi mj mr else if x = 2 then zRun 6 42 L S sh mi mj mr else zRun 6 48 L S sh mi mj mr := by
  by_cases h : x = 0
  · subst h; exact zr_go (off := 27) (zD_of zk_6 d_6_1 rfl rfl) rfl rfl (by decide)
  rw [if_neg h]
  have a0 := zsw_ne (v := 0) h (by decide) (by decide)
  by_cases h : x = 1
  · subst h; exact zr_go (off := 34) (zD_of zk_6 d_6_1 rfl rfl) rfl rfl (by decide)
  rw [if_neg h]
  have a1 := zsw_ne (v := 1) h (by decide) (by decide)
  by_cases h : x = 2
  · subst h; exact zr_go (off := 41) (zD_of zk_6 d_6_1 rfl rfl) rfl rfl (by decide)
  rw [if_neg h]
  have a2 := zsw_ne (v := 2) h (by decide) (by decide)
  exact zr_go (S' := S) (off := 47) (zD_of zk_6 d_6_1 rfl rfl) rfl (by simp only [zjump, zsw_out (x := x) 47 0 2 (by omega)]) (by decide)
theorem q_6_28r : zRun 6 28 [some (.ref o), l1, l2] S sh mi mj mr = zRun 6 29 [some (.ref o), l1, l2] (.ref o :: S) sh mi mj mr := zr_l (zD_of zk_6 d_6_28 rfl rfl) rfl rfl rfl
theorem q_6_28n : zRun 6 28 [some (.null), l1, l2] S sh mi mj mr = zRun 6 29 [some (.null), l1, l2] (.null :: S) sh mi mj mr := zr_l (zD_of zk_6 d_6_28 rfl rfl) rfl rfl rfl
theorem q_6_29 (h : zIs sh o 0 0) : zRun 6 29 L (.ref o :: S) sh mi mj mr = zRun 6 32 L (va_rf (mr o 0) :: S) sh mi mj mr := zr_getR (zD_of zk_6 d_6_29 rfl rfl) rfl rfl rfl h
theorem q_6_32 : zRun 6 32 [l0, some (.int x), l2] S sh mi mj mr = zRun 6 33 [l0, some (.int x), l2] (.int x :: S) sh mi mj mr := zr_l (zD_of zk_6 d_6_32 rfl rfl) rfl rfl rfl
theorem q_6_33 (h : zAt sh o 1 x) : zRun 6 33 L (.int x :: .ref o :: S) sh mi mj mr = zRun 6 34 L (.int (mi o x.toNatClampNeg) :: S) sh mi mj mr := zr_iald (zD_of zk_6 d_6_33 rfl rfl) h
theorem q_6_34  : zRun 6 34 L ([.int x]) sh mi mj mr = some (some (.int x), sh, mi, mj, mr) := zr_ret (zD_of zk_6 d_6_34 rfl rfl) rfl rfl rfl rfl rfl (if_pos rfl)
theorem q_6_35r : zRun 6 35 [some (.ref o), l1, l2] S sh mi mj mr = zRun 6 36 [some (.ref o), l1, l2] (.ref o :: S) sh mi mj mr := zr_l (zD_of zk_6 d_6_35 rfl rfl) rfl rfl rfl
theorem q_6_35n : zRun 6 35 [some (.null), l1, l2] S sh mi mj mr = zRun 6 36 [some (.null), l1, l2] (.null :: S) sh mi mj mr := zr_l (zD_of zk_6 d_6_35 rfl rfl) rfl rfl rfl
theorem q_6_36 (h : zIs sh o 0 0) : zRun 6 36 L (.ref o :: S) sh mi mj mr = zRun 6 39 L (va_rf (mr o 1) :: S) sh mi mj mr := zr_getR (zD_of zk_6 d_6_36 rfl rfl) rfl rfl rfl h
theorem q_6_39 : zRun 6 39 [l0, some (.int x), l2] S sh mi mj mr = zRun 6 40 [l0, some (.int x), l2] (.int x :: S) sh mi mj mr := zr_l (zD_of zk_6 d_6_39 rfl rfl) rfl rfl rfl
theorem q_6_40 (h : zAt sh o 1 x) : zRun 6 40 L (.int x :: .ref o :: S) sh mi mj mr = zRun 6 41 L (.int (mi o x.toNatClampNeg) :: S) sh mi mj mr := zr_iald (zD_of zk_6 d_6_40 rfl rfl) h
theorem q_6_41  : zRun 6 41 L ([.int x]) sh mi mj mr = some (some (.int x), sh, mi, mj, mr) := zr_ret (zD_of zk_6 d_6_41 rfl rfl) rfl rfl rfl rfl rfl (if_pos rfl)
theorem q_6_42r : zRun 6 42 [some (.ref o), l1, l2] S sh mi mj mr = zRun 6 43 [some (.ref o), l1, l2] (.ref o :: S) sh mi mj mr := zr_l (zD_of zk_6 d_6_42 rfl rfl) rfl rfl rfl
theorem q_6_42n : zRun 6 42 [some (.null), l1, l2] S sh mi mj mr = zRun 6 43 [some (.null), l1, l2] (.null :: S) sh mi mj mr := zr_l (zD_of zk_6 d_6_42 rfl rfl) rfl rfl rfl
theorem q_6_43 : zRun 6 43 [l0, some (.int x), l2] S sh mi mj mr = zRun 6 44 [l0, some (.int x), l2] (.int x :: S) sh mi mj mr := zr_l (zD_of zk_6 d_6_43 rfl rfl) rfl rfl rfl
theorem q_6_44  {x0 : Int32} (hS : zcat S ≤ 8) (h : zIs sh o 0 0) : zRun 6 44 L (.int x0 :: .ref o :: S) sh mi mj mr = (zCall 5 [.ref o, .int x0] sh mi mj mr).bind fun r => zRun 6 47 L (r.1.toList ++ S) r.2.1 r.2.2.1 r.2.2.2.1 r.2.2.2.2 := zr_V (zD_of zk_6 d_6_44 rfl rfl) rfl zk_5 rfl rfl rfl hS h
theorem q_6_47  : zRun 6 47 L ([.int x]) sh mi mj mr = some (some (.int x), sh, mi, mj, mr) := zr_ret (zD_of zk_6 d_6_47 rfl rfl) rfl rfl rfl rfl rfl (if_pos rfl)
theorem q_6_48  : zRun 6 48 L S sh mi mj mr = zRun 6 49 L (.int 3 :: S) sh mi mj mr := zr_p (zD_of zk_6 d_6_48 rfl rfl) rfl
theorem q_6_49r : zRun 6 49 [some (.ref o), l1, l2] S sh mi mj mr = zRun 6 50 [some (.ref o), l1, l2] (.ref o :: S) sh mi mj mr := zr_l (zD_of zk_6 d_6_49 rfl rfl) rfl rfl rfl
theorem q_6_49n : zRun 6 49 [some (.null), l1, l2] S sh mi mj mr = zRun 6 50 [some (.null), l1, l2] (.null :: S) sh mi mj mr := zr_l (zD_of zk_6 d_6_49 rfl rfl) rfl rfl rfl
theorem q_6_50 (h : zIs sh o 0 0) : zRun 6 50 L (.ref o :: S) sh mi mj mr = zRun 6 53 L (va_rf (mr o 0) :: S) sh mi mj mr := zr_getR (zD_of zk_6 d_6_50 rfl rfl) rfl rfl rfl h
theorem q_6_53 : zRun 6 53 [l0, some (.int x), l2] S sh mi mj mr = zRun 6 54 [l0, some (.int x), l2] (.int x :: S) sh mi mj mr := zr_l (zD_of zk_6 d_6_53 rfl rfl) rfl rfl rfl
theorem q_6_54 (h : zAt sh o 1 x) : zRun 6 54 L (.int x :: .ref o :: S) sh mi mj mr = zRun 6 55 L (.int (mi o x.toNatClampNeg) :: S) sh mi mj mr := zr_iald (zD_of zk_6 d_6_54 rfl rfl) h
theorem q_6_55  : zRun 6 55 L (.int y :: .int x :: S) sh mi mj mr = zRun 6 56 L (.int (x * y) :: S) sh mi mj mr := zr_p (zD_of zk_6 d_6_55 rfl rfl) rfl
theorem q_6_56r : zRun 6 56 [some (.ref o), l1, l2] S sh mi mj mr = zRun 6 57 [some (.ref o), l1, l2] (.ref o :: S) sh mi mj mr := zr_l (zD_of zk_6 d_6_56 rfl rfl) rfl rfl rfl
theorem q_6_56n : zRun 6 56 [some (.null), l1, l2] S sh mi mj mr = zRun 6 57 [some (.null), l1, l2] (.null :: S) sh mi mj mr := zr_l (zD_of zk_6 d_6_56 rfl rfl) rfl rfl rfl
theorem q_6_57 (h : zIs sh o 0 0) : zRun 6 57 L (.ref o :: S) sh mi mj mr = zRun 6 60 L (va_rf (mr o 1) :: S) sh mi mj mr := zr_getR (zD_of zk_6 d_6_57 rfl rfl) rfl rfl rfl h
theorem q_6_60 : zRun 6 60 [l0, some (.int x), l2] S sh mi mj mr = zRun 6 61 [l0, some (.int x), l2] (.int x :: S) sh mi mj mr := zr_l (zD_of zk_6 d_6_60 rfl rfl) rfl rfl rfl
theorem q_6_61 (h : zAt sh o 1 x) : zRun 6 61 L (.int x :: .ref o :: S) sh mi mj mr = zRun 6 62 L (.int (mi o x.toNatClampNeg) :: S) sh mi mj mr := zr_iald (zD_of zk_6 d_6_61 rfl rfl) h
theorem q_6_62  : zRun 6 62 L (.int y :: .int x :: S) sh mi mj mr = zRun 6 63 L (.int (x + y) :: S) sh mi mj mr := zr_p (zD_of zk_6 d_6_62 rfl rfl) rfl
theorem q_6_63  : zRun 6 63 L S sh mi mj mr = zRun 6 64 L (.int 2 :: S) sh mi mj mr := zr_p (zD_of zk_6 d_6_63 rfl rfl) rfl
theorem q_6_64  : zRun 6 64 L (.int y :: .int x :: S) sh mi mj mr = zRun 6 65 L (.int (x >>> (y &&& 31)) :: S) sh mi mj mr := zr_p (zD_of zk_6 d_6_64 rfl rfl) rfl
theorem q_6_65  : zRun 6 65 L ([.int x]) sh mi mj mr = some (some (.int x), sh, mi, mj, mr) := zr_ret (zD_of zk_6 d_6_65 rfl rfl) rfl rfl rfl rfl rfl (if_pos rfl)
theorem e_6 {x0 x1 : Int32} : zCall 6 [.ref o, .int x0, .int x1] sh mi mj mr = zRun 6 0 [some (.ref o), some (.int x0), some (.int x1)] [] sh mi mj mr := rfl
theorem d_7_0 : decode cX0_wideInputs 0 = .ok (.iconst 0, 1) := by decide +kernel
theorem d_7_1 : decode cX0_wideInputs 1 = .ok (.istore_n 1, 1) := by decide +kernel
theorem d_7_2 : decode cX0_wideInputs 2 = .ok (.iconst 0, 1) := by decide +kernel
theorem d_7_3 : decode cX0_wideInputs 3 = .ok (.istore_n 2, 1) := by decide +kernel
theorem d_7_4 : decode cX0_wideInputs 4 = .ok (.iload_n 2, 1) := by decide +kernel
theorem d_7_5 : decode cX0_wideInputs 5 = .ok (.iconst 4, 1) := by decide +kernel
theorem d_7_6 : decode cX0_wideInputs 6 = .ok (.if_icmp .ge 27, 3) := by decide +kernel
theorem d_7_9 : decode cX0_wideInputs 9 = .ok (.aload_n 0, 1) := by decide +kernel
theorem d_7_10 : decode cX0_wideInputs 10 = .ok (.getfield 9, 3) := by decide +kernel
theorem d_7_13 : decode cX0_wideInputs 13 = .ok (.iload_n 2, 1) := by decide +kernel
theorem d_7_14 : decode cX0_wideInputs 14 = .ok (.iaload, 1) := by decide +kernel
theorem d_7_15 : decode cX0_wideInputs 15 = .ok (.aload_n 0, 1) := by decide +kernel
theorem d_7_16 : decode cX0_wideInputs 16 = .ok (.getfield 15, 3) := by decide +kernel
theorem d_7_19 : decode cX0_wideInputs 19 = .ok (.iload_n 2, 1) := by decide +kernel
theorem d_7_20 : decode cX0_wideInputs 20 = .ok (.iaload, 1) := by decide +kernel
theorem d_7_21 : decode cX0_wideInputs 21 = .ok (.if_icmp .ge 6, 3) := by decide +kernel
theorem d_7_24 : decode cX0_wideInputs 24 = .ok (.iinc 1 1, 3) := by decide +kernel
theorem d_7_27 : decode cX0_wideInputs 27 = .ok (.iinc 2 1, 3) := by decide +kernel
theorem d_7_30 : decode cX0_wideInputs 30 = .ok (.goto (-26), 3) := by decide +kernel
theorem d_7_33 : decode cX0_wideInputs 33 = .ok (.iload_n 1, 1) := by decide +kernel
theorem d_7_34 : decode cX0_wideInputs 34 = .ok (.ireturn, 1) := by decide +kernel
theorem q_7_0  : zRun 7 0 L S sh mi mj mr = zRun 7 1 L (.int 0 :: S) sh mi mj mr := zr_p (zD_of zk_7 d_7_0 rfl rfl) rfl
theorem q_7_1 : zRun 7 1 [l0, l1, l2] (.int x :: S) sh mi mj mr = zRun 7 2 [zk2 l0, some (.int x), l2] S sh mi mj mr := zr_s1 (i := 1) (v := .int x) (L := [l0, l1, l2]) (zD_of zk_7 d_7_1 rfl rfl) rfl rfl rfl rfl
theorem q_7_2  : zRun 7 2 L S sh mi mj mr = zRun 7 3 L (.int 0 :: S) sh mi mj mr := zr_p (zD_of zk_7 d_7_2 rfl rfl) rfl
theorem q_7_3 : zRun 7 3 [l0, l1, l2] (.int x :: S) sh mi mj mr = zRun 7 4 [l0, zk2 l1, some (.int x)] S sh mi mj mr := zr_s1 (i := 2) (v := .int x) (L := [l0, l1, l2]) (zD_of zk_7 d_7_3 rfl rfl) rfl rfl rfl rfl
theorem q_7_4 : zRun 7 4 [l0, l1, some (.int x)] S sh mi mj mr = zRun 7 5 [l0, l1, some (.int x)] (.int x :: S) sh mi mj mr := zr_l (zD_of zk_7 d_7_4 rfl rfl) rfl rfl rfl
theorem q_7_5  : zRun 7 5 L S sh mi mj mr = zRun 7 6 L (.int 4 :: S) sh mi mj mr := zr_p (zD_of zk_7 d_7_5 rfl rfl) rfl
theorem q_7_6  : zRun 7 6 L (.int y :: .int x :: S) sh mi mj mr = if y ≤ x then zRun 7 33 L S sh mi mj mr else zRun 7 9 L S sh mi mj mr := zr_if (off := 27) (P := y ≤ x) (zD_of zk_7 d_7_6 rfl rfl) rfl rfl (by decide)
theorem q_7_9r : zRun 7 9 [some (.ref o), l1, l2] S sh mi mj mr = zRun 7 10 [some (.ref o), l1, l2] (.ref o :: S) sh mi mj mr := zr_l (zD_of zk_7 d_7_9 rfl rfl) rfl rfl rfl
theorem q_7_9n : zRun 7 9 [some (.null), l1, l2] S sh mi mj mr = zRun 7 10 [some (.null), l1, l2] (.null :: S) sh mi mj mr := zr_l (zD_of zk_7 d_7_9 rfl rfl) rfl rfl rfl
theorem q_7_10 (h : zIs sh o 0 0) : zRun 7 10 L (.ref o :: S) sh mi mj mr = zRun 7 13 L (va_rf (mr o 0) :: S) sh mi mj mr := zr_getR (zD_of zk_7 d_7_10 rfl rfl) rfl rfl rfl h
theorem q_7_13 : zRun 7 13 [l0, l1, some (.int x)] S sh mi mj mr = zRun 7 14 [l0, l1, some (.int x)] (.int x :: S) sh mi mj mr := zr_l (zD_of zk_7 d_7_13 rfl rfl) rfl rfl rfl
theorem q_7_14 (h : zAt sh o 1 x) : zRun 7 14 L (.int x :: .ref o :: S) sh mi mj mr = zRun 7 15 L (.int (mi o x.toNatClampNeg) :: S) sh mi mj mr := zr_iald (zD_of zk_7 d_7_14 rfl rfl) h
theorem q_7_15r : zRun 7 15 [some (.ref o), l1, l2] S sh mi mj mr = zRun 7 16 [some (.ref o), l1, l2] (.ref o :: S) sh mi mj mr := zr_l (zD_of zk_7 d_7_15 rfl rfl) rfl rfl rfl
theorem q_7_15n : zRun 7 15 [some (.null), l1, l2] S sh mi mj mr = zRun 7 16 [some (.null), l1, l2] (.null :: S) sh mi mj mr := zr_l (zD_of zk_7 d_7_15 rfl rfl) rfl rfl rfl
theorem q_7_16 (h : zIs sh o 0 0) : zRun 7 16 L (.ref o :: S) sh mi mj mr = zRun 7 19 L (va_rf (mr o 1) :: S) sh mi mj mr := zr_getR (zD_of zk_7 d_7_16 rfl rfl) rfl rfl rfl h
theorem q_7_19 : zRun 7 19 [l0, l1, some (.int x)] S sh mi mj mr = zRun 7 20 [l0, l1, some (.int x)] (.int x :: S) sh mi mj mr := zr_l (zD_of zk_7 d_7_19 rfl rfl) rfl rfl rfl
theorem q_7_20 (h : zAt sh o 1 x) : zRun 7 20 L (.int x :: .ref o :: S) sh mi mj mr = zRun 7 21 L (.int (mi o x.toNatClampNeg) :: S) sh mi mj mr := zr_iald (zD_of zk_7 d_7_20 rfl rfl) h
theorem q_7_21  : zRun 7 21 L (.int y :: .int x :: S) sh mi mj mr = if y ≤ x then zRun 7 27 L S sh mi mj mr else zRun 7 24 L S sh mi mj mr := zr_if (off := 6) (P := y ≤ x) (zD_of zk_7 d_7_21 rfl rfl) rfl rfl (by decide)
theorem q_7_24  : zRun 7 24 [l0, some (.int x), l2] S sh mi mj mr = zRun 7 27 [zk2 l0, some (.int (x + 1)), l2] S sh mi mj mr := zr_s1 (i := 1) (v := .int (x + 1)) (L := [l0, some (.int x), l2]) (zD_of zk_7 d_7_24 rfl rfl) rfl rfl rfl rfl
theorem q_7_27  : zRun 7 27 [l0, l1, some (.int x)] S sh mi mj mr = zRun 7 30 [l0, zk2 l1, some (.int (x + 1))] S sh mi mj mr := zr_s1 (i := 2) (v := .int (x + 1)) (L := [l0, l1, some (.int x)]) (zD_of zk_7 d_7_27 rfl rfl) rfl rfl rfl rfl
theorem q_7_30  : zRun 7 30 L S sh mi mj mr = zRun 7 4 L S sh mi mj mr := zr_go (off := (-26)) (zD_of zk_7 d_7_30 rfl rfl) rfl rfl (by decide)
theorem q_7_33 : zRun 7 33 [l0, some (.int x), l2] S sh mi mj mr = zRun 7 34 [l0, some (.int x), l2] (.int x :: S) sh mi mj mr := zr_l (zD_of zk_7 d_7_33 rfl rfl) rfl rfl rfl
theorem q_7_34  : zRun 7 34 L ([.int x]) sh mi mj mr = some (some (.int x), sh, mi, mj, mr) := zr_ret (zD_of zk_7 d_7_34 rfl rfl) rfl rfl rfl rfl rfl (if_pos rfl)
theorem e_7 : zCall 7 [.ref o] sh mi mj mr = zRun 7 0 [some (.ref o), none, none] [] sh mi mj mr := rfl
theorem d_8_0 : decode cX0_inputToSplit 0 = .ok (.iconst (-1), 1) := by decide +kernel
theorem d_8_1 : decode cX0_inputToSplit 1 = .ok (.istore_n 2, 1) := by decide +kernel
theorem d_8_2 : decode cX0_inputToSplit 2 = .ok (.lconst 0, 1) := by decide +kernel
theorem d_8_3 : decode cX0_inputToSplit 3 = .ok (.lstore_n 3, 1) := by decide +kernel
theorem d_8_4 : decode cX0_inputToSplit 4 = .ok (.iconst 0, 1) := by decide +kernel
theorem d_8_5 : decode cX0_inputToSplit 5 = .ok (.istore 5, 2) := by decide +kernel
theorem d_8_7 : decode cX0_inputToSplit 7 = .ok (.iload 5, 2) := by decide +kernel
theorem d_8_9 : decode cX0_inputToSplit 9 = .ok (.iconst 4, 1) := by decide +kernel
theorem d_8_10 : decode cX0_inputToSplit 10 = .ok (.if_icmp .ge 51, 3) := by decide +kernel
theorem d_8_13 : decode cX0_inputToSplit 13 = .ok (.aload_n 0, 1) := by decide +kernel
theorem d_8_14 : decode cX0_inputToSplit 14 = .ok (.getfield 9, 3) := by decide +kernel
theorem d_8_17 : decode cX0_inputToSplit 17 = .ok (.iload 5, 2) := by decide +kernel
theorem d_8_19 : decode cX0_inputToSplit 19 = .ok (.iaload, 1) := by decide +kernel
theorem d_8_20 : decode cX0_inputToSplit 20 = .ok (.aload_n 0, 1) := by decide +kernel
theorem d_8_21 : decode cX0_inputToSplit 21 = .ok (.getfield 15, 3) := by decide +kernel
theorem d_8_24 : decode cX0_inputToSplit 24 = .ok (.iload 5, 2) := by decide +kernel
theorem d_8_26 : decode cX0_inputToSplit 26 = .ok (.iaload, 1) := by decide +kernel
theorem d_8_27 : decode cX0_inputToSplit 27 = .ok (.if_icmp .ge 12, 3) := by decide +kernel
theorem d_8_30 : decode cX0_inputToSplit 30 = .ok (.aload_n 1, 1) := by decide +kernel
theorem d_8_31 : decode cX0_inputToSplit 31 = .ok (.iload 5, 2) := by decide +kernel
theorem d_8_33 : decode cX0_inputToSplit 33 = .ok (.invokevirtual 26, 3) := by decide +kernel
theorem d_8_36 : decode cX0_inputToSplit 36 = .ok (.goto 4, 3) := by decide +kernel
theorem d_8_39 : decode cX0_inputToSplit 39 = .ok (.lconst 0, 1) := by decide +kernel
theorem d_8_40 : decode cX0_inputToSplit 40 = .ok (.lstore 6, 2) := by decide +kernel
theorem d_8_42 : decode cX0_inputToSplit 42 = .ok (.lload 6, 2) := by decide +kernel
theorem d_8_44 : decode cX0_inputToSplit 44 = .ok (.lload_n 3, 1) := by decide +kernel
theorem d_8_45 : decode cX0_inputToSplit 45 = .ok (.lcmp, 1) := by decide +kernel
theorem d_8_46 : decode cX0_inputToSplit 46 = .ok (.ifCond .le 9, 3) := by decide +kernel
theorem d_8_49 : decode cX0_inputToSplit 49 = .ok (.lload 6, 2) := by decide +kernel
theorem d_8_51 : decode cX0_inputToSplit 51 = .ok (.lstore_n 3, 1) := by decide +kernel
theorem d_8_52 : decode cX0_inputToSplit 52 = .ok (.iload 5, 2) := by decide +kernel
theorem d_8_54 : decode cX0_inputToSplit 54 = .ok (.istore_n 2, 1) := by decide +kernel
theorem d_8_55 : decode cX0_inputToSplit 55 = .ok (.iinc 5 1, 3) := by decide +kernel
theorem d_8_58 : decode cX0_inputToSplit 58 = .ok (.goto (-51), 3) := by decide +kernel
theorem d_8_61 : decode cX0_inputToSplit 61 = .ok (.iload_n 2, 1) := by decide +kernel
theorem d_8_62 : decode cX0_inputToSplit 62 = .ok (.ifCond .lt 5, 3) := by decide +kernel
theorem d_8_65 : decode cX0_inputToSplit 65 = .ok (.iload_n 2, 1) := by decide +kernel
theorem d_8_66 : decode cX0_inputToSplit 66 = .ok (.ireturn, 1) := by decide +kernel
theorem d_8_67 : decode cX0_inputToSplit 67 = .ok (.iconst 0, 1) := by decide +kernel
theorem d_8_68 : decode cX0_inputToSplit 68 = .ok (.istore 5, 2) := by decide +kernel
theorem d_8_70 : decode cX0_inputToSplit 70 = .ok (.iload 5, 2) := by decide +kernel
theorem d_8_72 : decode cX0_inputToSplit 72 = .ok (.iconst 4, 1) := by decide +kernel
theorem d_8_73 : decode cX0_inputToSplit 73 = .ok (.if_icmp .ge 32, 3) := by decide +kernel
theorem d_8_76 : decode cX0_inputToSplit 76 = .ok (.aload_n 0, 1) := by decide +kernel
theorem d_8_77 : decode cX0_inputToSplit 77 = .ok (.iload 5, 2) := by decide +kernel
theorem d_8_79 : decode cX0_inputToSplit 79 = .ok (.invokevirtual 32, 3) := by decide +kernel
theorem d_8_82 : decode cX0_inputToSplit 82 = .ok (.i2l, 1) := by decide +kernel
theorem d_8_83 : decode cX0_inputToSplit 83 = .ok (.lload_n 3, 1) := by decide +kernel
theorem d_8_84 : decode cX0_inputToSplit 84 = .ok (.lcmp, 1) := by decide +kernel
theorem d_8_85 : decode cX0_inputToSplit 85 = .ok (.ifCond .le 14, 3) := by decide +kernel
theorem d_8_88 : decode cX0_inputToSplit 88 = .ok (.aload_n 0, 1) := by decide +kernel
theorem d_8_89 : decode cX0_inputToSplit 89 = .ok (.iload 5, 2) := by decide +kernel
theorem d_8_91 : decode cX0_inputToSplit 91 = .ok (.invokevirtual 32, 3) := by decide +kernel
theorem d_8_94 : decode cX0_inputToSplit 94 = .ok (.i2l, 1) := by decide +kernel
theorem d_8_95 : decode cX0_inputToSplit 95 = .ok (.lstore_n 3, 1) := by decide +kernel
theorem d_8_96 : decode cX0_inputToSplit 96 = .ok (.iload 5, 2) := by decide +kernel
theorem d_8_98 : decode cX0_inputToSplit 98 = .ok (.istore_n 2, 1) := by decide +kernel
theorem d_8_99 : decode cX0_inputToSplit 99 = .ok (.iinc 5 1, 3) := by decide +kernel
theorem d_8_102 : decode cX0_inputToSplit 102 = .ok (.goto (-32), 3) := by decide +kernel
theorem d_8_105 : decode cX0_inputToSplit 105 = .ok (.iload_n 2, 1) := by decide +kernel
theorem d_8_106 : decode cX0_inputToSplit 106 = .ok (.ireturn, 1) := by decide +kernel
theorem q_8_0  : zRun 8 0 L S sh mi mj mr = zRun 8 1 L (.int (-1) :: S) sh mi mj mr := zr_p (zD_of zk_8 d_8_0 rfl rfl) rfl
theorem q_8_1 : zRun 8 1 [l0, l1, l2, l3, l4, l5, l6, l7] (.int x :: S) sh mi mj mr = zRun 8 2 [l0, zk2 l1, some (.int x), l3, l4, l5, l6, l7] S sh mi mj mr := zr_s1 (i := 2) (v := .int x) (L := [l0, l1, l2, l3, l4, l5, l6, l7]) (zD_of zk_8 d_8_1 rfl rfl) rfl rfl rfl rfl
theorem q_8_2  : zRun 8 2 L S sh mi mj mr = zRun 8 3 L (.long 0 :: S) sh mi mj mr := zr_p (zD_of zk_8 d_8_2 rfl rfl) rfl
theorem q_8_3 : zRun 8 3 [l0, l1, l2, l3, l4, l5, l6, l7] (.long u :: S) sh mi mj mr = zRun 8 4 [l0, l1, zk2 l2, some (.long u), none, l5, l6, l7] S sh mi mj mr := zr_s2 (i := 3) (v := .long u) (L := [l0, l1, l2, l3, l4, l5, l6, l7]) (zD_of zk_8 d_8_3 rfl rfl) rfl rfl rfl rfl
theorem q_8_4  : zRun 8 4 L S sh mi mj mr = zRun 8 5 L (.int 0 :: S) sh mi mj mr := zr_p (zD_of zk_8 d_8_4 rfl rfl) rfl
theorem q_8_5 : zRun 8 5 [l0, l1, l2, l3, l4, l5, l6, l7] (.int x :: S) sh mi mj mr = zRun 8 7 [l0, l1, l2, l3, zk2 l4, some (.int x), l6, l7] S sh mi mj mr := zr_s1 (i := 5) (v := .int x) (L := [l0, l1, l2, l3, l4, l5, l6, l7]) (zD_of zk_8 d_8_5 rfl rfl) rfl rfl rfl rfl
theorem q_8_7 : zRun 8 7 [l0, l1, l2, l3, l4, some (.int x), l6, l7] S sh mi mj mr = zRun 8 9 [l0, l1, l2, l3, l4, some (.int x), l6, l7] (.int x :: S) sh mi mj mr := zr_l (zD_of zk_8 d_8_7 rfl rfl) rfl rfl rfl
theorem q_8_9  : zRun 8 9 L S sh mi mj mr = zRun 8 10 L (.int 4 :: S) sh mi mj mr := zr_p (zD_of zk_8 d_8_9 rfl rfl) rfl
theorem q_8_10  : zRun 8 10 L (.int y :: .int x :: S) sh mi mj mr = if y ≤ x then zRun 8 61 L S sh mi mj mr else zRun 8 13 L S sh mi mj mr := zr_if (off := 51) (P := y ≤ x) (zD_of zk_8 d_8_10 rfl rfl) rfl rfl (by decide)
theorem q_8_13r : zRun 8 13 [some (.ref o), l1, l2, l3, l4, l5, l6, l7] S sh mi mj mr = zRun 8 14 [some (.ref o), l1, l2, l3, l4, l5, l6, l7] (.ref o :: S) sh mi mj mr := zr_l (zD_of zk_8 d_8_13 rfl rfl) rfl rfl rfl
theorem q_8_13n : zRun 8 13 [some (.null), l1, l2, l3, l4, l5, l6, l7] S sh mi mj mr = zRun 8 14 [some (.null), l1, l2, l3, l4, l5, l6, l7] (.null :: S) sh mi mj mr := zr_l (zD_of zk_8 d_8_13 rfl rfl) rfl rfl rfl
theorem q_8_14 (h : zIs sh o 0 0) : zRun 8 14 L (.ref o :: S) sh mi mj mr = zRun 8 17 L (va_rf (mr o 0) :: S) sh mi mj mr := zr_getR (zD_of zk_8 d_8_14 rfl rfl) rfl rfl rfl h
theorem q_8_17 : zRun 8 17 [l0, l1, l2, l3, l4, some (.int x), l6, l7] S sh mi mj mr = zRun 8 19 [l0, l1, l2, l3, l4, some (.int x), l6, l7] (.int x :: S) sh mi mj mr := zr_l (zD_of zk_8 d_8_17 rfl rfl) rfl rfl rfl
theorem q_8_19 (h : zAt sh o 1 x) : zRun 8 19 L (.int x :: .ref o :: S) sh mi mj mr = zRun 8 20 L (.int (mi o x.toNatClampNeg) :: S) sh mi mj mr := zr_iald (zD_of zk_8 d_8_19 rfl rfl) h
theorem q_8_20r : zRun 8 20 [some (.ref o), l1, l2, l3, l4, l5, l6, l7] S sh mi mj mr = zRun 8 21 [some (.ref o), l1, l2, l3, l4, l5, l6, l7] (.ref o :: S) sh mi mj mr := zr_l (zD_of zk_8 d_8_20 rfl rfl) rfl rfl rfl
theorem q_8_20n : zRun 8 20 [some (.null), l1, l2, l3, l4, l5, l6, l7] S sh mi mj mr = zRun 8 21 [some (.null), l1, l2, l3, l4, l5, l6, l7] (.null :: S) sh mi mj mr := zr_l (zD_of zk_8 d_8_20 rfl rfl) rfl rfl rfl
theorem q_8_21 (h : zIs sh o 0 0) : zRun 8 21 L (.ref o :: S) sh mi mj mr = zRun 8 24 L (va_rf (mr o 1) :: S) sh mi mj mr := zr_getR (zD_of zk_8 d_8_21 rfl rfl) rfl rfl rfl h
theorem q_8_24 : zRun 8 24 [l0, l1, l2, l3, l4, some (.int x), l6, l7] S sh mi mj mr = zRun 8 26 [l0, l1, l2, l3, l4, some (.int x), l6, l7] (.int x :: S) sh mi mj mr := zr_l (zD_of zk_8 d_8_24 rfl rfl) rfl rfl rfl
theorem q_8_26 (h : zAt sh o 1 x) : zRun 8 26 L (.int x :: .ref o :: S) sh mi mj mr = zRun 8 27 L (.int (mi o x.toNatClampNeg) :: S) sh mi mj mr := zr_iald (zD_of zk_8 d_8_26 rfl rfl) h
theorem q_8_27  : zRun 8 27 L (.int y :: .int x :: S) sh mi mj mr = if y ≤ x then zRun 8 39 L S sh mi mj mr else zRun 8 30 L S sh mi mj mr := zr_if (off := 12) (P := y ≤ x) (zD_of zk_8 d_8_27 rfl rfl) rfl rfl (by decide)
theorem q_8_30r : zRun 8 30 [l0, some (.ref o), l2, l3, l4, l5, l6, l7] S sh mi mj mr = zRun 8 31 [l0, some (.ref o), l2, l3, l4, l5, l6, l7] (.ref o :: S) sh mi mj mr := zr_l (zD_of zk_8 d_8_30 rfl rfl) rfl rfl rfl
theorem q_8_30n : zRun 8 30 [l0, some (.null), l2, l3, l4, l5, l6, l7] S sh mi mj mr = zRun 8 31 [l0, some (.null), l2, l3, l4, l5, l6, l7] (.null :: S) sh mi mj mr := zr_l (zD_of zk_8 d_8_30 rfl rfl) rfl rfl rfl
theorem q_8_31 : zRun 8 31 [l0, l1, l2, l3, l4, some (.int x), l6, l7] S sh mi mj mr = zRun 8 33 [l0, l1, l2, l3, l4, some (.int x), l6, l7] (.int x :: S) sh mi mj mr := zr_l (zD_of zk_8 d_8_31 rfl rfl) rfl rfl rfl
theorem q_8_33  {x0 : Int32} (hS : zcat S ≤ 8) (h : zIs sh o 0 2) : zRun 8 33 L (.int x0 :: .ref o :: S) sh mi mj mr = (zCall 23 [.ref o, .int x0] sh mi mj mr).bind fun r => zRun 8 36 L (r.1.toList ++ S) r.2.1 r.2.2.1 r.2.2.2.1 r.2.2.2.2 := zr_V (zD_of zk_8 d_8_33 rfl rfl) rfl zk_23 rfl rfl rfl hS h
theorem q_8_36  : zRun 8 36 L S sh mi mj mr = zRun 8 40 L S sh mi mj mr := zr_go (off := 4) (zD_of zk_8 d_8_36 rfl rfl) rfl rfl (by decide)
theorem q_8_39  : zRun 8 39 L S sh mi mj mr = zRun 8 40 L (.long 0 :: S) sh mi mj mr := zr_p (zD_of zk_8 d_8_39 rfl rfl) rfl
theorem q_8_40 : zRun 8 40 [l0, l1, l2, l3, l4, l5, l6, l7] (.long u :: S) sh mi mj mr = zRun 8 42 [l0, l1, l2, l3, l4, zk2 l5, some (.long u), none] S sh mi mj mr := zr_s2 (i := 6) (v := .long u) (L := [l0, l1, l2, l3, l4, l5, l6, l7]) (zD_of zk_8 d_8_40 rfl rfl) rfl rfl rfl rfl
theorem q_8_42 : zRun 8 42 [l0, l1, l2, l3, l4, l5, some (.long u), l7] S sh mi mj mr = zRun 8 44 [l0, l1, l2, l3, l4, l5, some (.long u), l7] (.long u :: S) sh mi mj mr := zr_l (zD_of zk_8 d_8_42 rfl rfl) rfl rfl rfl
theorem q_8_44 : zRun 8 44 [l0, l1, l2, some (.long u), l4, l5, l6, l7] S sh mi mj mr = zRun 8 45 [l0, l1, l2, some (.long u), l4, l5, l6, l7] (.long u :: S) sh mi mj mr := zr_l (zD_of zk_8 d_8_44 rfl rfl) rfl rfl rfl
theorem q_8_45  : zRun 8 45 L (.long v :: .long u :: S) sh mi mj mr = if u ≤ v then zRun 8 55 L S sh mi mj mr else zRun 8 49 L S sh mi mj mr := zr_cmp (off := 9) (zD_of zk_8 d_8_45 rfl rfl) (zD_of zk_8 d_8_46 rfl rfl) rfl rfl (by decide) (lg_cmp_le u v)
theorem q_8_46  : zRun 8 46 L (.int x :: S) sh mi mj mr = if x ≤ 0 then zRun 8 55 L S sh mi mj mr else zRun 8 49 L S sh mi mj mr := zr_if (off := 9) (P := x ≤ 0) (zD_of zk_8 d_8_46 rfl rfl) rfl rfl (by decide)
theorem q_8_49 : zRun 8 49 [l0, l1, l2, l3, l4, l5, some (.long u), l7] S sh mi mj mr = zRun 8 51 [l0, l1, l2, l3, l4, l5, some (.long u), l7] (.long u :: S) sh mi mj mr := zr_l (zD_of zk_8 d_8_49 rfl rfl) rfl rfl rfl
theorem q_8_51 : zRun 8 51 [l0, l1, l2, l3, l4, l5, l6, l7] (.long u :: S) sh mi mj mr = zRun 8 52 [l0, l1, zk2 l2, some (.long u), none, l5, l6, l7] S sh mi mj mr := zr_s2 (i := 3) (v := .long u) (L := [l0, l1, l2, l3, l4, l5, l6, l7]) (zD_of zk_8 d_8_51 rfl rfl) rfl rfl rfl rfl
theorem q_8_52 : zRun 8 52 [l0, l1, l2, l3, l4, some (.int x), l6, l7] S sh mi mj mr = zRun 8 54 [l0, l1, l2, l3, l4, some (.int x), l6, l7] (.int x :: S) sh mi mj mr := zr_l (zD_of zk_8 d_8_52 rfl rfl) rfl rfl rfl
theorem q_8_54 : zRun 8 54 [l0, l1, l2, l3, l4, l5, l6, l7] (.int x :: S) sh mi mj mr = zRun 8 55 [l0, zk2 l1, some (.int x), l3, l4, l5, l6, l7] S sh mi mj mr := zr_s1 (i := 2) (v := .int x) (L := [l0, l1, l2, l3, l4, l5, l6, l7]) (zD_of zk_8 d_8_54 rfl rfl) rfl rfl rfl rfl
theorem q_8_55  : zRun 8 55 [l0, l1, l2, l3, l4, some (.int x), l6, l7] S sh mi mj mr = zRun 8 58 [l0, l1, l2, l3, zk2 l4, some (.int (x + 1)), l6, l7] S sh mi mj mr := zr_s1 (i := 5) (v := .int (x + 1)) (L := [l0, l1, l2, l3, l4, some (.int x), l6, l7]) (zD_of zk_8 d_8_55 rfl rfl) rfl rfl rfl rfl
theorem q_8_58  : zRun 8 58 L S sh mi mj mr = zRun 8 7 L S sh mi mj mr := zr_go (off := (-51)) (zD_of zk_8 d_8_58 rfl rfl) rfl rfl (by decide)
theorem q_8_61 : zRun 8 61 [l0, l1, some (.int x), l3, l4, l5, l6, l7] S sh mi mj mr = zRun 8 62 [l0, l1, some (.int x), l3, l4, l5, l6, l7] (.int x :: S) sh mi mj mr := zr_l (zD_of zk_8 d_8_61 rfl rfl) rfl rfl rfl
theorem q_8_62  : zRun 8 62 L (.int x :: S) sh mi mj mr = if x < 0 then zRun 8 67 L S sh mi mj mr else zRun 8 65 L S sh mi mj mr := zr_if (off := 5) (P := x < 0) (zD_of zk_8 d_8_62 rfl rfl) rfl rfl (by decide)
theorem q_8_65 : zRun 8 65 [l0, l1, some (.int x), l3, l4, l5, l6, l7] S sh mi mj mr = zRun 8 66 [l0, l1, some (.int x), l3, l4, l5, l6, l7] (.int x :: S) sh mi mj mr := zr_l (zD_of zk_8 d_8_65 rfl rfl) rfl rfl rfl
theorem q_8_66  : zRun 8 66 L ([.int x]) sh mi mj mr = some (some (.int x), sh, mi, mj, mr) := zr_ret (zD_of zk_8 d_8_66 rfl rfl) rfl rfl rfl rfl rfl (if_pos rfl)
theorem q_8_67  : zRun 8 67 L S sh mi mj mr = zRun 8 68 L (.int 0 :: S) sh mi mj mr := zr_p (zD_of zk_8 d_8_67 rfl rfl) rfl
theorem q_8_68 : zRun 8 68 [l0, l1, l2, l3, l4, l5, l6, l7] (.int x :: S) sh mi mj mr = zRun 8 70 [l0, l1, l2, l3, zk2 l4, some (.int x), l6, l7] S sh mi mj mr := zr_s1 (i := 5) (v := .int x) (L := [l0, l1, l2, l3, l4, l5, l6, l7]) (zD_of zk_8 d_8_68 rfl rfl) rfl rfl rfl rfl
theorem q_8_70 : zRun 8 70 [l0, l1, l2, l3, l4, some (.int x), l6, l7] S sh mi mj mr = zRun 8 72 [l0, l1, l2, l3, l4, some (.int x), l6, l7] (.int x :: S) sh mi mj mr := zr_l (zD_of zk_8 d_8_70 rfl rfl) rfl rfl rfl
theorem q_8_72  : zRun 8 72 L S sh mi mj mr = zRun 8 73 L (.int 4 :: S) sh mi mj mr := zr_p (zD_of zk_8 d_8_72 rfl rfl) rfl
theorem q_8_73  : zRun 8 73 L (.int y :: .int x :: S) sh mi mj mr = if y ≤ x then zRun 8 105 L S sh mi mj mr else zRun 8 76 L S sh mi mj mr := zr_if (off := 32) (P := y ≤ x) (zD_of zk_8 d_8_73 rfl rfl) rfl rfl (by decide)
theorem q_8_76r : zRun 8 76 [some (.ref o), l1, l2, l3, l4, l5, l6, l7] S sh mi mj mr = zRun 8 77 [some (.ref o), l1, l2, l3, l4, l5, l6, l7] (.ref o :: S) sh mi mj mr := zr_l (zD_of zk_8 d_8_76 rfl rfl) rfl rfl rfl
theorem q_8_76n : zRun 8 76 [some (.null), l1, l2, l3, l4, l5, l6, l7] S sh mi mj mr = zRun 8 77 [some (.null), l1, l2, l3, l4, l5, l6, l7] (.null :: S) sh mi mj mr := zr_l (zD_of zk_8 d_8_76 rfl rfl) rfl rfl rfl
theorem q_8_77 : zRun 8 77 [l0, l1, l2, l3, l4, some (.int x), l6, l7] S sh mi mj mr = zRun 8 79 [l0, l1, l2, l3, l4, some (.int x), l6, l7] (.int x :: S) sh mi mj mr := zr_l (zD_of zk_8 d_8_77 rfl rfl) rfl rfl rfl
theorem q_8_79  {x0 : Int32} (hS : zcat S ≤ 8) (h : zIs sh o 0 0) : zRun 8 79 L (.int x0 :: .ref o :: S) sh mi mj mr = (zCall 4 [.ref o, .int x0] sh mi mj mr).bind fun r => zRun 8 82 L (r.1.toList ++ S) r.2.1 r.2.2.1 r.2.2.2.1 r.2.2.2.2 := zr_V (zD_of zk_8 d_8_79 rfl rfl) rfl zk_4 rfl rfl rfl hS h
theorem q_8_82  : zRun 8 82 L (.int x :: S) sh mi mj mr = zRun 8 83 L (.long x.toInt64 :: S) sh mi mj mr := zr_p (zD_of zk_8 d_8_82 rfl rfl) rfl
theorem q_8_83 : zRun 8 83 [l0, l1, l2, some (.long u), l4, l5, l6, l7] S sh mi mj mr = zRun 8 84 [l0, l1, l2, some (.long u), l4, l5, l6, l7] (.long u :: S) sh mi mj mr := zr_l (zD_of zk_8 d_8_83 rfl rfl) rfl rfl rfl
theorem q_8_84  : zRun 8 84 L (.long v :: .long u :: S) sh mi mj mr = if u ≤ v then zRun 8 99 L S sh mi mj mr else zRun 8 88 L S sh mi mj mr := zr_cmp (off := 14) (zD_of zk_8 d_8_84 rfl rfl) (zD_of zk_8 d_8_85 rfl rfl) rfl rfl (by decide) (lg_cmp_le u v)
theorem q_8_85  : zRun 8 85 L (.int x :: S) sh mi mj mr = if x ≤ 0 then zRun 8 99 L S sh mi mj mr else zRun 8 88 L S sh mi mj mr := zr_if (off := 14) (P := x ≤ 0) (zD_of zk_8 d_8_85 rfl rfl) rfl rfl (by decide)
theorem q_8_88r : zRun 8 88 [some (.ref o), l1, l2, l3, l4, l5, l6, l7] S sh mi mj mr = zRun 8 89 [some (.ref o), l1, l2, l3, l4, l5, l6, l7] (.ref o :: S) sh mi mj mr := zr_l (zD_of zk_8 d_8_88 rfl rfl) rfl rfl rfl
theorem q_8_88n : zRun 8 88 [some (.null), l1, l2, l3, l4, l5, l6, l7] S sh mi mj mr = zRun 8 89 [some (.null), l1, l2, l3, l4, l5, l6, l7] (.null :: S) sh mi mj mr := zr_l (zD_of zk_8 d_8_88 rfl rfl) rfl rfl rfl
theorem q_8_89 : zRun 8 89 [l0, l1, l2, l3, l4, some (.int x), l6, l7] S sh mi mj mr = zRun 8 91 [l0, l1, l2, l3, l4, some (.int x), l6, l7] (.int x :: S) sh mi mj mr := zr_l (zD_of zk_8 d_8_89 rfl rfl) rfl rfl rfl
theorem q_8_91  {x0 : Int32} (hS : zcat S ≤ 8) (h : zIs sh o 0 0) : zRun 8 91 L (.int x0 :: .ref o :: S) sh mi mj mr = (zCall 4 [.ref o, .int x0] sh mi mj mr).bind fun r => zRun 8 94 L (r.1.toList ++ S) r.2.1 r.2.2.1 r.2.2.2.1 r.2.2.2.2 := zr_V (zD_of zk_8 d_8_91 rfl rfl) rfl zk_4 rfl rfl rfl hS h
theorem q_8_94  : zRun 8 94 L (.int x :: S) sh mi mj mr = zRun 8 95 L (.long x.toInt64 :: S) sh mi mj mr := zr_p (zD_of zk_8 d_8_94 rfl rfl) rfl
theorem q_8_95 : zRun 8 95 [l0, l1, l2, l3, l4, l5, l6, l7] (.long u :: S) sh mi mj mr = zRun 8 96 [l0, l1, zk2 l2, some (.long u), none, l5, l6, l7] S sh mi mj mr := zr_s2 (i := 3) (v := .long u) (L := [l0, l1, l2, l3, l4, l5, l6, l7]) (zD_of zk_8 d_8_95 rfl rfl) rfl rfl rfl rfl
theorem q_8_96 : zRun 8 96 [l0, l1, l2, l3, l4, some (.int x), l6, l7] S sh mi mj mr = zRun 8 98 [l0, l1, l2, l3, l4, some (.int x), l6, l7] (.int x :: S) sh mi mj mr := zr_l (zD_of zk_8 d_8_96 rfl rfl) rfl rfl rfl
theorem q_8_98 : zRun 8 98 [l0, l1, l2, l3, l4, l5, l6, l7] (.int x :: S) sh mi mj mr = zRun 8 99 [l0, zk2 l1, some (.int x), l3, l4, l5, l6, l7] S sh mi mj mr := zr_s1 (i := 2) (v := .int x) (L := [l0, l1, l2, l3, l4, l5, l6, l7]) (zD_of zk_8 d_8_98 rfl rfl) rfl rfl rfl rfl
theorem q_8_99  : zRun 8 99 [l0, l1, l2, l3, l4, some (.int x), l6, l7] S sh mi mj mr = zRun 8 102 [l0, l1, l2, l3, zk2 l4, some (.int (x + 1)), l6, l7] S sh mi mj mr := zr_s1 (i := 5) (v := .int (x + 1)) (L := [l0, l1, l2, l3, l4, some (.int x), l6, l7]) (zD_of zk_8 d_8_99 rfl rfl) rfl rfl rfl rfl
theorem q_8_102  : zRun 8 102 L S sh mi mj mr = zRun 8 70 L S sh mi mj mr := zr_go (off := (-32)) (zD_of zk_8 d_8_102 rfl rfl) rfl rfl (by decide)
theorem q_8_105 : zRun 8 105 [l0, l1, some (.int x), l3, l4, l5, l6, l7] S sh mi mj mr = zRun 8 106 [l0, l1, some (.int x), l3, l4, l5, l6, l7] (.int x :: S) sh mi mj mr := zr_l (zD_of zk_8 d_8_105 rfl rfl) rfl rfl rfl
theorem q_8_106  : zRun 8 106 L ([.int x]) sh mi mj mr = some (some (.int x), sh, mi, mj, mr) := zr_ret (zD_of zk_8 d_8_106 rfl rfl) rfl rfl rfl rfl rfl (if_pos rfl)
theorem e_8 {o0 : Nat} : zCall 8 [.ref o, .ref o0] sh mi mj mr = zRun 8 0 [some (.ref o), some (.ref o0), none, none, none, none, none, none] [] sh mi mj mr := rfl
theorem d_9_0 : decode cX0_split 0 = .ok (.aload_n 0, 1) := by decide +kernel
theorem d_9_1 : decode cX0_split 1 = .ok (.iload_n 1, 1) := by decide +kernel
theorem d_9_2 : decode cX0_split 2 = .ok (.invokevirtual 22, 3) := by decide +kernel
theorem d_9_5 : decode cX0_split 5 = .ok (.istore 4, 2) := by decide +kernel
theorem d_9_7 : decode cX0_split 7 = .ok (.aload_n 2, 1) := by decide +kernel
theorem d_9_8 : decode cX0_split 8 = .ok (.aload_n 0, 1) := by decide +kernel
theorem d_9_9 : decode cX0_split 9 = .ok (.invokevirtual 35, 3) := by decide +kernel
theorem d_9_12 : decode cX0_split 12 = .ok (.aload_n 3, 1) := by decide +kernel
theorem d_9_13 : decode cX0_split 13 = .ok (.aload_n 0, 1) := by decide +kernel
theorem d_9_14 : decode cX0_split 14 = .ok (.invokevirtual 35, 3) := by decide +kernel
theorem d_9_17 : decode cX0_split 17 = .ok (.aload_n 2, 1) := by decide +kernel
theorem d_9_18 : decode cX0_split 18 = .ok (.getfield 15, 3) := by decide +kernel
theorem d_9_21 : decode cX0_split 21 = .ok (.iload_n 1, 1) := by decide +kernel
theorem d_9_22 : decode cX0_split 22 = .ok (.iload 4, 2) := by decide +kernel
theorem d_9_24 : decode cX0_split 24 = .ok (.iastore, 1) := by decide +kernel
theorem d_9_25 : decode cX0_split 25 = .ok (.aload_n 3, 1) := by decide +kernel
theorem d_9_26 : decode cX0_split 26 = .ok (.getfield 9, 3) := by decide +kernel
theorem d_9_29 : decode cX0_split 29 = .ok (.iload_n 1, 1) := by decide +kernel
theorem d_9_30 : decode cX0_split 30 = .ok (.aload_n 0, 1) := by decide +kernel
theorem d_9_31 : decode cX0_split 31 = .ok (.iload_n 1, 1) := by decide +kernel
theorem d_9_32 : decode cX0_split 32 = .ok (.invokevirtual 32, 3) := by decide +kernel
theorem d_9_35 : decode cX0_split 35 = .ok (.iconst 1, 1) := by decide +kernel
theorem d_9_36 : decode cX0_split 36 = .ok (.if_icmp .ne 12, 3) := by decide +kernel
theorem d_9_39 : decode cX0_split 39 = .ok (.aload_n 0, 1) := by decide +kernel
theorem d_9_40 : decode cX0_split 40 = .ok (.getfield 15, 3) := by decide +kernel
theorem d_9_43 : decode cX0_split 43 = .ok (.iload_n 1, 1) := by decide +kernel
theorem d_9_44 : decode cX0_split 44 = .ok (.iaload, 1) := by decide +kernel
theorem d_9_45 : decode cX0_split 45 = .ok (.goto 5, 3) := by decide +kernel
theorem d_9_48 : decode cX0_split 48 = .ok (.iload 4, 2) := by decide +kernel
theorem d_9_50 : decode cX0_split 50 = .ok (.iastore, 1) := by decide +kernel
theorem d_9_51 : decode cX0_split 51 = .ok (.return_, 1) := by decide +kernel
theorem q_9_0r : zRun 9 0 [some (.ref o), l1, l2, l3, l4] S sh mi mj mr = zRun 9 1 [some (.ref o), l1, l2, l3, l4] (.ref o :: S) sh mi mj mr := zr_l (zD_of zk_9 d_9_0 rfl rfl) rfl rfl rfl
theorem q_9_0n : zRun 9 0 [some (.null), l1, l2, l3, l4] S sh mi mj mr = zRun 9 1 [some (.null), l1, l2, l3, l4] (.null :: S) sh mi mj mr := zr_l (zD_of zk_9 d_9_0 rfl rfl) rfl rfl rfl
theorem q_9_1 : zRun 9 1 [l0, some (.int x), l2, l3, l4] S sh mi mj mr = zRun 9 2 [l0, some (.int x), l2, l3, l4] (.int x :: S) sh mi mj mr := zr_l (zD_of zk_9 d_9_1 rfl rfl) rfl rfl rfl
theorem q_9_2  {x0 : Int32} (hS : zcat S ≤ 8) (h : zIs sh o 0 0) : zRun 9 2 L (.int x0 :: .ref o :: S) sh mi mj mr = (zCall 5 [.ref o, .int x0] sh mi mj mr).bind fun r => zRun 9 5 L (r.1.toList ++ S) r.2.1 r.2.2.1 r.2.2.2.1 r.2.2.2.2 := zr_V (zD_of zk_9 d_9_2 rfl rfl) rfl zk_5 rfl rfl rfl hS h
theorem q_9_5 : zRun 9 5 [l0, l1, l2, l3, l4] (.int x :: S) sh mi mj mr = zRun 9 7 [l0, l1, l2, zk2 l3, some (.int x)] S sh mi mj mr := zr_s1 (i := 4) (v := .int x) (L := [l0, l1, l2, l3, l4]) (zD_of zk_9 d_9_5 rfl rfl) rfl rfl rfl rfl
theorem q_9_7r : zRun 9 7 [l0, l1, some (.ref o), l3, l4] S sh mi mj mr = zRun 9 8 [l0, l1, some (.ref o), l3, l4] (.ref o :: S) sh mi mj mr := zr_l (zD_of zk_9 d_9_7 rfl rfl) rfl rfl rfl
theorem q_9_7n : zRun 9 7 [l0, l1, some (.null), l3, l4] S sh mi mj mr = zRun 9 8 [l0, l1, some (.null), l3, l4] (.null :: S) sh mi mj mr := zr_l (zD_of zk_9 d_9_7 rfl rfl) rfl rfl rfl
theorem q_9_8r : zRun 9 8 [some (.ref o), l1, l2, l3, l4] S sh mi mj mr = zRun 9 9 [some (.ref o), l1, l2, l3, l4] (.ref o :: S) sh mi mj mr := zr_l (zD_of zk_9 d_9_8 rfl rfl) rfl rfl rfl
theorem q_9_8n : zRun 9 8 [some (.null), l1, l2, l3, l4] S sh mi mj mr = zRun 9 9 [some (.null), l1, l2, l3, l4] (.null :: S) sh mi mj mr := zr_l (zD_of zk_9 d_9_8 rfl rfl) rfl rfl rfl
theorem q_9_9  {o0 : Nat} (hS : zcat S ≤ 8) (h : zIs sh o 0 0) : zRun 9 9 L (.ref o0 :: .ref o :: S) sh mi mj mr = (zCall 3 [.ref o, .ref o0] sh mi mj mr).bind fun r => zRun 9 12 L (r.1.toList ++ S) r.2.1 r.2.2.1 r.2.2.2.1 r.2.2.2.2 := zr_V (zD_of zk_9 d_9_9 rfl rfl) rfl zk_3 rfl rfl rfl hS h
theorem q_9_12r : zRun 9 12 [l0, l1, l2, some (.ref o), l4] S sh mi mj mr = zRun 9 13 [l0, l1, l2, some (.ref o), l4] (.ref o :: S) sh mi mj mr := zr_l (zD_of zk_9 d_9_12 rfl rfl) rfl rfl rfl
theorem q_9_12n : zRun 9 12 [l0, l1, l2, some (.null), l4] S sh mi mj mr = zRun 9 13 [l0, l1, l2, some (.null), l4] (.null :: S) sh mi mj mr := zr_l (zD_of zk_9 d_9_12 rfl rfl) rfl rfl rfl
theorem q_9_13r : zRun 9 13 [some (.ref o), l1, l2, l3, l4] S sh mi mj mr = zRun 9 14 [some (.ref o), l1, l2, l3, l4] (.ref o :: S) sh mi mj mr := zr_l (zD_of zk_9 d_9_13 rfl rfl) rfl rfl rfl
theorem q_9_13n : zRun 9 13 [some (.null), l1, l2, l3, l4] S sh mi mj mr = zRun 9 14 [some (.null), l1, l2, l3, l4] (.null :: S) sh mi mj mr := zr_l (zD_of zk_9 d_9_13 rfl rfl) rfl rfl rfl
theorem q_9_14  {o0 : Nat} (hS : zcat S ≤ 8) (h : zIs sh o 0 0) : zRun 9 14 L (.ref o0 :: .ref o :: S) sh mi mj mr = (zCall 3 [.ref o, .ref o0] sh mi mj mr).bind fun r => zRun 9 17 L (r.1.toList ++ S) r.2.1 r.2.2.1 r.2.2.2.1 r.2.2.2.2 := zr_V (zD_of zk_9 d_9_14 rfl rfl) rfl zk_3 rfl rfl rfl hS h
theorem q_9_17r : zRun 9 17 [l0, l1, some (.ref o), l3, l4] S sh mi mj mr = zRun 9 18 [l0, l1, some (.ref o), l3, l4] (.ref o :: S) sh mi mj mr := zr_l (zD_of zk_9 d_9_17 rfl rfl) rfl rfl rfl
theorem q_9_17n : zRun 9 17 [l0, l1, some (.null), l3, l4] S sh mi mj mr = zRun 9 18 [l0, l1, some (.null), l3, l4] (.null :: S) sh mi mj mr := zr_l (zD_of zk_9 d_9_17 rfl rfl) rfl rfl rfl
theorem q_9_18 (h : zIs sh o 0 0) : zRun 9 18 L (.ref o :: S) sh mi mj mr = zRun 9 21 L (va_rf (mr o 1) :: S) sh mi mj mr := zr_getR (zD_of zk_9 d_9_18 rfl rfl) rfl rfl rfl h
theorem q_9_21 : zRun 9 21 [l0, some (.int x), l2, l3, l4] S sh mi mj mr = zRun 9 22 [l0, some (.int x), l2, l3, l4] (.int x :: S) sh mi mj mr := zr_l (zD_of zk_9 d_9_21 rfl rfl) rfl rfl rfl
theorem q_9_22 : zRun 9 22 [l0, l1, l2, l3, some (.int x)] S sh mi mj mr = zRun 9 24 [l0, l1, l2, l3, some (.int x)] (.int x :: S) sh mi mj mr := zr_l (zD_of zk_9 d_9_22 rfl rfl) rfl rfl rfl
theorem q_9_24 (h : zAt sh o 1 x) : zRun 9 24 L (.int y :: .int x :: .ref o :: S) sh mi mj mr = zRun 9 25 L S sh (zup mi o x.toNatClampNeg y) mj mr := zr_iast (zD_of zk_9 d_9_24 rfl rfl) h
theorem q_9_25r : zRun 9 25 [l0, l1, l2, some (.ref o), l4] S sh mi mj mr = zRun 9 26 [l0, l1, l2, some (.ref o), l4] (.ref o :: S) sh mi mj mr := zr_l (zD_of zk_9 d_9_25 rfl rfl) rfl rfl rfl
theorem q_9_25n : zRun 9 25 [l0, l1, l2, some (.null), l4] S sh mi mj mr = zRun 9 26 [l0, l1, l2, some (.null), l4] (.null :: S) sh mi mj mr := zr_l (zD_of zk_9 d_9_25 rfl rfl) rfl rfl rfl
theorem q_9_26 (h : zIs sh o 0 0) : zRun 9 26 L (.ref o :: S) sh mi mj mr = zRun 9 29 L (va_rf (mr o 0) :: S) sh mi mj mr := zr_getR (zD_of zk_9 d_9_26 rfl rfl) rfl rfl rfl h
theorem q_9_29 : zRun 9 29 [l0, some (.int x), l2, l3, l4] S sh mi mj mr = zRun 9 30 [l0, some (.int x), l2, l3, l4] (.int x :: S) sh mi mj mr := zr_l (zD_of zk_9 d_9_29 rfl rfl) rfl rfl rfl
theorem q_9_30r : zRun 9 30 [some (.ref o), l1, l2, l3, l4] S sh mi mj mr = zRun 9 31 [some (.ref o), l1, l2, l3, l4] (.ref o :: S) sh mi mj mr := zr_l (zD_of zk_9 d_9_30 rfl rfl) rfl rfl rfl
theorem q_9_30n : zRun 9 30 [some (.null), l1, l2, l3, l4] S sh mi mj mr = zRun 9 31 [some (.null), l1, l2, l3, l4] (.null :: S) sh mi mj mr := zr_l (zD_of zk_9 d_9_30 rfl rfl) rfl rfl rfl
theorem q_9_31 : zRun 9 31 [l0, some (.int x), l2, l3, l4] S sh mi mj mr = zRun 9 32 [l0, some (.int x), l2, l3, l4] (.int x :: S) sh mi mj mr := zr_l (zD_of zk_9 d_9_31 rfl rfl) rfl rfl rfl
theorem q_9_32  {x0 : Int32} (hS : zcat S ≤ 8) (h : zIs sh o 0 0) : zRun 9 32 L (.int x0 :: .ref o :: S) sh mi mj mr = (zCall 4 [.ref o, .int x0] sh mi mj mr).bind fun r => zRun 9 35 L (r.1.toList ++ S) r.2.1 r.2.2.1 r.2.2.2.1 r.2.2.2.2 := zr_V (zD_of zk_9 d_9_32 rfl rfl) rfl zk_4 rfl rfl rfl hS h
theorem q_9_35  : zRun 9 35 L S sh mi mj mr = zRun 9 36 L (.int 1 :: S) sh mi mj mr := zr_p (zD_of zk_9 d_9_35 rfl rfl) rfl
theorem q_9_36  : zRun 9 36 L (.int y :: .int x :: S) sh mi mj mr = if ¬ x = y then zRun 9 48 L S sh mi mj mr else zRun 9 39 L S sh mi mj mr := zr_if (off := 12) (P := ¬ x = y) (zD_of zk_9 d_9_36 rfl rfl) rfl rfl (by decide)
theorem q_9_39r : zRun 9 39 [some (.ref o), l1, l2, l3, l4] S sh mi mj mr = zRun 9 40 [some (.ref o), l1, l2, l3, l4] (.ref o :: S) sh mi mj mr := zr_l (zD_of zk_9 d_9_39 rfl rfl) rfl rfl rfl
theorem q_9_39n : zRun 9 39 [some (.null), l1, l2, l3, l4] S sh mi mj mr = zRun 9 40 [some (.null), l1, l2, l3, l4] (.null :: S) sh mi mj mr := zr_l (zD_of zk_9 d_9_39 rfl rfl) rfl rfl rfl
theorem q_9_40 (h : zIs sh o 0 0) : zRun 9 40 L (.ref o :: S) sh mi mj mr = zRun 9 43 L (va_rf (mr o 1) :: S) sh mi mj mr := zr_getR (zD_of zk_9 d_9_40 rfl rfl) rfl rfl rfl h
theorem q_9_43 : zRun 9 43 [l0, some (.int x), l2, l3, l4] S sh mi mj mr = zRun 9 44 [l0, some (.int x), l2, l3, l4] (.int x :: S) sh mi mj mr := zr_l (zD_of zk_9 d_9_43 rfl rfl) rfl rfl rfl
theorem q_9_44 (h : zAt sh o 1 x) : zRun 9 44 L (.int x :: .ref o :: S) sh mi mj mr = zRun 9 45 L (.int (mi o x.toNatClampNeg) :: S) sh mi mj mr := zr_iald (zD_of zk_9 d_9_44 rfl rfl) h
theorem q_9_45  : zRun 9 45 L S sh mi mj mr = zRun 9 50 L S sh mi mj mr := zr_go (off := 5) (zD_of zk_9 d_9_45 rfl rfl) rfl rfl (by decide)
theorem q_9_48 : zRun 9 48 [l0, l1, l2, l3, some (.int x)] S sh mi mj mr = zRun 9 50 [l0, l1, l2, l3, some (.int x)] (.int x :: S) sh mi mj mr := zr_l (zD_of zk_9 d_9_48 rfl rfl) rfl rfl rfl
theorem q_9_50 (h : zAt sh o 1 x) : zRun 9 50 L (.int y :: .int x :: .ref o :: S) sh mi mj mr = zRun 9 51 L S sh (zup mi o x.toNatClampNeg y) mj mr := zr_iast (zD_of zk_9 d_9_50 rfl rfl) h
theorem q_9_51  : zRun 9 51 L [] sh mi mj mr = some (none, sh, mi, mj, mr) := zr_ret (zD_of zk_9 d_9_51 rfl rfl) rfl rfl rfl rfl rfl rfl
theorem e_9 {x0 : Int32} {o0 o1 : Nat} : zCall 9 [.ref o, .int x0, .ref o0, .ref o1] sh mi mj mr = zRun 9 0 [some (.ref o), some (.int x0), some (.ref o0), some (.ref o1), none] [] sh mi mj mr := rfl
theorem d_10_0 : decode cX1_init 0 = .ok (.aload_n 0, 1) := by decide +kernel
theorem d_10_1 : decode cX1_init 1 = .ok (.invokespecial 3, 3) := by decide +kernel
theorem d_10_4 : decode cX1_init 4 = .ok (.aload_n 0, 1) := by decide +kernel
theorem d_10_5 : decode cX1_init 5 = .ok (.sipush 800, 3) := by decide +kernel
theorem d_10_8 : decode cX1_init 8 = .ok (.newarray .int, 2) := by decide +kernel
theorem d_10_10 : decode cX1_init 10 = .ok (.putfield 9, 3) := by decide +kernel
theorem d_10_13 : decode cX1_init 13 = .ok (.aload_n 0, 1) := by decide +kernel
theorem d_10_14 : decode cX1_init 14 = .ok (.sipush 800, 3) := by decide +kernel
theorem d_10_17 : decode cX1_init 17 = .ok (.newarray .int, 2) := by decide +kernel
theorem d_10_19 : decode cX1_init 19 = .ok (.putfield 15, 3) := by decide +kernel
theorem d_10_22 : decode cX1_init 22 = .ok (.aload_n 0, 1) := by decide +kernel
theorem d_10_23 : decode cX1_init 23 = .ok (.sipush 200, 3) := by decide +kernel
theorem d_10_26 : decode cX1_init 26 = .ok (.newarray .long, 2) := by decide +kernel
theorem d_10_28 : decode cX1_init 28 = .ok (.putfield 18, 3) := by decide +kernel
theorem d_10_31 : decode cX1_init 31 = .ok (.aload_n 0, 1) := by decide +kernel
theorem d_10_32 : decode cX1_init 32 = .ok (.sipush 200, 3) := by decide +kernel
theorem d_10_35 : decode cX1_init 35 = .ok (.newarray .int, 2) := by decide +kernel
theorem d_10_37 : decode cX1_init 37 = .ok (.putfield 22, 3) := by decide +kernel
theorem d_10_40 : decode cX1_init 40 = .ok (.aload_n 0, 1) := by decide +kernel
theorem d_10_41 : decode cX1_init 41 = .ok (.iconst 0, 1) := by decide +kernel
theorem d_10_42 : decode cX1_init 42 = .ok (.putfield 25, 3) := by decide +kernel
theorem d_10_45 : decode cX1_init 45 = .ok (.return_, 1) := by decide +kernel
theorem q_10_0r : zRun 10 0 [some (.ref o)] S sh mi mj mr = zRun 10 1 [some (.ref o)] (.ref o :: S) sh mi mj mr := zr_l (zD_of zk_10 d_10_0 rfl rfl) rfl rfl rfl
theorem q_10_0n : zRun 10 0 [some (.null)] S sh mi mj mr = zRun 10 1 [some (.null)] (.null :: S) sh mi mj mr := zr_l (zD_of zk_10 d_10_0 rfl rfl) rfl rfl rfl
theorem q_10_1 (h : zcat S ≤ 8) : zRun 10 1 L (.ref o :: S) sh mi mj mr = zRun 10 4 L S sh mi mj mr := zr_obj (zD_of zk_10 d_10_1 rfl rfl) rfl h
theorem q_10_4r : zRun 10 4 [some (.ref o)] S sh mi mj mr = zRun 10 5 [some (.ref o)] (.ref o :: S) sh mi mj mr := zr_l (zD_of zk_10 d_10_4 rfl rfl) rfl rfl rfl
theorem q_10_4n : zRun 10 4 [some (.null)] S sh mi mj mr = zRun 10 5 [some (.null)] (.null :: S) sh mi mj mr := zr_l (zD_of zk_10 d_10_4 rfl rfl) rfl rfl rfl
theorem q_10_5  : zRun 10 5 L S sh mi mj mr = zRun 10 8 L (.int 800 :: S) sh mi mj mr := zr_p (zD_of zk_10 d_10_5 rfl rfl) rfl
theorem q_10_8 (h : 0 ≤ x ∧ x ≤ 100000) : zRun 10 8 L (.int x :: S) sh mi mj mr = zRun 10 10 L (.ref sh.length :: S) (sh ++ [(1, x.toNatClampNeg)]) mi mj mr := zr_w (zD_of zk_10 d_10_8 rfl rfl) rfl rfl rfl rfl (if_pos h)
theorem q_10_10 (h : zIs sh o 0 1) : zRun 10 10 L (.ref o2 :: .ref o :: S) sh mi mj mr = zRun 10 13 L S sh mi mj (zup mr o 0 (some o2)) := zr_putR (zD_of zk_10 d_10_10 rfl rfl) rfl rfl rfl (Or.inr ⟨rfl, rfl⟩) h
theorem q_10_13r : zRun 10 13 [some (.ref o)] S sh mi mj mr = zRun 10 14 [some (.ref o)] (.ref o :: S) sh mi mj mr := zr_l (zD_of zk_10 d_10_13 rfl rfl) rfl rfl rfl
theorem q_10_13n : zRun 10 13 [some (.null)] S sh mi mj mr = zRun 10 14 [some (.null)] (.null :: S) sh mi mj mr := zr_l (zD_of zk_10 d_10_13 rfl rfl) rfl rfl rfl
theorem q_10_14  : zRun 10 14 L S sh mi mj mr = zRun 10 17 L (.int 800 :: S) sh mi mj mr := zr_p (zD_of zk_10 d_10_14 rfl rfl) rfl
theorem q_10_17 (h : 0 ≤ x ∧ x ≤ 100000) : zRun 10 17 L (.int x :: S) sh mi mj mr = zRun 10 19 L (.ref sh.length :: S) (sh ++ [(1, x.toNatClampNeg)]) mi mj mr := zr_w (zD_of zk_10 d_10_17 rfl rfl) rfl rfl rfl rfl (if_pos h)
theorem q_10_19 (h : zIs sh o 0 1) : zRun 10 19 L (.ref o2 :: .ref o :: S) sh mi mj mr = zRun 10 22 L S sh mi mj (zup mr o 1 (some o2)) := zr_putR (zD_of zk_10 d_10_19 rfl rfl) rfl rfl rfl (Or.inr ⟨rfl, rfl⟩) h
theorem q_10_22r : zRun 10 22 [some (.ref o)] S sh mi mj mr = zRun 10 23 [some (.ref o)] (.ref o :: S) sh mi mj mr := zr_l (zD_of zk_10 d_10_22 rfl rfl) rfl rfl rfl
theorem q_10_22n : zRun 10 22 [some (.null)] S sh mi mj mr = zRun 10 23 [some (.null)] (.null :: S) sh mi mj mr := zr_l (zD_of zk_10 d_10_22 rfl rfl) rfl rfl rfl
theorem q_10_23  : zRun 10 23 L S sh mi mj mr = zRun 10 26 L (.int 200 :: S) sh mi mj mr := zr_p (zD_of zk_10 d_10_23 rfl rfl) rfl
theorem q_10_26 (h : 0 ≤ x ∧ x ≤ 100000) : zRun 10 26 L (.int x :: S) sh mi mj mr = zRun 10 28 L (.ref sh.length :: S) (sh ++ [(2, x.toNatClampNeg)]) mi mj mr := zr_w (zD_of zk_10 d_10_26 rfl rfl) rfl rfl rfl rfl (if_pos h)
theorem q_10_28 (h : zIs sh o 0 1) : zRun 10 28 L (.ref o2 :: .ref o :: S) sh mi mj mr = zRun 10 31 L S sh mi mj (zup mr o 2 (some o2)) := zr_putR (zD_of zk_10 d_10_28 rfl rfl) rfl rfl rfl (Or.inr ⟨rfl, rfl⟩) h
theorem q_10_31r : zRun 10 31 [some (.ref o)] S sh mi mj mr = zRun 10 32 [some (.ref o)] (.ref o :: S) sh mi mj mr := zr_l (zD_of zk_10 d_10_31 rfl rfl) rfl rfl rfl
theorem q_10_31n : zRun 10 31 [some (.null)] S sh mi mj mr = zRun 10 32 [some (.null)] (.null :: S) sh mi mj mr := zr_l (zD_of zk_10 d_10_31 rfl rfl) rfl rfl rfl
theorem q_10_32  : zRun 10 32 L S sh mi mj mr = zRun 10 35 L (.int 200 :: S) sh mi mj mr := zr_p (zD_of zk_10 d_10_32 rfl rfl) rfl
theorem q_10_35 (h : 0 ≤ x ∧ x ≤ 100000) : zRun 10 35 L (.int x :: S) sh mi mj mr = zRun 10 37 L (.ref sh.length :: S) (sh ++ [(1, x.toNatClampNeg)]) mi mj mr := zr_w (zD_of zk_10 d_10_35 rfl rfl) rfl rfl rfl rfl (if_pos h)
theorem q_10_37 (h : zIs sh o 0 1) : zRun 10 37 L (.ref o2 :: .ref o :: S) sh mi mj mr = zRun 10 40 L S sh mi mj (zup mr o 3 (some o2)) := zr_putR (zD_of zk_10 d_10_37 rfl rfl) rfl rfl rfl (Or.inr ⟨rfl, rfl⟩) h
theorem q_10_40r : zRun 10 40 [some (.ref o)] S sh mi mj mr = zRun 10 41 [some (.ref o)] (.ref o :: S) sh mi mj mr := zr_l (zD_of zk_10 d_10_40 rfl rfl) rfl rfl rfl
theorem q_10_40n : zRun 10 40 [some (.null)] S sh mi mj mr = zRun 10 41 [some (.null)] (.null :: S) sh mi mj mr := zr_l (zD_of zk_10 d_10_40 rfl rfl) rfl rfl rfl
theorem q_10_41  : zRun 10 41 L S sh mi mj mr = zRun 10 42 L (.int 0 :: S) sh mi mj mr := zr_p (zD_of zk_10 d_10_41 rfl rfl) rfl
theorem q_10_42 (h : zIs sh o 0 1) : zRun 10 42 L (.int x :: .ref o :: S) sh mi mj mr = zRun 10 45 L S sh (zup mi o 4 x) mj mr := zr_putI (zD_of zk_10 d_10_42 rfl rfl) rfl rfl rfl (Or.inr ⟨rfl, rfl⟩) h
theorem q_10_45  : zRun 10 45 L [] sh mi mj mr = some (none, sh, mi, mj, mr) := zr_ret (zD_of zk_10 d_10_45 rfl rfl) rfl rfl rfl rfl rfl rfl
theorem e_10 : zCall 10 [.ref o] sh mi mj mr = zRun 10 0 [some (.ref o)] [] sh mi mj mr := rfl
theorem d_11_0 : decode cX1_clear 0 = .ok (.aload_n 0, 1) := by decide +kernel
theorem d_11_1 : decode cX1_clear 1 = .ok (.iconst 0, 1) := by decide +kernel
theorem d_11_2 : decode cX1_clear 2 = .ok (.putfield 25, 3) := by decide +kernel
theorem d_11_5 : decode cX1_clear 5 = .ok (.return_, 1) := by decide +kernel
theorem q_11_0r : zRun 11 0 [some (.ref o)] S sh mi mj mr = zRun 11 1 [some (.ref o)] (.ref o :: S) sh mi mj mr := zr_l (zD_of zk_11 d_11_0 rfl rfl) rfl rfl rfl
theorem q_11_0n : zRun 11 0 [some (.null)] S sh mi mj mr = zRun 11 1 [some (.null)] (.null :: S) sh mi mj mr := zr_l (zD_of zk_11 d_11_0 rfl rfl) rfl rfl rfl
theorem q_11_1  : zRun 11 1 L S sh mi mj mr = zRun 11 2 L (.int 0 :: S) sh mi mj mr := zr_p (zD_of zk_11 d_11_1 rfl rfl) rfl
theorem q_11_2 (h : zIs sh o 0 1) : zRun 11 2 L (.int x :: .ref o :: S) sh mi mj mr = zRun 11 5 L S sh (zup mi o 4 x) mj mr := zr_putI (zD_of zk_11 d_11_2 rfl rfl) rfl rfl rfl (Or.inl rfl) h
theorem q_11_5  : zRun 11 5 L [] sh mi mj mr = some (none, sh, mi, mj, mr) := zr_ret (zD_of zk_11 d_11_5 rfl rfl) rfl rfl rfl rfl rfl rfl
theorem e_11 : zCall 11 [.ref o] sh mi mj mr = zRun 11 0 [some (.ref o)] [] sh mi mj mr := rfl
theorem d_12_0 : decode cX1_append 0 = .ok (.aload_n 0, 1) := by decide +kernel
theorem d_12_1 : decode cX1_append 1 = .ok (.getfield 25, 3) := by decide +kernel
theorem d_12_4 : decode cX1_append 4 = .ok (.sipush 200, 3) := by decide +kernel
theorem d_12_7 : decode cX1_append 7 = .ok (.if_icmp .lt 4, 3) := by decide +kernel
theorem d_12_10 : decode cX1_append 10 = .ok (.return_, 1) := by decide +kernel
theorem d_12_11 : decode cX1_append 11 = .ok (.aload_n 0, 1) := by decide +kernel
theorem d_12_12 : decode cX1_append 12 = .ok (.dup, 1) := by decide +kernel
theorem d_12_13 : decode cX1_append 13 = .ok (.getfield 25, 3) := by decide +kernel
theorem d_12_16 : decode cX1_append 16 = .ok (.iconst 1, 1) := by decide +kernel
theorem d_12_17 : decode cX1_append 17 = .ok (.iadd, 1) := by decide +kernel
theorem d_12_18 : decode cX1_append 18 = .ok (.putfield 25, 3) := by decide +kernel
theorem d_12_21 : decode cX1_append 21 = .ok (.aload_n 0, 1) := by decide +kernel
theorem d_12_22 : decode cX1_append 22 = .ok (.aload_n 0, 1) := by decide +kernel
theorem d_12_23 : decode cX1_append 23 = .ok (.getfield 25, 3) := by decide +kernel
theorem d_12_26 : decode cX1_append 26 = .ok (.iconst 1, 1) := by decide +kernel
theorem d_12_27 : decode cX1_append 27 = .ok (.isub, 1) := by decide +kernel
theorem d_12_28 : decode cX1_append 28 = .ok (.aload_n 1, 1) := by decide +kernel
theorem d_12_29 : decode cX1_append 29 = .ok (.invokevirtual 29, 3) := by decide +kernel
theorem d_12_32 : decode cX1_append 32 = .ok (.return_, 1) := by decide +kernel
theorem q_12_0r : zRun 12 0 [some (.ref o), l1] S sh mi mj mr = zRun 12 1 [some (.ref o), l1] (.ref o :: S) sh mi mj mr := zr_l (zD_of zk_12 d_12_0 rfl rfl) rfl rfl rfl
theorem q_12_0n : zRun 12 0 [some (.null), l1] S sh mi mj mr = zRun 12 1 [some (.null), l1] (.null :: S) sh mi mj mr := zr_l (zD_of zk_12 d_12_0 rfl rfl) rfl rfl rfl
theorem q_12_1 (h : zIs sh o 0 1) : zRun 12 1 L (.ref o :: S) sh mi mj mr = zRun 12 4 L (.int (mi o 4) :: S) sh mi mj mr := zr_getI (zD_of zk_12 d_12_1 rfl rfl) rfl rfl (Or.inl rfl) h
theorem q_12_4  : zRun 12 4 L S sh mi mj mr = zRun 12 7 L (.int 200 :: S) sh mi mj mr := zr_p (zD_of zk_12 d_12_4 rfl rfl) rfl
theorem q_12_7  : zRun 12 7 L (.int y :: .int x :: S) sh mi mj mr = if x < y then zRun 12 11 L S sh mi mj mr else zRun 12 10 L S sh mi mj mr := zr_if (off := 4) (P := x < y) (zD_of zk_12 d_12_7 rfl rfl) rfl rfl (by decide)
theorem q_12_10  : zRun 12 10 L [] sh mi mj mr = some (none, sh, mi, mj, mr) := zr_ret (zD_of zk_12 d_12_10 rfl rfl) rfl rfl rfl rfl rfl rfl
theorem q_12_11r : zRun 12 11 [some (.ref o), l1] S sh mi mj mr = zRun 12 12 [some (.ref o), l1] (.ref o :: S) sh mi mj mr := zr_l (zD_of zk_12 d_12_11 rfl rfl) rfl rfl rfl
theorem q_12_11n : zRun 12 11 [some (.null), l1] S sh mi mj mr = zRun 12 12 [some (.null), l1] (.null :: S) sh mi mj mr := zr_l (zD_of zk_12 d_12_11 rfl rfl) rfl rfl rfl
theorem q_12_12r : zRun 12 12 L (.ref o :: S) sh mi mj mr = zRun 12 13 L (.ref o :: .ref o :: S) sh mi mj mr := zr_p (zD_of zk_12 d_12_12 rfl rfl) rfl
theorem q_12_12i : zRun 12 12 L (.int x :: S) sh mi mj mr = zRun 12 13 L (.int x :: .int x :: S) sh mi mj mr := zr_p (zD_of zk_12 d_12_12 rfl rfl) rfl
theorem q_12_13 (h : zIs sh o 0 1) : zRun 12 13 L (.ref o :: S) sh mi mj mr = zRun 12 16 L (.int (mi o 4) :: S) sh mi mj mr := zr_getI (zD_of zk_12 d_12_13 rfl rfl) rfl rfl (Or.inl rfl) h
theorem q_12_16  : zRun 12 16 L S sh mi mj mr = zRun 12 17 L (.int 1 :: S) sh mi mj mr := zr_p (zD_of zk_12 d_12_16 rfl rfl) rfl
theorem q_12_17  : zRun 12 17 L (.int y :: .int x :: S) sh mi mj mr = zRun 12 18 L (.int (x + y) :: S) sh mi mj mr := zr_p (zD_of zk_12 d_12_17 rfl rfl) rfl
theorem q_12_18 (h : zIs sh o 0 1) : zRun 12 18 L (.int x :: .ref o :: S) sh mi mj mr = zRun 12 21 L S sh (zup mi o 4 x) mj mr := zr_putI (zD_of zk_12 d_12_18 rfl rfl) rfl rfl rfl (Or.inl rfl) h
theorem q_12_21r : zRun 12 21 [some (.ref o), l1] S sh mi mj mr = zRun 12 22 [some (.ref o), l1] (.ref o :: S) sh mi mj mr := zr_l (zD_of zk_12 d_12_21 rfl rfl) rfl rfl rfl
theorem q_12_21n : zRun 12 21 [some (.null), l1] S sh mi mj mr = zRun 12 22 [some (.null), l1] (.null :: S) sh mi mj mr := zr_l (zD_of zk_12 d_12_21 rfl rfl) rfl rfl rfl
theorem q_12_22r : zRun 12 22 [some (.ref o), l1] S sh mi mj mr = zRun 12 23 [some (.ref o), l1] (.ref o :: S) sh mi mj mr := zr_l (zD_of zk_12 d_12_22 rfl rfl) rfl rfl rfl
theorem q_12_22n : zRun 12 22 [some (.null), l1] S sh mi mj mr = zRun 12 23 [some (.null), l1] (.null :: S) sh mi mj mr := zr_l (zD_of zk_12 d_12_22 rfl rfl) rfl rfl rfl
theorem q_12_23 (h : zIs sh o 0 1) : zRun 12 23 L (.ref o :: S) sh mi mj mr = zRun 12 26 L (.int (mi o 4) :: S) sh mi mj mr := zr_getI (zD_of zk_12 d_12_23 rfl rfl) rfl rfl (Or.inl rfl) h
theorem q_12_26  : zRun 12 26 L S sh mi mj mr = zRun 12 27 L (.int 1 :: S) sh mi mj mr := zr_p (zD_of zk_12 d_12_26 rfl rfl) rfl
theorem q_12_27  : zRun 12 27 L (.int y :: .int x :: S) sh mi mj mr = zRun 12 28 L (.int (x - y) :: S) sh mi mj mr := zr_p (zD_of zk_12 d_12_27 rfl rfl) rfl
theorem q_12_28r : zRun 12 28 [l0, some (.ref o)] S sh mi mj mr = zRun 12 29 [l0, some (.ref o)] (.ref o :: S) sh mi mj mr := zr_l (zD_of zk_12 d_12_28 rfl rfl) rfl rfl rfl
theorem q_12_28n : zRun 12 28 [l0, some (.null)] S sh mi mj mr = zRun 12 29 [l0, some (.null)] (.null :: S) sh mi mj mr := zr_l (zD_of zk_12 d_12_28 rfl rfl) rfl rfl rfl
theorem q_12_29  {x0 : Int32} {o0 : Nat} (hS : zcat S ≤ 8) (h : zIs sh o 0 1) : zRun 12 29 L (.ref o0 :: .int x0 :: .ref o :: S) sh mi mj mr = (zCall 13 [.ref o, .int x0, .ref o0] sh mi mj mr).bind fun r => zRun 12 32 L (r.1.toList ++ S) r.2.1 r.2.2.1 r.2.2.2.1 r.2.2.2.2 := zr_V (zD_of zk_12 d_12_29 rfl rfl) rfl zk_13 rfl rfl rfl hS h
theorem q_12_32  : zRun 12 32 L [] sh mi mj mr = some (none, sh, mi, mj, mr) := zr_ret (zD_of zk_12 d_12_32 rfl rfl) rfl rfl rfl rfl rfl rfl
theorem e_12 {o0 : Nat} : zCall 12 [.ref o, .ref o0] sh mi mj mr = zRun 12 0 [some (.ref o), some (.ref o0)] [] sh mi mj mr := rfl
theorem d_13_0 : decode cX1_replace 0 = .ok (.iload_n 1, 1) := by decide +kernel
theorem d_13_1 : decode cX1_replace 1 = .ok (.ifCond .lt 11, 3) := by decide +kernel
theorem d_13_4 : decode cX1_replace 4 = .ok (.iload_n 1, 1) := by decide +kernel
theorem d_13_5 : decode cX1_replace 5 = .ok (.aload_n 0, 1) := by decide +kernel
theorem d_13_6 : decode cX1_replace 6 = .ok (.getfield 25, 3) := by decide +kernel
theorem d_13_9 : decode cX1_replace 9 = .ok (.if_icmp .lt 4, 3) := by decide +kernel
theorem d_13_12 : decode cX1_replace 12 = .ok (.return_, 1) := by decide +kernel
theorem d_13_13 : decode cX1_replace 13 = .ok (.aload_n 2, 1) := by decide +kernel
theorem d_13_14 : decode cX1_replace 14 = .ok (.getfield 33, 3) := by decide +kernel
theorem d_13_17 : decode cX1_replace 17 = .ok (.iconst 0, 1) := by decide +kernel
theorem d_13_18 : decode cX1_replace 18 = .ok (.aload_n 0, 1) := by decide +kernel
theorem d_13_19 : decode cX1_replace 19 = .ok (.getfield 9, 3) := by decide +kernel
theorem d_13_22 : decode cX1_replace 22 = .ok (.iload_n 1, 1) := by decide +kernel
theorem d_13_23 : decode cX1_replace 23 = .ok (.iconst 4, 1) := by decide +kernel
theorem d_13_24 : decode cX1_replace 24 = .ok (.imul, 1) := by decide +kernel
theorem d_13_25 : decode cX1_replace 25 = .ok (.iconst 4, 1) := by decide +kernel
theorem d_13_26 : decode cX1_replace 26 = .ok (.invokestatic 38, 3) := by decide +kernel
theorem d_13_29 : decode cX1_replace 29 = .ok (.aload_n 2, 1) := by decide +kernel
theorem d_13_30 : decode cX1_replace 30 = .ok (.getfield 44, 3) := by decide +kernel
theorem d_13_33 : decode cX1_replace 33 = .ok (.iconst 0, 1) := by decide +kernel
theorem d_13_34 : decode cX1_replace 34 = .ok (.aload_n 0, 1) := by decide +kernel
theorem d_13_35 : decode cX1_replace 35 = .ok (.getfield 15, 3) := by decide +kernel
theorem d_13_38 : decode cX1_replace 38 = .ok (.iload_n 1, 1) := by decide +kernel
theorem d_13_39 : decode cX1_replace 39 = .ok (.iconst 4, 1) := by decide +kernel
theorem d_13_40 : decode cX1_replace 40 = .ok (.imul, 1) := by decide +kernel
theorem d_13_41 : decode cX1_replace 41 = .ok (.iconst 4, 1) := by decide +kernel
theorem d_13_42 : decode cX1_replace 42 = .ok (.invokestatic 38, 3) := by decide +kernel
theorem d_13_45 : decode cX1_replace 45 = .ok (.return_, 1) := by decide +kernel
theorem q_13_0 : zRun 13 0 [l0, some (.int x), l2] S sh mi mj mr = zRun 13 1 [l0, some (.int x), l2] (.int x :: S) sh mi mj mr := zr_l (zD_of zk_13 d_13_0 rfl rfl) rfl rfl rfl
theorem q_13_1  : zRun 13 1 L (.int x :: S) sh mi mj mr = if x < 0 then zRun 13 12 L S sh mi mj mr else zRun 13 4 L S sh mi mj mr := zr_if (off := 11) (P := x < 0) (zD_of zk_13 d_13_1 rfl rfl) rfl rfl (by decide)
theorem q_13_4 : zRun 13 4 [l0, some (.int x), l2] S sh mi mj mr = zRun 13 5 [l0, some (.int x), l2] (.int x :: S) sh mi mj mr := zr_l (zD_of zk_13 d_13_4 rfl rfl) rfl rfl rfl
theorem q_13_5r : zRun 13 5 [some (.ref o), l1, l2] S sh mi mj mr = zRun 13 6 [some (.ref o), l1, l2] (.ref o :: S) sh mi mj mr := zr_l (zD_of zk_13 d_13_5 rfl rfl) rfl rfl rfl
theorem q_13_5n : zRun 13 5 [some (.null), l1, l2] S sh mi mj mr = zRun 13 6 [some (.null), l1, l2] (.null :: S) sh mi mj mr := zr_l (zD_of zk_13 d_13_5 rfl rfl) rfl rfl rfl
theorem q_13_6 (h : zIs sh o 0 1) : zRun 13 6 L (.ref o :: S) sh mi mj mr = zRun 13 9 L (.int (mi o 4) :: S) sh mi mj mr := zr_getI (zD_of zk_13 d_13_6 rfl rfl) rfl rfl (Or.inl rfl) h
theorem q_13_9  : zRun 13 9 L (.int y :: .int x :: S) sh mi mj mr = if x < y then zRun 13 13 L S sh mi mj mr else zRun 13 12 L S sh mi mj mr := zr_if (off := 4) (P := x < y) (zD_of zk_13 d_13_9 rfl rfl) rfl rfl (by decide)
theorem q_13_12  : zRun 13 12 L [] sh mi mj mr = some (none, sh, mi, mj, mr) := zr_ret (zD_of zk_13 d_13_12 rfl rfl) rfl rfl rfl rfl rfl rfl
theorem q_13_13r : zRun 13 13 [l0, l1, some (.ref o)] S sh mi mj mr = zRun 13 14 [l0, l1, some (.ref o)] (.ref o :: S) sh mi mj mr := zr_l (zD_of zk_13 d_13_13 rfl rfl) rfl rfl rfl
theorem q_13_13n : zRun 13 13 [l0, l1, some (.null)] S sh mi mj mr = zRun 13 14 [l0, l1, some (.null)] (.null :: S) sh mi mj mr := zr_l (zD_of zk_13 d_13_13 rfl rfl) rfl rfl rfl
theorem q_13_14 (h : zIs sh o 0 0) : zRun 13 14 L (.ref o :: S) sh mi mj mr = zRun 13 17 L (va_rf (mr o 0) :: S) sh mi mj mr := zr_getR (zD_of zk_13 d_13_14 rfl rfl) rfl rfl rfl h
theorem q_13_17  : zRun 13 17 L S sh mi mj mr = zRun 13 18 L (.int 0 :: S) sh mi mj mr := zr_p (zD_of zk_13 d_13_17 rfl rfl) rfl
theorem q_13_18r : zRun 13 18 [some (.ref o), l1, l2] S sh mi mj mr = zRun 13 19 [some (.ref o), l1, l2] (.ref o :: S) sh mi mj mr := zr_l (zD_of zk_13 d_13_18 rfl rfl) rfl rfl rfl
theorem q_13_18n : zRun 13 18 [some (.null), l1, l2] S sh mi mj mr = zRun 13 19 [some (.null), l1, l2] (.null :: S) sh mi mj mr := zr_l (zD_of zk_13 d_13_18 rfl rfl) rfl rfl rfl
theorem q_13_19 (h : zIs sh o 0 1) : zRun 13 19 L (.ref o :: S) sh mi mj mr = zRun 13 22 L (va_rf (mr o 0) :: S) sh mi mj mr := zr_getR (zD_of zk_13 d_13_19 rfl rfl) rfl rfl rfl h
theorem q_13_22 : zRun 13 22 [l0, some (.int x), l2] S sh mi mj mr = zRun 13 23 [l0, some (.int x), l2] (.int x :: S) sh mi mj mr := zr_l (zD_of zk_13 d_13_22 rfl rfl) rfl rfl rfl
theorem q_13_23  : zRun 13 23 L S sh mi mj mr = zRun 13 24 L (.int 4 :: S) sh mi mj mr := zr_p (zD_of zk_13 d_13_23 rfl rfl) rfl
theorem q_13_24  : zRun 13 24 L (.int y :: .int x :: S) sh mi mj mr = zRun 13 25 L (.int (x * y) :: S) sh mi mj mr := zr_p (zD_of zk_13 d_13_24 rfl rfl) rfl
theorem q_13_25  : zRun 13 25 L S sh mi mj mr = zRun 13 26 L (.int 4 :: S) sh mi mj mr := zr_p (zD_of zk_13 d_13_25 rfl rfl) rfl
theorem q_13_26i {n0 n1 : Nat} (hS : zcat S ≤ 8) (h0 : zIs sh o2 1 n0) (h1 : zIs sh o 1 n1) (hq : 0 ≤ x ∧ 0 ≤ y ∧ 0 ≤ z ∧ x.toNatClampNeg + z.toNatClampNeg ≤ n0 ∧ y.toNatClampNeg + z.toNatClampNeg ≤ n1) : zRun 13 26 L (.int z :: .int y :: .ref o :: .int x :: .ref o2 :: S) sh mi mj mr = zRun 13 29 L S sh (zrw mi o (va_cpy (mi o2) (mi o) x.toNatClampNeg y.toNatClampNeg z.toNatClampNeg)) mj mr := zr_acpI (zD_of zk_13 d_13_26 rfl rfl) rfl hS h0 h1 hq
theorem q_13_26j {n0 n1 : Nat} (hS : zcat S ≤ 8) (h0 : zIs sh o2 2 n0) (h1 : zIs sh o 2 n1) (hq : 0 ≤ x ∧ 0 ≤ y ∧ 0 ≤ z ∧ x.toNatClampNeg + z.toNatClampNeg ≤ n0 ∧ y.toNatClampNeg + z.toNatClampNeg ≤ n1) : zRun 13 26 L (.int z :: .int y :: .ref o :: .int x :: .ref o2 :: S) sh mi mj mr = zRun 13 29 L S sh mi (zrw mj o (va_cpy (mj o2) (mj o) x.toNatClampNeg y.toNatClampNeg z.toNatClampNeg)) mr := zr_acpJ (zD_of zk_13 d_13_26 rfl rfl) rfl hS h0 h1 hq
theorem q_13_29r : zRun 13 29 [l0, l1, some (.ref o)] S sh mi mj mr = zRun 13 30 [l0, l1, some (.ref o)] (.ref o :: S) sh mi mj mr := zr_l (zD_of zk_13 d_13_29 rfl rfl) rfl rfl rfl
theorem q_13_29n : zRun 13 29 [l0, l1, some (.null)] S sh mi mj mr = zRun 13 30 [l0, l1, some (.null)] (.null :: S) sh mi mj mr := zr_l (zD_of zk_13 d_13_29 rfl rfl) rfl rfl rfl
theorem q_13_30 (h : zIs sh o 0 0) : zRun 13 30 L (.ref o :: S) sh mi mj mr = zRun 13 33 L (va_rf (mr o 1) :: S) sh mi mj mr := zr_getR (zD_of zk_13 d_13_30 rfl rfl) rfl rfl rfl h
theorem q_13_33  : zRun 13 33 L S sh mi mj mr = zRun 13 34 L (.int 0 :: S) sh mi mj mr := zr_p (zD_of zk_13 d_13_33 rfl rfl) rfl
theorem q_13_34r : zRun 13 34 [some (.ref o), l1, l2] S sh mi mj mr = zRun 13 35 [some (.ref o), l1, l2] (.ref o :: S) sh mi mj mr := zr_l (zD_of zk_13 d_13_34 rfl rfl) rfl rfl rfl
theorem q_13_34n : zRun 13 34 [some (.null), l1, l2] S sh mi mj mr = zRun 13 35 [some (.null), l1, l2] (.null :: S) sh mi mj mr := zr_l (zD_of zk_13 d_13_34 rfl rfl) rfl rfl rfl
theorem q_13_35 (h : zIs sh o 0 1) : zRun 13 35 L (.ref o :: S) sh mi mj mr = zRun 13 38 L (va_rf (mr o 1) :: S) sh mi mj mr := zr_getR (zD_of zk_13 d_13_35 rfl rfl) rfl rfl rfl h
theorem q_13_38 : zRun 13 38 [l0, some (.int x), l2] S sh mi mj mr = zRun 13 39 [l0, some (.int x), l2] (.int x :: S) sh mi mj mr := zr_l (zD_of zk_13 d_13_38 rfl rfl) rfl rfl rfl
theorem q_13_39  : zRun 13 39 L S sh mi mj mr = zRun 13 40 L (.int 4 :: S) sh mi mj mr := zr_p (zD_of zk_13 d_13_39 rfl rfl) rfl
theorem q_13_40  : zRun 13 40 L (.int y :: .int x :: S) sh mi mj mr = zRun 13 41 L (.int (x * y) :: S) sh mi mj mr := zr_p (zD_of zk_13 d_13_40 rfl rfl) rfl
theorem q_13_41  : zRun 13 41 L S sh mi mj mr = zRun 13 42 L (.int 4 :: S) sh mi mj mr := zr_p (zD_of zk_13 d_13_41 rfl rfl) rfl
theorem q_13_42i {n0 n1 : Nat} (hS : zcat S ≤ 8) (h0 : zIs sh o2 1 n0) (h1 : zIs sh o 1 n1) (hq : 0 ≤ x ∧ 0 ≤ y ∧ 0 ≤ z ∧ x.toNatClampNeg + z.toNatClampNeg ≤ n0 ∧ y.toNatClampNeg + z.toNatClampNeg ≤ n1) : zRun 13 42 L (.int z :: .int y :: .ref o :: .int x :: .ref o2 :: S) sh mi mj mr = zRun 13 45 L S sh (zrw mi o (va_cpy (mi o2) (mi o) x.toNatClampNeg y.toNatClampNeg z.toNatClampNeg)) mj mr := zr_acpI (zD_of zk_13 d_13_42 rfl rfl) rfl hS h0 h1 hq
theorem q_13_42j {n0 n1 : Nat} (hS : zcat S ≤ 8) (h0 : zIs sh o2 2 n0) (h1 : zIs sh o 2 n1) (hq : 0 ≤ x ∧ 0 ≤ y ∧ 0 ≤ z ∧ x.toNatClampNeg + z.toNatClampNeg ≤ n0 ∧ y.toNatClampNeg + z.toNatClampNeg ≤ n1) : zRun 13 42 L (.int z :: .int y :: .ref o :: .int x :: .ref o2 :: S) sh mi mj mr = zRun 13 45 L S sh mi (zrw mj o (va_cpy (mj o2) (mj o) x.toNatClampNeg y.toNatClampNeg z.toNatClampNeg)) mr := zr_acpJ (zD_of zk_13 d_13_42 rfl rfl) rfl hS h0 h1 hq
theorem q_13_45  : zRun 13 45 L [] sh mi mj mr = some (none, sh, mi, mj, mr) := zr_ret (zD_of zk_13 d_13_45 rfl rfl) rfl rfl rfl rfl rfl rfl
theorem e_13 {x0 : Int32} {o0 : Nat} : zCall 13 [.ref o, .int x0, .ref o0] sh mi mj mr = zRun 13 0 [some (.ref o), some (.int x0), some (.ref o0)] [] sh mi mj mr := rfl
theorem d_14_0 : decode cX1_copyTo 0 = .ok (.iload_n 1, 1) := by decide +kernel
theorem d_14_1 : decode cX1_copyTo 1 = .ok (.ifCond .lt 11, 3) := by decide +kernel
theorem d_14_4 : decode cX1_copyTo 4 = .ok (.iload_n 1, 1) := by decide +kernel
theorem d_14_5 : decode cX1_copyTo 5 = .ok (.aload_n 0, 1) := by decide +kernel
theorem d_14_6 : decode cX1_copyTo 6 = .ok (.getfield 25, 3) := by decide +kernel
theorem d_14_9 : decode cX1_copyTo 9 = .ok (.if_icmp .lt 4, 3) := by decide +kernel
theorem d_14_12 : decode cX1_copyTo 12 = .ok (.return_, 1) := by decide +kernel
theorem d_14_13 : decode cX1_copyTo 13 = .ok (.aload_n 0, 1) := by decide +kernel
theorem d_14_14 : decode cX1_copyTo 14 = .ok (.getfield 9, 3) := by decide +kernel
theorem d_14_17 : decode cX1_copyTo 17 = .ok (.iload_n 1, 1) := by decide +kernel
theorem d_14_18 : decode cX1_copyTo 18 = .ok (.iconst 4, 1) := by decide +kernel
theorem d_14_19 : decode cX1_copyTo 19 = .ok (.imul, 1) := by decide +kernel
theorem d_14_20 : decode cX1_copyTo 20 = .ok (.aload_n 2, 1) := by decide +kernel
theorem d_14_21 : decode cX1_copyTo 21 = .ok (.getfield 33, 3) := by decide +kernel
theorem d_14_24 : decode cX1_copyTo 24 = .ok (.iconst 0, 1) := by decide +kernel
theorem d_14_25 : decode cX1_copyTo 25 = .ok (.iconst 4, 1) := by decide +kernel
theorem d_14_26 : decode cX1_copyTo 26 = .ok (.invokestatic 38, 3) := by decide +kernel
theorem d_14_29 : decode cX1_copyTo 29 = .ok (.aload_n 0, 1) := by decide +kernel
theorem d_14_30 : decode cX1_copyTo 30 = .ok (.getfield 15, 3) := by decide +kernel
theorem d_14_33 : decode cX1_copyTo 33 = .ok (.iload_n 1, 1) := by decide +kernel
theorem d_14_34 : decode cX1_copyTo 34 = .ok (.iconst 4, 1) := by decide +kernel
theorem d_14_35 : decode cX1_copyTo 35 = .ok (.imul, 1) := by decide +kernel
theorem d_14_36 : decode cX1_copyTo 36 = .ok (.aload_n 2, 1) := by decide +kernel
theorem d_14_37 : decode cX1_copyTo 37 = .ok (.getfield 44, 3) := by decide +kernel
theorem d_14_40 : decode cX1_copyTo 40 = .ok (.iconst 0, 1) := by decide +kernel
theorem d_14_41 : decode cX1_copyTo 41 = .ok (.iconst 4, 1) := by decide +kernel
theorem d_14_42 : decode cX1_copyTo 42 = .ok (.invokestatic 38, 3) := by decide +kernel
theorem d_14_45 : decode cX1_copyTo 45 = .ok (.return_, 1) := by decide +kernel
theorem q_14_0 : zRun 14 0 [l0, some (.int x), l2] S sh mi mj mr = zRun 14 1 [l0, some (.int x), l2] (.int x :: S) sh mi mj mr := zr_l (zD_of zk_14 d_14_0 rfl rfl) rfl rfl rfl
theorem q_14_1  : zRun 14 1 L (.int x :: S) sh mi mj mr = if x < 0 then zRun 14 12 L S sh mi mj mr else zRun 14 4 L S sh mi mj mr := zr_if (off := 11) (P := x < 0) (zD_of zk_14 d_14_1 rfl rfl) rfl rfl (by decide)
theorem q_14_4 : zRun 14 4 [l0, some (.int x), l2] S sh mi mj mr = zRun 14 5 [l0, some (.int x), l2] (.int x :: S) sh mi mj mr := zr_l (zD_of zk_14 d_14_4 rfl rfl) rfl rfl rfl
theorem q_14_5r : zRun 14 5 [some (.ref o), l1, l2] S sh mi mj mr = zRun 14 6 [some (.ref o), l1, l2] (.ref o :: S) sh mi mj mr := zr_l (zD_of zk_14 d_14_5 rfl rfl) rfl rfl rfl
theorem q_14_5n : zRun 14 5 [some (.null), l1, l2] S sh mi mj mr = zRun 14 6 [some (.null), l1, l2] (.null :: S) sh mi mj mr := zr_l (zD_of zk_14 d_14_5 rfl rfl) rfl rfl rfl
theorem q_14_6 (h : zIs sh o 0 1) : zRun 14 6 L (.ref o :: S) sh mi mj mr = zRun 14 9 L (.int (mi o 4) :: S) sh mi mj mr := zr_getI (zD_of zk_14 d_14_6 rfl rfl) rfl rfl (Or.inl rfl) h
theorem q_14_9  : zRun 14 9 L (.int y :: .int x :: S) sh mi mj mr = if x < y then zRun 14 13 L S sh mi mj mr else zRun 14 12 L S sh mi mj mr := zr_if (off := 4) (P := x < y) (zD_of zk_14 d_14_9 rfl rfl) rfl rfl (by decide)
theorem q_14_12  : zRun 14 12 L [] sh mi mj mr = some (none, sh, mi, mj, mr) := zr_ret (zD_of zk_14 d_14_12 rfl rfl) rfl rfl rfl rfl rfl rfl
theorem q_14_13r : zRun 14 13 [some (.ref o), l1, l2] S sh mi mj mr = zRun 14 14 [some (.ref o), l1, l2] (.ref o :: S) sh mi mj mr := zr_l (zD_of zk_14 d_14_13 rfl rfl) rfl rfl rfl
theorem q_14_13n : zRun 14 13 [some (.null), l1, l2] S sh mi mj mr = zRun 14 14 [some (.null), l1, l2] (.null :: S) sh mi mj mr := zr_l (zD_of zk_14 d_14_13 rfl rfl) rfl rfl rfl
theorem q_14_14 (h : zIs sh o 0 1) : zRun 14 14 L (.ref o :: S) sh mi mj mr = zRun 14 17 L (va_rf (mr o 0) :: S) sh mi mj mr := zr_getR (zD_of zk_14 d_14_14 rfl rfl) rfl rfl rfl h
theorem q_14_17 : zRun 14 17 [l0, some (.int x), l2] S sh mi mj mr = zRun 14 18 [l0, some (.int x), l2] (.int x :: S) sh mi mj mr := zr_l (zD_of zk_14 d_14_17 rfl rfl) rfl rfl rfl
theorem q_14_18  : zRun 14 18 L S sh mi mj mr = zRun 14 19 L (.int 4 :: S) sh mi mj mr := zr_p (zD_of zk_14 d_14_18 rfl rfl) rfl
theorem q_14_19  : zRun 14 19 L (.int y :: .int x :: S) sh mi mj mr = zRun 14 20 L (.int (x * y) :: S) sh mi mj mr := zr_p (zD_of zk_14 d_14_19 rfl rfl) rfl
theorem q_14_20r : zRun 14 20 [l0, l1, some (.ref o)] S sh mi mj mr = zRun 14 21 [l0, l1, some (.ref o)] (.ref o :: S) sh mi mj mr := zr_l (zD_of zk_14 d_14_20 rfl rfl) rfl rfl rfl
theorem q_14_20n : zRun 14 20 [l0, l1, some (.null)] S sh mi mj mr = zRun 14 21 [l0, l1, some (.null)] (.null :: S) sh mi mj mr := zr_l (zD_of zk_14 d_14_20 rfl rfl) rfl rfl rfl
theorem q_14_21 (h : zIs sh o 0 0) : zRun 14 21 L (.ref o :: S) sh mi mj mr = zRun 14 24 L (va_rf (mr o 0) :: S) sh mi mj mr := zr_getR (zD_of zk_14 d_14_21 rfl rfl) rfl rfl rfl h
theorem q_14_24  : zRun 14 24 L S sh mi mj mr = zRun 14 25 L (.int 0 :: S) sh mi mj mr := zr_p (zD_of zk_14 d_14_24 rfl rfl) rfl
theorem q_14_25  : zRun 14 25 L S sh mi mj mr = zRun 14 26 L (.int 4 :: S) sh mi mj mr := zr_p (zD_of zk_14 d_14_25 rfl rfl) rfl
theorem q_14_26i {n0 n1 : Nat} (hS : zcat S ≤ 8) (h0 : zIs sh o2 1 n0) (h1 : zIs sh o 1 n1) (hq : 0 ≤ x ∧ 0 ≤ y ∧ 0 ≤ z ∧ x.toNatClampNeg + z.toNatClampNeg ≤ n0 ∧ y.toNatClampNeg + z.toNatClampNeg ≤ n1) : zRun 14 26 L (.int z :: .int y :: .ref o :: .int x :: .ref o2 :: S) sh mi mj mr = zRun 14 29 L S sh (zrw mi o (va_cpy (mi o2) (mi o) x.toNatClampNeg y.toNatClampNeg z.toNatClampNeg)) mj mr := zr_acpI (zD_of zk_14 d_14_26 rfl rfl) rfl hS h0 h1 hq
theorem q_14_26j {n0 n1 : Nat} (hS : zcat S ≤ 8) (h0 : zIs sh o2 2 n0) (h1 : zIs sh o 2 n1) (hq : 0 ≤ x ∧ 0 ≤ y ∧ 0 ≤ z ∧ x.toNatClampNeg + z.toNatClampNeg ≤ n0 ∧ y.toNatClampNeg + z.toNatClampNeg ≤ n1) : zRun 14 26 L (.int z :: .int y :: .ref o :: .int x :: .ref o2 :: S) sh mi mj mr = zRun 14 29 L S sh mi (zrw mj o (va_cpy (mj o2) (mj o) x.toNatClampNeg y.toNatClampNeg z.toNatClampNeg)) mr := zr_acpJ (zD_of zk_14 d_14_26 rfl rfl) rfl hS h0 h1 hq
theorem q_14_29r : zRun 14 29 [some (.ref o), l1, l2] S sh mi mj mr = zRun 14 30 [some (.ref o), l1, l2] (.ref o :: S) sh mi mj mr := zr_l (zD_of zk_14 d_14_29 rfl rfl) rfl rfl rfl
theorem q_14_29n : zRun 14 29 [some (.null), l1, l2] S sh mi mj mr = zRun 14 30 [some (.null), l1, l2] (.null :: S) sh mi mj mr := zr_l (zD_of zk_14 d_14_29 rfl rfl) rfl rfl rfl
theorem q_14_30 (h : zIs sh o 0 1) : zRun 14 30 L (.ref o :: S) sh mi mj mr = zRun 14 33 L (va_rf (mr o 1) :: S) sh mi mj mr := zr_getR (zD_of zk_14 d_14_30 rfl rfl) rfl rfl rfl h
theorem q_14_33 : zRun 14 33 [l0, some (.int x), l2] S sh mi mj mr = zRun 14 34 [l0, some (.int x), l2] (.int x :: S) sh mi mj mr := zr_l (zD_of zk_14 d_14_33 rfl rfl) rfl rfl rfl
theorem q_14_34  : zRun 14 34 L S sh mi mj mr = zRun 14 35 L (.int 4 :: S) sh mi mj mr := zr_p (zD_of zk_14 d_14_34 rfl rfl) rfl
theorem q_14_35  : zRun 14 35 L (.int y :: .int x :: S) sh mi mj mr = zRun 14 36 L (.int (x * y) :: S) sh mi mj mr := zr_p (zD_of zk_14 d_14_35 rfl rfl) rfl
theorem q_14_36r : zRun 14 36 [l0, l1, some (.ref o)] S sh mi mj mr = zRun 14 37 [l0, l1, some (.ref o)] (.ref o :: S) sh mi mj mr := zr_l (zD_of zk_14 d_14_36 rfl rfl) rfl rfl rfl
theorem q_14_36n : zRun 14 36 [l0, l1, some (.null)] S sh mi mj mr = zRun 14 37 [l0, l1, some (.null)] (.null :: S) sh mi mj mr := zr_l (zD_of zk_14 d_14_36 rfl rfl) rfl rfl rfl
theorem q_14_37 (h : zIs sh o 0 0) : zRun 14 37 L (.ref o :: S) sh mi mj mr = zRun 14 40 L (va_rf (mr o 1) :: S) sh mi mj mr := zr_getR (zD_of zk_14 d_14_37 rfl rfl) rfl rfl rfl h
theorem q_14_40  : zRun 14 40 L S sh mi mj mr = zRun 14 41 L (.int 0 :: S) sh mi mj mr := zr_p (zD_of zk_14 d_14_40 rfl rfl) rfl
theorem q_14_41  : zRun 14 41 L S sh mi mj mr = zRun 14 42 L (.int 4 :: S) sh mi mj mr := zr_p (zD_of zk_14 d_14_41 rfl rfl) rfl
theorem q_14_42i {n0 n1 : Nat} (hS : zcat S ≤ 8) (h0 : zIs sh o2 1 n0) (h1 : zIs sh o 1 n1) (hq : 0 ≤ x ∧ 0 ≤ y ∧ 0 ≤ z ∧ x.toNatClampNeg + z.toNatClampNeg ≤ n0 ∧ y.toNatClampNeg + z.toNatClampNeg ≤ n1) : zRun 14 42 L (.int z :: .int y :: .ref o :: .int x :: .ref o2 :: S) sh mi mj mr = zRun 14 45 L S sh (zrw mi o (va_cpy (mi o2) (mi o) x.toNatClampNeg y.toNatClampNeg z.toNatClampNeg)) mj mr := zr_acpI (zD_of zk_14 d_14_42 rfl rfl) rfl hS h0 h1 hq
theorem q_14_42j {n0 n1 : Nat} (hS : zcat S ≤ 8) (h0 : zIs sh o2 2 n0) (h1 : zIs sh o 2 n1) (hq : 0 ≤ x ∧ 0 ≤ y ∧ 0 ≤ z ∧ x.toNatClampNeg + z.toNatClampNeg ≤ n0 ∧ y.toNatClampNeg + z.toNatClampNeg ≤ n1) : zRun 14 42 L (.int z :: .int y :: .ref o :: .int x :: .ref o2 :: S) sh mi mj mr = zRun 14 45 L S sh mi (zrw mj o (va_cpy (mj o2) (mj o) x.toNatClampNeg y.toNatClampNeg z.toNatClampNeg)) mr := zr_acpJ (zD_of zk_14 d_14_42 rfl rfl) rfl hS h0 h1 hq
theorem q_14_45  : zRun 14 45 L [] sh mi mj mr = some (none, sh, mi, mj, mr) := zr_ret (zD_of zk_14 d_14_45 rfl rfl) rfl rfl rfl rfl rfl rfl
theorem e_14 {x0 : Int32} {o0 : Nat} : zCall 14 [.ref o, .int x0, .ref o0] sh mi mj mr = zRun 14 0 [some (.ref o), some (.int x0), some (.ref o0)] [] sh mi mj mr := rfl
theorem d_15_0 : decode cX1_takeLast 0 = .ok (.aload_n 0, 1) := by decide +kernel
theorem d_15_1 : decode cX1_takeLast 1 = .ok (.getfield 25, 3) := by decide +kernel
theorem d_15_4 : decode cX1_takeLast 4 = .ok (.ifCond .ne 5, 3) := by decide +kernel
theorem d_15_7 : decode cX1_takeLast 7 = .ok (.iconst 0, 1) := by decide +kernel
theorem d_15_8 : decode cX1_takeLast 8 = .ok (.ireturn, 1) := by decide +kernel
theorem d_15_9 : decode cX1_takeLast 9 = .ok (.aload_n 0, 1) := by decide +kernel
theorem d_15_10 : decode cX1_takeLast 10 = .ok (.aload_n 0, 1) := by decide +kernel
theorem d_15_11 : decode cX1_takeLast 11 = .ok (.getfield 25, 3) := by decide +kernel
theorem d_15_14 : decode cX1_takeLast 14 = .ok (.iconst 1, 1) := by decide +kernel
theorem d_15_15 : decode cX1_takeLast 15 = .ok (.isub, 1) := by decide +kernel
theorem d_15_16 : decode cX1_takeLast 16 = .ok (.aload_n 1, 1) := by decide +kernel
theorem d_15_17 : decode cX1_takeLast 17 = .ok (.invokevirtual 47, 3) := by decide +kernel
theorem d_15_20 : decode cX1_takeLast 20 = .ok (.aload_n 0, 1) := by decide +kernel
theorem d_15_21 : decode cX1_takeLast 21 = .ok (.dup, 1) := by decide +kernel
theorem d_15_22 : decode cX1_takeLast 22 = .ok (.getfield 25, 3) := by decide +kernel
theorem d_15_25 : decode cX1_takeLast 25 = .ok (.iconst 1, 1) := by decide +kernel
theorem d_15_26 : decode cX1_takeLast 26 = .ok (.isub, 1) := by decide +kernel
theorem d_15_27 : decode cX1_takeLast 27 = .ok (.putfield 25, 3) := by decide +kernel
theorem d_15_30 : decode cX1_takeLast 30 = .ok (.iconst 1, 1) := by decide +kernel
theorem d_15_31 : decode cX1_takeLast 31 = .ok (.ireturn, 1) := by decide +kernel
theorem q_15_0r : zRun 15 0 [some (.ref o), l1] S sh mi mj mr = zRun 15 1 [some (.ref o), l1] (.ref o :: S) sh mi mj mr := zr_l (zD_of zk_15 d_15_0 rfl rfl) rfl rfl rfl
theorem q_15_0n : zRun 15 0 [some (.null), l1] S sh mi mj mr = zRun 15 1 [some (.null), l1] (.null :: S) sh mi mj mr := zr_l (zD_of zk_15 d_15_0 rfl rfl) rfl rfl rfl
theorem q_15_1 (h : zIs sh o 0 1) : zRun 15 1 L (.ref o :: S) sh mi mj mr = zRun 15 4 L (.int (mi o 4) :: S) sh mi mj mr := zr_getI (zD_of zk_15 d_15_1 rfl rfl) rfl rfl (Or.inl rfl) h
theorem q_15_4  : zRun 15 4 L (.int x :: S) sh mi mj mr = if ¬ x = 0 then zRun 15 9 L S sh mi mj mr else zRun 15 7 L S sh mi mj mr := zr_if (off := 5) (P := ¬ x = 0) (zD_of zk_15 d_15_4 rfl rfl) rfl rfl (by decide)
theorem q_15_7  : zRun 15 7 L S sh mi mj mr = zRun 15 8 L (.int 0 :: S) sh mi mj mr := zr_p (zD_of zk_15 d_15_7 rfl rfl) rfl
theorem q_15_8 (h : x = 0 ∨ x = 1) : zRun 15 8 L ([.int x]) sh mi mj mr = some (some (.int x), sh, mi, mj, mr) := zr_ret (zD_of zk_15 d_15_8 rfl rfl) rfl rfl rfl rfl rfl (if_pos (zna_b h))
theorem q_15_9r : zRun 15 9 [some (.ref o), l1] S sh mi mj mr = zRun 15 10 [some (.ref o), l1] (.ref o :: S) sh mi mj mr := zr_l (zD_of zk_15 d_15_9 rfl rfl) rfl rfl rfl
theorem q_15_9n : zRun 15 9 [some (.null), l1] S sh mi mj mr = zRun 15 10 [some (.null), l1] (.null :: S) sh mi mj mr := zr_l (zD_of zk_15 d_15_9 rfl rfl) rfl rfl rfl
theorem q_15_10r : zRun 15 10 [some (.ref o), l1] S sh mi mj mr = zRun 15 11 [some (.ref o), l1] (.ref o :: S) sh mi mj mr := zr_l (zD_of zk_15 d_15_10 rfl rfl) rfl rfl rfl
theorem q_15_10n : zRun 15 10 [some (.null), l1] S sh mi mj mr = zRun 15 11 [some (.null), l1] (.null :: S) sh mi mj mr := zr_l (zD_of zk_15 d_15_10 rfl rfl) rfl rfl rfl
theorem q_15_11 (h : zIs sh o 0 1) : zRun 15 11 L (.ref o :: S) sh mi mj mr = zRun 15 14 L (.int (mi o 4) :: S) sh mi mj mr := zr_getI (zD_of zk_15 d_15_11 rfl rfl) rfl rfl (Or.inl rfl) h
theorem q_15_14  : zRun 15 14 L S sh mi mj mr = zRun 15 15 L (.int 1 :: S) sh mi mj mr := zr_p (zD_of zk_15 d_15_14 rfl rfl) rfl
theorem q_15_15  : zRun 15 15 L (.int y :: .int x :: S) sh mi mj mr = zRun 15 16 L (.int (x - y) :: S) sh mi mj mr := zr_p (zD_of zk_15 d_15_15 rfl rfl) rfl
theorem q_15_16r : zRun 15 16 [l0, some (.ref o)] S sh mi mj mr = zRun 15 17 [l0, some (.ref o)] (.ref o :: S) sh mi mj mr := zr_l (zD_of zk_15 d_15_16 rfl rfl) rfl rfl rfl
theorem q_15_16n : zRun 15 16 [l0, some (.null)] S sh mi mj mr = zRun 15 17 [l0, some (.null)] (.null :: S) sh mi mj mr := zr_l (zD_of zk_15 d_15_16 rfl rfl) rfl rfl rfl
theorem q_15_17  {x0 : Int32} {o0 : Nat} (hS : zcat S ≤ 8) (h : zIs sh o 0 1) : zRun 15 17 L (.ref o0 :: .int x0 :: .ref o :: S) sh mi mj mr = (zCall 14 [.ref o, .int x0, .ref o0] sh mi mj mr).bind fun r => zRun 15 20 L (r.1.toList ++ S) r.2.1 r.2.2.1 r.2.2.2.1 r.2.2.2.2 := zr_V (zD_of zk_15 d_15_17 rfl rfl) rfl zk_14 rfl rfl rfl hS h
theorem q_15_20r : zRun 15 20 [some (.ref o), l1] S sh mi mj mr = zRun 15 21 [some (.ref o), l1] (.ref o :: S) sh mi mj mr := zr_l (zD_of zk_15 d_15_20 rfl rfl) rfl rfl rfl
theorem q_15_20n : zRun 15 20 [some (.null), l1] S sh mi mj mr = zRun 15 21 [some (.null), l1] (.null :: S) sh mi mj mr := zr_l (zD_of zk_15 d_15_20 rfl rfl) rfl rfl rfl
theorem q_15_21r : zRun 15 21 L (.ref o :: S) sh mi mj mr = zRun 15 22 L (.ref o :: .ref o :: S) sh mi mj mr := zr_p (zD_of zk_15 d_15_21 rfl rfl) rfl
theorem q_15_21i : zRun 15 21 L (.int x :: S) sh mi mj mr = zRun 15 22 L (.int x :: .int x :: S) sh mi mj mr := zr_p (zD_of zk_15 d_15_21 rfl rfl) rfl
theorem q_15_22 (h : zIs sh o 0 1) : zRun 15 22 L (.ref o :: S) sh mi mj mr = zRun 15 25 L (.int (mi o 4) :: S) sh mi mj mr := zr_getI (zD_of zk_15 d_15_22 rfl rfl) rfl rfl (Or.inl rfl) h
theorem q_15_25  : zRun 15 25 L S sh mi mj mr = zRun 15 26 L (.int 1 :: S) sh mi mj mr := zr_p (zD_of zk_15 d_15_25 rfl rfl) rfl
theorem q_15_26  : zRun 15 26 L (.int y :: .int x :: S) sh mi mj mr = zRun 15 27 L (.int (x - y) :: S) sh mi mj mr := zr_p (zD_of zk_15 d_15_26 rfl rfl) rfl
theorem q_15_27 (h : zIs sh o 0 1) : zRun 15 27 L (.int x :: .ref o :: S) sh mi mj mr = zRun 15 30 L S sh (zup mi o 4 x) mj mr := zr_putI (zD_of zk_15 d_15_27 rfl rfl) rfl rfl rfl (Or.inl rfl) h
theorem q_15_30  : zRun 15 30 L S sh mi mj mr = zRun 15 31 L (.int 1 :: S) sh mi mj mr := zr_p (zD_of zk_15 d_15_30 rfl rfl) rfl
theorem q_15_31 (h : x = 0 ∨ x = 1) : zRun 15 31 L ([.int x]) sh mi mj mr = some (some (.int x), sh, mi, mj, mr) := zr_ret (zD_of zk_15 d_15_31 rfl rfl) rfl rfl rfl rfl rfl (if_pos (zna_b h))
theorem e_15 {o0 : Nat} : zCall 15 [.ref o, .ref o0] sh mi mj mr = zRun 15 0 [some (.ref o), some (.ref o0)] [] sh mi mj mr := rfl
theorem d_16_0 : decode cX1_note 0 = .ok (.iload_n 1, 1) := by decide +kernel
theorem d_16_1 : decode cX1_note 1 = .ok (.ifCond .lt 11, 3) := by decide +kernel
theorem d_16_4 : decode cX1_note 4 = .ok (.iload_n 1, 1) := by decide +kernel
theorem d_16_5 : decode cX1_note 5 = .ok (.aload_n 0, 1) := by decide +kernel
theorem d_16_6 : decode cX1_note 6 = .ok (.getfield 25, 3) := by decide +kernel
theorem d_16_9 : decode cX1_note 9 = .ok (.if_icmp .lt 4, 3) := by decide +kernel
theorem d_16_12 : decode cX1_note 12 = .ok (.return_, 1) := by decide +kernel
theorem d_16_13 : decode cX1_note 13 = .ok (.aload_n 0, 1) := by decide +kernel
theorem d_16_14 : decode cX1_note 14 = .ok (.getfield 18, 3) := by decide +kernel
theorem d_16_17 : decode cX1_note 17 = .ok (.iload_n 1, 1) := by decide +kernel
theorem d_16_18 : decode cX1_note 18 = .ok (.lload_n 2, 1) := by decide +kernel
theorem d_16_19 : decode cX1_note 19 = .ok (.lastore, 1) := by decide +kernel
theorem d_16_20 : decode cX1_note 20 = .ok (.aload_n 0, 1) := by decide +kernel
theorem d_16_21 : decode cX1_note 21 = .ok (.getfield 22, 3) := by decide +kernel
theorem d_16_24 : decode cX1_note 24 = .ok (.iload_n 1, 1) := by decide +kernel
theorem d_16_25 : decode cX1_note 25 = .ok (.iload 4, 2) := by decide +kernel
theorem d_16_27 : decode cX1_note 27 = .ok (.iastore, 1) := by decide +kernel
theorem d_16_28 : decode cX1_note 28 = .ok (.return_, 1) := by decide +kernel
theorem q_16_0 : zRun 16 0 [l0, some (.int x), l2, l3, l4] S sh mi mj mr = zRun 16 1 [l0, some (.int x), l2, l3, l4] (.int x :: S) sh mi mj mr := zr_l (zD_of zk_16 d_16_0 rfl rfl) rfl rfl rfl
theorem q_16_1  : zRun 16 1 L (.int x :: S) sh mi mj mr = if x < 0 then zRun 16 12 L S sh mi mj mr else zRun 16 4 L S sh mi mj mr := zr_if (off := 11) (P := x < 0) (zD_of zk_16 d_16_1 rfl rfl) rfl rfl (by decide)
theorem q_16_4 : zRun 16 4 [l0, some (.int x), l2, l3, l4] S sh mi mj mr = zRun 16 5 [l0, some (.int x), l2, l3, l4] (.int x :: S) sh mi mj mr := zr_l (zD_of zk_16 d_16_4 rfl rfl) rfl rfl rfl
theorem q_16_5r : zRun 16 5 [some (.ref o), l1, l2, l3, l4] S sh mi mj mr = zRun 16 6 [some (.ref o), l1, l2, l3, l4] (.ref o :: S) sh mi mj mr := zr_l (zD_of zk_16 d_16_5 rfl rfl) rfl rfl rfl
theorem q_16_5n : zRun 16 5 [some (.null), l1, l2, l3, l4] S sh mi mj mr = zRun 16 6 [some (.null), l1, l2, l3, l4] (.null :: S) sh mi mj mr := zr_l (zD_of zk_16 d_16_5 rfl rfl) rfl rfl rfl
theorem q_16_6 (h : zIs sh o 0 1) : zRun 16 6 L (.ref o :: S) sh mi mj mr = zRun 16 9 L (.int (mi o 4) :: S) sh mi mj mr := zr_getI (zD_of zk_16 d_16_6 rfl rfl) rfl rfl (Or.inl rfl) h
theorem q_16_9  : zRun 16 9 L (.int y :: .int x :: S) sh mi mj mr = if x < y then zRun 16 13 L S sh mi mj mr else zRun 16 12 L S sh mi mj mr := zr_if (off := 4) (P := x < y) (zD_of zk_16 d_16_9 rfl rfl) rfl rfl (by decide)
theorem q_16_12  : zRun 16 12 L [] sh mi mj mr = some (none, sh, mi, mj, mr) := zr_ret (zD_of zk_16 d_16_12 rfl rfl) rfl rfl rfl rfl rfl rfl
theorem q_16_13r : zRun 16 13 [some (.ref o), l1, l2, l3, l4] S sh mi mj mr = zRun 16 14 [some (.ref o), l1, l2, l3, l4] (.ref o :: S) sh mi mj mr := zr_l (zD_of zk_16 d_16_13 rfl rfl) rfl rfl rfl
theorem q_16_13n : zRun 16 13 [some (.null), l1, l2, l3, l4] S sh mi mj mr = zRun 16 14 [some (.null), l1, l2, l3, l4] (.null :: S) sh mi mj mr := zr_l (zD_of zk_16 d_16_13 rfl rfl) rfl rfl rfl
theorem q_16_14 (h : zIs sh o 0 1) : zRun 16 14 L (.ref o :: S) sh mi mj mr = zRun 16 17 L (va_rf (mr o 2) :: S) sh mi mj mr := zr_getR (zD_of zk_16 d_16_14 rfl rfl) rfl rfl rfl h
theorem q_16_17 : zRun 16 17 [l0, some (.int x), l2, l3, l4] S sh mi mj mr = zRun 16 18 [l0, some (.int x), l2, l3, l4] (.int x :: S) sh mi mj mr := zr_l (zD_of zk_16 d_16_17 rfl rfl) rfl rfl rfl
theorem q_16_18 : zRun 16 18 [l0, l1, some (.long u), l3, l4] S sh mi mj mr = zRun 16 19 [l0, l1, some (.long u), l3, l4] (.long u :: S) sh mi mj mr := zr_l (zD_of zk_16 d_16_18 rfl rfl) rfl rfl rfl
theorem q_16_19 (h : zAt sh o 2 x) : zRun 16 19 L (.long u :: .int x :: .ref o :: S) sh mi mj mr = zRun 16 20 L S sh mi (zup mj o x.toNatClampNeg u) mr := zr_last (zD_of zk_16 d_16_19 rfl rfl) h
theorem q_16_20r : zRun 16 20 [some (.ref o), l1, l2, l3, l4] S sh mi mj mr = zRun 16 21 [some (.ref o), l1, l2, l3, l4] (.ref o :: S) sh mi mj mr := zr_l (zD_of zk_16 d_16_20 rfl rfl) rfl rfl rfl
theorem q_16_20n : zRun 16 20 [some (.null), l1, l2, l3, l4] S sh mi mj mr = zRun 16 21 [some (.null), l1, l2, l3, l4] (.null :: S) sh mi mj mr := zr_l (zD_of zk_16 d_16_20 rfl rfl) rfl rfl rfl
theorem q_16_21 (h : zIs sh o 0 1) : zRun 16 21 L (.ref o :: S) sh mi mj mr = zRun 16 24 L (va_rf (mr o 3) :: S) sh mi mj mr := zr_getR (zD_of zk_16 d_16_21 rfl rfl) rfl rfl rfl h
theorem q_16_24 : zRun 16 24 [l0, some (.int x), l2, l3, l4] S sh mi mj mr = zRun 16 25 [l0, some (.int x), l2, l3, l4] (.int x :: S) sh mi mj mr := zr_l (zD_of zk_16 d_16_24 rfl rfl) rfl rfl rfl
theorem q_16_25 : zRun 16 25 [l0, l1, l2, l3, some (.int x)] S sh mi mj mr = zRun 16 27 [l0, l1, l2, l3, some (.int x)] (.int x :: S) sh mi mj mr := zr_l (zD_of zk_16 d_16_25 rfl rfl) rfl rfl rfl
theorem q_16_27 (h : zAt sh o 1 x) : zRun 16 27 L (.int y :: .int x :: .ref o :: S) sh mi mj mr = zRun 16 28 L S sh (zup mi o x.toNatClampNeg y) mj mr := zr_iast (zD_of zk_16 d_16_27 rfl rfl) h
theorem q_16_28  : zRun 16 28 L [] sh mi mj mr = some (none, sh, mi, mj, mr) := zr_ret (zD_of zk_16 d_16_28 rfl rfl) rfl rfl rfl rfl rfl rfl
theorem e_16 {x0 x1 : Int32} {u0 : Int64} : zCall 16 [.ref o, .int x0, .long u0, .int x1] sh mi mj mr = zRun 16 0 [some (.ref o), some (.int x0), some (.long u0), none, some (.int x1)] [] sh mi mj mr := rfl
theorem d_17_0 : decode cX1_worst 0 = .ok (.iconst 0, 1) := by decide +kernel
theorem d_17_1 : decode cX1_worst 1 = .ok (.istore_n 1, 1) := by decide +kernel
theorem d_17_2 : decode cX1_worst 2 = .ok (.iconst 1, 1) := by decide +kernel
theorem d_17_3 : decode cX1_worst 3 = .ok (.istore_n 2, 1) := by decide +kernel
theorem d_17_4 : decode cX1_worst 4 = .ok (.iload_n 2, 1) := by decide +kernel
theorem d_17_5 : decode cX1_worst 5 = .ok (.aload_n 0, 1) := by decide +kernel
theorem d_17_6 : decode cX1_worst 6 = .ok (.getfield 25, 3) := by decide +kernel
theorem d_17_9 : decode cX1_worst 9 = .ok (.if_icmp .ge 27, 3) := by decide +kernel
theorem d_17_12 : decode cX1_worst 12 = .ok (.aload_n 0, 1) := by decide +kernel
theorem d_17_13 : decode cX1_worst 13 = .ok (.getfield 18, 3) := by decide +kernel
theorem d_17_16 : decode cX1_worst 16 = .ok (.iload_n 2, 1) := by decide +kernel
theorem d_17_17 : decode cX1_worst 17 = .ok (.laload, 1) := by decide +kernel
theorem d_17_18 : decode cX1_worst 18 = .ok (.aload_n 0, 1) := by decide +kernel
theorem d_17_19 : decode cX1_worst 19 = .ok (.getfield 18, 3) := by decide +kernel
theorem d_17_22 : decode cX1_worst 22 = .ok (.iload_n 1, 1) := by decide +kernel
theorem d_17_23 : decode cX1_worst 23 = .ok (.laload, 1) := by decide +kernel
theorem d_17_24 : decode cX1_worst 24 = .ok (.lcmp, 1) := by decide +kernel
theorem d_17_25 : decode cX1_worst 25 = .ok (.ifCond .ge 5, 3) := by decide +kernel
theorem d_17_28 : decode cX1_worst 28 = .ok (.iload_n 2, 1) := by decide +kernel
theorem d_17_29 : decode cX1_worst 29 = .ok (.istore_n 1, 1) := by decide +kernel
theorem d_17_30 : decode cX1_worst 30 = .ok (.iinc 2 1, 3) := by decide +kernel
theorem d_17_33 : decode cX1_worst 33 = .ok (.goto (-29), 3) := by decide +kernel
theorem d_17_36 : decode cX1_worst 36 = .ok (.iload_n 1, 1) := by decide +kernel
theorem d_17_37 : decode cX1_worst 37 = .ok (.ireturn, 1) := by decide +kernel
theorem q_17_0  : zRun 17 0 L S sh mi mj mr = zRun 17 1 L (.int 0 :: S) sh mi mj mr := zr_p (zD_of zk_17 d_17_0 rfl rfl) rfl
theorem q_17_1 : zRun 17 1 [l0, l1, l2] (.int x :: S) sh mi mj mr = zRun 17 2 [zk2 l0, some (.int x), l2] S sh mi mj mr := zr_s1 (i := 1) (v := .int x) (L := [l0, l1, l2]) (zD_of zk_17 d_17_1 rfl rfl) rfl rfl rfl rfl
theorem q_17_2  : zRun 17 2 L S sh mi mj mr = zRun 17 3 L (.int 1 :: S) sh mi mj mr := zr_p (zD_of zk_17 d_17_2 rfl rfl) rfl
theorem q_17_3 : zRun 17 3 [l0, l1, l2] (.int x :: S) sh mi mj mr = zRun 17 4 [l0, zk2 l1, some (.int x)] S sh mi mj mr := zr_s1 (i := 2) (v := .int x) (L := [l0, l1, l2]) (zD_of zk_17 d_17_3 rfl rfl) rfl rfl rfl rfl
theorem q_17_4 : zRun 17 4 [l0, l1, some (.int x)] S sh mi mj mr = zRun 17 5 [l0, l1, some (.int x)] (.int x :: S) sh mi mj mr := zr_l (zD_of zk_17 d_17_4 rfl rfl) rfl rfl rfl
theorem q_17_5r : zRun 17 5 [some (.ref o), l1, l2] S sh mi mj mr = zRun 17 6 [some (.ref o), l1, l2] (.ref o :: S) sh mi mj mr := zr_l (zD_of zk_17 d_17_5 rfl rfl) rfl rfl rfl
theorem q_17_5n : zRun 17 5 [some (.null), l1, l2] S sh mi mj mr = zRun 17 6 [some (.null), l1, l2] (.null :: S) sh mi mj mr := zr_l (zD_of zk_17 d_17_5 rfl rfl) rfl rfl rfl
theorem q_17_6 (h : zIs sh o 0 1) : zRun 17 6 L (.ref o :: S) sh mi mj mr = zRun 17 9 L (.int (mi o 4) :: S) sh mi mj mr := zr_getI (zD_of zk_17 d_17_6 rfl rfl) rfl rfl (Or.inl rfl) h
theorem q_17_9  : zRun 17 9 L (.int y :: .int x :: S) sh mi mj mr = if y ≤ x then zRun 17 36 L S sh mi mj mr else zRun 17 12 L S sh mi mj mr := zr_if (off := 27) (P := y ≤ x) (zD_of zk_17 d_17_9 rfl rfl) rfl rfl (by decide)
theorem q_17_12r : zRun 17 12 [some (.ref o), l1, l2] S sh mi mj mr = zRun 17 13 [some (.ref o), l1, l2] (.ref o :: S) sh mi mj mr := zr_l (zD_of zk_17 d_17_12 rfl rfl) rfl rfl rfl
theorem q_17_12n : zRun 17 12 [some (.null), l1, l2] S sh mi mj mr = zRun 17 13 [some (.null), l1, l2] (.null :: S) sh mi mj mr := zr_l (zD_of zk_17 d_17_12 rfl rfl) rfl rfl rfl
theorem q_17_13 (h : zIs sh o 0 1) : zRun 17 13 L (.ref o :: S) sh mi mj mr = zRun 17 16 L (va_rf (mr o 2) :: S) sh mi mj mr := zr_getR (zD_of zk_17 d_17_13 rfl rfl) rfl rfl rfl h
theorem q_17_16 : zRun 17 16 [l0, l1, some (.int x)] S sh mi mj mr = zRun 17 17 [l0, l1, some (.int x)] (.int x :: S) sh mi mj mr := zr_l (zD_of zk_17 d_17_16 rfl rfl) rfl rfl rfl
theorem q_17_17 (h : zAt sh o 2 x) : zRun 17 17 L (.int x :: .ref o :: S) sh mi mj mr = zRun 17 18 L (.long (mj o x.toNatClampNeg) :: S) sh mi mj mr := zr_lald (zD_of zk_17 d_17_17 rfl rfl) h
theorem q_17_18r : zRun 17 18 [some (.ref o), l1, l2] S sh mi mj mr = zRun 17 19 [some (.ref o), l1, l2] (.ref o :: S) sh mi mj mr := zr_l (zD_of zk_17 d_17_18 rfl rfl) rfl rfl rfl
theorem q_17_18n : zRun 17 18 [some (.null), l1, l2] S sh mi mj mr = zRun 17 19 [some (.null), l1, l2] (.null :: S) sh mi mj mr := zr_l (zD_of zk_17 d_17_18 rfl rfl) rfl rfl rfl
theorem q_17_19 (h : zIs sh o 0 1) : zRun 17 19 L (.ref o :: S) sh mi mj mr = zRun 17 22 L (va_rf (mr o 2) :: S) sh mi mj mr := zr_getR (zD_of zk_17 d_17_19 rfl rfl) rfl rfl rfl h
theorem q_17_22 : zRun 17 22 [l0, some (.int x), l2] S sh mi mj mr = zRun 17 23 [l0, some (.int x), l2] (.int x :: S) sh mi mj mr := zr_l (zD_of zk_17 d_17_22 rfl rfl) rfl rfl rfl
theorem q_17_23 (h : zAt sh o 2 x) : zRun 17 23 L (.int x :: .ref o :: S) sh mi mj mr = zRun 17 24 L (.long (mj o x.toNatClampNeg) :: S) sh mi mj mr := zr_lald (zD_of zk_17 d_17_23 rfl rfl) h
theorem q_17_24  : zRun 17 24 L (.long v :: .long u :: S) sh mi mj mr = if v ≤ u then zRun 17 30 L S sh mi mj mr else zRun 17 28 L S sh mi mj mr := zr_cmp (off := 5) (zD_of zk_17 d_17_24 rfl rfl) (zD_of zk_17 d_17_25 rfl rfl) rfl rfl (by decide) (lg_cmp_ge u v)
theorem q_17_25  : zRun 17 25 L (.int x :: S) sh mi mj mr = if 0 ≤ x then zRun 17 30 L S sh mi mj mr else zRun 17 28 L S sh mi mj mr := zr_if (off := 5) (P := 0 ≤ x) (zD_of zk_17 d_17_25 rfl rfl) rfl rfl (by decide)
theorem q_17_28 : zRun 17 28 [l0, l1, some (.int x)] S sh mi mj mr = zRun 17 29 [l0, l1, some (.int x)] (.int x :: S) sh mi mj mr := zr_l (zD_of zk_17 d_17_28 rfl rfl) rfl rfl rfl
theorem q_17_29 : zRun 17 29 [l0, l1, l2] (.int x :: S) sh mi mj mr = zRun 17 30 [zk2 l0, some (.int x), l2] S sh mi mj mr := zr_s1 (i := 1) (v := .int x) (L := [l0, l1, l2]) (zD_of zk_17 d_17_29 rfl rfl) rfl rfl rfl rfl
theorem q_17_30  : zRun 17 30 [l0, l1, some (.int x)] S sh mi mj mr = zRun 17 33 [l0, zk2 l1, some (.int (x + 1))] S sh mi mj mr := zr_s1 (i := 2) (v := .int (x + 1)) (L := [l0, l1, some (.int x)]) (zD_of zk_17 d_17_30 rfl rfl) rfl rfl rfl rfl
theorem q_17_33  : zRun 17 33 L S sh mi mj mr = zRun 17 4 L S sh mi mj mr := zr_go (off := (-29)) (zD_of zk_17 d_17_33 rfl rfl) rfl rfl (by decide)
theorem q_17_36 : zRun 17 36 [l0, some (.int x), l2] S sh mi mj mr = zRun 17 37 [l0, some (.int x), l2] (.int x :: S) sh mi mj mr := zr_l (zD_of zk_17 d_17_36 rfl rfl) rfl rfl rfl
theorem q_17_37  : zRun 17 37 L ([.int x]) sh mi mj mr = some (some (.int x), sh, mi, mj, mr) := zr_ret (zD_of zk_17 d_17_37 rfl rfl) rfl rfl rfl rfl rfl (if_pos rfl)
theorem e_17 : zCall 17 [.ref o] sh mi mj mr = zRun 17 0 [some (.ref o), none, none] [] sh mi mj mr := rfl
theorem d_18_0 : decode cX2_init 0 = .ok (.aload_n 0, 1) := by decide +kernel
theorem d_18_1 : decode cX2_init 1 = .ok (.invokespecial 3, 3) := by decide +kernel
theorem d_18_4 : decode cX2_init 4 = .ok (.aload_n 0, 1) := by decide +kernel
theorem d_18_5 : decode cX2_init 5 = .ok (.bipush 12, 2) := by decide +kernel
theorem d_18_7 : decode cX2_init 7 = .ok (.newarray .long, 2) := by decide +kernel
theorem d_18_9 : decode cX2_init 9 = .ok (.putfield 9, 3) := by decide +kernel
theorem d_18_12 : decode cX2_init 12 = .ok (.return_, 1) := by decide +kernel
theorem q_18_0r : zRun 18 0 [some (.ref o)] S sh mi mj mr = zRun 18 1 [some (.ref o)] (.ref o :: S) sh mi mj mr := zr_l (zD_of zk_18 d_18_0 rfl rfl) rfl rfl rfl
theorem q_18_0n : zRun 18 0 [some (.null)] S sh mi mj mr = zRun 18 1 [some (.null)] (.null :: S) sh mi mj mr := zr_l (zD_of zk_18 d_18_0 rfl rfl) rfl rfl rfl
theorem q_18_1 (h : zcat S ≤ 8) : zRun 18 1 L (.ref o :: S) sh mi mj mr = zRun 18 4 L S sh mi mj mr := zr_obj (zD_of zk_18 d_18_1 rfl rfl) rfl h
theorem q_18_4r : zRun 18 4 [some (.ref o)] S sh mi mj mr = zRun 18 5 [some (.ref o)] (.ref o :: S) sh mi mj mr := zr_l (zD_of zk_18 d_18_4 rfl rfl) rfl rfl rfl
theorem q_18_4n : zRun 18 4 [some (.null)] S sh mi mj mr = zRun 18 5 [some (.null)] (.null :: S) sh mi mj mr := zr_l (zD_of zk_18 d_18_4 rfl rfl) rfl rfl rfl
theorem q_18_5  : zRun 18 5 L S sh mi mj mr = zRun 18 7 L (.int 12 :: S) sh mi mj mr := zr_p (zD_of zk_18 d_18_5 rfl rfl) rfl
theorem q_18_7 (h : 0 ≤ x ∧ x ≤ 100000) : zRun 18 7 L (.int x :: S) sh mi mj mr = zRun 18 9 L (.ref sh.length :: S) (sh ++ [(2, x.toNatClampNeg)]) mi mj mr := zr_w (zD_of zk_18 d_18_7 rfl rfl) rfl rfl rfl rfl (if_pos h)
theorem q_18_9 (h : zIs sh o 0 2) : zRun 18 9 L (.ref o2 :: .ref o :: S) sh mi mj mr = zRun 18 12 L S sh mi mj (zup mr o 5 (some o2)) := zr_putR (zD_of zk_18 d_18_9 rfl rfl) rfl rfl rfl (Or.inr ⟨rfl, rfl⟩) h
theorem q_18_12  : zRun 18 12 L [] sh mi mj mr = some (none, sh, mi, mj, mr) := zr_ret (zD_of zk_18 d_18_12 rfl rfl) rfl rfl rfl rfl rfl rfl
theorem e_18 : zCall 18 [.ref o] sh mi mj mr = zRun 18 0 [some (.ref o)] [] sh mi mj mr := rfl
theorem d_19_0 : decode cX2_becomeWild 0 = .ok (.aload_n 0, 1) := by decide +kernel
theorem d_19_1 : decode cX2_becomeWild 1 = .ok (.iload_n 1, 1) := by decide +kernel
theorem d_19_2 : decode cX2_becomeWild 2 = .ok (.putfield 15, 3) := by decide +kernel
theorem d_19_5 : decode cX2_becomeWild 5 = .ok (.return_, 1) := by decide +kernel
theorem q_19_0r : zRun 19 0 [some (.ref o), l1] S sh mi mj mr = zRun 19 1 [some (.ref o), l1] (.ref o :: S) sh mi mj mr := zr_l (zD_of zk_19 d_19_0 rfl rfl) rfl rfl rfl
theorem q_19_0n : zRun 19 0 [some (.null), l1] S sh mi mj mr = zRun 19 1 [some (.null), l1] (.null :: S) sh mi mj mr := zr_l (zD_of zk_19 d_19_0 rfl rfl) rfl rfl rfl
theorem q_19_1 : zRun 19 1 [l0, some (.int x)] S sh mi mj mr = zRun 19 2 [l0, some (.int x)] (.int x :: S) sh mi mj mr := zr_l (zD_of zk_19 d_19_1 rfl rfl) rfl rfl rfl
theorem q_19_2 (h : zIs sh o 0 2) : zRun 19 2 L (.int x :: .ref o :: S) sh mi mj mr = zRun 19 5 L S sh (zup mi o 0 x) mj mr := zr_putI (zD_of zk_19 d_19_2 rfl rfl) rfl rfl rfl (Or.inl rfl) h
theorem q_19_5  : zRun 19 5 L [] sh mi mj mr = some (none, sh, mi, mj, mr) := zr_ret (zD_of zk_19 d_19_5 rfl rfl) rfl rfl rfl rfl rfl rfl
theorem e_19 {x0 : Int32} : zCall 19 [.ref o, .int x0] sh mi mj mr = zRun 19 0 [some (.ref o), some (.int x0)] [] sh mi mj mr := rfl
theorem d_20_0 : decode cX2_measure 0 = .ok (.aload_n 0, 1) := by decide +kernel
theorem d_20_1 : decode cX2_measure 1 = .ok (.aload_n 0, 1) := by decide +kernel
theorem d_20_2 : decode cX2_measure 2 = .ok (.getfield 19, 3) := by decide +kernel
theorem d_20_5 : decode cX2_measure 5 = .ok (.putfield 23, 3) := by decide +kernel
theorem d_20_8 : decode cX2_measure 8 = .ok (.iconst 0, 1) := by decide +kernel
theorem d_20_9 : decode cX2_measure 9 = .ok (.istore_n 1, 1) := by decide +kernel
theorem d_20_10 : decode cX2_measure 10 = .ok (.iload_n 1, 1) := by decide +kernel
theorem d_20_11 : decode cX2_measure 11 = .ok (.bipush 12, 2) := by decide +kernel
theorem d_20_13 : decode cX2_measure 13 = .ok (.if_icmp .ge 27, 3) := by decide +kernel
theorem d_20_16 : decode cX2_measure 16 = .ok (.aload_n 0, 1) := by decide +kernel
theorem d_20_17 : decode cX2_measure 17 = .ok (.dup, 1) := by decide +kernel
theorem d_20_18 : decode cX2_measure 18 = .ok (.getfield 23, 3) := by decide +kernel
theorem d_20_21 : decode cX2_measure 21 = .ok (.aload_n 0, 1) := by decide +kernel
theorem d_20_22 : decode cX2_measure 22 = .ok (.getfield 9, 3) := by decide +kernel
theorem d_20_25 : decode cX2_measure 25 = .ok (.iload_n 1, 1) := by decide +kernel
theorem d_20_26 : decode cX2_measure 26 = .ok (.laload, 1) := by decide +kernel
theorem d_20_27 : decode cX2_measure 27 = .ok (.invokestatic 26, 3) := by decide +kernel
theorem d_20_30 : decode cX2_measure 30 = .ok (.ladd, 1) := by decide +kernel
theorem d_20_31 : decode cX2_measure 31 = .ok (.putfield 23, 3) := by decide +kernel
theorem d_20_34 : decode cX2_measure 34 = .ok (.iinc 1 1, 3) := by decide +kernel
theorem d_20_37 : decode cX2_measure 37 = .ok (.goto (-27), 3) := by decide +kernel
theorem d_20_40 : decode cX2_measure 40 = .ok (.aload_n 0, 1) := by decide +kernel
theorem d_20_41 : decode cX2_measure 41 = .ok (.aload_n 0, 1) := by decide +kernel
theorem d_20_42 : decode cX2_measure 42 = .ok (.getfield 32, 3) := by decide +kernel
theorem d_20_45 : decode cX2_measure 45 = .ok (.aload_n 0, 1) := by decide +kernel
theorem d_20_46 : decode cX2_measure 46 = .ok (.getfield 23, 3) := by decide +kernel
theorem d_20_49 : decode cX2_measure 49 = .ok (.lsub, 1) := by decide +kernel
theorem d_20_50 : decode cX2_measure 50 = .ok (.aload_n 0, 1) := by decide +kernel
theorem d_20_51 : decode cX2_measure 51 = .ok (.getfield 35, 3) := by decide +kernel
theorem d_20_54 : decode cX2_measure 54 = .ok (.invokestatic 38, 3) := by decide +kernel
theorem d_20_57 : decode cX2_measure 57 = .ok (.putfield 42, 3) := by decide +kernel
theorem d_20_60 : decode cX2_measure 60 = .ok (.aload_n 0, 1) := by decide +kernel
theorem d_20_61 : decode cX2_measure 61 = .ok (.aload_n 0, 1) := by decide +kernel
theorem d_20_62 : decode cX2_measure 62 = .ok (.getfield 32, 3) := by decide +kernel
theorem d_20_65 : decode cX2_measure 65 = .ok (.aload_n 0, 1) := by decide +kernel
theorem d_20_66 : decode cX2_measure 66 = .ok (.getfield 23, 3) := by decide +kernel
theorem d_20_69 : decode cX2_measure 69 = .ok (.ladd, 1) := by decide +kernel
theorem d_20_70 : decode cX2_measure 70 = .ok (.aload_n 0, 1) := by decide +kernel
theorem d_20_71 : decode cX2_measure 71 = .ok (.getfield 45, 3) := by decide +kernel
theorem d_20_74 : decode cX2_measure 74 = .ok (.invokestatic 48, 3) := by decide +kernel
theorem d_20_77 : decode cX2_measure 77 = .ok (.putfield 51, 3) := by decide +kernel
theorem d_20_80 : decode cX2_measure 80 = .ok (.aload_n 0, 1) := by decide +kernel
theorem d_20_81 : decode cX2_measure 81 = .ok (.getfield 32, 3) := by decide +kernel
theorem d_20_84 : decode cX2_measure 84 = .ok (.invokestatic 54, 3) := by decide +kernel
theorem d_20_87 : decode cX2_measure 87 = .ok (.ifCond .ne 33, 3) := by decide +kernel
theorem d_20_90 : decode cX2_measure 90 = .ok (.aload_n 0, 1) := by decide +kernel
theorem d_20_91 : decode cX2_measure 91 = .ok (.getfield 23, 3) := by decide +kernel
theorem d_20_94 : decode cX2_measure 94 = .ok (.invokestatic 54, 3) := by decide +kernel
theorem d_20_97 : decode cX2_measure 97 = .ok (.ifCond .ne 23, 3) := by decide +kernel
theorem d_20_100 : decode cX2_measure 100 = .ok (.aload_n 0, 1) := by decide +kernel
theorem d_20_101 : decode cX2_measure 101 = .ok (.getfield 35, 3) := by decide +kernel
theorem d_20_104 : decode cX2_measure 104 = .ok (.invokestatic 54, 3) := by decide +kernel
theorem d_20_107 : decode cX2_measure 107 = .ok (.ifCond .ne 13, 3) := by decide +kernel
theorem d_20_110 : decode cX2_measure 110 = .ok (.aload_n 0, 1) := by decide +kernel
theorem d_20_111 : decode cX2_measure 111 = .ok (.getfield 45, 3) := by decide +kernel
theorem d_20_114 : decode cX2_measure 114 = .ok (.invokestatic 54, 3) := by decide +kernel
theorem d_20_117 : decode cX2_measure 117 = .ok (.ifCond .eq 8, 3) := by decide +kernel
theorem d_20_120 : decode cX2_measure 120 = .ok (.aload_n 0, 1) := by decide +kernel
theorem d_20_121 : decode cX2_measure 121 = .ok (.iconst 3, 1) := by decide +kernel
theorem d_20_122 : decode cX2_measure 122 = .ok (.invokevirtual 58, 3) := by decide +kernel
theorem d_20_125 : decode cX2_measure 125 = .ok (.return_, 1) := by decide +kernel
theorem q_20_0r : zRun 20 0 [some (.ref o), l1] S sh mi mj mr = zRun 20 1 [some (.ref o), l1] (.ref o :: S) sh mi mj mr := zr_l (zD_of zk_20 d_20_0 rfl rfl) rfl rfl rfl
theorem q_20_0n : zRun 20 0 [some (.null), l1] S sh mi mj mr = zRun 20 1 [some (.null), l1] (.null :: S) sh mi mj mr := zr_l (zD_of zk_20 d_20_0 rfl rfl) rfl rfl rfl
theorem q_20_1r : zRun 20 1 [some (.ref o), l1] S sh mi mj mr = zRun 20 2 [some (.ref o), l1] (.ref o :: S) sh mi mj mr := zr_l (zD_of zk_20 d_20_1 rfl rfl) rfl rfl rfl
theorem q_20_1n : zRun 20 1 [some (.null), l1] S sh mi mj mr = zRun 20 2 [some (.null), l1] (.null :: S) sh mi mj mr := zr_l (zD_of zk_20 d_20_1 rfl rfl) rfl rfl rfl
theorem q_20_2 (h : zIs sh o 0 2) : zRun 20 2 L (.ref o :: S) sh mi mj mr = zRun 20 5 L (.long (mj o 2) :: S) sh mi mj mr := zr_getJ (zD_of zk_20 d_20_2 rfl rfl) rfl rfl rfl h
theorem q_20_5 (h : zIs sh o 0 2) : zRun 20 5 L (.long u :: .ref o :: S) sh mi mj mr = zRun 20 8 L S sh mi (zup mj o 6 u) mr := zr_putJ (zD_of zk_20 d_20_5 rfl rfl) rfl rfl rfl (Or.inl rfl) h
theorem q_20_8  : zRun 20 8 L S sh mi mj mr = zRun 20 9 L (.int 0 :: S) sh mi mj mr := zr_p (zD_of zk_20 d_20_8 rfl rfl) rfl
theorem q_20_9 : zRun 20 9 [l0, l1] (.int x :: S) sh mi mj mr = zRun 20 10 [zk2 l0, some (.int x)] S sh mi mj mr := zr_s1 (i := 1) (v := .int x) (L := [l0, l1]) (zD_of zk_20 d_20_9 rfl rfl) rfl rfl rfl rfl
theorem q_20_10 : zRun 20 10 [l0, some (.int x)] S sh mi mj mr = zRun 20 11 [l0, some (.int x)] (.int x :: S) sh mi mj mr := zr_l (zD_of zk_20 d_20_10 rfl rfl) rfl rfl rfl
theorem q_20_11  : zRun 20 11 L S sh mi mj mr = zRun 20 13 L (.int 12 :: S) sh mi mj mr := zr_p (zD_of zk_20 d_20_11 rfl rfl) rfl
theorem q_20_13  : zRun 20 13 L (.int y :: .int x :: S) sh mi mj mr = if y ≤ x then zRun 20 40 L S sh mi mj mr else zRun 20 16 L S sh mi mj mr := zr_if (off := 27) (P := y ≤ x) (zD_of zk_20 d_20_13 rfl rfl) rfl rfl (by decide)
theorem q_20_16r : zRun 20 16 [some (.ref o), l1] S sh mi mj mr = zRun 20 17 [some (.ref o), l1] (.ref o :: S) sh mi mj mr := zr_l (zD_of zk_20 d_20_16 rfl rfl) rfl rfl rfl
theorem q_20_16n : zRun 20 16 [some (.null), l1] S sh mi mj mr = zRun 20 17 [some (.null), l1] (.null :: S) sh mi mj mr := zr_l (zD_of zk_20 d_20_16 rfl rfl) rfl rfl rfl
theorem q_20_17r : zRun 20 17 L (.ref o :: S) sh mi mj mr = zRun 20 18 L (.ref o :: .ref o :: S) sh mi mj mr := zr_p (zD_of zk_20 d_20_17 rfl rfl) rfl
theorem q_20_17i : zRun 20 17 L (.int x :: S) sh mi mj mr = zRun 20 18 L (.int x :: .int x :: S) sh mi mj mr := zr_p (zD_of zk_20 d_20_17 rfl rfl) rfl
theorem q_20_18 (h : zIs sh o 0 2) : zRun 20 18 L (.ref o :: S) sh mi mj mr = zRun 20 21 L (.long (mj o 6) :: S) sh mi mj mr := zr_getJ (zD_of zk_20 d_20_18 rfl rfl) rfl rfl rfl h
theorem q_20_21r : zRun 20 21 [some (.ref o), l1] S sh mi mj mr = zRun 20 22 [some (.ref o), l1] (.ref o :: S) sh mi mj mr := zr_l (zD_of zk_20 d_20_21 rfl rfl) rfl rfl rfl
theorem q_20_21n : zRun 20 21 [some (.null), l1] S sh mi mj mr = zRun 20 22 [some (.null), l1] (.null :: S) sh mi mj mr := zr_l (zD_of zk_20 d_20_21 rfl rfl) rfl rfl rfl
theorem q_20_22 (h : zIs sh o 0 2) : zRun 20 22 L (.ref o :: S) sh mi mj mr = zRun 20 25 L (va_rf (mr o 5) :: S) sh mi mj mr := zr_getR (zD_of zk_20 d_20_22 rfl rfl) rfl rfl rfl h
theorem q_20_25 : zRun 20 25 [l0, some (.int x)] S sh mi mj mr = zRun 20 26 [l0, some (.int x)] (.int x :: S) sh mi mj mr := zr_l (zD_of zk_20 d_20_25 rfl rfl) rfl rfl rfl
theorem q_20_26 (h : zAt sh o 2 x) : zRun 20 26 L (.int x :: .ref o :: S) sh mi mj mr = zRun 20 27 L (.long (mj o x.toNatClampNeg) :: S) sh mi mj mr := zr_lald (zD_of zk_20 d_20_26 rfl rfl) h
theorem q_20_27  {u0 : Int64} (hS : zcat S ≤ 8) : zRun 20 27 L (.long u0 :: S) sh mi mj mr = (zCall 111 [.long u0] sh mi mj mr).bind fun r => zRun 20 30 L (r.1.toList ++ S) r.2.1 r.2.2.1 r.2.2.2.1 r.2.2.2.2 := zr_S (zD_of zk_20 d_20_27 rfl rfl) rfl zk_111 rfl rfl rfl hS
theorem q_20_30  : zRun 20 30 L (.long v :: .long u :: S) sh mi mj mr = zRun 20 31 L (.long (u + v) :: S) sh mi mj mr := zr_p (zD_of zk_20 d_20_30 rfl rfl) rfl
theorem q_20_31 (h : zIs sh o 0 2) : zRun 20 31 L (.long u :: .ref o :: S) sh mi mj mr = zRun 20 34 L S sh mi (zup mj o 6 u) mr := zr_putJ (zD_of zk_20 d_20_31 rfl rfl) rfl rfl rfl (Or.inl rfl) h
theorem q_20_34  : zRun 20 34 [l0, some (.int x)] S sh mi mj mr = zRun 20 37 [zk2 l0, some (.int (x + 1))] S sh mi mj mr := zr_s1 (i := 1) (v := .int (x + 1)) (L := [l0, some (.int x)]) (zD_of zk_20 d_20_34 rfl rfl) rfl rfl rfl rfl
theorem q_20_37  : zRun 20 37 L S sh mi mj mr = zRun 20 10 L S sh mi mj mr := zr_go (off := (-27)) (zD_of zk_20 d_20_37 rfl rfl) rfl rfl (by decide)
theorem q_20_40r : zRun 20 40 [some (.ref o), l1] S sh mi mj mr = zRun 20 41 [some (.ref o), l1] (.ref o :: S) sh mi mj mr := zr_l (zD_of zk_20 d_20_40 rfl rfl) rfl rfl rfl
theorem q_20_40n : zRun 20 40 [some (.null), l1] S sh mi mj mr = zRun 20 41 [some (.null), l1] (.null :: S) sh mi mj mr := zr_l (zD_of zk_20 d_20_40 rfl rfl) rfl rfl rfl
theorem q_20_41r : zRun 20 41 [some (.ref o), l1] S sh mi mj mr = zRun 20 42 [some (.ref o), l1] (.ref o :: S) sh mi mj mr := zr_l (zD_of zk_20 d_20_41 rfl rfl) rfl rfl rfl
theorem q_20_41n : zRun 20 41 [some (.null), l1] S sh mi mj mr = zRun 20 42 [some (.null), l1] (.null :: S) sh mi mj mr := zr_l (zD_of zk_20 d_20_41 rfl rfl) rfl rfl rfl
theorem q_20_42 (h : zIs sh o 0 2) : zRun 20 42 L (.ref o :: S) sh mi mj mr = zRun 20 45 L (.long (mj o 1) :: S) sh mi mj mr := zr_getJ (zD_of zk_20 d_20_42 rfl rfl) rfl rfl rfl h
theorem q_20_45r : zRun 20 45 [some (.ref o), l1] S sh mi mj mr = zRun 20 46 [some (.ref o), l1] (.ref o :: S) sh mi mj mr := zr_l (zD_of zk_20 d_20_45 rfl rfl) rfl rfl rfl
theorem q_20_45n : zRun 20 45 [some (.null), l1] S sh mi mj mr = zRun 20 46 [some (.null), l1] (.null :: S) sh mi mj mr := zr_l (zD_of zk_20 d_20_45 rfl rfl) rfl rfl rfl
theorem q_20_46 (h : zIs sh o 0 2) : zRun 20 46 L (.ref o :: S) sh mi mj mr = zRun 20 49 L (.long (mj o 6) :: S) sh mi mj mr := zr_getJ (zD_of zk_20 d_20_46 rfl rfl) rfl rfl rfl h
theorem q_20_49  : zRun 20 49 L (.long v :: .long u :: S) sh mi mj mr = zRun 20 50 L (.long (u - v) :: S) sh mi mj mr := zr_p (zD_of zk_20 d_20_49 rfl rfl) rfl
theorem q_20_50r : zRun 20 50 [some (.ref o), l1] S sh mi mj mr = zRun 20 51 [some (.ref o), l1] (.ref o :: S) sh mi mj mr := zr_l (zD_of zk_20 d_20_50 rfl rfl) rfl rfl rfl
theorem q_20_50n : zRun 20 50 [some (.null), l1] S sh mi mj mr = zRun 20 51 [some (.null), l1] (.null :: S) sh mi mj mr := zr_l (zD_of zk_20 d_20_50 rfl rfl) rfl rfl rfl
theorem q_20_51 (h : zIs sh o 0 2) : zRun 20 51 L (.ref o :: S) sh mi mj mr = zRun 20 54 L (.long (mj o 3) :: S) sh mi mj mr := zr_getJ (zD_of zk_20 d_20_51 rfl rfl) rfl rfl rfl h
theorem q_20_54  {u0 u1 : Int64} (hS : zcat S ≤ 8) : zRun 20 54 L (.long u1 :: .long u0 :: S) sh mi mj mr = (zCall 112 [.long u0, .long u1] sh mi mj mr).bind fun r => zRun 20 57 L (r.1.toList ++ S) r.2.1 r.2.2.1 r.2.2.2.1 r.2.2.2.2 := zr_S (zD_of zk_20 d_20_54 rfl rfl) rfl zk_112 rfl rfl rfl hS
theorem q_20_57 (h : zIs sh o 0 2) : zRun 20 57 L (.long u :: .ref o :: S) sh mi mj mr = zRun 20 60 L S sh mi (zup mj o 7 u) mr := zr_putJ (zD_of zk_20 d_20_57 rfl rfl) rfl rfl rfl (Or.inl rfl) h
theorem q_20_60r : zRun 20 60 [some (.ref o), l1] S sh mi mj mr = zRun 20 61 [some (.ref o), l1] (.ref o :: S) sh mi mj mr := zr_l (zD_of zk_20 d_20_60 rfl rfl) rfl rfl rfl
theorem q_20_60n : zRun 20 60 [some (.null), l1] S sh mi mj mr = zRun 20 61 [some (.null), l1] (.null :: S) sh mi mj mr := zr_l (zD_of zk_20 d_20_60 rfl rfl) rfl rfl rfl
theorem q_20_61r : zRun 20 61 [some (.ref o), l1] S sh mi mj mr = zRun 20 62 [some (.ref o), l1] (.ref o :: S) sh mi mj mr := zr_l (zD_of zk_20 d_20_61 rfl rfl) rfl rfl rfl
theorem q_20_61n : zRun 20 61 [some (.null), l1] S sh mi mj mr = zRun 20 62 [some (.null), l1] (.null :: S) sh mi mj mr := zr_l (zD_of zk_20 d_20_61 rfl rfl) rfl rfl rfl
theorem q_20_62 (h : zIs sh o 0 2) : zRun 20 62 L (.ref o :: S) sh mi mj mr = zRun 20 65 L (.long (mj o 1) :: S) sh mi mj mr := zr_getJ (zD_of zk_20 d_20_62 rfl rfl) rfl rfl rfl h
theorem q_20_65r : zRun 20 65 [some (.ref o), l1] S sh mi mj mr = zRun 20 66 [some (.ref o), l1] (.ref o :: S) sh mi mj mr := zr_l (zD_of zk_20 d_20_65 rfl rfl) rfl rfl rfl
theorem q_20_65n : zRun 20 65 [some (.null), l1] S sh mi mj mr = zRun 20 66 [some (.null), l1] (.null :: S) sh mi mj mr := zr_l (zD_of zk_20 d_20_65 rfl rfl) rfl rfl rfl
theorem q_20_66 (h : zIs sh o 0 2) : zRun 20 66 L (.ref o :: S) sh mi mj mr = zRun 20 69 L (.long (mj o 6) :: S) sh mi mj mr := zr_getJ (zD_of zk_20 d_20_66 rfl rfl) rfl rfl rfl h
theorem q_20_69  : zRun 20 69 L (.long v :: .long u :: S) sh mi mj mr = zRun 20 70 L (.long (u + v) :: S) sh mi mj mr := zr_p (zD_of zk_20 d_20_69 rfl rfl) rfl
theorem q_20_70r : zRun 20 70 [some (.ref o), l1] S sh mi mj mr = zRun 20 71 [some (.ref o), l1] (.ref o :: S) sh mi mj mr := zr_l (zD_of zk_20 d_20_70 rfl rfl) rfl rfl rfl
theorem q_20_70n : zRun 20 70 [some (.null), l1] S sh mi mj mr = zRun 20 71 [some (.null), l1] (.null :: S) sh mi mj mr := zr_l (zD_of zk_20 d_20_70 rfl rfl) rfl rfl rfl
theorem q_20_71 (h : zIs sh o 0 2) : zRun 20 71 L (.ref o :: S) sh mi mj mr = zRun 20 74 L (.long (mj o 4) :: S) sh mi mj mr := zr_getJ (zD_of zk_20 d_20_71 rfl rfl) rfl rfl rfl h
theorem q_20_74  {u0 u1 : Int64} (hS : zcat S ≤ 8) : zRun 20 74 L (.long u1 :: .long u0 :: S) sh mi mj mr = (zCall 114 [.long u0, .long u1] sh mi mj mr).bind fun r => zRun 20 77 L (r.1.toList ++ S) r.2.1 r.2.2.1 r.2.2.2.1 r.2.2.2.2 := zr_S (zD_of zk_20 d_20_74 rfl rfl) rfl zk_114 rfl rfl rfl hS
theorem q_20_77 (h : zIs sh o 0 2) : zRun 20 77 L (.long u :: .ref o :: S) sh mi mj mr = zRun 20 80 L S sh mi (zup mj o 8 u) mr := zr_putJ (zD_of zk_20 d_20_77 rfl rfl) rfl rfl rfl (Or.inl rfl) h
theorem q_20_80r : zRun 20 80 [some (.ref o), l1] S sh mi mj mr = zRun 20 81 [some (.ref o), l1] (.ref o :: S) sh mi mj mr := zr_l (zD_of zk_20 d_20_80 rfl rfl) rfl rfl rfl
theorem q_20_80n : zRun 20 80 [some (.null), l1] S sh mi mj mr = zRun 20 81 [some (.null), l1] (.null :: S) sh mi mj mr := zr_l (zD_of zk_20 d_20_80 rfl rfl) rfl rfl rfl
theorem q_20_81 (h : zIs sh o 0 2) : zRun 20 81 L (.ref o :: S) sh mi mj mr = zRun 20 84 L (.long (mj o 1) :: S) sh mi mj mr := zr_getJ (zD_of zk_20 d_20_81 rfl rfl) rfl rfl rfl h
theorem q_20_84  {u0 : Int64} (hS : zcat S ≤ 8) : zRun 20 84 L (.long u0 :: S) sh mi mj mr = (zCall 40 [.long u0] sh mi mj mr).bind fun r => zRun 20 87 L (r.1.toList ++ S) r.2.1 r.2.2.1 r.2.2.2.1 r.2.2.2.2 := zr_S (zD_of zk_20 d_20_84 rfl rfl) rfl zk_40 rfl rfl rfl hS
theorem q_20_87  : zRun 20 87 L (.int x :: S) sh mi mj mr = if ¬ x = 0 then zRun 20 120 L S sh mi mj mr else zRun 20 90 L S sh mi mj mr := zr_if (off := 33) (P := ¬ x = 0) (zD_of zk_20 d_20_87 rfl rfl) rfl rfl (by decide)
theorem q_20_90r : zRun 20 90 [some (.ref o), l1] S sh mi mj mr = zRun 20 91 [some (.ref o), l1] (.ref o :: S) sh mi mj mr := zr_l (zD_of zk_20 d_20_90 rfl rfl) rfl rfl rfl
theorem q_20_90n : zRun 20 90 [some (.null), l1] S sh mi mj mr = zRun 20 91 [some (.null), l1] (.null :: S) sh mi mj mr := zr_l (zD_of zk_20 d_20_90 rfl rfl) rfl rfl rfl
theorem q_20_91 (h : zIs sh o 0 2) : zRun 20 91 L (.ref o :: S) sh mi mj mr = zRun 20 94 L (.long (mj o 6) :: S) sh mi mj mr := zr_getJ (zD_of zk_20 d_20_91 rfl rfl) rfl rfl rfl h
theorem q_20_94  {u0 : Int64} (hS : zcat S ≤ 8) : zRun 20 94 L (.long u0 :: S) sh mi mj mr = (zCall 40 [.long u0] sh mi mj mr).bind fun r => zRun 20 97 L (r.1.toList ++ S) r.2.1 r.2.2.1 r.2.2.2.1 r.2.2.2.2 := zr_S (zD_of zk_20 d_20_94 rfl rfl) rfl zk_40 rfl rfl rfl hS
theorem q_20_97  : zRun 20 97 L (.int x :: S) sh mi mj mr = if ¬ x = 0 then zRun 20 120 L S sh mi mj mr else zRun 20 100 L S sh mi mj mr := zr_if (off := 23) (P := ¬ x = 0) (zD_of zk_20 d_20_97 rfl rfl) rfl rfl (by decide)
theorem q_20_100r : zRun 20 100 [some (.ref o), l1] S sh mi mj mr = zRun 20 101 [some (.ref o), l1] (.ref o :: S) sh mi mj mr := zr_l (zD_of zk_20 d_20_100 rfl rfl) rfl rfl rfl
theorem q_20_100n : zRun 20 100 [some (.null), l1] S sh mi mj mr = zRun 20 101 [some (.null), l1] (.null :: S) sh mi mj mr := zr_l (zD_of zk_20 d_20_100 rfl rfl) rfl rfl rfl
theorem q_20_101 (h : zIs sh o 0 2) : zRun 20 101 L (.ref o :: S) sh mi mj mr = zRun 20 104 L (.long (mj o 3) :: S) sh mi mj mr := zr_getJ (zD_of zk_20 d_20_101 rfl rfl) rfl rfl rfl h
theorem q_20_104  {u0 : Int64} (hS : zcat S ≤ 8) : zRun 20 104 L (.long u0 :: S) sh mi mj mr = (zCall 40 [.long u0] sh mi mj mr).bind fun r => zRun 20 107 L (r.1.toList ++ S) r.2.1 r.2.2.1 r.2.2.2.1 r.2.2.2.2 := zr_S (zD_of zk_20 d_20_104 rfl rfl) rfl zk_40 rfl rfl rfl hS
theorem q_20_107  : zRun 20 107 L (.int x :: S) sh mi mj mr = if ¬ x = 0 then zRun 20 120 L S sh mi mj mr else zRun 20 110 L S sh mi mj mr := zr_if (off := 13) (P := ¬ x = 0) (zD_of zk_20 d_20_107 rfl rfl) rfl rfl (by decide)
theorem q_20_110r : zRun 20 110 [some (.ref o), l1] S sh mi mj mr = zRun 20 111 [some (.ref o), l1] (.ref o :: S) sh mi mj mr := zr_l (zD_of zk_20 d_20_110 rfl rfl) rfl rfl rfl
theorem q_20_110n : zRun 20 110 [some (.null), l1] S sh mi mj mr = zRun 20 111 [some (.null), l1] (.null :: S) sh mi mj mr := zr_l (zD_of zk_20 d_20_110 rfl rfl) rfl rfl rfl
theorem q_20_111 (h : zIs sh o 0 2) : zRun 20 111 L (.ref o :: S) sh mi mj mr = zRun 20 114 L (.long (mj o 4) :: S) sh mi mj mr := zr_getJ (zD_of zk_20 d_20_111 rfl rfl) rfl rfl rfl h
theorem q_20_114  {u0 : Int64} (hS : zcat S ≤ 8) : zRun 20 114 L (.long u0 :: S) sh mi mj mr = (zCall 40 [.long u0] sh mi mj mr).bind fun r => zRun 20 117 L (r.1.toList ++ S) r.2.1 r.2.2.1 r.2.2.2.1 r.2.2.2.2 := zr_S (zD_of zk_20 d_20_114 rfl rfl) rfl zk_40 rfl rfl rfl hS
theorem q_20_117  : zRun 20 117 L (.int x :: S) sh mi mj mr = if x = 0 then zRun 20 125 L S sh mi mj mr else zRun 20 120 L S sh mi mj mr := zr_if (off := 8) (P := x = 0) (zD_of zk_20 d_20_117 rfl rfl) rfl rfl (by decide)
theorem q_20_120r : zRun 20 120 [some (.ref o), l1] S sh mi mj mr = zRun 20 121 [some (.ref o), l1] (.ref o :: S) sh mi mj mr := zr_l (zD_of zk_20 d_20_120 rfl rfl) rfl rfl rfl
theorem q_20_120n : zRun 20 120 [some (.null), l1] S sh mi mj mr = zRun 20 121 [some (.null), l1] (.null :: S) sh mi mj mr := zr_l (zD_of zk_20 d_20_120 rfl rfl) rfl rfl rfl
theorem q_20_121  : zRun 20 121 L S sh mi mj mr = zRun 20 122 L (.int 3 :: S) sh mi mj mr := zr_p (zD_of zk_20 d_20_121 rfl rfl) rfl
theorem q_20_122  {x0 : Int32} (hS : zcat S ≤ 8) (h : zIs sh o 0 2) : zRun 20 122 L (.int x0 :: .ref o :: S) sh mi mj mr = (zCall 19 [.ref o, .int x0] sh mi mj mr).bind fun r => zRun 20 125 L (r.1.toList ++ S) r.2.1 r.2.2.1 r.2.2.2.1 r.2.2.2.2 := zr_V (zD_of zk_20 d_20_122 rfl rfl) rfl zk_19 rfl rfl rfl hS h
theorem q_20_125  : zRun 20 125 L [] sh mi mj mr = some (none, sh, mi, mj, mr) := zr_ret (zD_of zk_20 d_20_125 rfl rfl) rfl rfl rfl rfl rfl rfl
theorem e_20 : zCall 20 [.ref o] sh mi mj mr = zRun 20 0 [some (.ref o), none] [] sh mi mj mr := rfl
theorem d_21_0 : decode cX2_bestEnd 0 = .ok (.iload_n 1, 1) := by decide +kernel
theorem d_21_1 : decode cX2_bestEnd 1 = .ok (.ifCond .ne 10, 3) := by decide +kernel
theorem d_21_4 : decode cX2_bestEnd 4 = .ok (.aload_n 0, 1) := by decide +kernel
theorem d_21_5 : decode cX2_bestEnd 5 = .ok (.getfield 42, 3) := by decide +kernel
theorem d_21_8 : decode cX2_bestEnd 8 = .ok (.goto 7, 3) := by decide +kernel
theorem d_21_11 : decode cX2_bestEnd 11 = .ok (.aload_n 0, 1) := by decide +kernel
theorem d_21_12 : decode cX2_bestEnd 12 = .ok (.getfield 51, 3) := by decide +kernel
theorem d_21_15 : decode cX2_bestEnd 15 = .ok (.lreturn, 1) := by decide +kernel
theorem q_21_0 : zRun 21 0 [l0, some (.int x)] S sh mi mj mr = zRun 21 1 [l0, some (.int x)] (.int x :: S) sh mi mj mr := zr_l (zD_of zk_21 d_21_0 rfl rfl) rfl rfl rfl
theorem q_21_1  : zRun 21 1 L (.int x :: S) sh mi mj mr = if ¬ x = 0 then zRun 21 11 L S sh mi mj mr else zRun 21 4 L S sh mi mj mr := zr_if (off := 10) (P := ¬ x = 0) (zD_of zk_21 d_21_1 rfl rfl) rfl rfl (by decide)
theorem q_21_4r : zRun 21 4 [some (.ref o), l1] S sh mi mj mr = zRun 21 5 [some (.ref o), l1] (.ref o :: S) sh mi mj mr := zr_l (zD_of zk_21 d_21_4 rfl rfl) rfl rfl rfl
theorem q_21_4n : zRun 21 4 [some (.null), l1] S sh mi mj mr = zRun 21 5 [some (.null), l1] (.null :: S) sh mi mj mr := zr_l (zD_of zk_21 d_21_4 rfl rfl) rfl rfl rfl
theorem q_21_5 (h : zIs sh o 0 2) : zRun 21 5 L (.ref o :: S) sh mi mj mr = zRun 21 8 L (.long (mj o 7) :: S) sh mi mj mr := zr_getJ (zD_of zk_21 d_21_5 rfl rfl) rfl rfl rfl h
theorem q_21_8  : zRun 21 8 L S sh mi mj mr = zRun 21 15 L S sh mi mj mr := zr_go (off := 7) (zD_of zk_21 d_21_8 rfl rfl) rfl rfl (by decide)
theorem q_21_11r : zRun 21 11 [some (.ref o), l1] S sh mi mj mr = zRun 21 12 [some (.ref o), l1] (.ref o :: S) sh mi mj mr := zr_l (zD_of zk_21 d_21_11 rfl rfl) rfl rfl rfl
theorem q_21_11n : zRun 21 11 [some (.null), l1] S sh mi mj mr = zRun 21 12 [some (.null), l1] (.null :: S) sh mi mj mr := zr_l (zD_of zk_21 d_21_11 rfl rfl) rfl rfl rfl
theorem q_21_12 (h : zIs sh o 0 2) : zRun 21 12 L (.ref o :: S) sh mi mj mr = zRun 21 15 L (.long (mj o 8) :: S) sh mi mj mr := zr_getJ (zD_of zk_21 d_21_12 rfl rfl) rfl rfl rfl h
theorem q_21_15  : zRun 21 15 L ([.long u]) sh mi mj mr = some (some (.long u), sh, mi, mj, mr) := zr_ret (zD_of zk_21 d_21_15 rfl rfl) rfl rfl rfl rfl rfl rfl
theorem e_21 {x0 : Int32} : zCall 21 [.ref o, .int x0] sh mi mj mr = zRun 21 0 [some (.ref o), some (.int x0)] [] sh mi mj mr := rfl
theorem d_22_0 : decode cX2_holdsZero 0 = .ok (.aload_n 0, 1) := by decide +kernel
theorem d_22_1 : decode cX2_holdsZero 1 = .ok (.getfield 42, 3) := by decide +kernel
theorem d_22_4 : decode cX2_holdsZero 4 = .ok (.lconst 0, 1) := by decide +kernel
theorem d_22_5 : decode cX2_holdsZero 5 = .ok (.lcmp, 1) := by decide +kernel
theorem d_22_6 : decode cX2_holdsZero 6 = .ok (.ifCond .gt 16, 3) := by decide +kernel
theorem d_22_9 : decode cX2_holdsZero 9 = .ok (.aload_n 0, 1) := by decide +kernel
theorem d_22_10 : decode cX2_holdsZero 10 = .ok (.getfield 51, 3) := by decide +kernel
theorem d_22_13 : decode cX2_holdsZero 13 = .ok (.lconst 0, 1) := by decide +kernel
theorem d_22_14 : decode cX2_holdsZero 14 = .ok (.lcmp, 1) := by decide +kernel
theorem d_22_15 : decode cX2_holdsZero 15 = .ok (.ifCond .lt 7, 3) := by decide +kernel
theorem d_22_18 : decode cX2_holdsZero 18 = .ok (.iconst 1, 1) := by decide +kernel
theorem d_22_19 : decode cX2_holdsZero 19 = .ok (.goto 4, 3) := by decide +kernel
theorem d_22_22 : decode cX2_holdsZero 22 = .ok (.iconst 0, 1) := by decide +kernel
theorem d_22_23 : decode cX2_holdsZero 23 = .ok (.ireturn, 1) := by decide +kernel
theorem q_22_0r : zRun 22 0 [some (.ref o)] S sh mi mj mr = zRun 22 1 [some (.ref o)] (.ref o :: S) sh mi mj mr := zr_l (zD_of zk_22 d_22_0 rfl rfl) rfl rfl rfl
theorem q_22_0n : zRun 22 0 [some (.null)] S sh mi mj mr = zRun 22 1 [some (.null)] (.null :: S) sh mi mj mr := zr_l (zD_of zk_22 d_22_0 rfl rfl) rfl rfl rfl
theorem q_22_1 (h : zIs sh o 0 2) : zRun 22 1 L (.ref o :: S) sh mi mj mr = zRun 22 4 L (.long (mj o 7) :: S) sh mi mj mr := zr_getJ (zD_of zk_22 d_22_1 rfl rfl) rfl rfl rfl h
theorem q_22_4  : zRun 22 4 L S sh mi mj mr = zRun 22 5 L (.long 0 :: S) sh mi mj mr := zr_p (zD_of zk_22 d_22_4 rfl rfl) rfl
theorem q_22_5  : zRun 22 5 L (.long v :: .long u :: S) sh mi mj mr = if v < u then zRun 22 22 L S sh mi mj mr else zRun 22 9 L S sh mi mj mr := zr_cmp (off := 16) (zD_of zk_22 d_22_5 rfl rfl) (zD_of zk_22 d_22_6 rfl rfl) rfl rfl (by decide) (lg_cmp_gt u v)
theorem q_22_6  : zRun 22 6 L (.int x :: S) sh mi mj mr = if 0 < x then zRun 22 22 L S sh mi mj mr else zRun 22 9 L S sh mi mj mr := zr_if (off := 16) (P := 0 < x) (zD_of zk_22 d_22_6 rfl rfl) rfl rfl (by decide)
theorem q_22_9r : zRun 22 9 [some (.ref o)] S sh mi mj mr = zRun 22 10 [some (.ref o)] (.ref o :: S) sh mi mj mr := zr_l (zD_of zk_22 d_22_9 rfl rfl) rfl rfl rfl
theorem q_22_9n : zRun 22 9 [some (.null)] S sh mi mj mr = zRun 22 10 [some (.null)] (.null :: S) sh mi mj mr := zr_l (zD_of zk_22 d_22_9 rfl rfl) rfl rfl rfl
theorem q_22_10 (h : zIs sh o 0 2) : zRun 22 10 L (.ref o :: S) sh mi mj mr = zRun 22 13 L (.long (mj o 8) :: S) sh mi mj mr := zr_getJ (zD_of zk_22 d_22_10 rfl rfl) rfl rfl rfl h
theorem q_22_13  : zRun 22 13 L S sh mi mj mr = zRun 22 14 L (.long 0 :: S) sh mi mj mr := zr_p (zD_of zk_22 d_22_13 rfl rfl) rfl
theorem q_22_14  : zRun 22 14 L (.long v :: .long u :: S) sh mi mj mr = if u < v then zRun 22 22 L S sh mi mj mr else zRun 22 18 L S sh mi mj mr := zr_cmp (off := 7) (zD_of zk_22 d_22_14 rfl rfl) (zD_of zk_22 d_22_15 rfl rfl) rfl rfl (by decide) (lg_cmp_lt u v)
theorem q_22_15  : zRun 22 15 L (.int x :: S) sh mi mj mr = if x < 0 then zRun 22 22 L S sh mi mj mr else zRun 22 18 L S sh mi mj mr := zr_if (off := 7) (P := x < 0) (zD_of zk_22 d_22_15 rfl rfl) rfl rfl (by decide)
theorem q_22_18  : zRun 22 18 L S sh mi mj mr = zRun 22 19 L (.int 1 :: S) sh mi mj mr := zr_p (zD_of zk_22 d_22_18 rfl rfl) rfl
theorem q_22_19  : zRun 22 19 L S sh mi mj mr = zRun 22 23 L S sh mi mj mr := zr_go (off := 4) (zD_of zk_22 d_22_19 rfl rfl) rfl rfl (by decide)
theorem q_22_22  : zRun 22 22 L S sh mi mj mr = zRun 22 23 L (.int 0 :: S) sh mi mj mr := zr_p (zD_of zk_22 d_22_22 rfl rfl) rfl
theorem q_22_23 (h : x = 0 ∨ x = 1) : zRun 22 23 L ([.int x]) sh mi mj mr = some (some (.int x), sh, mi, mj, mr) := zr_ret (zD_of zk_22 d_22_23 rfl rfl) rfl rfl rfl rfl rfl (if_pos (zna_b h))
theorem e_22 : zCall 22 [.ref o] sh mi mj mr = zRun 22 0 [some (.ref o)] [] sh mi mj mr := rfl
theorem d_23_0 : decode cX2_weight 0 = .ok (.aload_n 0, 1) := by decide +kernel
theorem d_23_1 : decode cX2_weight 1 = .ok (.getfield 15, 3) := by decide +kernel
theorem d_23_4 : decode cX2_weight 4 = .ok (.ifCond .eq 7, 3) := by decide +kernel
theorem d_23_7 : decode cX2_weight 7 = .ok (.lconst 0, 1) := by decide +kernel
theorem d_23_8 : decode cX2_weight 8 = .ok (.goto 12, 3) := by decide +kernel
theorem d_23_11 : decode cX2_weight 11 = .ok (.aload_n 0, 1) := by decide +kernel
theorem d_23_12 : decode cX2_weight 12 = .ok (.getfield 9, 3) := by decide +kernel
theorem d_23_15 : decode cX2_weight 15 = .ok (.iload_n 1, 1) := by decide +kernel
theorem d_23_16 : decode cX2_weight 16 = .ok (.laload, 1) := by decide +kernel
theorem d_23_17 : decode cX2_weight 17 = .ok (.invokestatic 26, 3) := by decide +kernel
theorem d_23_20 : decode cX2_weight 20 = .ok (.lreturn, 1) := by decide +kernel
theorem q_23_0r : zRun 23 0 [some (.ref o), l1] S sh mi mj mr = zRun 23 1 [some (.ref o), l1] (.ref o :: S) sh mi mj mr := zr_l (zD_of zk_23 d_23_0 rfl rfl) rfl rfl rfl
theorem q_23_0n : zRun 23 0 [some (.null), l1] S sh mi mj mr = zRun 23 1 [some (.null), l1] (.null :: S) sh mi mj mr := zr_l (zD_of zk_23 d_23_0 rfl rfl) rfl rfl rfl
theorem q_23_1 (h : zIs sh o 0 2) : zRun 23 1 L (.ref o :: S) sh mi mj mr = zRun 23 4 L (.int (mi o 0) :: S) sh mi mj mr := zr_getI (zD_of zk_23 d_23_1 rfl rfl) rfl rfl (Or.inl rfl) h
theorem q_23_4  : zRun 23 4 L (.int x :: S) sh mi mj mr = if x = 0 then zRun 23 11 L S sh mi mj mr else zRun 23 7 L S sh mi mj mr := zr_if (off := 7) (P := x = 0) (zD_of zk_23 d_23_4 rfl rfl) rfl rfl (by decide)
theorem q_23_7  : zRun 23 7 L S sh mi mj mr = zRun 23 8 L (.long 0 :: S) sh mi mj mr := zr_p (zD_of zk_23 d_23_7 rfl rfl) rfl
theorem q_23_8  : zRun 23 8 L S sh mi mj mr = zRun 23 20 L S sh mi mj mr := zr_go (off := 12) (zD_of zk_23 d_23_8 rfl rfl) rfl rfl (by decide)
theorem q_23_11r : zRun 23 11 [some (.ref o), l1] S sh mi mj mr = zRun 23 12 [some (.ref o), l1] (.ref o :: S) sh mi mj mr := zr_l (zD_of zk_23 d_23_11 rfl rfl) rfl rfl rfl
theorem q_23_11n : zRun 23 11 [some (.null), l1] S sh mi mj mr = zRun 23 12 [some (.null), l1] (.null :: S) sh mi mj mr := zr_l (zD_of zk_23 d_23_11 rfl rfl) rfl rfl rfl
theorem q_23_12 (h : zIs sh o 0 2) : zRun 23 12 L (.ref o :: S) sh mi mj mr = zRun 23 15 L (va_rf (mr o 5) :: S) sh mi mj mr := zr_getR (zD_of zk_23 d_23_12 rfl rfl) rfl rfl rfl h
theorem q_23_15 : zRun 23 15 [l0, some (.int x)] S sh mi mj mr = zRun 23 16 [l0, some (.int x)] (.int x :: S) sh mi mj mr := zr_l (zD_of zk_23 d_23_15 rfl rfl) rfl rfl rfl
theorem q_23_16 (h : zAt sh o 2 x) : zRun 23 16 L (.int x :: .ref o :: S) sh mi mj mr = zRun 23 17 L (.long (mj o x.toNatClampNeg) :: S) sh mi mj mr := zr_lald (zD_of zk_23 d_23_16 rfl rfl) h
theorem q_23_17  {u0 : Int64} (hS : zcat S ≤ 8) : zRun 23 17 L (.long u0 :: S) sh mi mj mr = (zCall 111 [.long u0] sh mi mj mr).bind fun r => zRun 23 20 L (r.1.toList ++ S) r.2.1 r.2.2.1 r.2.2.2.1 r.2.2.2.2 := zr_S (zD_of zk_23 d_23_17 rfl rfl) rfl zk_111 rfl rfl rfl hS
theorem q_23_20  : zRun 23 20 L ([.long u]) sh mi mj mr = some (some (.long u), sh, mi, mj, mr) := zr_ret (zD_of zk_23 d_23_20 rfl rfl) rfl rfl rfl rfl rfl rfl
theorem e_23 {x0 : Int32} : zCall 23 [.ref o, .int x0] sh mi mj mr = zRun 23 0 [some (.ref o), some (.int x0)] [] sh mi mj mr := rfl
theorem d_24_0 : decode cX2_condense 0 = .ok (.aload_n 0, 1) := by decide +kernel
theorem d_24_1 : decode cX2_condense 1 = .ok (.dup, 1) := by decide +kernel
theorem d_24_2 : decode cX2_condense 2 = .ok (.getfield 19, 3) := by decide +kernel
theorem d_24_5 : decode cX2_condense 5 = .ok (.aload_n 0, 1) := by decide +kernel
theorem d_24_6 : decode cX2_condense 6 = .ok (.iload_n 1, 1) := by decide +kernel
theorem d_24_7 : decode cX2_condense 7 = .ok (.invokevirtual 62, 3) := by decide +kernel
theorem d_24_10 : decode cX2_condense 10 = .ok (.ladd, 1) := by decide +kernel
theorem d_24_11 : decode cX2_condense 11 = .ok (.putfield 19, 3) := by decide +kernel
theorem d_24_14 : decode cX2_condense 14 = .ok (.aload_n 0, 1) := by decide +kernel
theorem d_24_15 : decode cX2_condense 15 = .ok (.getfield 9, 3) := by decide +kernel
theorem d_24_18 : decode cX2_condense 18 = .ok (.iload_n 1, 1) := by decide +kernel
theorem d_24_19 : decode cX2_condense 19 = .ok (.lconst 0, 1) := by decide +kernel
theorem d_24_20 : decode cX2_condense 20 = .ok (.lastore, 1) := by decide +kernel
theorem d_24_21 : decode cX2_condense 21 = .ok (.return_, 1) := by decide +kernel
theorem q_24_0r : zRun 24 0 [some (.ref o), l1] S sh mi mj mr = zRun 24 1 [some (.ref o), l1] (.ref o :: S) sh mi mj mr := zr_l (zD_of zk_24 d_24_0 rfl rfl) rfl rfl rfl
theorem q_24_0n : zRun 24 0 [some (.null), l1] S sh mi mj mr = zRun 24 1 [some (.null), l1] (.null :: S) sh mi mj mr := zr_l (zD_of zk_24 d_24_0 rfl rfl) rfl rfl rfl
theorem q_24_1r : zRun 24 1 L (.ref o :: S) sh mi mj mr = zRun 24 2 L (.ref o :: .ref o :: S) sh mi mj mr := zr_p (zD_of zk_24 d_24_1 rfl rfl) rfl
theorem q_24_1i : zRun 24 1 L (.int x :: S) sh mi mj mr = zRun 24 2 L (.int x :: .int x :: S) sh mi mj mr := zr_p (zD_of zk_24 d_24_1 rfl rfl) rfl
theorem q_24_2 (h : zIs sh o 0 2) : zRun 24 2 L (.ref o :: S) sh mi mj mr = zRun 24 5 L (.long (mj o 2) :: S) sh mi mj mr := zr_getJ (zD_of zk_24 d_24_2 rfl rfl) rfl rfl rfl h
theorem q_24_5r : zRun 24 5 [some (.ref o), l1] S sh mi mj mr = zRun 24 6 [some (.ref o), l1] (.ref o :: S) sh mi mj mr := zr_l (zD_of zk_24 d_24_5 rfl rfl) rfl rfl rfl
theorem q_24_5n : zRun 24 5 [some (.null), l1] S sh mi mj mr = zRun 24 6 [some (.null), l1] (.null :: S) sh mi mj mr := zr_l (zD_of zk_24 d_24_5 rfl rfl) rfl rfl rfl
theorem q_24_6 : zRun 24 6 [l0, some (.int x)] S sh mi mj mr = zRun 24 7 [l0, some (.int x)] (.int x :: S) sh mi mj mr := zr_l (zD_of zk_24 d_24_6 rfl rfl) rfl rfl rfl
theorem q_24_7  {x0 : Int32} (hS : zcat S ≤ 8) (h : zIs sh o 0 2) : zRun 24 7 L (.int x0 :: .ref o :: S) sh mi mj mr = (zCall 23 [.ref o, .int x0] sh mi mj mr).bind fun r => zRun 24 10 L (r.1.toList ++ S) r.2.1 r.2.2.1 r.2.2.2.1 r.2.2.2.2 := zr_V (zD_of zk_24 d_24_7 rfl rfl) rfl zk_23 rfl rfl rfl hS h
theorem q_24_10  : zRun 24 10 L (.long v :: .long u :: S) sh mi mj mr = zRun 24 11 L (.long (u + v) :: S) sh mi mj mr := zr_p (zD_of zk_24 d_24_10 rfl rfl) rfl
theorem q_24_11 (h : zIs sh o 0 2) : zRun 24 11 L (.long u :: .ref o :: S) sh mi mj mr = zRun 24 14 L S sh mi (zup mj o 2 u) mr := zr_putJ (zD_of zk_24 d_24_11 rfl rfl) rfl rfl rfl (Or.inl rfl) h
theorem q_24_14r : zRun 24 14 [some (.ref o), l1] S sh mi mj mr = zRun 24 15 [some (.ref o), l1] (.ref o :: S) sh mi mj mr := zr_l (zD_of zk_24 d_24_14 rfl rfl) rfl rfl rfl
theorem q_24_14n : zRun 24 14 [some (.null), l1] S sh mi mj mr = zRun 24 15 [some (.null), l1] (.null :: S) sh mi mj mr := zr_l (zD_of zk_24 d_24_14 rfl rfl) rfl rfl rfl
theorem q_24_15 (h : zIs sh o 0 2) : zRun 24 15 L (.ref o :: S) sh mi mj mr = zRun 24 18 L (va_rf (mr o 5) :: S) sh mi mj mr := zr_getR (zD_of zk_24 d_24_15 rfl rfl) rfl rfl rfl h
theorem q_24_18 : zRun 24 18 [l0, some (.int x)] S sh mi mj mr = zRun 24 19 [l0, some (.int x)] (.int x :: S) sh mi mj mr := zr_l (zD_of zk_24 d_24_18 rfl rfl) rfl rfl rfl
theorem q_24_19  : zRun 24 19 L S sh mi mj mr = zRun 24 20 L (.long 0 :: S) sh mi mj mr := zr_p (zD_of zk_24 d_24_19 rfl rfl) rfl
theorem q_24_20 (h : zAt sh o 2 x) : zRun 24 20 L (.long u :: .int x :: .ref o :: S) sh mi mj mr = zRun 24 21 L S sh mi (zup mj o x.toNatClampNeg u) mr := zr_last (zD_of zk_24 d_24_20 rfl rfl) h
theorem q_24_21  : zRun 24 21 L [] sh mi mj mr = some (none, sh, mi, mj, mr) := zr_ret (zD_of zk_24 d_24_21 rfl rfl) rfl rfl rfl rfl rfl rfl
theorem e_24 {x0 : Int32} : zCall 24 [.ref o, .int x0] sh mi mj mr = zRun 24 0 [some (.ref o), some (.int x0)] [] sh mi mj mr := rfl
theorem d_25_0 : decode cX2_nameLoosePart 0 = .ok (.aload_n 0, 1) := by decide +kernel
theorem d_25_1 : decode cX2_nameLoosePart 1 = .ok (.getfield 9, 3) := by decide +kernel
theorem d_25_4 : decode cX2_nameLoosePart 4 = .ok (.iload_n 1, 1) := by decide +kernel
theorem d_25_5 : decode cX2_nameLoosePart 5 = .ok (.aload_n 0, 1) := by decide +kernel
theorem d_25_6 : decode cX2_nameLoosePart 6 = .ok (.getfield 19, 3) := by decide +kernel
theorem d_25_9 : decode cX2_nameLoosePart 9 = .ok (.lastore, 1) := by decide +kernel
theorem d_25_10 : decode cX2_nameLoosePart 10 = .ok (.aload_n 0, 1) := by decide +kernel
theorem d_25_11 : decode cX2_nameLoosePart 11 = .ok (.lconst 0, 1) := by decide +kernel
theorem d_25_12 : decode cX2_nameLoosePart 12 = .ok (.putfield 19, 3) := by decide +kernel
theorem d_25_15 : decode cX2_nameLoosePart 15 = .ok (.return_, 1) := by decide +kernel
theorem q_25_0r : zRun 25 0 [some (.ref o), l1] S sh mi mj mr = zRun 25 1 [some (.ref o), l1] (.ref o :: S) sh mi mj mr := zr_l (zD_of zk_25 d_25_0 rfl rfl) rfl rfl rfl
theorem q_25_0n : zRun 25 0 [some (.null), l1] S sh mi mj mr = zRun 25 1 [some (.null), l1] (.null :: S) sh mi mj mr := zr_l (zD_of zk_25 d_25_0 rfl rfl) rfl rfl rfl
theorem q_25_1 (h : zIs sh o 0 2) : zRun 25 1 L (.ref o :: S) sh mi mj mr = zRun 25 4 L (va_rf (mr o 5) :: S) sh mi mj mr := zr_getR (zD_of zk_25 d_25_1 rfl rfl) rfl rfl rfl h
theorem q_25_4 : zRun 25 4 [l0, some (.int x)] S sh mi mj mr = zRun 25 5 [l0, some (.int x)] (.int x :: S) sh mi mj mr := zr_l (zD_of zk_25 d_25_4 rfl rfl) rfl rfl rfl
theorem q_25_5r : zRun 25 5 [some (.ref o), l1] S sh mi mj mr = zRun 25 6 [some (.ref o), l1] (.ref o :: S) sh mi mj mr := zr_l (zD_of zk_25 d_25_5 rfl rfl) rfl rfl rfl
theorem q_25_5n : zRun 25 5 [some (.null), l1] S sh mi mj mr = zRun 25 6 [some (.null), l1] (.null :: S) sh mi mj mr := zr_l (zD_of zk_25 d_25_5 rfl rfl) rfl rfl rfl
theorem q_25_6 (h : zIs sh o 0 2) : zRun 25 6 L (.ref o :: S) sh mi mj mr = zRun 25 9 L (.long (mj o 2) :: S) sh mi mj mr := zr_getJ (zD_of zk_25 d_25_6 rfl rfl) rfl rfl rfl h
theorem q_25_9 (h : zAt sh o 2 x) : zRun 25 9 L (.long u :: .int x :: .ref o :: S) sh mi mj mr = zRun 25 10 L S sh mi (zup mj o x.toNatClampNeg u) mr := zr_last (zD_of zk_25 d_25_9 rfl rfl) h
theorem q_25_10r : zRun 25 10 [some (.ref o), l1] S sh mi mj mr = zRun 25 11 [some (.ref o), l1] (.ref o :: S) sh mi mj mr := zr_l (zD_of zk_25 d_25_10 rfl rfl) rfl rfl rfl
theorem q_25_10n : zRun 25 10 [some (.null), l1] S sh mi mj mr = zRun 25 11 [some (.null), l1] (.null :: S) sh mi mj mr := zr_l (zD_of zk_25 d_25_10 rfl rfl) rfl rfl rfl
theorem q_25_11  : zRun 25 11 L S sh mi mj mr = zRun 25 12 L (.long 0 :: S) sh mi mj mr := zr_p (zD_of zk_25 d_25_11 rfl rfl) rfl
theorem q_25_12 (h : zIs sh o 0 2) : zRun 25 12 L (.long u :: .ref o :: S) sh mi mj mr = zRun 25 15 L S sh mi (zup mj o 2 u) mr := zr_putJ (zD_of zk_25 d_25_12 rfl rfl) rfl rfl rfl (Or.inl rfl) h
theorem q_25_15  : zRun 25 15 L [] sh mi mj mr = some (none, sh, mi, mj, mr) := zr_ret (zD_of zk_25 d_25_15 rfl rfl) rfl rfl rfl rfl rfl rfl
theorem e_25 {x0 : Int32} : zCall 25 [.ref o, .int x0] sh mi mj mr = zRun 25 0 [some (.ref o), some (.int x0)] [] sh mi mj mr := rfl
theorem d_26_0 : decode cX2_setRange 0 = .ok (.aload_n 0, 1) := by decide +kernel
theorem d_26_1 : decode cX2_setRange 1 = .ok (.getfield 9, 3) := by decide +kernel
theorem d_26_4 : decode cX2_setRange 4 = .ok (.lconst 0, 1) := by decide +kernel
theorem d_26_5 : decode cX2_setRange 5 = .ok (.invokestatic 66, 3) := by decide +kernel
theorem d_26_8 : decode cX2_setRange 8 = .ok (.aload_n 0, 1) := by decide +kernel
theorem d_26_9 : decode cX2_setRange 9 = .ok (.lload_n 1, 1) := by decide +kernel
theorem d_26_10 : decode cX2_setRange 10 = .ok (.lload_n 3, 1) := by decide +kernel
theorem d_26_11 : decode cX2_setRange 11 = .ok (.ladd, 1) := by decide +kernel
theorem d_26_12 : decode cX2_setRange 12 = .ok (.iconst 1, 1) := by decide +kernel
theorem d_26_13 : decode cX2_setRange 13 = .ok (.lshr, 1) := by decide +kernel
theorem d_26_14 : decode cX2_setRange 14 = .ok (.putfield 32, 3) := by decide +kernel
theorem d_26_17 : decode cX2_setRange 17 = .ok (.aload_n 0, 1) := by decide +kernel
theorem d_26_18 : decode cX2_setRange 18 = .ok (.lload_n 3, 1) := by decide +kernel
theorem d_26_19 : decode cX2_setRange 19 = .ok (.aload_n 0, 1) := by decide +kernel
theorem d_26_20 : decode cX2_setRange 20 = .ok (.getfield 32, 3) := by decide +kernel
theorem d_26_23 : decode cX2_setRange 23 = .ok (.lsub, 1) := by decide +kernel
theorem d_26_24 : decode cX2_setRange 24 = .ok (.aload_n 0, 1) := by decide +kernel
theorem d_26_25 : decode cX2_setRange 25 = .ok (.getfield 32, 3) := by decide +kernel
theorem d_26_28 : decode cX2_setRange 28 = .ok (.lload_n 1, 1) := by decide +kernel
theorem d_26_29 : decode cX2_setRange 29 = .ok (.lsub, 1) := by decide +kernel
theorem d_26_30 : decode cX2_setRange 30 = .ok (.invokestatic 38, 3) := by decide +kernel
theorem d_26_33 : decode cX2_setRange 33 = .ok (.putfield 19, 3) := by decide +kernel
theorem d_26_36 : decode cX2_setRange 36 = .ok (.aload_n 0, 1) := by decide +kernel
theorem d_26_37 : decode cX2_setRange 37 = .ok (.lload_n 1, 1) := by decide +kernel
theorem d_26_38 : decode cX2_setRange 38 = .ok (.putfield 35, 3) := by decide +kernel
theorem d_26_41 : decode cX2_setRange 41 = .ok (.aload_n 0, 1) := by decide +kernel
theorem d_26_42 : decode cX2_setRange 42 = .ok (.lload_n 3, 1) := by decide +kernel
theorem d_26_43 : decode cX2_setRange 43 = .ok (.putfield 45, 3) := by decide +kernel
theorem d_26_46 : decode cX2_setRange 46 = .ok (.return_, 1) := by decide +kernel
theorem q_26_0r : zRun 26 0 [some (.ref o), l1, l2, l3, l4] S sh mi mj mr = zRun 26 1 [some (.ref o), l1, l2, l3, l4] (.ref o :: S) sh mi mj mr := zr_l (zD_of zk_26 d_26_0 rfl rfl) rfl rfl rfl
theorem q_26_0n : zRun 26 0 [some (.null), l1, l2, l3, l4] S sh mi mj mr = zRun 26 1 [some (.null), l1, l2, l3, l4] (.null :: S) sh mi mj mr := zr_l (zD_of zk_26 d_26_0 rfl rfl) rfl rfl rfl
theorem q_26_1 (h : zIs sh o 0 2) : zRun 26 1 L (.ref o :: S) sh mi mj mr = zRun 26 4 L (va_rf (mr o 5) :: S) sh mi mj mr := zr_getR (zD_of zk_26 d_26_1 rfl rfl) rfl rfl rfl h
theorem q_26_4  : zRun 26 4 L S sh mi mj mr = zRun 26 5 L (.long 0 :: S) sh mi mj mr := zr_p (zD_of zk_26 d_26_4 rfl rfl) rfl
theorem q_26_5  {u0 : Int64} {o0 : Nat} (hS : zcat S ≤ 8) : zRun 26 5 L (.long u0 :: .ref o0 :: S) sh mi mj mr = (zCall 115 [.ref o0, .long u0] sh mi mj mr).bind fun r => zRun 26 8 L (r.1.toList ++ S) r.2.1 r.2.2.1 r.2.2.2.1 r.2.2.2.2 := zr_S (zD_of zk_26 d_26_5 rfl rfl) rfl zk_115 rfl rfl rfl hS
theorem q_26_8r : zRun 26 8 [some (.ref o), l1, l2, l3, l4] S sh mi mj mr = zRun 26 9 [some (.ref o), l1, l2, l3, l4] (.ref o :: S) sh mi mj mr := zr_l (zD_of zk_26 d_26_8 rfl rfl) rfl rfl rfl
theorem q_26_8n : zRun 26 8 [some (.null), l1, l2, l3, l4] S sh mi mj mr = zRun 26 9 [some (.null), l1, l2, l3, l4] (.null :: S) sh mi mj mr := zr_l (zD_of zk_26 d_26_8 rfl rfl) rfl rfl rfl
theorem q_26_9 : zRun 26 9 [l0, some (.long u), l2, l3, l4] S sh mi mj mr = zRun 26 10 [l0, some (.long u), l2, l3, l4] (.long u :: S) sh mi mj mr := zr_l (zD_of zk_26 d_26_9 rfl rfl) rfl rfl rfl
theorem q_26_10 : zRun 26 10 [l0, l1, l2, some (.long u), l4] S sh mi mj mr = zRun 26 11 [l0, l1, l2, some (.long u), l4] (.long u :: S) sh mi mj mr := zr_l (zD_of zk_26 d_26_10 rfl rfl) rfl rfl rfl
theorem q_26_11  : zRun 26 11 L (.long v :: .long u :: S) sh mi mj mr = zRun 26 12 L (.long (u + v) :: S) sh mi mj mr := zr_p (zD_of zk_26 d_26_11 rfl rfl) rfl
theorem q_26_12  : zRun 26 12 L S sh mi mj mr = zRun 26 13 L (.int 1 :: S) sh mi mj mr := zr_p (zD_of zk_26 d_26_12 rfl rfl) rfl
theorem q_26_13  : zRun 26 13 L (.int y :: .long u :: S) sh mi mj mr = zRun 26 14 L (.long (u >>> (y.toInt64 &&& 63)) :: S) sh mi mj mr := zr_p (zD_of zk_26 d_26_13 rfl rfl) rfl
theorem q_26_14 (h : zIs sh o 0 2) : zRun 26 14 L (.long u :: .ref o :: S) sh mi mj mr = zRun 26 17 L S sh mi (zup mj o 1 u) mr := zr_putJ (zD_of zk_26 d_26_14 rfl rfl) rfl rfl rfl (Or.inl rfl) h
theorem q_26_17r : zRun 26 17 [some (.ref o), l1, l2, l3, l4] S sh mi mj mr = zRun 26 18 [some (.ref o), l1, l2, l3, l4] (.ref o :: S) sh mi mj mr := zr_l (zD_of zk_26 d_26_17 rfl rfl) rfl rfl rfl
theorem q_26_17n : zRun 26 17 [some (.null), l1, l2, l3, l4] S sh mi mj mr = zRun 26 18 [some (.null), l1, l2, l3, l4] (.null :: S) sh mi mj mr := zr_l (zD_of zk_26 d_26_17 rfl rfl) rfl rfl rfl
theorem q_26_18 : zRun 26 18 [l0, l1, l2, some (.long u), l4] S sh mi mj mr = zRun 26 19 [l0, l1, l2, some (.long u), l4] (.long u :: S) sh mi mj mr := zr_l (zD_of zk_26 d_26_18 rfl rfl) rfl rfl rfl
theorem q_26_19r : zRun 26 19 [some (.ref o), l1, l2, l3, l4] S sh mi mj mr = zRun 26 20 [some (.ref o), l1, l2, l3, l4] (.ref o :: S) sh mi mj mr := zr_l (zD_of zk_26 d_26_19 rfl rfl) rfl rfl rfl
theorem q_26_19n : zRun 26 19 [some (.null), l1, l2, l3, l4] S sh mi mj mr = zRun 26 20 [some (.null), l1, l2, l3, l4] (.null :: S) sh mi mj mr := zr_l (zD_of zk_26 d_26_19 rfl rfl) rfl rfl rfl
theorem q_26_20 (h : zIs sh o 0 2) : zRun 26 20 L (.ref o :: S) sh mi mj mr = zRun 26 23 L (.long (mj o 1) :: S) sh mi mj mr := zr_getJ (zD_of zk_26 d_26_20 rfl rfl) rfl rfl rfl h
theorem q_26_23  : zRun 26 23 L (.long v :: .long u :: S) sh mi mj mr = zRun 26 24 L (.long (u - v) :: S) sh mi mj mr := zr_p (zD_of zk_26 d_26_23 rfl rfl) rfl
theorem q_26_24r : zRun 26 24 [some (.ref o), l1, l2, l3, l4] S sh mi mj mr = zRun 26 25 [some (.ref o), l1, l2, l3, l4] (.ref o :: S) sh mi mj mr := zr_l (zD_of zk_26 d_26_24 rfl rfl) rfl rfl rfl
theorem q_26_24n : zRun 26 24 [some (.null), l1, l2, l3, l4] S sh mi mj mr = zRun 26 25 [some (.null), l1, l2, l3, l4] (.null :: S) sh mi mj mr := zr_l (zD_of zk_26 d_26_24 rfl rfl) rfl rfl rfl
theorem q_26_25 (h : zIs sh o 0 2) : zRun 26 25 L (.ref o :: S) sh mi mj mr = zRun 26 28 L (.long (mj o 1) :: S) sh mi mj mr := zr_getJ (zD_of zk_26 d_26_25 rfl rfl) rfl rfl rfl h
theorem q_26_28 : zRun 26 28 [l0, some (.long u), l2, l3, l4] S sh mi mj mr = zRun 26 29 [l0, some (.long u), l2, l3, l4] (.long u :: S) sh mi mj mr := zr_l (zD_of zk_26 d_26_28 rfl rfl) rfl rfl rfl
theorem q_26_29  : zRun 26 29 L (.long v :: .long u :: S) sh mi mj mr = zRun 26 30 L (.long (u - v) :: S) sh mi mj mr := zr_p (zD_of zk_26 d_26_29 rfl rfl) rfl
theorem q_26_30  {u0 u1 : Int64} (hS : zcat S ≤ 8) : zRun 26 30 L (.long u1 :: .long u0 :: S) sh mi mj mr = (zCall 112 [.long u0, .long u1] sh mi mj mr).bind fun r => zRun 26 33 L (r.1.toList ++ S) r.2.1 r.2.2.1 r.2.2.2.1 r.2.2.2.2 := zr_S (zD_of zk_26 d_26_30 rfl rfl) rfl zk_112 rfl rfl rfl hS
theorem q_26_33 (h : zIs sh o 0 2) : zRun 26 33 L (.long u :: .ref o :: S) sh mi mj mr = zRun 26 36 L S sh mi (zup mj o 2 u) mr := zr_putJ (zD_of zk_26 d_26_33 rfl rfl) rfl rfl rfl (Or.inl rfl) h
theorem q_26_36r : zRun 26 36 [some (.ref o), l1, l2, l3, l4] S sh mi mj mr = zRun 26 37 [some (.ref o), l1, l2, l3, l4] (.ref o :: S) sh mi mj mr := zr_l (zD_of zk_26 d_26_36 rfl rfl) rfl rfl rfl
theorem q_26_36n : zRun 26 36 [some (.null), l1, l2, l3, l4] S sh mi mj mr = zRun 26 37 [some (.null), l1, l2, l3, l4] (.null :: S) sh mi mj mr := zr_l (zD_of zk_26 d_26_36 rfl rfl) rfl rfl rfl
theorem q_26_37 : zRun 26 37 [l0, some (.long u), l2, l3, l4] S sh mi mj mr = zRun 26 38 [l0, some (.long u), l2, l3, l4] (.long u :: S) sh mi mj mr := zr_l (zD_of zk_26 d_26_37 rfl rfl) rfl rfl rfl
theorem q_26_38 (h : zIs sh o 0 2) : zRun 26 38 L (.long u :: .ref o :: S) sh mi mj mr = zRun 26 41 L S sh mi (zup mj o 3 u) mr := zr_putJ (zD_of zk_26 d_26_38 rfl rfl) rfl rfl rfl (Or.inl rfl) h
theorem q_26_41r : zRun 26 41 [some (.ref o), l1, l2, l3, l4] S sh mi mj mr = zRun 26 42 [some (.ref o), l1, l2, l3, l4] (.ref o :: S) sh mi mj mr := zr_l (zD_of zk_26 d_26_41 rfl rfl) rfl rfl rfl
theorem q_26_41n : zRun 26 41 [some (.null), l1, l2, l3, l4] S sh mi mj mr = zRun 26 42 [some (.null), l1, l2, l3, l4] (.null :: S) sh mi mj mr := zr_l (zD_of zk_26 d_26_41 rfl rfl) rfl rfl rfl
theorem q_26_42 : zRun 26 42 [l0, l1, l2, some (.long u), l4] S sh mi mj mr = zRun 26 43 [l0, l1, l2, some (.long u), l4] (.long u :: S) sh mi mj mr := zr_l (zD_of zk_26 d_26_42 rfl rfl) rfl rfl rfl
theorem q_26_43 (h : zIs sh o 0 2) : zRun 26 43 L (.long u :: .ref o :: S) sh mi mj mr = zRun 26 46 L S sh mi (zup mj o 4 u) mr := zr_putJ (zD_of zk_26 d_26_43 rfl rfl) rfl rfl rfl (Or.inl rfl) h
theorem q_26_46  : zRun 26 46 L [] sh mi mj mr = some (none, sh, mi, mj, mr) := zr_ret (zD_of zk_26 d_26_46 rfl rfl) rfl rfl rfl rfl rfl rfl
theorem e_26 {u0 u1 : Int64} : zCall 26 [.ref o, .long u0, .long u1] sh mi mj mr = zRun 26 0 [some (.ref o), some (.long u0), none, some (.long u1), none] [] sh mi mj mr := rfl
theorem d_27_0 : decode cX2_setNumber 0 = .ok (.aload_n 0, 1) := by decide +kernel
theorem d_27_1 : decode cX2_setNumber 1 = .ok (.getfield 9, 3) := by decide +kernel
theorem d_27_4 : decode cX2_setNumber 4 = .ok (.lconst 0, 1) := by decide +kernel
theorem d_27_5 : decode cX2_setNumber 5 = .ok (.invokestatic 66, 3) := by decide +kernel
theorem d_27_8 : decode cX2_setNumber 8 = .ok (.sipush 256, 3) := by decide +kernel
theorem d_27_11 : decode cX2_setNumber 11 = .ok (.iload_n 1, 1) := by decide +kernel
theorem d_27_12 : decode cX2_setNumber 12 = .ok (.imul, 1) := by decide +kernel
theorem d_27_13 : decode cX2_setNumber 13 = .ok (.istore_n 2, 1) := by decide +kernel
theorem d_27_14 : decode cX2_setNumber 14 = .ok (.aload_n 0, 1) := by decide +kernel
theorem d_27_15 : decode cX2_setNumber 15 = .ok (.iload_n 2, 1) := by decide +kernel
theorem d_27_16 : decode cX2_setNumber 16 = .ok (.bipush 100, 2) := by decide +kernel
theorem d_27_18 : decode cX2_setNumber 18 = .ok (.idiv, 1) := by decide +kernel
theorem d_27_19 : decode cX2_setNumber 19 = .ok (.i2l, 1) := by decide +kernel
theorem d_27_20 : decode cX2_setNumber 20 = .ok (.putfield 32, 3) := by decide +kernel
theorem d_27_23 : decode cX2_setNumber 23 = .ok (.aload_n 0, 1) := by decide +kernel
theorem d_27_24 : decode cX2_setNumber 24 = .ok (.iload_n 2, 1) := by decide +kernel
theorem d_27_25 : decode cX2_setNumber 25 = .ok (.bipush 100, 2) := by decide +kernel
theorem d_27_27 : decode cX2_setNumber 27 = .ok (.irem, 1) := by decide +kernel
theorem d_27_28 : decode cX2_setNumber 28 = .ok (.ifCond .ne 7, 3) := by decide +kernel
theorem d_27_31 : decode cX2_setNumber 31 = .ok (.lconst 0, 1) := by decide +kernel
theorem d_27_32 : decode cX2_setNumber 32 = .ok (.goto 4, 3) := by decide +kernel
theorem d_27_35 : decode cX2_setNumber 35 = .ok (.lconst 1, 1) := by decide +kernel
theorem d_27_36 : decode cX2_setNumber 36 = .ok (.putfield 19, 3) := by decide +kernel
theorem d_27_39 : decode cX2_setNumber 39 = .ok (.aload_n 0, 1) := by decide +kernel
theorem d_27_40 : decode cX2_setNumber 40 = .ok (.aload_n 0, 1) := by decide +kernel
theorem d_27_41 : decode cX2_setNumber 41 = .ok (.getfield 32, 3) := by decide +kernel
theorem d_27_44 : decode cX2_setNumber 44 = .ok (.putfield 35, 3) := by decide +kernel
theorem d_27_47 : decode cX2_setNumber 47 = .ok (.aload_n 0, 1) := by decide +kernel
theorem d_27_48 : decode cX2_setNumber 48 = .ok (.aload_n 0, 1) := by decide +kernel
theorem d_27_49 : decode cX2_setNumber 49 = .ok (.getfield 32, 3) := by decide +kernel
theorem d_27_52 : decode cX2_setNumber 52 = .ok (.aload_n 0, 1) := by decide +kernel
theorem d_27_53 : decode cX2_setNumber 53 = .ok (.getfield 19, 3) := by decide +kernel
theorem d_27_56 : decode cX2_setNumber 56 = .ok (.ladd, 1) := by decide +kernel
theorem d_27_57 : decode cX2_setNumber 57 = .ok (.putfield 45, 3) := by decide +kernel
theorem d_27_60 : decode cX2_setNumber 60 = .ok (.return_, 1) := by decide +kernel
theorem q_27_0r : zRun 27 0 [some (.ref o), l1, l2] S sh mi mj mr = zRun 27 1 [some (.ref o), l1, l2] (.ref o :: S) sh mi mj mr := zr_l (zD_of zk_27 d_27_0 rfl rfl) rfl rfl rfl
theorem q_27_0n : zRun 27 0 [some (.null), l1, l2] S sh mi mj mr = zRun 27 1 [some (.null), l1, l2] (.null :: S) sh mi mj mr := zr_l (zD_of zk_27 d_27_0 rfl rfl) rfl rfl rfl
theorem q_27_1 (h : zIs sh o 0 2) : zRun 27 1 L (.ref o :: S) sh mi mj mr = zRun 27 4 L (va_rf (mr o 5) :: S) sh mi mj mr := zr_getR (zD_of zk_27 d_27_1 rfl rfl) rfl rfl rfl h
theorem q_27_4  : zRun 27 4 L S sh mi mj mr = zRun 27 5 L (.long 0 :: S) sh mi mj mr := zr_p (zD_of zk_27 d_27_4 rfl rfl) rfl
theorem q_27_5  {u0 : Int64} {o0 : Nat} (hS : zcat S ≤ 8) : zRun 27 5 L (.long u0 :: .ref o0 :: S) sh mi mj mr = (zCall 115 [.ref o0, .long u0] sh mi mj mr).bind fun r => zRun 27 8 L (r.1.toList ++ S) r.2.1 r.2.2.1 r.2.2.2.1 r.2.2.2.2 := zr_S (zD_of zk_27 d_27_5 rfl rfl) rfl zk_115 rfl rfl rfl hS
theorem q_27_8  : zRun 27 8 L S sh mi mj mr = zRun 27 11 L (.int 256 :: S) sh mi mj mr := zr_p (zD_of zk_27 d_27_8 rfl rfl) rfl
theorem q_27_11 : zRun 27 11 [l0, some (.int x), l2] S sh mi mj mr = zRun 27 12 [l0, some (.int x), l2] (.int x :: S) sh mi mj mr := zr_l (zD_of zk_27 d_27_11 rfl rfl) rfl rfl rfl
theorem q_27_12  : zRun 27 12 L (.int y :: .int x :: S) sh mi mj mr = zRun 27 13 L (.int (x * y) :: S) sh mi mj mr := zr_p (zD_of zk_27 d_27_12 rfl rfl) rfl
theorem q_27_13 : zRun 27 13 [l0, l1, l2] (.int x :: S) sh mi mj mr = zRun 27 14 [l0, zk2 l1, some (.int x)] S sh mi mj mr := zr_s1 (i := 2) (v := .int x) (L := [l0, l1, l2]) (zD_of zk_27 d_27_13 rfl rfl) rfl rfl rfl rfl
theorem q_27_14r : zRun 27 14 [some (.ref o), l1, l2] S sh mi mj mr = zRun 27 15 [some (.ref o), l1, l2] (.ref o :: S) sh mi mj mr := zr_l (zD_of zk_27 d_27_14 rfl rfl) rfl rfl rfl
theorem q_27_14n : zRun 27 14 [some (.null), l1, l2] S sh mi mj mr = zRun 27 15 [some (.null), l1, l2] (.null :: S) sh mi mj mr := zr_l (zD_of zk_27 d_27_14 rfl rfl) rfl rfl rfl
theorem q_27_15 : zRun 27 15 [l0, l1, some (.int x)] S sh mi mj mr = zRun 27 16 [l0, l1, some (.int x)] (.int x :: S) sh mi mj mr := zr_l (zD_of zk_27 d_27_15 rfl rfl) rfl rfl rfl
theorem q_27_16  : zRun 27 16 L S sh mi mj mr = zRun 27 18 L (.int 100 :: S) sh mi mj mr := zr_p (zD_of zk_27 d_27_16 rfl rfl) rfl
theorem q_27_18 (h : ¬ y = 0) : zRun 27 18 L (.int y :: .int x :: S) sh mi mj mr = zRun 27 19 L (.int (x / y) :: S) sh mi mj mr := zr_p (zD_of zk_27 d_27_18 rfl rfl) (if_neg h)
theorem q_27_19  : zRun 27 19 L (.int x :: S) sh mi mj mr = zRun 27 20 L (.long x.toInt64 :: S) sh mi mj mr := zr_p (zD_of zk_27 d_27_19 rfl rfl) rfl
theorem q_27_20 (h : zIs sh o 0 2) : zRun 27 20 L (.long u :: .ref o :: S) sh mi mj mr = zRun 27 23 L S sh mi (zup mj o 1 u) mr := zr_putJ (zD_of zk_27 d_27_20 rfl rfl) rfl rfl rfl (Or.inl rfl) h
theorem q_27_23r : zRun 27 23 [some (.ref o), l1, l2] S sh mi mj mr = zRun 27 24 [some (.ref o), l1, l2] (.ref o :: S) sh mi mj mr := zr_l (zD_of zk_27 d_27_23 rfl rfl) rfl rfl rfl
theorem q_27_23n : zRun 27 23 [some (.null), l1, l2] S sh mi mj mr = zRun 27 24 [some (.null), l1, l2] (.null :: S) sh mi mj mr := zr_l (zD_of zk_27 d_27_23 rfl rfl) rfl rfl rfl
theorem q_27_24 : zRun 27 24 [l0, l1, some (.int x)] S sh mi mj mr = zRun 27 25 [l0, l1, some (.int x)] (.int x :: S) sh mi mj mr := zr_l (zD_of zk_27 d_27_24 rfl rfl) rfl rfl rfl
theorem q_27_25  : zRun 27 25 L S sh mi mj mr = zRun 27 27 L (.int 100 :: S) sh mi mj mr := zr_p (zD_of zk_27 d_27_25 rfl rfl) rfl
theorem q_27_27 (h : ¬ y = 0) : zRun 27 27 L (.int y :: .int x :: S) sh mi mj mr = zRun 27 28 L (.int (x - (x / y) * y) :: S) sh mi mj mr := zr_p (zD_of zk_27 d_27_27 rfl rfl) (if_neg h)
theorem q_27_28  : zRun 27 28 L (.int x :: S) sh mi mj mr = if ¬ x = 0 then zRun 27 35 L S sh mi mj mr else zRun 27 31 L S sh mi mj mr := zr_if (off := 7) (P := ¬ x = 0) (zD_of zk_27 d_27_28 rfl rfl) rfl rfl (by decide)
theorem q_27_31  : zRun 27 31 L S sh mi mj mr = zRun 27 32 L (.long 0 :: S) sh mi mj mr := zr_p (zD_of zk_27 d_27_31 rfl rfl) rfl
theorem q_27_32  : zRun 27 32 L S sh mi mj mr = zRun 27 36 L S sh mi mj mr := zr_go (off := 4) (zD_of zk_27 d_27_32 rfl rfl) rfl rfl (by decide)
theorem q_27_35  : zRun 27 35 L S sh mi mj mr = zRun 27 36 L (.long 1 :: S) sh mi mj mr := zr_p (zD_of zk_27 d_27_35 rfl rfl) rfl
theorem q_27_36 (h : zIs sh o 0 2) : zRun 27 36 L (.long u :: .ref o :: S) sh mi mj mr = zRun 27 39 L S sh mi (zup mj o 2 u) mr := zr_putJ (zD_of zk_27 d_27_36 rfl rfl) rfl rfl rfl (Or.inl rfl) h
theorem q_27_39r : zRun 27 39 [some (.ref o), l1, l2] S sh mi mj mr = zRun 27 40 [some (.ref o), l1, l2] (.ref o :: S) sh mi mj mr := zr_l (zD_of zk_27 d_27_39 rfl rfl) rfl rfl rfl
theorem q_27_39n : zRun 27 39 [some (.null), l1, l2] S sh mi mj mr = zRun 27 40 [some (.null), l1, l2] (.null :: S) sh mi mj mr := zr_l (zD_of zk_27 d_27_39 rfl rfl) rfl rfl rfl
theorem q_27_40r : zRun 27 40 [some (.ref o), l1, l2] S sh mi mj mr = zRun 27 41 [some (.ref o), l1, l2] (.ref o :: S) sh mi mj mr := zr_l (zD_of zk_27 d_27_40 rfl rfl) rfl rfl rfl
theorem q_27_40n : zRun 27 40 [some (.null), l1, l2] S sh mi mj mr = zRun 27 41 [some (.null), l1, l2] (.null :: S) sh mi mj mr := zr_l (zD_of zk_27 d_27_40 rfl rfl) rfl rfl rfl
theorem q_27_41 (h : zIs sh o 0 2) : zRun 27 41 L (.ref o :: S) sh mi mj mr = zRun 27 44 L (.long (mj o 1) :: S) sh mi mj mr := zr_getJ (zD_of zk_27 d_27_41 rfl rfl) rfl rfl rfl h
theorem q_27_44 (h : zIs sh o 0 2) : zRun 27 44 L (.long u :: .ref o :: S) sh mi mj mr = zRun 27 47 L S sh mi (zup mj o 3 u) mr := zr_putJ (zD_of zk_27 d_27_44 rfl rfl) rfl rfl rfl (Or.inl rfl) h
theorem q_27_47r : zRun 27 47 [some (.ref o), l1, l2] S sh mi mj mr = zRun 27 48 [some (.ref o), l1, l2] (.ref o :: S) sh mi mj mr := zr_l (zD_of zk_27 d_27_47 rfl rfl) rfl rfl rfl
theorem q_27_47n : zRun 27 47 [some (.null), l1, l2] S sh mi mj mr = zRun 27 48 [some (.null), l1, l2] (.null :: S) sh mi mj mr := zr_l (zD_of zk_27 d_27_47 rfl rfl) rfl rfl rfl
theorem q_27_48r : zRun 27 48 [some (.ref o), l1, l2] S sh mi mj mr = zRun 27 49 [some (.ref o), l1, l2] (.ref o :: S) sh mi mj mr := zr_l (zD_of zk_27 d_27_48 rfl rfl) rfl rfl rfl
theorem q_27_48n : zRun 27 48 [some (.null), l1, l2] S sh mi mj mr = zRun 27 49 [some (.null), l1, l2] (.null :: S) sh mi mj mr := zr_l (zD_of zk_27 d_27_48 rfl rfl) rfl rfl rfl
theorem q_27_49 (h : zIs sh o 0 2) : zRun 27 49 L (.ref o :: S) sh mi mj mr = zRun 27 52 L (.long (mj o 1) :: S) sh mi mj mr := zr_getJ (zD_of zk_27 d_27_49 rfl rfl) rfl rfl rfl h
theorem q_27_52r : zRun 27 52 [some (.ref o), l1, l2] S sh mi mj mr = zRun 27 53 [some (.ref o), l1, l2] (.ref o :: S) sh mi mj mr := zr_l (zD_of zk_27 d_27_52 rfl rfl) rfl rfl rfl
theorem q_27_52n : zRun 27 52 [some (.null), l1, l2] S sh mi mj mr = zRun 27 53 [some (.null), l1, l2] (.null :: S) sh mi mj mr := zr_l (zD_of zk_27 d_27_52 rfl rfl) rfl rfl rfl
theorem q_27_53 (h : zIs sh o 0 2) : zRun 27 53 L (.ref o :: S) sh mi mj mr = zRun 27 56 L (.long (mj o 2) :: S) sh mi mj mr := zr_getJ (zD_of zk_27 d_27_53 rfl rfl) rfl rfl rfl h
theorem q_27_56  : zRun 27 56 L (.long v :: .long u :: S) sh mi mj mr = zRun 27 57 L (.long (u + v) :: S) sh mi mj mr := zr_p (zD_of zk_27 d_27_56 rfl rfl) rfl
theorem q_27_57 (h : zIs sh o 0 2) : zRun 27 57 L (.long u :: .ref o :: S) sh mi mj mr = zRun 27 60 L S sh mi (zup mj o 4 u) mr := zr_putJ (zD_of zk_27 d_27_57 rfl rfl) rfl rfl rfl (Or.inl rfl) h
theorem q_27_60  : zRun 27 60 L [] sh mi mj mr = some (none, sh, mi, mj, mr) := zr_ret (zD_of zk_27 d_27_60 rfl rfl) rfl rfl rfl rfl rfl rfl
theorem e_27 {x0 : Int32} : zCall 27 [.ref o, .int x0] sh mi mj mr = zRun 27 0 [some (.ref o), some (.int x0), none] [] sh mi mj mr := rfl
theorem d_28_0 : decode cX2_setInput 0 = .ok (.aload_n 0, 1) := by decide +kernel
theorem d_28_1 : decode cX2_setInput 1 = .ok (.iload_n 2, 1) := by decide +kernel
theorem d_28_2 : decode cX2_setInput 2 = .ok (.i2l, 1) := by decide +kernel
theorem d_28_3 : decode cX2_setInput 3 = .ok (.iload_n 3, 1) := by decide +kernel
theorem d_28_4 : decode cX2_setInput 4 = .ok (.i2l, 1) := by decide +kernel
theorem d_28_5 : decode cX2_setInput 5 = .ok (.invokevirtual 72, 3) := by decide +kernel
theorem d_28_8 : decode cX2_setInput 8 = .ok (.aload_n 0, 1) := by decide +kernel
theorem d_28_9 : decode cX2_setInput 9 = .ok (.iload_n 1, 1) := by decide +kernel
theorem d_28_10 : decode cX2_setInput 10 = .ok (.invokevirtual 76, 3) := by decide +kernel
theorem d_28_13 : decode cX2_setInput 13 = .ok (.return_, 1) := by decide +kernel
theorem q_28_0r : zRun 28 0 [some (.ref o), l1, l2, l3] S sh mi mj mr = zRun 28 1 [some (.ref o), l1, l2, l3] (.ref o :: S) sh mi mj mr := zr_l (zD_of zk_28 d_28_0 rfl rfl) rfl rfl rfl
theorem q_28_0n : zRun 28 0 [some (.null), l1, l2, l3] S sh mi mj mr = zRun 28 1 [some (.null), l1, l2, l3] (.null :: S) sh mi mj mr := zr_l (zD_of zk_28 d_28_0 rfl rfl) rfl rfl rfl
theorem q_28_1 : zRun 28 1 [l0, l1, some (.int x), l3] S sh mi mj mr = zRun 28 2 [l0, l1, some (.int x), l3] (.int x :: S) sh mi mj mr := zr_l (zD_of zk_28 d_28_1 rfl rfl) rfl rfl rfl
theorem q_28_2  : zRun 28 2 L (.int x :: S) sh mi mj mr = zRun 28 3 L (.long x.toInt64 :: S) sh mi mj mr := zr_p (zD_of zk_28 d_28_2 rfl rfl) rfl
theorem q_28_3 : zRun 28 3 [l0, l1, l2, some (.int x)] S sh mi mj mr = zRun 28 4 [l0, l1, l2, some (.int x)] (.int x :: S) sh mi mj mr := zr_l (zD_of zk_28 d_28_3 rfl rfl) rfl rfl rfl
theorem q_28_4  : zRun 28 4 L (.int x :: S) sh mi mj mr = zRun 28 5 L (.long x.toInt64 :: S) sh mi mj mr := zr_p (zD_of zk_28 d_28_4 rfl rfl) rfl
theorem q_28_5  {u0 u1 : Int64} (hS : zcat S ≤ 8) (h : zIs sh o 0 2) : zRun 28 5 L (.long u1 :: .long u0 :: .ref o :: S) sh mi mj mr = (zCall 26 [.ref o, .long u0, .long u1] sh mi mj mr).bind fun r => zRun 28 8 L (r.1.toList ++ S) r.2.1 r.2.2.1 r.2.2.2.1 r.2.2.2.2 := zr_V (zD_of zk_28 d_28_5 rfl rfl) rfl zk_26 rfl rfl rfl hS h
theorem q_28_8r : zRun 28 8 [some (.ref o), l1, l2, l3] S sh mi mj mr = zRun 28 9 [some (.ref o), l1, l2, l3] (.ref o :: S) sh mi mj mr := zr_l (zD_of zk_28 d_28_8 rfl rfl) rfl rfl rfl
theorem q_28_8n : zRun 28 8 [some (.null), l1, l2, l3] S sh mi mj mr = zRun 28 9 [some (.null), l1, l2, l3] (.null :: S) sh mi mj mr := zr_l (zD_of zk_28 d_28_8 rfl rfl) rfl rfl rfl
theorem q_28_9 : zRun 28 9 [l0, some (.int x), l2, l3] S sh mi mj mr = zRun 28 10 [l0, some (.int x), l2, l3] (.int x :: S) sh mi mj mr := zr_l (zD_of zk_28 d_28_9 rfl rfl) rfl rfl rfl
theorem q_28_10  {x0 : Int32} (hS : zcat S ≤ 8) (h : zIs sh o 0 2) : zRun 28 10 L (.int x0 :: .ref o :: S) sh mi mj mr = (zCall 25 [.ref o, .int x0] sh mi mj mr).bind fun r => zRun 28 13 L (r.1.toList ++ S) r.2.1 r.2.2.1 r.2.2.2.1 r.2.2.2.2 := zr_V (zD_of zk_28 d_28_10 rfl rfl) rfl zk_25 rfl rfl rfl hS h
theorem q_28_13  : zRun 28 13 L [] sh mi mj mr = some (none, sh, mi, mj, mr) := zr_ret (zD_of zk_28 d_28_13 rfl rfl) rfl rfl rfl rfl rfl rfl
theorem e_28 {x0 x1 x2 : Int32} : zCall 28 [.ref o, .int x0, .int x1, .int x2] sh mi mj mr = zRun 28 0 [some (.ref o), some (.int x0), some (.int x1), some (.int x2)] [] sh mi mj mr := rfl
theorem d_29_0 : decode cX2_copyFrom 0 = .ok (.aload_n 0, 1) := by decide +kernel
theorem d_29_1 : decode cX2_copyFrom 1 = .ok (.aload_n 1, 1) := by decide +kernel
theorem d_29_2 : decode cX2_copyFrom 2 = .ok (.getfield 15, 3) := by decide +kernel
theorem d_29_5 : decode cX2_copyFrom 5 = .ok (.putfield 15, 3) := by decide +kernel
theorem d_29_8 : decode cX2_copyFrom 8 = .ok (.aload_n 0, 1) := by decide +kernel
theorem d_29_9 : decode cX2_copyFrom 9 = .ok (.aload_n 1, 1) := by decide +kernel
theorem d_29_10 : decode cX2_copyFrom 10 = .ok (.getfield 32, 3) := by decide +kernel
theorem d_29_13 : decode cX2_copyFrom 13 = .ok (.putfield 32, 3) := by decide +kernel
theorem d_29_16 : decode cX2_copyFrom 16 = .ok (.aload_n 0, 1) := by decide +kernel
theorem d_29_17 : decode cX2_copyFrom 17 = .ok (.aload_n 1, 1) := by decide +kernel
theorem d_29_18 : decode cX2_copyFrom 18 = .ok (.getfield 19, 3) := by decide +kernel
theorem d_29_21 : decode cX2_copyFrom 21 = .ok (.putfield 19, 3) := by decide +kernel
theorem d_29_24 : decode cX2_copyFrom 24 = .ok (.aload_n 0, 1) := by decide +kernel
theorem d_29_25 : decode cX2_copyFrom 25 = .ok (.aload_n 1, 1) := by decide +kernel
theorem d_29_26 : decode cX2_copyFrom 26 = .ok (.getfield 35, 3) := by decide +kernel
theorem d_29_29 : decode cX2_copyFrom 29 = .ok (.putfield 35, 3) := by decide +kernel
theorem d_29_32 : decode cX2_copyFrom 32 = .ok (.aload_n 0, 1) := by decide +kernel
theorem d_29_33 : decode cX2_copyFrom 33 = .ok (.aload_n 1, 1) := by decide +kernel
theorem d_29_34 : decode cX2_copyFrom 34 = .ok (.getfield 45, 3) := by decide +kernel
theorem d_29_37 : decode cX2_copyFrom 37 = .ok (.putfield 45, 3) := by decide +kernel
theorem d_29_40 : decode cX2_copyFrom 40 = .ok (.aload_n 1, 1) := by decide +kernel
theorem d_29_41 : decode cX2_copyFrom 41 = .ok (.getfield 9, 3) := by decide +kernel
theorem d_29_44 : decode cX2_copyFrom 44 = .ok (.iconst 0, 1) := by decide +kernel
theorem d_29_45 : decode cX2_copyFrom 45 = .ok (.aload_n 0, 1) := by decide +kernel
theorem d_29_46 : decode cX2_copyFrom 46 = .ok (.getfield 9, 3) := by decide +kernel
theorem d_29_49 : decode cX2_copyFrom 49 = .ok (.iconst 0, 1) := by decide +kernel
theorem d_29_50 : decode cX2_copyFrom 50 = .ok (.bipush 12, 2) := by decide +kernel
theorem d_29_52 : decode cX2_copyFrom 52 = .ok (.invokestatic 79, 3) := by decide +kernel
theorem d_29_55 : decode cX2_copyFrom 55 = .ok (.return_, 1) := by decide +kernel
theorem q_29_0r : zRun 29 0 [some (.ref o), l1] S sh mi mj mr = zRun 29 1 [some (.ref o), l1] (.ref o :: S) sh mi mj mr := zr_l (zD_of zk_29 d_29_0 rfl rfl) rfl rfl rfl
theorem q_29_0n : zRun 29 0 [some (.null), l1] S sh mi mj mr = zRun 29 1 [some (.null), l1] (.null :: S) sh mi mj mr := zr_l (zD_of zk_29 d_29_0 rfl rfl) rfl rfl rfl
theorem q_29_1r : zRun 29 1 [l0, some (.ref o)] S sh mi mj mr = zRun 29 2 [l0, some (.ref o)] (.ref o :: S) sh mi mj mr := zr_l (zD_of zk_29 d_29_1 rfl rfl) rfl rfl rfl
theorem q_29_1n : zRun 29 1 [l0, some (.null)] S sh mi mj mr = zRun 29 2 [l0, some (.null)] (.null :: S) sh mi mj mr := zr_l (zD_of zk_29 d_29_1 rfl rfl) rfl rfl rfl
theorem q_29_2 (h : zIs sh o 0 2) : zRun 29 2 L (.ref o :: S) sh mi mj mr = zRun 29 5 L (.int (mi o 0) :: S) sh mi mj mr := zr_getI (zD_of zk_29 d_29_2 rfl rfl) rfl rfl (Or.inl rfl) h
theorem q_29_5 (h : zIs sh o 0 2) : zRun 29 5 L (.int x :: .ref o :: S) sh mi mj mr = zRun 29 8 L S sh (zup mi o 0 x) mj mr := zr_putI (zD_of zk_29 d_29_5 rfl rfl) rfl rfl rfl (Or.inl rfl) h
theorem q_29_8r : zRun 29 8 [some (.ref o), l1] S sh mi mj mr = zRun 29 9 [some (.ref o), l1] (.ref o :: S) sh mi mj mr := zr_l (zD_of zk_29 d_29_8 rfl rfl) rfl rfl rfl
theorem q_29_8n : zRun 29 8 [some (.null), l1] S sh mi mj mr = zRun 29 9 [some (.null), l1] (.null :: S) sh mi mj mr := zr_l (zD_of zk_29 d_29_8 rfl rfl) rfl rfl rfl
theorem q_29_9r : zRun 29 9 [l0, some (.ref o)] S sh mi mj mr = zRun 29 10 [l0, some (.ref o)] (.ref o :: S) sh mi mj mr := zr_l (zD_of zk_29 d_29_9 rfl rfl) rfl rfl rfl
theorem q_29_9n : zRun 29 9 [l0, some (.null)] S sh mi mj mr = zRun 29 10 [l0, some (.null)] (.null :: S) sh mi mj mr := zr_l (zD_of zk_29 d_29_9 rfl rfl) rfl rfl rfl
theorem q_29_10 (h : zIs sh o 0 2) : zRun 29 10 L (.ref o :: S) sh mi mj mr = zRun 29 13 L (.long (mj o 1) :: S) sh mi mj mr := zr_getJ (zD_of zk_29 d_29_10 rfl rfl) rfl rfl rfl h
theorem q_29_13 (h : zIs sh o 0 2) : zRun 29 13 L (.long u :: .ref o :: S) sh mi mj mr = zRun 29 16 L S sh mi (zup mj o 1 u) mr := zr_putJ (zD_of zk_29 d_29_13 rfl rfl) rfl rfl rfl (Or.inl rfl) h
theorem q_29_16r : zRun 29 16 [some (.ref o), l1] S sh mi mj mr = zRun 29 17 [some (.ref o), l1] (.ref o :: S) sh mi mj mr := zr_l (zD_of zk_29 d_29_16 rfl rfl) rfl rfl rfl
theorem q_29_16n : zRun 29 16 [some (.null), l1] S sh mi mj mr = zRun 29 17 [some (.null), l1] (.null :: S) sh mi mj mr := zr_l (zD_of zk_29 d_29_16 rfl rfl) rfl rfl rfl
theorem q_29_17r : zRun 29 17 [l0, some (.ref o)] S sh mi mj mr = zRun 29 18 [l0, some (.ref o)] (.ref o :: S) sh mi mj mr := zr_l (zD_of zk_29 d_29_17 rfl rfl) rfl rfl rfl
theorem q_29_17n : zRun 29 17 [l0, some (.null)] S sh mi mj mr = zRun 29 18 [l0, some (.null)] (.null :: S) sh mi mj mr := zr_l (zD_of zk_29 d_29_17 rfl rfl) rfl rfl rfl
theorem q_29_18 (h : zIs sh o 0 2) : zRun 29 18 L (.ref o :: S) sh mi mj mr = zRun 29 21 L (.long (mj o 2) :: S) sh mi mj mr := zr_getJ (zD_of zk_29 d_29_18 rfl rfl) rfl rfl rfl h
theorem q_29_21 (h : zIs sh o 0 2) : zRun 29 21 L (.long u :: .ref o :: S) sh mi mj mr = zRun 29 24 L S sh mi (zup mj o 2 u) mr := zr_putJ (zD_of zk_29 d_29_21 rfl rfl) rfl rfl rfl (Or.inl rfl) h
theorem q_29_24r : zRun 29 24 [some (.ref o), l1] S sh mi mj mr = zRun 29 25 [some (.ref o), l1] (.ref o :: S) sh mi mj mr := zr_l (zD_of zk_29 d_29_24 rfl rfl) rfl rfl rfl
theorem q_29_24n : zRun 29 24 [some (.null), l1] S sh mi mj mr = zRun 29 25 [some (.null), l1] (.null :: S) sh mi mj mr := zr_l (zD_of zk_29 d_29_24 rfl rfl) rfl rfl rfl
theorem q_29_25r : zRun 29 25 [l0, some (.ref o)] S sh mi mj mr = zRun 29 26 [l0, some (.ref o)] (.ref o :: S) sh mi mj mr := zr_l (zD_of zk_29 d_29_25 rfl rfl) rfl rfl rfl
theorem q_29_25n : zRun 29 25 [l0, some (.null)] S sh mi mj mr = zRun 29 26 [l0, some (.null)] (.null :: S) sh mi mj mr := zr_l (zD_of zk_29 d_29_25 rfl rfl) rfl rfl rfl
theorem q_29_26 (h : zIs sh o 0 2) : zRun 29 26 L (.ref o :: S) sh mi mj mr = zRun 29 29 L (.long (mj o 3) :: S) sh mi mj mr := zr_getJ (zD_of zk_29 d_29_26 rfl rfl) rfl rfl rfl h
theorem q_29_29 (h : zIs sh o 0 2) : zRun 29 29 L (.long u :: .ref o :: S) sh mi mj mr = zRun 29 32 L S sh mi (zup mj o 3 u) mr := zr_putJ (zD_of zk_29 d_29_29 rfl rfl) rfl rfl rfl (Or.inl rfl) h
theorem q_29_32r : zRun 29 32 [some (.ref o), l1] S sh mi mj mr = zRun 29 33 [some (.ref o), l1] (.ref o :: S) sh mi mj mr := zr_l (zD_of zk_29 d_29_32 rfl rfl) rfl rfl rfl
theorem q_29_32n : zRun 29 32 [some (.null), l1] S sh mi mj mr = zRun 29 33 [some (.null), l1] (.null :: S) sh mi mj mr := zr_l (zD_of zk_29 d_29_32 rfl rfl) rfl rfl rfl
theorem q_29_33r : zRun 29 33 [l0, some (.ref o)] S sh mi mj mr = zRun 29 34 [l0, some (.ref o)] (.ref o :: S) sh mi mj mr := zr_l (zD_of zk_29 d_29_33 rfl rfl) rfl rfl rfl
theorem q_29_33n : zRun 29 33 [l0, some (.null)] S sh mi mj mr = zRun 29 34 [l0, some (.null)] (.null :: S) sh mi mj mr := zr_l (zD_of zk_29 d_29_33 rfl rfl) rfl rfl rfl
theorem q_29_34 (h : zIs sh o 0 2) : zRun 29 34 L (.ref o :: S) sh mi mj mr = zRun 29 37 L (.long (mj o 4) :: S) sh mi mj mr := zr_getJ (zD_of zk_29 d_29_34 rfl rfl) rfl rfl rfl h
theorem q_29_37 (h : zIs sh o 0 2) : zRun 29 37 L (.long u :: .ref o :: S) sh mi mj mr = zRun 29 40 L S sh mi (zup mj o 4 u) mr := zr_putJ (zD_of zk_29 d_29_37 rfl rfl) rfl rfl rfl (Or.inl rfl) h
theorem q_29_40r : zRun 29 40 [l0, some (.ref o)] S sh mi mj mr = zRun 29 41 [l0, some (.ref o)] (.ref o :: S) sh mi mj mr := zr_l (zD_of zk_29 d_29_40 rfl rfl) rfl rfl rfl
theorem q_29_40n : zRun 29 40 [l0, some (.null)] S sh mi mj mr = zRun 29 41 [l0, some (.null)] (.null :: S) sh mi mj mr := zr_l (zD_of zk_29 d_29_40 rfl rfl) rfl rfl rfl
theorem q_29_41 (h : zIs sh o 0 2) : zRun 29 41 L (.ref o :: S) sh mi mj mr = zRun 29 44 L (va_rf (mr o 5) :: S) sh mi mj mr := zr_getR (zD_of zk_29 d_29_41 rfl rfl) rfl rfl rfl h
theorem q_29_44  : zRun 29 44 L S sh mi mj mr = zRun 29 45 L (.int 0 :: S) sh mi mj mr := zr_p (zD_of zk_29 d_29_44 rfl rfl) rfl
theorem q_29_45r : zRun 29 45 [some (.ref o), l1] S sh mi mj mr = zRun 29 46 [some (.ref o), l1] (.ref o :: S) sh mi mj mr := zr_l (zD_of zk_29 d_29_45 rfl rfl) rfl rfl rfl
theorem q_29_45n : zRun 29 45 [some (.null), l1] S sh mi mj mr = zRun 29 46 [some (.null), l1] (.null :: S) sh mi mj mr := zr_l (zD_of zk_29 d_29_45 rfl rfl) rfl rfl rfl
theorem q_29_46 (h : zIs sh o 0 2) : zRun 29 46 L (.ref o :: S) sh mi mj mr = zRun 29 49 L (va_rf (mr o 5) :: S) sh mi mj mr := zr_getR (zD_of zk_29 d_29_46 rfl rfl) rfl rfl rfl h
theorem q_29_49  : zRun 29 49 L S sh mi mj mr = zRun 29 50 L (.int 0 :: S) sh mi mj mr := zr_p (zD_of zk_29 d_29_49 rfl rfl) rfl
theorem q_29_50  : zRun 29 50 L S sh mi mj mr = zRun 29 52 L (.int 12 :: S) sh mi mj mr := zr_p (zD_of zk_29 d_29_50 rfl rfl) rfl
theorem q_29_52i {n0 n1 : Nat} (hS : zcat S ≤ 8) (h0 : zIs sh o2 1 n0) (h1 : zIs sh o 1 n1) (hq : 0 ≤ x ∧ 0 ≤ y ∧ 0 ≤ z ∧ x.toNatClampNeg + z.toNatClampNeg ≤ n0 ∧ y.toNatClampNeg + z.toNatClampNeg ≤ n1) : zRun 29 52 L (.int z :: .int y :: .ref o :: .int x :: .ref o2 :: S) sh mi mj mr = zRun 29 55 L S sh (zrw mi o (va_cpy (mi o2) (mi o) x.toNatClampNeg y.toNatClampNeg z.toNatClampNeg)) mj mr := zr_acpI (zD_of zk_29 d_29_52 rfl rfl) rfl hS h0 h1 hq
theorem q_29_52j {n0 n1 : Nat} (hS : zcat S ≤ 8) (h0 : zIs sh o2 2 n0) (h1 : zIs sh o 2 n1) (hq : 0 ≤ x ∧ 0 ≤ y ∧ 0 ≤ z ∧ x.toNatClampNeg + z.toNatClampNeg ≤ n0 ∧ y.toNatClampNeg + z.toNatClampNeg ≤ n1) : zRun 29 52 L (.int z :: .int y :: .ref o :: .int x :: .ref o2 :: S) sh mi mj mr = zRun 29 55 L S sh mi (zrw mj o (va_cpy (mj o2) (mj o) x.toNatClampNeg y.toNatClampNeg z.toNatClampNeg)) mr := zr_acpJ (zD_of zk_29 d_29_52 rfl rfl) rfl hS h0 h1 hq
theorem q_29_55  : zRun 29 55 L [] sh mi mj mr = some (none, sh, mi, mj, mr) := zr_ret (zD_of zk_29 d_29_55 rfl rfl) rfl rfl rfl rfl rfl rfl
theorem e_29 {o0 : Nat} : zCall 29 [.ref o, .ref o0] sh mi mj mr = zRun 29 0 [some (.ref o), some (.ref o0)] [] sh mi mj mr := rfl
theorem d_30_0 : decode cX2_add 0 = .ok (.aload_n 0, 1) := by decide +kernel
theorem d_30_1 : decode cX2_add 1 = .ok (.aload_n 1, 1) := by decide +kernel
theorem d_30_2 : decode cX2_add 2 = .ok (.getfield 32, 3) := by decide +kernel
theorem d_30_5 : decode cX2_add 5 = .ok (.aload_n 2, 1) := by decide +kernel
theorem d_30_6 : decode cX2_add 6 = .ok (.getfield 32, 3) := by decide +kernel
theorem d_30_9 : decode cX2_add 9 = .ok (.ladd, 1) := by decide +kernel
theorem d_30_10 : decode cX2_add 10 = .ok (.putfield 32, 3) := by decide +kernel
theorem d_30_13 : decode cX2_add 13 = .ok (.iconst 0, 1) := by decide +kernel
theorem d_30_14 : decode cX2_add 14 = .ok (.istore_n 3, 1) := by decide +kernel
theorem d_30_15 : decode cX2_add 15 = .ok (.iload_n 3, 1) := by decide +kernel
theorem d_30_16 : decode cX2_add 16 = .ok (.bipush 12, 2) := by decide +kernel
theorem d_30_18 : decode cX2_add 18 = .ok (.if_icmp .ge 28, 3) := by decide +kernel
theorem d_30_21 : decode cX2_add 21 = .ok (.aload_n 0, 1) := by decide +kernel
theorem d_30_22 : decode cX2_add 22 = .ok (.getfield 9, 3) := by decide +kernel
theorem d_30_25 : decode cX2_add 25 = .ok (.iload_n 3, 1) := by decide +kernel
theorem d_30_26 : decode cX2_add 26 = .ok (.aload_n 1, 1) := by decide +kernel
theorem d_30_27 : decode cX2_add 27 = .ok (.getfield 9, 3) := by decide +kernel
theorem d_30_30 : decode cX2_add 30 = .ok (.iload_n 3, 1) := by decide +kernel
theorem d_30_31 : decode cX2_add 31 = .ok (.laload, 1) := by decide +kernel
theorem d_30_32 : decode cX2_add 32 = .ok (.aload_n 2, 1) := by decide +kernel
theorem d_30_33 : decode cX2_add 33 = .ok (.getfield 9, 3) := by decide +kernel
theorem d_30_36 : decode cX2_add 36 = .ok (.iload_n 3, 1) := by decide +kernel
theorem d_30_37 : decode cX2_add 37 = .ok (.laload, 1) := by decide +kernel
theorem d_30_38 : decode cX2_add 38 = .ok (.ladd, 1) := by decide +kernel
theorem d_30_39 : decode cX2_add 39 = .ok (.lastore, 1) := by decide +kernel
theorem d_30_40 : decode cX2_add 40 = .ok (.iinc 3 1, 3) := by decide +kernel
theorem d_30_43 : decode cX2_add 43 = .ok (.goto (-28), 3) := by decide +kernel
theorem d_30_46 : decode cX2_add 46 = .ok (.aload_n 0, 1) := by decide +kernel
theorem d_30_47 : decode cX2_add 47 = .ok (.aload_n 1, 1) := by decide +kernel
theorem d_30_48 : decode cX2_add 48 = .ok (.getfield 19, 3) := by decide +kernel
theorem d_30_51 : decode cX2_add 51 = .ok (.aload_n 2, 1) := by decide +kernel
theorem d_30_52 : decode cX2_add 52 = .ok (.getfield 19, 3) := by decide +kernel
theorem d_30_55 : decode cX2_add 55 = .ok (.ladd, 1) := by decide +kernel
theorem d_30_56 : decode cX2_add 56 = .ok (.putfield 19, 3) := by decide +kernel
theorem d_30_59 : decode cX2_add 59 = .ok (.aload_n 0, 1) := by decide +kernel
theorem d_30_60 : decode cX2_add 60 = .ok (.aload_n 1, 1) := by decide +kernel
theorem d_30_61 : decode cX2_add 61 = .ok (.getfield 35, 3) := by decide +kernel
theorem d_30_64 : decode cX2_add 64 = .ok (.aload_n 2, 1) := by decide +kernel
theorem d_30_65 : decode cX2_add 65 = .ok (.getfield 35, 3) := by decide +kernel
theorem d_30_68 : decode cX2_add 68 = .ok (.ladd, 1) := by decide +kernel
theorem d_30_69 : decode cX2_add 69 = .ok (.putfield 35, 3) := by decide +kernel
theorem d_30_72 : decode cX2_add 72 = .ok (.aload_n 0, 1) := by decide +kernel
theorem d_30_73 : decode cX2_add 73 = .ok (.aload_n 1, 1) := by decide +kernel
theorem d_30_74 : decode cX2_add 74 = .ok (.getfield 45, 3) := by decide +kernel
theorem d_30_77 : decode cX2_add 77 = .ok (.aload_n 2, 1) := by decide +kernel
theorem d_30_78 : decode cX2_add 78 = .ok (.getfield 45, 3) := by decide +kernel
theorem d_30_81 : decode cX2_add 81 = .ok (.ladd, 1) := by decide +kernel
theorem d_30_82 : decode cX2_add 82 = .ok (.putfield 45, 3) := by decide +kernel
theorem d_30_85 : decode cX2_add 85 = .ok (.return_, 1) := by decide +kernel
theorem q_30_0r : zRun 30 0 [some (.ref o), l1, l2, l3] S sh mi mj mr = zRun 30 1 [some (.ref o), l1, l2, l3] (.ref o :: S) sh mi mj mr := zr_l (zD_of zk_30 d_30_0 rfl rfl) rfl rfl rfl
theorem q_30_0n : zRun 30 0 [some (.null), l1, l2, l3] S sh mi mj mr = zRun 30 1 [some (.null), l1, l2, l3] (.null :: S) sh mi mj mr := zr_l (zD_of zk_30 d_30_0 rfl rfl) rfl rfl rfl
theorem q_30_1r : zRun 30 1 [l0, some (.ref o), l2, l3] S sh mi mj mr = zRun 30 2 [l0, some (.ref o), l2, l3] (.ref o :: S) sh mi mj mr := zr_l (zD_of zk_30 d_30_1 rfl rfl) rfl rfl rfl
theorem q_30_1n : zRun 30 1 [l0, some (.null), l2, l3] S sh mi mj mr = zRun 30 2 [l0, some (.null), l2, l3] (.null :: S) sh mi mj mr := zr_l (zD_of zk_30 d_30_1 rfl rfl) rfl rfl rfl
theorem q_30_2 (h : zIs sh o 0 2) : zRun 30 2 L (.ref o :: S) sh mi mj mr = zRun 30 5 L (.long (mj o 1) :: S) sh mi mj mr := zr_getJ (zD_of zk_30 d_30_2 rfl rfl) rfl rfl rfl h
theorem q_30_5r : zRun 30 5 [l0, l1, some (.ref o), l3] S sh mi mj mr = zRun 30 6 [l0, l1, some (.ref o), l3] (.ref o :: S) sh mi mj mr := zr_l (zD_of zk_30 d_30_5 rfl rfl) rfl rfl rfl
theorem q_30_5n : zRun 30 5 [l0, l1, some (.null), l3] S sh mi mj mr = zRun 30 6 [l0, l1, some (.null), l3] (.null :: S) sh mi mj mr := zr_l (zD_of zk_30 d_30_5 rfl rfl) rfl rfl rfl
theorem q_30_6 (h : zIs sh o 0 2) : zRun 30 6 L (.ref o :: S) sh mi mj mr = zRun 30 9 L (.long (mj o 1) :: S) sh mi mj mr := zr_getJ (zD_of zk_30 d_30_6 rfl rfl) rfl rfl rfl h
theorem q_30_9  : zRun 30 9 L (.long v :: .long u :: S) sh mi mj mr = zRun 30 10 L (.long (u + v) :: S) sh mi mj mr := zr_p (zD_of zk_30 d_30_9 rfl rfl) rfl
theorem q_30_10 (h : zIs sh o 0 2) : zRun 30 10 L (.long u :: .ref o :: S) sh mi mj mr = zRun 30 13 L S sh mi (zup mj o 1 u) mr := zr_putJ (zD_of zk_30 d_30_10 rfl rfl) rfl rfl rfl (Or.inl rfl) h
theorem q_30_13  : zRun 30 13 L S sh mi mj mr = zRun 30 14 L (.int 0 :: S) sh mi mj mr := zr_p (zD_of zk_30 d_30_13 rfl rfl) rfl
theorem q_30_14 : zRun 30 14 [l0, l1, l2, l3] (.int x :: S) sh mi mj mr = zRun 30 15 [l0, l1, zk2 l2, some (.int x)] S sh mi mj mr := zr_s1 (i := 3) (v := .int x) (L := [l0, l1, l2, l3]) (zD_of zk_30 d_30_14 rfl rfl) rfl rfl rfl rfl
theorem q_30_15 : zRun 30 15 [l0, l1, l2, some (.int x)] S sh mi mj mr = zRun 30 16 [l0, l1, l2, some (.int x)] (.int x :: S) sh mi mj mr := zr_l (zD_of zk_30 d_30_15 rfl rfl) rfl rfl rfl
theorem q_30_16  : zRun 30 16 L S sh mi mj mr = zRun 30 18 L (.int 12 :: S) sh mi mj mr := zr_p (zD_of zk_30 d_30_16 rfl rfl) rfl
theorem q_30_18  : zRun 30 18 L (.int y :: .int x :: S) sh mi mj mr = if y ≤ x then zRun 30 46 L S sh mi mj mr else zRun 30 21 L S sh mi mj mr := zr_if (off := 28) (P := y ≤ x) (zD_of zk_30 d_30_18 rfl rfl) rfl rfl (by decide)
theorem q_30_21r : zRun 30 21 [some (.ref o), l1, l2, l3] S sh mi mj mr = zRun 30 22 [some (.ref o), l1, l2, l3] (.ref o :: S) sh mi mj mr := zr_l (zD_of zk_30 d_30_21 rfl rfl) rfl rfl rfl
theorem q_30_21n : zRun 30 21 [some (.null), l1, l2, l3] S sh mi mj mr = zRun 30 22 [some (.null), l1, l2, l3] (.null :: S) sh mi mj mr := zr_l (zD_of zk_30 d_30_21 rfl rfl) rfl rfl rfl
theorem q_30_22 (h : zIs sh o 0 2) : zRun 30 22 L (.ref o :: S) sh mi mj mr = zRun 30 25 L (va_rf (mr o 5) :: S) sh mi mj mr := zr_getR (zD_of zk_30 d_30_22 rfl rfl) rfl rfl rfl h
theorem q_30_25 : zRun 30 25 [l0, l1, l2, some (.int x)] S sh mi mj mr = zRun 30 26 [l0, l1, l2, some (.int x)] (.int x :: S) sh mi mj mr := zr_l (zD_of zk_30 d_30_25 rfl rfl) rfl rfl rfl
theorem q_30_26r : zRun 30 26 [l0, some (.ref o), l2, l3] S sh mi mj mr = zRun 30 27 [l0, some (.ref o), l2, l3] (.ref o :: S) sh mi mj mr := zr_l (zD_of zk_30 d_30_26 rfl rfl) rfl rfl rfl
theorem q_30_26n : zRun 30 26 [l0, some (.null), l2, l3] S sh mi mj mr = zRun 30 27 [l0, some (.null), l2, l3] (.null :: S) sh mi mj mr := zr_l (zD_of zk_30 d_30_26 rfl rfl) rfl rfl rfl
theorem q_30_27 (h : zIs sh o 0 2) : zRun 30 27 L (.ref o :: S) sh mi mj mr = zRun 30 30 L (va_rf (mr o 5) :: S) sh mi mj mr := zr_getR (zD_of zk_30 d_30_27 rfl rfl) rfl rfl rfl h
theorem q_30_30 : zRun 30 30 [l0, l1, l2, some (.int x)] S sh mi mj mr = zRun 30 31 [l0, l1, l2, some (.int x)] (.int x :: S) sh mi mj mr := zr_l (zD_of zk_30 d_30_30 rfl rfl) rfl rfl rfl
theorem q_30_31 (h : zAt sh o 2 x) : zRun 30 31 L (.int x :: .ref o :: S) sh mi mj mr = zRun 30 32 L (.long (mj o x.toNatClampNeg) :: S) sh mi mj mr := zr_lald (zD_of zk_30 d_30_31 rfl rfl) h
theorem q_30_32r : zRun 30 32 [l0, l1, some (.ref o), l3] S sh mi mj mr = zRun 30 33 [l0, l1, some (.ref o), l3] (.ref o :: S) sh mi mj mr := zr_l (zD_of zk_30 d_30_32 rfl rfl) rfl rfl rfl
theorem q_30_32n : zRun 30 32 [l0, l1, some (.null), l3] S sh mi mj mr = zRun 30 33 [l0, l1, some (.null), l3] (.null :: S) sh mi mj mr := zr_l (zD_of zk_30 d_30_32 rfl rfl) rfl rfl rfl
theorem q_30_33 (h : zIs sh o 0 2) : zRun 30 33 L (.ref o :: S) sh mi mj mr = zRun 30 36 L (va_rf (mr o 5) :: S) sh mi mj mr := zr_getR (zD_of zk_30 d_30_33 rfl rfl) rfl rfl rfl h
theorem q_30_36 : zRun 30 36 [l0, l1, l2, some (.int x)] S sh mi mj mr = zRun 30 37 [l0, l1, l2, some (.int x)] (.int x :: S) sh mi mj mr := zr_l (zD_of zk_30 d_30_36 rfl rfl) rfl rfl rfl
theorem q_30_37 (h : zAt sh o 2 x) : zRun 30 37 L (.int x :: .ref o :: S) sh mi mj mr = zRun 30 38 L (.long (mj o x.toNatClampNeg) :: S) sh mi mj mr := zr_lald (zD_of zk_30 d_30_37 rfl rfl) h
theorem q_30_38  : zRun 30 38 L (.long v :: .long u :: S) sh mi mj mr = zRun 30 39 L (.long (u + v) :: S) sh mi mj mr := zr_p (zD_of zk_30 d_30_38 rfl rfl) rfl
theorem q_30_39 (h : zAt sh o 2 x) : zRun 30 39 L (.long u :: .int x :: .ref o :: S) sh mi mj mr = zRun 30 40 L S sh mi (zup mj o x.toNatClampNeg u) mr := zr_last (zD_of zk_30 d_30_39 rfl rfl) h
theorem q_30_40  : zRun 30 40 [l0, l1, l2, some (.int x)] S sh mi mj mr = zRun 30 43 [l0, l1, zk2 l2, some (.int (x + 1))] S sh mi mj mr := zr_s1 (i := 3) (v := .int (x + 1)) (L := [l0, l1, l2, some (.int x)]) (zD_of zk_30 d_30_40 rfl rfl) rfl rfl rfl rfl
theorem q_30_43  : zRun 30 43 L S sh mi mj mr = zRun 30 15 L S sh mi mj mr := zr_go (off := (-28)) (zD_of zk_30 d_30_43 rfl rfl) rfl rfl (by decide)
theorem q_30_46r : zRun 30 46 [some (.ref o), l1, l2, l3] S sh mi mj mr = zRun 30 47 [some (.ref o), l1, l2, l3] (.ref o :: S) sh mi mj mr := zr_l (zD_of zk_30 d_30_46 rfl rfl) rfl rfl rfl
theorem q_30_46n : zRun 30 46 [some (.null), l1, l2, l3] S sh mi mj mr = zRun 30 47 [some (.null), l1, l2, l3] (.null :: S) sh mi mj mr := zr_l (zD_of zk_30 d_30_46 rfl rfl) rfl rfl rfl
theorem q_30_47r : zRun 30 47 [l0, some (.ref o), l2, l3] S sh mi mj mr = zRun 30 48 [l0, some (.ref o), l2, l3] (.ref o :: S) sh mi mj mr := zr_l (zD_of zk_30 d_30_47 rfl rfl) rfl rfl rfl
theorem q_30_47n : zRun 30 47 [l0, some (.null), l2, l3] S sh mi mj mr = zRun 30 48 [l0, some (.null), l2, l3] (.null :: S) sh mi mj mr := zr_l (zD_of zk_30 d_30_47 rfl rfl) rfl rfl rfl
theorem q_30_48 (h : zIs sh o 0 2) : zRun 30 48 L (.ref o :: S) sh mi mj mr = zRun 30 51 L (.long (mj o 2) :: S) sh mi mj mr := zr_getJ (zD_of zk_30 d_30_48 rfl rfl) rfl rfl rfl h
theorem q_30_51r : zRun 30 51 [l0, l1, some (.ref o), l3] S sh mi mj mr = zRun 30 52 [l0, l1, some (.ref o), l3] (.ref o :: S) sh mi mj mr := zr_l (zD_of zk_30 d_30_51 rfl rfl) rfl rfl rfl
theorem q_30_51n : zRun 30 51 [l0, l1, some (.null), l3] S sh mi mj mr = zRun 30 52 [l0, l1, some (.null), l3] (.null :: S) sh mi mj mr := zr_l (zD_of zk_30 d_30_51 rfl rfl) rfl rfl rfl
theorem q_30_52 (h : zIs sh o 0 2) : zRun 30 52 L (.ref o :: S) sh mi mj mr = zRun 30 55 L (.long (mj o 2) :: S) sh mi mj mr := zr_getJ (zD_of zk_30 d_30_52 rfl rfl) rfl rfl rfl h
theorem q_30_55  : zRun 30 55 L (.long v :: .long u :: S) sh mi mj mr = zRun 30 56 L (.long (u + v) :: S) sh mi mj mr := zr_p (zD_of zk_30 d_30_55 rfl rfl) rfl
theorem q_30_56 (h : zIs sh o 0 2) : zRun 30 56 L (.long u :: .ref o :: S) sh mi mj mr = zRun 30 59 L S sh mi (zup mj o 2 u) mr := zr_putJ (zD_of zk_30 d_30_56 rfl rfl) rfl rfl rfl (Or.inl rfl) h
theorem q_30_59r : zRun 30 59 [some (.ref o), l1, l2, l3] S sh mi mj mr = zRun 30 60 [some (.ref o), l1, l2, l3] (.ref o :: S) sh mi mj mr := zr_l (zD_of zk_30 d_30_59 rfl rfl) rfl rfl rfl
theorem q_30_59n : zRun 30 59 [some (.null), l1, l2, l3] S sh mi mj mr = zRun 30 60 [some (.null), l1, l2, l3] (.null :: S) sh mi mj mr := zr_l (zD_of zk_30 d_30_59 rfl rfl) rfl rfl rfl
theorem q_30_60r : zRun 30 60 [l0, some (.ref o), l2, l3] S sh mi mj mr = zRun 30 61 [l0, some (.ref o), l2, l3] (.ref o :: S) sh mi mj mr := zr_l (zD_of zk_30 d_30_60 rfl rfl) rfl rfl rfl
theorem q_30_60n : zRun 30 60 [l0, some (.null), l2, l3] S sh mi mj mr = zRun 30 61 [l0, some (.null), l2, l3] (.null :: S) sh mi mj mr := zr_l (zD_of zk_30 d_30_60 rfl rfl) rfl rfl rfl
theorem q_30_61 (h : zIs sh o 0 2) : zRun 30 61 L (.ref o :: S) sh mi mj mr = zRun 30 64 L (.long (mj o 3) :: S) sh mi mj mr := zr_getJ (zD_of zk_30 d_30_61 rfl rfl) rfl rfl rfl h
theorem q_30_64r : zRun 30 64 [l0, l1, some (.ref o), l3] S sh mi mj mr = zRun 30 65 [l0, l1, some (.ref o), l3] (.ref o :: S) sh mi mj mr := zr_l (zD_of zk_30 d_30_64 rfl rfl) rfl rfl rfl
theorem q_30_64n : zRun 30 64 [l0, l1, some (.null), l3] S sh mi mj mr = zRun 30 65 [l0, l1, some (.null), l3] (.null :: S) sh mi mj mr := zr_l (zD_of zk_30 d_30_64 rfl rfl) rfl rfl rfl
theorem q_30_65 (h : zIs sh o 0 2) : zRun 30 65 L (.ref o :: S) sh mi mj mr = zRun 30 68 L (.long (mj o 3) :: S) sh mi mj mr := zr_getJ (zD_of zk_30 d_30_65 rfl rfl) rfl rfl rfl h
theorem q_30_68  : zRun 30 68 L (.long v :: .long u :: S) sh mi mj mr = zRun 30 69 L (.long (u + v) :: S) sh mi mj mr := zr_p (zD_of zk_30 d_30_68 rfl rfl) rfl
theorem q_30_69 (h : zIs sh o 0 2) : zRun 30 69 L (.long u :: .ref o :: S) sh mi mj mr = zRun 30 72 L S sh mi (zup mj o 3 u) mr := zr_putJ (zD_of zk_30 d_30_69 rfl rfl) rfl rfl rfl (Or.inl rfl) h
theorem q_30_72r : zRun 30 72 [some (.ref o), l1, l2, l3] S sh mi mj mr = zRun 30 73 [some (.ref o), l1, l2, l3] (.ref o :: S) sh mi mj mr := zr_l (zD_of zk_30 d_30_72 rfl rfl) rfl rfl rfl
theorem q_30_72n : zRun 30 72 [some (.null), l1, l2, l3] S sh mi mj mr = zRun 30 73 [some (.null), l1, l2, l3] (.null :: S) sh mi mj mr := zr_l (zD_of zk_30 d_30_72 rfl rfl) rfl rfl rfl
theorem q_30_73r : zRun 30 73 [l0, some (.ref o), l2, l3] S sh mi mj mr = zRun 30 74 [l0, some (.ref o), l2, l3] (.ref o :: S) sh mi mj mr := zr_l (zD_of zk_30 d_30_73 rfl rfl) rfl rfl rfl
theorem q_30_73n : zRun 30 73 [l0, some (.null), l2, l3] S sh mi mj mr = zRun 30 74 [l0, some (.null), l2, l3] (.null :: S) sh mi mj mr := zr_l (zD_of zk_30 d_30_73 rfl rfl) rfl rfl rfl
theorem q_30_74 (h : zIs sh o 0 2) : zRun 30 74 L (.ref o :: S) sh mi mj mr = zRun 30 77 L (.long (mj o 4) :: S) sh mi mj mr := zr_getJ (zD_of zk_30 d_30_74 rfl rfl) rfl rfl rfl h
theorem q_30_77r : zRun 30 77 [l0, l1, some (.ref o), l3] S sh mi mj mr = zRun 30 78 [l0, l1, some (.ref o), l3] (.ref o :: S) sh mi mj mr := zr_l (zD_of zk_30 d_30_77 rfl rfl) rfl rfl rfl
theorem q_30_77n : zRun 30 77 [l0, l1, some (.null), l3] S sh mi mj mr = zRun 30 78 [l0, l1, some (.null), l3] (.null :: S) sh mi mj mr := zr_l (zD_of zk_30 d_30_77 rfl rfl) rfl rfl rfl
theorem q_30_78 (h : zIs sh o 0 2) : zRun 30 78 L (.ref o :: S) sh mi mj mr = zRun 30 81 L (.long (mj o 4) :: S) sh mi mj mr := zr_getJ (zD_of zk_30 d_30_78 rfl rfl) rfl rfl rfl h
theorem q_30_81  : zRun 30 81 L (.long v :: .long u :: S) sh mi mj mr = zRun 30 82 L (.long (u + v) :: S) sh mi mj mr := zr_p (zD_of zk_30 d_30_81 rfl rfl) rfl
theorem q_30_82 (h : zIs sh o 0 2) : zRun 30 82 L (.long u :: .ref o :: S) sh mi mj mr = zRun 30 85 L S sh mi (zup mj o 4 u) mr := zr_putJ (zD_of zk_30 d_30_82 rfl rfl) rfl rfl rfl (Or.inl rfl) h
theorem q_30_85  : zRun 30 85 L [] sh mi mj mr = some (none, sh, mi, mj, mr) := zr_ret (zD_of zk_30 d_30_85 rfl rfl) rfl rfl rfl rfl rfl rfl
theorem e_30 {o0 o1 : Nat} : zCall 30 [.ref o, .ref o0, .ref o1] sh mi mj mr = zRun 30 0 [some (.ref o), some (.ref o0), some (.ref o1), none] [] sh mi mj mr := rfl
theorem d_31_0 : decode cX2_subtract 0 = .ok (.aload_n 0, 1) := by decide +kernel
theorem d_31_1 : decode cX2_subtract 1 = .ok (.aload_n 1, 1) := by decide +kernel
theorem d_31_2 : decode cX2_subtract 2 = .ok (.getfield 32, 3) := by decide +kernel
theorem d_31_5 : decode cX2_subtract 5 = .ok (.aload_n 2, 1) := by decide +kernel
theorem d_31_6 : decode cX2_subtract 6 = .ok (.getfield 32, 3) := by decide +kernel
theorem d_31_9 : decode cX2_subtract 9 = .ok (.lsub, 1) := by decide +kernel
theorem d_31_10 : decode cX2_subtract 10 = .ok (.putfield 32, 3) := by decide +kernel
theorem d_31_13 : decode cX2_subtract 13 = .ok (.iconst 0, 1) := by decide +kernel
theorem d_31_14 : decode cX2_subtract 14 = .ok (.istore_n 3, 1) := by decide +kernel
theorem d_31_15 : decode cX2_subtract 15 = .ok (.iload_n 3, 1) := by decide +kernel
theorem d_31_16 : decode cX2_subtract 16 = .ok (.bipush 12, 2) := by decide +kernel
theorem d_31_18 : decode cX2_subtract 18 = .ok (.if_icmp .ge 28, 3) := by decide +kernel
theorem d_31_21 : decode cX2_subtract 21 = .ok (.aload_n 0, 1) := by decide +kernel
theorem d_31_22 : decode cX2_subtract 22 = .ok (.getfield 9, 3) := by decide +kernel
theorem d_31_25 : decode cX2_subtract 25 = .ok (.iload_n 3, 1) := by decide +kernel
theorem d_31_26 : decode cX2_subtract 26 = .ok (.aload_n 1, 1) := by decide +kernel
theorem d_31_27 : decode cX2_subtract 27 = .ok (.getfield 9, 3) := by decide +kernel
theorem d_31_30 : decode cX2_subtract 30 = .ok (.iload_n 3, 1) := by decide +kernel
theorem d_31_31 : decode cX2_subtract 31 = .ok (.laload, 1) := by decide +kernel
theorem d_31_32 : decode cX2_subtract 32 = .ok (.aload_n 2, 1) := by decide +kernel
theorem d_31_33 : decode cX2_subtract 33 = .ok (.getfield 9, 3) := by decide +kernel
theorem d_31_36 : decode cX2_subtract 36 = .ok (.iload_n 3, 1) := by decide +kernel
theorem d_31_37 : decode cX2_subtract 37 = .ok (.laload, 1) := by decide +kernel
theorem d_31_38 : decode cX2_subtract 38 = .ok (.lsub, 1) := by decide +kernel
theorem d_31_39 : decode cX2_subtract 39 = .ok (.lastore, 1) := by decide +kernel
theorem d_31_40 : decode cX2_subtract 40 = .ok (.iinc 3 1, 3) := by decide +kernel
theorem d_31_43 : decode cX2_subtract 43 = .ok (.goto (-28), 3) := by decide +kernel
theorem d_31_46 : decode cX2_subtract 46 = .ok (.aload_n 0, 1) := by decide +kernel
theorem d_31_47 : decode cX2_subtract 47 = .ok (.aload_n 1, 1) := by decide +kernel
theorem d_31_48 : decode cX2_subtract 48 = .ok (.getfield 19, 3) := by decide +kernel
theorem d_31_51 : decode cX2_subtract 51 = .ok (.aload_n 2, 1) := by decide +kernel
theorem d_31_52 : decode cX2_subtract 52 = .ok (.getfield 19, 3) := by decide +kernel
theorem d_31_55 : decode cX2_subtract 55 = .ok (.ladd, 1) := by decide +kernel
theorem d_31_56 : decode cX2_subtract 56 = .ok (.putfield 19, 3) := by decide +kernel
theorem d_31_59 : decode cX2_subtract 59 = .ok (.aload_n 0, 1) := by decide +kernel
theorem d_31_60 : decode cX2_subtract 60 = .ok (.aload_n 1, 1) := by decide +kernel
theorem d_31_61 : decode cX2_subtract 61 = .ok (.getfield 35, 3) := by decide +kernel
theorem d_31_64 : decode cX2_subtract 64 = .ok (.aload_n 2, 1) := by decide +kernel
theorem d_31_65 : decode cX2_subtract 65 = .ok (.getfield 45, 3) := by decide +kernel
theorem d_31_68 : decode cX2_subtract 68 = .ok (.lsub, 1) := by decide +kernel
theorem d_31_69 : decode cX2_subtract 69 = .ok (.putfield 35, 3) := by decide +kernel
theorem d_31_72 : decode cX2_subtract 72 = .ok (.aload_n 0, 1) := by decide +kernel
theorem d_31_73 : decode cX2_subtract 73 = .ok (.aload_n 1, 1) := by decide +kernel
theorem d_31_74 : decode cX2_subtract 74 = .ok (.getfield 45, 3) := by decide +kernel
theorem d_31_77 : decode cX2_subtract 77 = .ok (.aload_n 2, 1) := by decide +kernel
theorem d_31_78 : decode cX2_subtract 78 = .ok (.getfield 35, 3) := by decide +kernel
theorem d_31_81 : decode cX2_subtract 81 = .ok (.lsub, 1) := by decide +kernel
theorem d_31_82 : decode cX2_subtract 82 = .ok (.putfield 45, 3) := by decide +kernel
theorem d_31_85 : decode cX2_subtract 85 = .ok (.return_, 1) := by decide +kernel
theorem q_31_0r : zRun 31 0 [some (.ref o), l1, l2, l3] S sh mi mj mr = zRun 31 1 [some (.ref o), l1, l2, l3] (.ref o :: S) sh mi mj mr := zr_l (zD_of zk_31 d_31_0 rfl rfl) rfl rfl rfl
theorem q_31_0n : zRun 31 0 [some (.null), l1, l2, l3] S sh mi mj mr = zRun 31 1 [some (.null), l1, l2, l3] (.null :: S) sh mi mj mr := zr_l (zD_of zk_31 d_31_0 rfl rfl) rfl rfl rfl
theorem q_31_1r : zRun 31 1 [l0, some (.ref o), l2, l3] S sh mi mj mr = zRun 31 2 [l0, some (.ref o), l2, l3] (.ref o :: S) sh mi mj mr := zr_l (zD_of zk_31 d_31_1 rfl rfl) rfl rfl rfl
theorem q_31_1n : zRun 31 1 [l0, some (.null), l2, l3] S sh mi mj mr = zRun 31 2 [l0, some (.null), l2, l3] (.null :: S) sh mi mj mr := zr_l (zD_of zk_31 d_31_1 rfl rfl) rfl rfl rfl
theorem q_31_2 (h : zIs sh o 0 2) : zRun 31 2 L (.ref o :: S) sh mi mj mr = zRun 31 5 L (.long (mj o 1) :: S) sh mi mj mr := zr_getJ (zD_of zk_31 d_31_2 rfl rfl) rfl rfl rfl h
theorem q_31_5r : zRun 31 5 [l0, l1, some (.ref o), l3] S sh mi mj mr = zRun 31 6 [l0, l1, some (.ref o), l3] (.ref o :: S) sh mi mj mr := zr_l (zD_of zk_31 d_31_5 rfl rfl) rfl rfl rfl
theorem q_31_5n : zRun 31 5 [l0, l1, some (.null), l3] S sh mi mj mr = zRun 31 6 [l0, l1, some (.null), l3] (.null :: S) sh mi mj mr := zr_l (zD_of zk_31 d_31_5 rfl rfl) rfl rfl rfl
theorem q_31_6 (h : zIs sh o 0 2) : zRun 31 6 L (.ref o :: S) sh mi mj mr = zRun 31 9 L (.long (mj o 1) :: S) sh mi mj mr := zr_getJ (zD_of zk_31 d_31_6 rfl rfl) rfl rfl rfl h
theorem q_31_9  : zRun 31 9 L (.long v :: .long u :: S) sh mi mj mr = zRun 31 10 L (.long (u - v) :: S) sh mi mj mr := zr_p (zD_of zk_31 d_31_9 rfl rfl) rfl
theorem q_31_10 (h : zIs sh o 0 2) : zRun 31 10 L (.long u :: .ref o :: S) sh mi mj mr = zRun 31 13 L S sh mi (zup mj o 1 u) mr := zr_putJ (zD_of zk_31 d_31_10 rfl rfl) rfl rfl rfl (Or.inl rfl) h
theorem q_31_13  : zRun 31 13 L S sh mi mj mr = zRun 31 14 L (.int 0 :: S) sh mi mj mr := zr_p (zD_of zk_31 d_31_13 rfl rfl) rfl
theorem q_31_14 : zRun 31 14 [l0, l1, l2, l3] (.int x :: S) sh mi mj mr = zRun 31 15 [l0, l1, zk2 l2, some (.int x)] S sh mi mj mr := zr_s1 (i := 3) (v := .int x) (L := [l0, l1, l2, l3]) (zD_of zk_31 d_31_14 rfl rfl) rfl rfl rfl rfl
theorem q_31_15 : zRun 31 15 [l0, l1, l2, some (.int x)] S sh mi mj mr = zRun 31 16 [l0, l1, l2, some (.int x)] (.int x :: S) sh mi mj mr := zr_l (zD_of zk_31 d_31_15 rfl rfl) rfl rfl rfl
theorem q_31_16  : zRun 31 16 L S sh mi mj mr = zRun 31 18 L (.int 12 :: S) sh mi mj mr := zr_p (zD_of zk_31 d_31_16 rfl rfl) rfl
theorem q_31_18  : zRun 31 18 L (.int y :: .int x :: S) sh mi mj mr = if y ≤ x then zRun 31 46 L S sh mi mj mr else zRun 31 21 L S sh mi mj mr := zr_if (off := 28) (P := y ≤ x) (zD_of zk_31 d_31_18 rfl rfl) rfl rfl (by decide)
theorem q_31_21r : zRun 31 21 [some (.ref o), l1, l2, l3] S sh mi mj mr = zRun 31 22 [some (.ref o), l1, l2, l3] (.ref o :: S) sh mi mj mr := zr_l (zD_of zk_31 d_31_21 rfl rfl) rfl rfl rfl
theorem q_31_21n : zRun 31 21 [some (.null), l1, l2, l3] S sh mi mj mr = zRun 31 22 [some (.null), l1, l2, l3] (.null :: S) sh mi mj mr := zr_l (zD_of zk_31 d_31_21 rfl rfl) rfl rfl rfl
theorem q_31_22 (h : zIs sh o 0 2) : zRun 31 22 L (.ref o :: S) sh mi mj mr = zRun 31 25 L (va_rf (mr o 5) :: S) sh mi mj mr := zr_getR (zD_of zk_31 d_31_22 rfl rfl) rfl rfl rfl h
theorem q_31_25 : zRun 31 25 [l0, l1, l2, some (.int x)] S sh mi mj mr = zRun 31 26 [l0, l1, l2, some (.int x)] (.int x :: S) sh mi mj mr := zr_l (zD_of zk_31 d_31_25 rfl rfl) rfl rfl rfl
theorem q_31_26r : zRun 31 26 [l0, some (.ref o), l2, l3] S sh mi mj mr = zRun 31 27 [l0, some (.ref o), l2, l3] (.ref o :: S) sh mi mj mr := zr_l (zD_of zk_31 d_31_26 rfl rfl) rfl rfl rfl
theorem q_31_26n : zRun 31 26 [l0, some (.null), l2, l3] S sh mi mj mr = zRun 31 27 [l0, some (.null), l2, l3] (.null :: S) sh mi mj mr := zr_l (zD_of zk_31 d_31_26 rfl rfl) rfl rfl rfl
theorem q_31_27 (h : zIs sh o 0 2) : zRun 31 27 L (.ref o :: S) sh mi mj mr = zRun 31 30 L (va_rf (mr o 5) :: S) sh mi mj mr := zr_getR (zD_of zk_31 d_31_27 rfl rfl) rfl rfl rfl h
theorem q_31_30 : zRun 31 30 [l0, l1, l2, some (.int x)] S sh mi mj mr = zRun 31 31 [l0, l1, l2, some (.int x)] (.int x :: S) sh mi mj mr := zr_l (zD_of zk_31 d_31_30 rfl rfl) rfl rfl rfl
theorem q_31_31 (h : zAt sh o 2 x) : zRun 31 31 L (.int x :: .ref o :: S) sh mi mj mr = zRun 31 32 L (.long (mj o x.toNatClampNeg) :: S) sh mi mj mr := zr_lald (zD_of zk_31 d_31_31 rfl rfl) h
theorem q_31_32r : zRun 31 32 [l0, l1, some (.ref o), l3] S sh mi mj mr = zRun 31 33 [l0, l1, some (.ref o), l3] (.ref o :: S) sh mi mj mr := zr_l (zD_of zk_31 d_31_32 rfl rfl) rfl rfl rfl
theorem q_31_32n : zRun 31 32 [l0, l1, some (.null), l3] S sh mi mj mr = zRun 31 33 [l0, l1, some (.null), l3] (.null :: S) sh mi mj mr := zr_l (zD_of zk_31 d_31_32 rfl rfl) rfl rfl rfl
theorem q_31_33 (h : zIs sh o 0 2) : zRun 31 33 L (.ref o :: S) sh mi mj mr = zRun 31 36 L (va_rf (mr o 5) :: S) sh mi mj mr := zr_getR (zD_of zk_31 d_31_33 rfl rfl) rfl rfl rfl h
theorem q_31_36 : zRun 31 36 [l0, l1, l2, some (.int x)] S sh mi mj mr = zRun 31 37 [l0, l1, l2, some (.int x)] (.int x :: S) sh mi mj mr := zr_l (zD_of zk_31 d_31_36 rfl rfl) rfl rfl rfl
theorem q_31_37 (h : zAt sh o 2 x) : zRun 31 37 L (.int x :: .ref o :: S) sh mi mj mr = zRun 31 38 L (.long (mj o x.toNatClampNeg) :: S) sh mi mj mr := zr_lald (zD_of zk_31 d_31_37 rfl rfl) h
theorem q_31_38  : zRun 31 38 L (.long v :: .long u :: S) sh mi mj mr = zRun 31 39 L (.long (u - v) :: S) sh mi mj mr := zr_p (zD_of zk_31 d_31_38 rfl rfl) rfl
theorem q_31_39 (h : zAt sh o 2 x) : zRun 31 39 L (.long u :: .int x :: .ref o :: S) sh mi mj mr = zRun 31 40 L S sh mi (zup mj o x.toNatClampNeg u) mr := zr_last (zD_of zk_31 d_31_39 rfl rfl) h
theorem q_31_40  : zRun 31 40 [l0, l1, l2, some (.int x)] S sh mi mj mr = zRun 31 43 [l0, l1, zk2 l2, some (.int (x + 1))] S sh mi mj mr := zr_s1 (i := 3) (v := .int (x + 1)) (L := [l0, l1, l2, some (.int x)]) (zD_of zk_31 d_31_40 rfl rfl) rfl rfl rfl rfl
theorem q_31_43  : zRun 31 43 L S sh mi mj mr = zRun 31 15 L S sh mi mj mr := zr_go (off := (-28)) (zD_of zk_31 d_31_43 rfl rfl) rfl rfl (by decide)
theorem q_31_46r : zRun 31 46 [some (.ref o), l1, l2, l3] S sh mi mj mr = zRun 31 47 [some (.ref o), l1, l2, l3] (.ref o :: S) sh mi mj mr := zr_l (zD_of zk_31 d_31_46 rfl rfl) rfl rfl rfl
theorem q_31_46n : zRun 31 46 [some (.null), l1, l2, l3] S sh mi mj mr = zRun 31 47 [some (.null), l1, l2, l3] (.null :: S) sh mi mj mr := zr_l (zD_of zk_31 d_31_46 rfl rfl) rfl rfl rfl
theorem q_31_47r : zRun 31 47 [l0, some (.ref o), l2, l3] S sh mi mj mr = zRun 31 48 [l0, some (.ref o), l2, l3] (.ref o :: S) sh mi mj mr := zr_l (zD_of zk_31 d_31_47 rfl rfl) rfl rfl rfl
theorem q_31_47n : zRun 31 47 [l0, some (.null), l2, l3] S sh mi mj mr = zRun 31 48 [l0, some (.null), l2, l3] (.null :: S) sh mi mj mr := zr_l (zD_of zk_31 d_31_47 rfl rfl) rfl rfl rfl
theorem q_31_48 (h : zIs sh o 0 2) : zRun 31 48 L (.ref o :: S) sh mi mj mr = zRun 31 51 L (.long (mj o 2) :: S) sh mi mj mr := zr_getJ (zD_of zk_31 d_31_48 rfl rfl) rfl rfl rfl h
theorem q_31_51r : zRun 31 51 [l0, l1, some (.ref o), l3] S sh mi mj mr = zRun 31 52 [l0, l1, some (.ref o), l3] (.ref o :: S) sh mi mj mr := zr_l (zD_of zk_31 d_31_51 rfl rfl) rfl rfl rfl
theorem q_31_51n : zRun 31 51 [l0, l1, some (.null), l3] S sh mi mj mr = zRun 31 52 [l0, l1, some (.null), l3] (.null :: S) sh mi mj mr := zr_l (zD_of zk_31 d_31_51 rfl rfl) rfl rfl rfl
theorem q_31_52 (h : zIs sh o 0 2) : zRun 31 52 L (.ref o :: S) sh mi mj mr = zRun 31 55 L (.long (mj o 2) :: S) sh mi mj mr := zr_getJ (zD_of zk_31 d_31_52 rfl rfl) rfl rfl rfl h
theorem q_31_55  : zRun 31 55 L (.long v :: .long u :: S) sh mi mj mr = zRun 31 56 L (.long (u + v) :: S) sh mi mj mr := zr_p (zD_of zk_31 d_31_55 rfl rfl) rfl
theorem q_31_56 (h : zIs sh o 0 2) : zRun 31 56 L (.long u :: .ref o :: S) sh mi mj mr = zRun 31 59 L S sh mi (zup mj o 2 u) mr := zr_putJ (zD_of zk_31 d_31_56 rfl rfl) rfl rfl rfl (Or.inl rfl) h
theorem q_31_59r : zRun 31 59 [some (.ref o), l1, l2, l3] S sh mi mj mr = zRun 31 60 [some (.ref o), l1, l2, l3] (.ref o :: S) sh mi mj mr := zr_l (zD_of zk_31 d_31_59 rfl rfl) rfl rfl rfl
theorem q_31_59n : zRun 31 59 [some (.null), l1, l2, l3] S sh mi mj mr = zRun 31 60 [some (.null), l1, l2, l3] (.null :: S) sh mi mj mr := zr_l (zD_of zk_31 d_31_59 rfl rfl) rfl rfl rfl
theorem q_31_60r : zRun 31 60 [l0, some (.ref o), l2, l3] S sh mi mj mr = zRun 31 61 [l0, some (.ref o), l2, l3] (.ref o :: S) sh mi mj mr := zr_l (zD_of zk_31 d_31_60 rfl rfl) rfl rfl rfl
theorem q_31_60n : zRun 31 60 [l0, some (.null), l2, l3] S sh mi mj mr = zRun 31 61 [l0, some (.null), l2, l3] (.null :: S) sh mi mj mr := zr_l (zD_of zk_31 d_31_60 rfl rfl) rfl rfl rfl
theorem q_31_61 (h : zIs sh o 0 2) : zRun 31 61 L (.ref o :: S) sh mi mj mr = zRun 31 64 L (.long (mj o 3) :: S) sh mi mj mr := zr_getJ (zD_of zk_31 d_31_61 rfl rfl) rfl rfl rfl h
theorem q_31_64r : zRun 31 64 [l0, l1, some (.ref o), l3] S sh mi mj mr = zRun 31 65 [l0, l1, some (.ref o), l3] (.ref o :: S) sh mi mj mr := zr_l (zD_of zk_31 d_31_64 rfl rfl) rfl rfl rfl
theorem q_31_64n : zRun 31 64 [l0, l1, some (.null), l3] S sh mi mj mr = zRun 31 65 [l0, l1, some (.null), l3] (.null :: S) sh mi mj mr := zr_l (zD_of zk_31 d_31_64 rfl rfl) rfl rfl rfl
theorem q_31_65 (h : zIs sh o 0 2) : zRun 31 65 L (.ref o :: S) sh mi mj mr = zRun 31 68 L (.long (mj o 4) :: S) sh mi mj mr := zr_getJ (zD_of zk_31 d_31_65 rfl rfl) rfl rfl rfl h
theorem q_31_68  : zRun 31 68 L (.long v :: .long u :: S) sh mi mj mr = zRun 31 69 L (.long (u - v) :: S) sh mi mj mr := zr_p (zD_of zk_31 d_31_68 rfl rfl) rfl
theorem q_31_69 (h : zIs sh o 0 2) : zRun 31 69 L (.long u :: .ref o :: S) sh mi mj mr = zRun 31 72 L S sh mi (zup mj o 3 u) mr := zr_putJ (zD_of zk_31 d_31_69 rfl rfl) rfl rfl rfl (Or.inl rfl) h
theorem q_31_72r : zRun 31 72 [some (.ref o), l1, l2, l3] S sh mi mj mr = zRun 31 73 [some (.ref o), l1, l2, l3] (.ref o :: S) sh mi mj mr := zr_l (zD_of zk_31 d_31_72 rfl rfl) rfl rfl rfl
theorem q_31_72n : zRun 31 72 [some (.null), l1, l2, l3] S sh mi mj mr = zRun 31 73 [some (.null), l1, l2, l3] (.null :: S) sh mi mj mr := zr_l (zD_of zk_31 d_31_72 rfl rfl) rfl rfl rfl
theorem q_31_73r : zRun 31 73 [l0, some (.ref o), l2, l3] S sh mi mj mr = zRun 31 74 [l0, some (.ref o), l2, l3] (.ref o :: S) sh mi mj mr := zr_l (zD_of zk_31 d_31_73 rfl rfl) rfl rfl rfl
theorem q_31_73n : zRun 31 73 [l0, some (.null), l2, l3] S sh mi mj mr = zRun 31 74 [l0, some (.null), l2, l3] (.null :: S) sh mi mj mr := zr_l (zD_of zk_31 d_31_73 rfl rfl) rfl rfl rfl
theorem q_31_74 (h : zIs sh o 0 2) : zRun 31 74 L (.ref o :: S) sh mi mj mr = zRun 31 77 L (.long (mj o 4) :: S) sh mi mj mr := zr_getJ (zD_of zk_31 d_31_74 rfl rfl) rfl rfl rfl h
theorem q_31_77r : zRun 31 77 [l0, l1, some (.ref o), l3] S sh mi mj mr = zRun 31 78 [l0, l1, some (.ref o), l3] (.ref o :: S) sh mi mj mr := zr_l (zD_of zk_31 d_31_77 rfl rfl) rfl rfl rfl
theorem q_31_77n : zRun 31 77 [l0, l1, some (.null), l3] S sh mi mj mr = zRun 31 78 [l0, l1, some (.null), l3] (.null :: S) sh mi mj mr := zr_l (zD_of zk_31 d_31_77 rfl rfl) rfl rfl rfl
theorem q_31_78 (h : zIs sh o 0 2) : zRun 31 78 L (.ref o :: S) sh mi mj mr = zRun 31 81 L (.long (mj o 3) :: S) sh mi mj mr := zr_getJ (zD_of zk_31 d_31_78 rfl rfl) rfl rfl rfl h
theorem q_31_81  : zRun 31 81 L (.long v :: .long u :: S) sh mi mj mr = zRun 31 82 L (.long (u - v) :: S) sh mi mj mr := zr_p (zD_of zk_31 d_31_81 rfl rfl) rfl
theorem q_31_82 (h : zIs sh o 0 2) : zRun 31 82 L (.long u :: .ref o :: S) sh mi mj mr = zRun 31 85 L S sh mi (zup mj o 4 u) mr := zr_putJ (zD_of zk_31 d_31_82 rfl rfl) rfl rfl rfl (Or.inl rfl) h
theorem q_31_85  : zRun 31 85 L [] sh mi mj mr = some (none, sh, mi, mj, mr) := zr_ret (zD_of zk_31 d_31_85 rfl rfl) rfl rfl rfl rfl rfl rfl
theorem e_31 {o0 o1 : Nat} : zCall 31 [.ref o, .ref o0, .ref o1] sh mi mj mr = zRun 31 0 [some (.ref o), some (.ref o0), some (.ref o1), none] [] sh mi mj mr := rfl
theorem d_32_0 : decode cX2_negate 0 = .ok (.aload_n 0, 1) := by decide +kernel
theorem d_32_1 : decode cX2_negate 1 = .ok (.aload_n 1, 1) := by decide +kernel
theorem d_32_2 : decode cX2_negate 2 = .ok (.getfield 32, 3) := by decide +kernel
theorem d_32_5 : decode cX2_negate 5 = .ok (.lneg, 1) := by decide +kernel
theorem d_32_6 : decode cX2_negate 6 = .ok (.putfield 32, 3) := by decide +kernel
theorem d_32_9 : decode cX2_negate 9 = .ok (.iconst 0, 1) := by decide +kernel
theorem d_32_10 : decode cX2_negate 10 = .ok (.istore_n 2, 1) := by decide +kernel
theorem d_32_11 : decode cX2_negate 11 = .ok (.iload_n 2, 1) := by decide +kernel
theorem d_32_12 : decode cX2_negate 12 = .ok (.bipush 12, 2) := by decide +kernel
theorem d_32_14 : decode cX2_negate 14 = .ok (.if_icmp .ge 22, 3) := by decide +kernel
theorem d_32_17 : decode cX2_negate 17 = .ok (.aload_n 0, 1) := by decide +kernel
theorem d_32_18 : decode cX2_negate 18 = .ok (.getfield 9, 3) := by decide +kernel
theorem d_32_21 : decode cX2_negate 21 = .ok (.iload_n 2, 1) := by decide +kernel
theorem d_32_22 : decode cX2_negate 22 = .ok (.aload_n 1, 1) := by decide +kernel
theorem d_32_23 : decode cX2_negate 23 = .ok (.getfield 9, 3) := by decide +kernel
theorem d_32_26 : decode cX2_negate 26 = .ok (.iload_n 2, 1) := by decide +kernel
theorem d_32_27 : decode cX2_negate 27 = .ok (.laload, 1) := by decide +kernel
theorem d_32_28 : decode cX2_negate 28 = .ok (.lneg, 1) := by decide +kernel
theorem d_32_29 : decode cX2_negate 29 = .ok (.lastore, 1) := by decide +kernel
theorem d_32_30 : decode cX2_negate 30 = .ok (.iinc 2 1, 3) := by decide +kernel
theorem d_32_33 : decode cX2_negate 33 = .ok (.goto (-22), 3) := by decide +kernel
theorem d_32_36 : decode cX2_negate 36 = .ok (.aload_n 0, 1) := by decide +kernel
theorem d_32_37 : decode cX2_negate 37 = .ok (.aload_n 1, 1) := by decide +kernel
theorem d_32_38 : decode cX2_negate 38 = .ok (.getfield 19, 3) := by decide +kernel
theorem d_32_41 : decode cX2_negate 41 = .ok (.putfield 19, 3) := by decide +kernel
theorem d_32_44 : decode cX2_negate 44 = .ok (.aload_n 0, 1) := by decide +kernel
theorem d_32_45 : decode cX2_negate 45 = .ok (.aload_n 1, 1) := by decide +kernel
theorem d_32_46 : decode cX2_negate 46 = .ok (.getfield 45, 3) := by decide +kernel
theorem d_32_49 : decode cX2_negate 49 = .ok (.lneg, 1) := by decide +kernel
theorem d_32_50 : decode cX2_negate 50 = .ok (.putfield 35, 3) := by decide +kernel
theorem d_32_53 : decode cX2_negate 53 = .ok (.aload_n 0, 1) := by decide +kernel
theorem d_32_54 : decode cX2_negate 54 = .ok (.aload_n 1, 1) := by decide +kernel
theorem d_32_55 : decode cX2_negate 55 = .ok (.getfield 35, 3) := by decide +kernel
theorem d_32_58 : decode cX2_negate 58 = .ok (.lneg, 1) := by decide +kernel
theorem d_32_59 : decode cX2_negate 59 = .ok (.putfield 45, 3) := by decide +kernel
theorem d_32_62 : decode cX2_negate 62 = .ok (.return_, 1) := by decide +kernel
theorem q_32_0r : zRun 32 0 [some (.ref o), l1, l2] S sh mi mj mr = zRun 32 1 [some (.ref o), l1, l2] (.ref o :: S) sh mi mj mr := zr_l (zD_of zk_32 d_32_0 rfl rfl) rfl rfl rfl
theorem q_32_0n : zRun 32 0 [some (.null), l1, l2] S sh mi mj mr = zRun 32 1 [some (.null), l1, l2] (.null :: S) sh mi mj mr := zr_l (zD_of zk_32 d_32_0 rfl rfl) rfl rfl rfl
theorem q_32_1r : zRun 32 1 [l0, some (.ref o), l2] S sh mi mj mr = zRun 32 2 [l0, some (.ref o), l2] (.ref o :: S) sh mi mj mr := zr_l (zD_of zk_32 d_32_1 rfl rfl) rfl rfl rfl
theorem q_32_1n : zRun 32 1 [l0, some (.null), l2] S sh mi mj mr = zRun 32 2 [l0, some (.null), l2] (.null :: S) sh mi mj mr := zr_l (zD_of zk_32 d_32_1 rfl rfl) rfl rfl rfl
theorem q_32_2 (h : zIs sh o 0 2) : zRun 32 2 L (.ref o :: S) sh mi mj mr = zRun 32 5 L (.long (mj o 1) :: S) sh mi mj mr := zr_getJ (zD_of zk_32 d_32_2 rfl rfl) rfl rfl rfl h
theorem q_32_5  : zRun 32 5 L (.long u :: S) sh mi mj mr = zRun 32 6 L (.long (-u) :: S) sh mi mj mr := zr_p (zD_of zk_32 d_32_5 rfl rfl) rfl
theorem q_32_6 (h : zIs sh o 0 2) : zRun 32 6 L (.long u :: .ref o :: S) sh mi mj mr = zRun 32 9 L S sh mi (zup mj o 1 u) mr := zr_putJ (zD_of zk_32 d_32_6 rfl rfl) rfl rfl rfl (Or.inl rfl) h
theorem q_32_9  : zRun 32 9 L S sh mi mj mr = zRun 32 10 L (.int 0 :: S) sh mi mj mr := zr_p (zD_of zk_32 d_32_9 rfl rfl) rfl
theorem q_32_10 : zRun 32 10 [l0, l1, l2] (.int x :: S) sh mi mj mr = zRun 32 11 [l0, zk2 l1, some (.int x)] S sh mi mj mr := zr_s1 (i := 2) (v := .int x) (L := [l0, l1, l2]) (zD_of zk_32 d_32_10 rfl rfl) rfl rfl rfl rfl
theorem q_32_11 : zRun 32 11 [l0, l1, some (.int x)] S sh mi mj mr = zRun 32 12 [l0, l1, some (.int x)] (.int x :: S) sh mi mj mr := zr_l (zD_of zk_32 d_32_11 rfl rfl) rfl rfl rfl
theorem q_32_12  : zRun 32 12 L S sh mi mj mr = zRun 32 14 L (.int 12 :: S) sh mi mj mr := zr_p (zD_of zk_32 d_32_12 rfl rfl) rfl
theorem q_32_14  : zRun 32 14 L (.int y :: .int x :: S) sh mi mj mr = if y ≤ x then zRun 32 36 L S sh mi mj mr else zRun 32 17 L S sh mi mj mr := zr_if (off := 22) (P := y ≤ x) (zD_of zk_32 d_32_14 rfl rfl) rfl rfl (by decide)
theorem q_32_17r : zRun 32 17 [some (.ref o), l1, l2] S sh mi mj mr = zRun 32 18 [some (.ref o), l1, l2] (.ref o :: S) sh mi mj mr := zr_l (zD_of zk_32 d_32_17 rfl rfl) rfl rfl rfl
theorem q_32_17n : zRun 32 17 [some (.null), l1, l2] S sh mi mj mr = zRun 32 18 [some (.null), l1, l2] (.null :: S) sh mi mj mr := zr_l (zD_of zk_32 d_32_17 rfl rfl) rfl rfl rfl
theorem q_32_18 (h : zIs sh o 0 2) : zRun 32 18 L (.ref o :: S) sh mi mj mr = zRun 32 21 L (va_rf (mr o 5) :: S) sh mi mj mr := zr_getR (zD_of zk_32 d_32_18 rfl rfl) rfl rfl rfl h
theorem q_32_21 : zRun 32 21 [l0, l1, some (.int x)] S sh mi mj mr = zRun 32 22 [l0, l1, some (.int x)] (.int x :: S) sh mi mj mr := zr_l (zD_of zk_32 d_32_21 rfl rfl) rfl rfl rfl
theorem q_32_22r : zRun 32 22 [l0, some (.ref o), l2] S sh mi mj mr = zRun 32 23 [l0, some (.ref o), l2] (.ref o :: S) sh mi mj mr := zr_l (zD_of zk_32 d_32_22 rfl rfl) rfl rfl rfl
theorem q_32_22n : zRun 32 22 [l0, some (.null), l2] S sh mi mj mr = zRun 32 23 [l0, some (.null), l2] (.null :: S) sh mi mj mr := zr_l (zD_of zk_32 d_32_22 rfl rfl) rfl rfl rfl
theorem q_32_23 (h : zIs sh o 0 2) : zRun 32 23 L (.ref o :: S) sh mi mj mr = zRun 32 26 L (va_rf (mr o 5) :: S) sh mi mj mr := zr_getR (zD_of zk_32 d_32_23 rfl rfl) rfl rfl rfl h
theorem q_32_26 : zRun 32 26 [l0, l1, some (.int x)] S sh mi mj mr = zRun 32 27 [l0, l1, some (.int x)] (.int x :: S) sh mi mj mr := zr_l (zD_of zk_32 d_32_26 rfl rfl) rfl rfl rfl
theorem q_32_27 (h : zAt sh o 2 x) : zRun 32 27 L (.int x :: .ref o :: S) sh mi mj mr = zRun 32 28 L (.long (mj o x.toNatClampNeg) :: S) sh mi mj mr := zr_lald (zD_of zk_32 d_32_27 rfl rfl) h
theorem q_32_28  : zRun 32 28 L (.long u :: S) sh mi mj mr = zRun 32 29 L (.long (-u) :: S) sh mi mj mr := zr_p (zD_of zk_32 d_32_28 rfl rfl) rfl
theorem q_32_29 (h : zAt sh o 2 x) : zRun 32 29 L (.long u :: .int x :: .ref o :: S) sh mi mj mr = zRun 32 30 L S sh mi (zup mj o x.toNatClampNeg u) mr := zr_last (zD_of zk_32 d_32_29 rfl rfl) h
theorem q_32_30  : zRun 32 30 [l0, l1, some (.int x)] S sh mi mj mr = zRun 32 33 [l0, zk2 l1, some (.int (x + 1))] S sh mi mj mr := zr_s1 (i := 2) (v := .int (x + 1)) (L := [l0, l1, some (.int x)]) (zD_of zk_32 d_32_30 rfl rfl) rfl rfl rfl rfl
theorem q_32_33  : zRun 32 33 L S sh mi mj mr = zRun 32 11 L S sh mi mj mr := zr_go (off := (-22)) (zD_of zk_32 d_32_33 rfl rfl) rfl rfl (by decide)
theorem q_32_36r : zRun 32 36 [some (.ref o), l1, l2] S sh mi mj mr = zRun 32 37 [some (.ref o), l1, l2] (.ref o :: S) sh mi mj mr := zr_l (zD_of zk_32 d_32_36 rfl rfl) rfl rfl rfl
theorem q_32_36n : zRun 32 36 [some (.null), l1, l2] S sh mi mj mr = zRun 32 37 [some (.null), l1, l2] (.null :: S) sh mi mj mr := zr_l (zD_of zk_32 d_32_36 rfl rfl) rfl rfl rfl
theorem q_32_37r : zRun 32 37 [l0, some (.ref o), l2] S sh mi mj mr = zRun 32 38 [l0, some (.ref o), l2] (.ref o :: S) sh mi mj mr := zr_l (zD_of zk_32 d_32_37 rfl rfl) rfl rfl rfl
theorem q_32_37n : zRun 32 37 [l0, some (.null), l2] S sh mi mj mr = zRun 32 38 [l0, some (.null), l2] (.null :: S) sh mi mj mr := zr_l (zD_of zk_32 d_32_37 rfl rfl) rfl rfl rfl
theorem q_32_38 (h : zIs sh o 0 2) : zRun 32 38 L (.ref o :: S) sh mi mj mr = zRun 32 41 L (.long (mj o 2) :: S) sh mi mj mr := zr_getJ (zD_of zk_32 d_32_38 rfl rfl) rfl rfl rfl h
theorem q_32_41 (h : zIs sh o 0 2) : zRun 32 41 L (.long u :: .ref o :: S) sh mi mj mr = zRun 32 44 L S sh mi (zup mj o 2 u) mr := zr_putJ (zD_of zk_32 d_32_41 rfl rfl) rfl rfl rfl (Or.inl rfl) h
theorem q_32_44r : zRun 32 44 [some (.ref o), l1, l2] S sh mi mj mr = zRun 32 45 [some (.ref o), l1, l2] (.ref o :: S) sh mi mj mr := zr_l (zD_of zk_32 d_32_44 rfl rfl) rfl rfl rfl
theorem q_32_44n : zRun 32 44 [some (.null), l1, l2] S sh mi mj mr = zRun 32 45 [some (.null), l1, l2] (.null :: S) sh mi mj mr := zr_l (zD_of zk_32 d_32_44 rfl rfl) rfl rfl rfl
theorem q_32_45r : zRun 32 45 [l0, some (.ref o), l2] S sh mi mj mr = zRun 32 46 [l0, some (.ref o), l2] (.ref o :: S) sh mi mj mr := zr_l (zD_of zk_32 d_32_45 rfl rfl) rfl rfl rfl
theorem q_32_45n : zRun 32 45 [l0, some (.null), l2] S sh mi mj mr = zRun 32 46 [l0, some (.null), l2] (.null :: S) sh mi mj mr := zr_l (zD_of zk_32 d_32_45 rfl rfl) rfl rfl rfl
theorem q_32_46 (h : zIs sh o 0 2) : zRun 32 46 L (.ref o :: S) sh mi mj mr = zRun 32 49 L (.long (mj o 4) :: S) sh mi mj mr := zr_getJ (zD_of zk_32 d_32_46 rfl rfl) rfl rfl rfl h
theorem q_32_49  : zRun 32 49 L (.long u :: S) sh mi mj mr = zRun 32 50 L (.long (-u) :: S) sh mi mj mr := zr_p (zD_of zk_32 d_32_49 rfl rfl) rfl
theorem q_32_50 (h : zIs sh o 0 2) : zRun 32 50 L (.long u :: .ref o :: S) sh mi mj mr = zRun 32 53 L S sh mi (zup mj o 3 u) mr := zr_putJ (zD_of zk_32 d_32_50 rfl rfl) rfl rfl rfl (Or.inl rfl) h
theorem q_32_53r : zRun 32 53 [some (.ref o), l1, l2] S sh mi mj mr = zRun 32 54 [some (.ref o), l1, l2] (.ref o :: S) sh mi mj mr := zr_l (zD_of zk_32 d_32_53 rfl rfl) rfl rfl rfl
theorem q_32_53n : zRun 32 53 [some (.null), l1, l2] S sh mi mj mr = zRun 32 54 [some (.null), l1, l2] (.null :: S) sh mi mj mr := zr_l (zD_of zk_32 d_32_53 rfl rfl) rfl rfl rfl
theorem q_32_54r : zRun 32 54 [l0, some (.ref o), l2] S sh mi mj mr = zRun 32 55 [l0, some (.ref o), l2] (.ref o :: S) sh mi mj mr := zr_l (zD_of zk_32 d_32_54 rfl rfl) rfl rfl rfl
theorem q_32_54n : zRun 32 54 [l0, some (.null), l2] S sh mi mj mr = zRun 32 55 [l0, some (.null), l2] (.null :: S) sh mi mj mr := zr_l (zD_of zk_32 d_32_54 rfl rfl) rfl rfl rfl
theorem q_32_55 (h : zIs sh o 0 2) : zRun 32 55 L (.ref o :: S) sh mi mj mr = zRun 32 58 L (.long (mj o 3) :: S) sh mi mj mr := zr_getJ (zD_of zk_32 d_32_55 rfl rfl) rfl rfl rfl h
theorem q_32_58  : zRun 32 58 L (.long u :: S) sh mi mj mr = zRun 32 59 L (.long (-u) :: S) sh mi mj mr := zr_p (zD_of zk_32 d_32_58 rfl rfl) rfl
theorem q_32_59 (h : zIs sh o 0 2) : zRun 32 59 L (.long u :: .ref o :: S) sh mi mj mr = zRun 32 62 L S sh mi (zup mj o 4 u) mr := zr_putJ (zD_of zk_32 d_32_59 rfl rfl) rfl rfl rfl (Or.inl rfl) h
theorem q_32_62  : zRun 32 62 L [] sh mi mj mr = some (none, sh, mi, mj, mr) := zr_ret (zD_of zk_32 d_32_62 rfl rfl) rfl rfl rfl rfl rfl rfl
theorem e_32 {o0 : Nat} : zCall 32 [.ref o, .ref o0] sh mi mj mr = zRun 32 0 [some (.ref o), some (.ref o0), none] [] sh mi mj mr := rfl
theorem d_33_0 : decode cX2_multiply 0 = .ok (.aload_n 1, 1) := by decide +kernel
theorem d_33_1 : decode cX2_multiply 1 = .ok (.getfield 32, 3) := by decide +kernel
theorem d_33_4 : decode cX2_multiply 4 = .ok (.aload_n 2, 1) := by decide +kernel
theorem d_33_5 : decode cX2_multiply 5 = .ok (.getfield 32, 3) := by decide +kernel
theorem d_33_8 : decode cX2_multiply 8 = .ok (.lmul, 1) := by decide +kernel
theorem d_33_9 : decode cX2_multiply 9 = .ok (.lstore_n 3, 1) := by decide +kernel
theorem d_33_10 : decode cX2_multiply 10 = .ok (.aload_n 0, 1) := by decide +kernel
theorem d_33_11 : decode cX2_multiply 11 = .ok (.lload_n 3, 1) := by decide +kernel
theorem d_33_12 : decode cX2_multiply 12 = .ok (.bipush 8, 2) := by decide +kernel
theorem d_33_14 : decode cX2_multiply 14 = .ok (.lshr, 1) := by decide +kernel
theorem d_33_15 : decode cX2_multiply 15 = .ok (.putfield 32, 3) := by decide +kernel
theorem d_33_18 : decode cX2_multiply 18 = .ok (.lload_n 3, 1) := by decide +kernel
theorem d_33_19 : decode cX2_multiply 19 = .ok (.bipush 8, 2) := by decide +kernel
theorem d_33_21 : decode cX2_multiply 21 = .ok (.invokestatic 85, 3) := by decide +kernel
theorem d_33_24 : decode cX2_multiply 24 = .ok (.i2l, 1) := by decide +kernel
theorem d_33_25 : decode cX2_multiply 25 = .ok (.lstore 5, 2) := by decide +kernel
theorem d_33_27 : decode cX2_multiply 27 = .ok (.iconst 0, 1) := by decide +kernel
theorem d_33_28 : decode cX2_multiply 28 = .ok (.istore 7, 2) := by decide +kernel
theorem d_33_30 : decode cX2_multiply 30 = .ok (.iload 7, 2) := by decide +kernel
theorem d_33_32 : decode cX2_multiply 32 = .ok (.bipush 12, 2) := by decide +kernel
theorem d_33_34 : decode cX2_multiply 34 = .ok (.if_icmp .ge 61, 3) := by decide +kernel
theorem d_33_37 : decode cX2_multiply 37 = .ok (.aload_n 1, 1) := by decide +kernel
theorem d_33_38 : decode cX2_multiply 38 = .ok (.getfield 32, 3) := by decide +kernel
theorem d_33_41 : decode cX2_multiply 41 = .ok (.aload_n 2, 1) := by decide +kernel
theorem d_33_42 : decode cX2_multiply 42 = .ok (.getfield 9, 3) := by decide +kernel
theorem d_33_45 : decode cX2_multiply 45 = .ok (.iload 7, 2) := by decide +kernel
theorem d_33_47 : decode cX2_multiply 47 = .ok (.laload, 1) := by decide +kernel
theorem d_33_48 : decode cX2_multiply 48 = .ok (.lmul, 1) := by decide +kernel
theorem d_33_49 : decode cX2_multiply 49 = .ok (.aload_n 2, 1) := by decide +kernel
theorem d_33_50 : decode cX2_multiply 50 = .ok (.getfield 32, 3) := by decide +kernel
theorem d_33_53 : decode cX2_multiply 53 = .ok (.aload_n 1, 1) := by decide +kernel
theorem d_33_54 : decode cX2_multiply 54 = .ok (.getfield 9, 3) := by decide +kernel
theorem d_33_57 : decode cX2_multiply 57 = .ok (.iload 7, 2) := by decide +kernel
theorem d_33_59 : decode cX2_multiply 59 = .ok (.laload, 1) := by decide +kernel
theorem d_33_60 : decode cX2_multiply 60 = .ok (.lmul, 1) := by decide +kernel
theorem d_33_61 : decode cX2_multiply 61 = .ok (.ladd, 1) := by decide +kernel
theorem d_33_62 : decode cX2_multiply 62 = .ok (.lstore 8, 2) := by decide +kernel
theorem d_33_64 : decode cX2_multiply 64 = .ok (.aload_n 0, 1) := by decide +kernel
theorem d_33_65 : decode cX2_multiply 65 = .ok (.getfield 9, 3) := by decide +kernel
theorem d_33_68 : decode cX2_multiply 68 = .ok (.iload 7, 2) := by decide +kernel
theorem d_33_70 : decode cX2_multiply 70 = .ok (.lload 8, 2) := by decide +kernel
theorem d_33_72 : decode cX2_multiply 72 = .ok (.bipush 8, 2) := by decide +kernel
theorem d_33_74 : decode cX2_multiply 74 = .ok (.lshr, 1) := by decide +kernel
theorem d_33_75 : decode cX2_multiply 75 = .ok (.lastore, 1) := by decide +kernel
theorem d_33_76 : decode cX2_multiply 76 = .ok (.lload 5, 2) := by decide +kernel
theorem d_33_78 : decode cX2_multiply 78 = .ok (.lload 8, 2) := by decide +kernel
theorem d_33_80 : decode cX2_multiply 80 = .ok (.bipush 8, 2) := by decide +kernel
theorem d_33_82 : decode cX2_multiply 82 = .ok (.invokestatic 85, 3) := by decide +kernel
theorem d_33_85 : decode cX2_multiply 85 = .ok (.i2l, 1) := by decide +kernel
theorem d_33_86 : decode cX2_multiply 86 = .ok (.ladd, 1) := by decide +kernel
theorem d_33_87 : decode cX2_multiply 87 = .ok (.lstore 5, 2) := by decide +kernel
theorem d_33_89 : decode cX2_multiply 89 = .ok (.iinc 7 1, 3) := by decide +kernel
theorem d_33_92 : decode cX2_multiply 92 = .ok (.goto (-62), 3) := by decide +kernel
theorem d_33_95 : decode cX2_multiply 95 = .ok (.aload_n 1, 1) := by decide +kernel
theorem d_33_96 : decode cX2_multiply 96 = .ok (.getfield 32, 3) := by decide +kernel
theorem d_33_99 : decode cX2_multiply 99 = .ok (.invokestatic 26, 3) := by decide +kernel
theorem d_33_102 : decode cX2_multiply 102 = .ok (.aload_n 2, 1) := by decide +kernel
theorem d_33_103 : decode cX2_multiply 103 = .ok (.getfield 19, 3) := by decide +kernel
theorem d_33_106 : decode cX2_multiply 106 = .ok (.lmul, 1) := by decide +kernel
theorem d_33_107 : decode cX2_multiply 107 = .ok (.aload_n 2, 1) := by decide +kernel
theorem d_33_108 : decode cX2_multiply 108 = .ok (.getfield 32, 3) := by decide +kernel
theorem d_33_111 : decode cX2_multiply 111 = .ok (.invokestatic 26, 3) := by decide +kernel
theorem d_33_114 : decode cX2_multiply 114 = .ok (.aload_n 1, 1) := by decide +kernel
theorem d_33_115 : decode cX2_multiply 115 = .ok (.getfield 19, 3) := by decide +kernel
theorem d_33_118 : decode cX2_multiply 118 = .ok (.lmul, 1) := by decide +kernel
theorem d_33_119 : decode cX2_multiply 119 = .ok (.ladd, 1) := by decide +kernel
theorem d_33_120 : decode cX2_multiply 120 = .ok (.aload_n 1, 1) := by decide +kernel
theorem d_33_121 : decode cX2_multiply 121 = .ok (.getfield 23, 3) := by decide +kernel
theorem d_33_124 : decode cX2_multiply 124 = .ok (.aload_n 2, 1) := by decide +kernel
theorem d_33_125 : decode cX2_multiply 125 = .ok (.getfield 23, 3) := by decide +kernel
theorem d_33_128 : decode cX2_multiply 128 = .ok (.lmul, 1) := by decide +kernel
theorem d_33_129 : decode cX2_multiply 129 = .ok (.ladd, 1) := by decide +kernel
theorem d_33_130 : decode cX2_multiply 130 = .ok (.lstore 7, 2) := by decide +kernel
theorem d_33_132 : decode cX2_multiply 132 = .ok (.aload_n 0, 1) := by decide +kernel
theorem d_33_133 : decode cX2_multiply 133 = .ok (.lload 7, 2) := by decide +kernel
theorem d_33_135 : decode cX2_multiply 135 = .ok (.bipush 8, 2) := by decide +kernel
theorem d_33_137 : decode cX2_multiply 137 = .ok (.invokestatic 89, 3) := by decide +kernel
theorem d_33_140 : decode cX2_multiply 140 = .ok (.lload 5, 2) := by decide +kernel
theorem d_33_142 : decode cX2_multiply 142 = .ok (.ladd, 1) := by decide +kernel
theorem d_33_143 : decode cX2_multiply 143 = .ok (.putfield 19, 3) := by decide +kernel
theorem d_33_146 : decode cX2_multiply 146 = .ok (.aload_n 1, 1) := by decide +kernel
theorem d_33_147 : decode cX2_multiply 147 = .ok (.getfield 35, 3) := by decide +kernel
theorem d_33_150 : decode cX2_multiply 150 = .ok (.aload_n 2, 1) := by decide +kernel
theorem d_33_151 : decode cX2_multiply 151 = .ok (.getfield 35, 3) := by decide +kernel
theorem d_33_154 : decode cX2_multiply 154 = .ok (.lmul, 1) := by decide +kernel
theorem d_33_155 : decode cX2_multiply 155 = .ok (.lstore 9, 2) := by decide +kernel
theorem d_33_157 : decode cX2_multiply 157 = .ok (.aload_n 1, 1) := by decide +kernel
theorem d_33_158 : decode cX2_multiply 158 = .ok (.getfield 35, 3) := by decide +kernel
theorem d_33_161 : decode cX2_multiply 161 = .ok (.aload_n 2, 1) := by decide +kernel
theorem d_33_162 : decode cX2_multiply 162 = .ok (.getfield 45, 3) := by decide +kernel
theorem d_33_165 : decode cX2_multiply 165 = .ok (.lmul, 1) := by decide +kernel
theorem d_33_166 : decode cX2_multiply 166 = .ok (.lstore 11, 2) := by decide +kernel
theorem d_33_168 : decode cX2_multiply 168 = .ok (.aload_n 1, 1) := by decide +kernel
theorem d_33_169 : decode cX2_multiply 169 = .ok (.getfield 45, 3) := by decide +kernel
theorem d_33_172 : decode cX2_multiply 172 = .ok (.aload_n 2, 1) := by decide +kernel
theorem d_33_173 : decode cX2_multiply 173 = .ok (.getfield 35, 3) := by decide +kernel
theorem d_33_176 : decode cX2_multiply 176 = .ok (.lmul, 1) := by decide +kernel
theorem d_33_177 : decode cX2_multiply 177 = .ok (.lstore 13, 2) := by decide +kernel
theorem d_33_179 : decode cX2_multiply 179 = .ok (.aload_n 1, 1) := by decide +kernel
theorem d_33_180 : decode cX2_multiply 180 = .ok (.getfield 45, 3) := by decide +kernel
theorem d_33_183 : decode cX2_multiply 183 = .ok (.aload_n 2, 1) := by decide +kernel
theorem d_33_184 : decode cX2_multiply 184 = .ok (.getfield 45, 3) := by decide +kernel
theorem d_33_187 : decode cX2_multiply 187 = .ok (.lmul, 1) := by decide +kernel
theorem d_33_188 : decode cX2_multiply 188 = .ok (.lstore 15, 2) := by decide +kernel
theorem d_33_190 : decode cX2_multiply 190 = .ok (.aload_n 0, 1) := by decide +kernel
theorem d_33_191 : decode cX2_multiply 191 = .ok (.lload 9, 2) := by decide +kernel
theorem d_33_193 : decode cX2_multiply 193 = .ok (.lload 11, 2) := by decide +kernel
theorem d_33_195 : decode cX2_multiply 195 = .ok (.invokestatic 48, 3) := by decide +kernel
theorem d_33_198 : decode cX2_multiply 198 = .ok (.lload 13, 2) := by decide +kernel
theorem d_33_200 : decode cX2_multiply 200 = .ok (.lload 15, 2) := by decide +kernel
theorem d_33_202 : decode cX2_multiply 202 = .ok (.invokestatic 48, 3) := by decide +kernel
theorem d_33_205 : decode cX2_multiply 205 = .ok (.invokestatic 48, 3) := by decide +kernel
theorem d_33_208 : decode cX2_multiply 208 = .ok (.bipush 8, 2) := by decide +kernel
theorem d_33_210 : decode cX2_multiply 210 = .ok (.lshr, 1) := by decide +kernel
theorem d_33_211 : decode cX2_multiply 211 = .ok (.putfield 35, 3) := by decide +kernel
theorem d_33_214 : decode cX2_multiply 214 = .ok (.aload_n 0, 1) := by decide +kernel
theorem d_33_215 : decode cX2_multiply 215 = .ok (.lload 9, 2) := by decide +kernel
theorem d_33_217 : decode cX2_multiply 217 = .ok (.lload 11, 2) := by decide +kernel
theorem d_33_219 : decode cX2_multiply 219 = .ok (.invokestatic 38, 3) := by decide +kernel
theorem d_33_222 : decode cX2_multiply 222 = .ok (.lload 13, 2) := by decide +kernel
theorem d_33_224 : decode cX2_multiply 224 = .ok (.lload 15, 2) := by decide +kernel
theorem d_33_226 : decode cX2_multiply 226 = .ok (.invokestatic 38, 3) := by decide +kernel
theorem d_33_229 : decode cX2_multiply 229 = .ok (.invokestatic 38, 3) := by decide +kernel
theorem d_33_232 : decode cX2_multiply 232 = .ok (.bipush 8, 2) := by decide +kernel
theorem d_33_234 : decode cX2_multiply 234 = .ok (.invokestatic 89, 3) := by decide +kernel
theorem d_33_237 : decode cX2_multiply 237 = .ok (.putfield 45, 3) := by decide +kernel
theorem d_33_240 : decode cX2_multiply 240 = .ok (.return_, 1) := by decide +kernel
theorem q_33_0r : zRun 33 0 [l0, some (.ref o), l2, l3, l4, l5, l6, l7, l8, l9, l10, l11, l12, l13, l14, l15, l16] S sh mi mj mr = zRun 33 1 [l0, some (.ref o), l2, l3, l4, l5, l6, l7, l8, l9, l10, l11, l12, l13, l14, l15, l16] (.ref o :: S) sh mi mj mr := zr_l (zD_of zk_33 d_33_0 rfl rfl) rfl rfl rfl
theorem q_33_0n : zRun 33 0 [l0, some (.null), l2, l3, l4, l5, l6, l7, l8, l9, l10, l11, l12, l13, l14, l15, l16] S sh mi mj mr = zRun 33 1 [l0, some (.null), l2, l3, l4, l5, l6, l7, l8, l9, l10, l11, l12, l13, l14, l15, l16] (.null :: S) sh mi mj mr := zr_l (zD_of zk_33 d_33_0 rfl rfl) rfl rfl rfl
theorem q_33_1 (h : zIs sh o 0 2) : zRun 33 1 L (.ref o :: S) sh mi mj mr = zRun 33 4 L (.long (mj o 1) :: S) sh mi mj mr := zr_getJ (zD_of zk_33 d_33_1 rfl rfl) rfl rfl rfl h
theorem q_33_4r : zRun 33 4 [l0, l1, some (.ref o), l3, l4, l5, l6, l7, l8, l9, l10, l11, l12, l13, l14, l15, l16] S sh mi mj mr = zRun 33 5 [l0, l1, some (.ref o), l3, l4, l5, l6, l7, l8, l9, l10, l11, l12, l13, l14, l15, l16] (.ref o :: S) sh mi mj mr := zr_l (zD_of zk_33 d_33_4 rfl rfl) rfl rfl rfl
theorem q_33_4n : zRun 33 4 [l0, l1, some (.null), l3, l4, l5, l6, l7, l8, l9, l10, l11, l12, l13, l14, l15, l16] S sh mi mj mr = zRun 33 5 [l0, l1, some (.null), l3, l4, l5, l6, l7, l8, l9, l10, l11, l12, l13, l14, l15, l16] (.null :: S) sh mi mj mr := zr_l (zD_of zk_33 d_33_4 rfl rfl) rfl rfl rfl
theorem q_33_5 (h : zIs sh o 0 2) : zRun 33 5 L (.ref o :: S) sh mi mj mr = zRun 33 8 L (.long (mj o 1) :: S) sh mi mj mr := zr_getJ (zD_of zk_33 d_33_5 rfl rfl) rfl rfl rfl h
theorem q_33_8  : zRun 33 8 L (.long v :: .long u :: S) sh mi mj mr = zRun 33 9 L (.long (u * v) :: S) sh mi mj mr := zr_p (zD_of zk_33 d_33_8 rfl rfl) rfl
theorem q_33_9 : zRun 33 9 [l0, l1, l2, l3, l4, l5, l6, l7, l8, l9, l10, l11, l12, l13, l14, l15, l16] (.long u :: S) sh mi mj mr = zRun 33 10 [l0, l1, zk2 l2, some (.long u), none, l5, l6, l7, l8, l9, l10, l11, l12, l13, l14, l15, l16] S sh mi mj mr := zr_s2 (i := 3) (v := .long u) (L := [l0, l1, l2, l3, l4, l5, l6, l7, l8, l9, l10, l11, l12, l13, l14, l15, l16]) (zD_of zk_33 d_33_9 rfl rfl) rfl rfl rfl rfl
theorem q_33_10r : zRun 33 10 [some (.ref o), l1, l2, l3, l4, l5, l6, l7, l8, l9, l10, l11, l12, l13, l14, l15, l16] S sh mi mj mr = zRun 33 11 [some (.ref o), l1, l2, l3, l4, l5, l6, l7, l8, l9, l10, l11, l12, l13, l14, l15, l16] (.ref o :: S) sh mi mj mr := zr_l (zD_of zk_33 d_33_10 rfl rfl) rfl rfl rfl
theorem q_33_10n : zRun 33 10 [some (.null), l1, l2, l3, l4, l5, l6, l7, l8, l9, l10, l11, l12, l13, l14, l15, l16] S sh mi mj mr = zRun 33 11 [some (.null), l1, l2, l3, l4, l5, l6, l7, l8, l9, l10, l11, l12, l13, l14, l15, l16] (.null :: S) sh mi mj mr := zr_l (zD_of zk_33 d_33_10 rfl rfl) rfl rfl rfl
theorem q_33_11 : zRun 33 11 [l0, l1, l2, some (.long u), l4, l5, l6, l7, l8, l9, l10, l11, l12, l13, l14, l15, l16] S sh mi mj mr = zRun 33 12 [l0, l1, l2, some (.long u), l4, l5, l6, l7, l8, l9, l10, l11, l12, l13, l14, l15, l16] (.long u :: S) sh mi mj mr := zr_l (zD_of zk_33 d_33_11 rfl rfl) rfl rfl rfl
theorem q_33_12  : zRun 33 12 L S sh mi mj mr = zRun 33 14 L (.int 8 :: S) sh mi mj mr := zr_p (zD_of zk_33 d_33_12 rfl rfl) rfl
theorem q_33_14  : zRun 33 14 L (.int y :: .long u :: S) sh mi mj mr = zRun 33 15 L (.long (u >>> (y.toInt64 &&& 63)) :: S) sh mi mj mr := zr_p (zD_of zk_33 d_33_14 rfl rfl) rfl
theorem q_33_15 (h : zIs sh o 0 2) : zRun 33 15 L (.long u :: .ref o :: S) sh mi mj mr = zRun 33 18 L S sh mi (zup mj o 1 u) mr := zr_putJ (zD_of zk_33 d_33_15 rfl rfl) rfl rfl rfl (Or.inl rfl) h
theorem q_33_18 : zRun 33 18 [l0, l1, l2, some (.long u), l4, l5, l6, l7, l8, l9, l10, l11, l12, l13, l14, l15, l16] S sh mi mj mr = zRun 33 19 [l0, l1, l2, some (.long u), l4, l5, l6, l7, l8, l9, l10, l11, l12, l13, l14, l15, l16] (.long u :: S) sh mi mj mr := zr_l (zD_of zk_33 d_33_18 rfl rfl) rfl rfl rfl
theorem q_33_19  : zRun 33 19 L S sh mi mj mr = zRun 33 21 L (.int 8 :: S) sh mi mj mr := zr_p (zD_of zk_33 d_33_19 rfl rfl) rfl
theorem q_33_21  {x0 : Int32} {u0 : Int64} (hS : zcat S ≤ 8) : zRun 33 21 L (.int x0 :: .long u0 :: S) sh mi mj mr = (zCall 41 [.long u0, .int x0] sh mi mj mr).bind fun r => zRun 33 24 L (r.1.toList ++ S) r.2.1 r.2.2.1 r.2.2.2.1 r.2.2.2.2 := zr_S (zD_of zk_33 d_33_21 rfl rfl) rfl zk_41 rfl rfl rfl hS
theorem q_33_24  : zRun 33 24 L (.int x :: S) sh mi mj mr = zRun 33 25 L (.long x.toInt64 :: S) sh mi mj mr := zr_p (zD_of zk_33 d_33_24 rfl rfl) rfl
theorem q_33_25 : zRun 33 25 [l0, l1, l2, l3, l4, l5, l6, l7, l8, l9, l10, l11, l12, l13, l14, l15, l16] (.long u :: S) sh mi mj mr = zRun 33 27 [l0, l1, l2, l3, zk2 l4, some (.long u), none, l7, l8, l9, l10, l11, l12, l13, l14, l15, l16] S sh mi mj mr := zr_s2 (i := 5) (v := .long u) (L := [l0, l1, l2, l3, l4, l5, l6, l7, l8, l9, l10, l11, l12, l13, l14, l15, l16]) (zD_of zk_33 d_33_25 rfl rfl) rfl rfl rfl rfl
theorem q_33_27  : zRun 33 27 L S sh mi mj mr = zRun 33 28 L (.int 0 :: S) sh mi mj mr := zr_p (zD_of zk_33 d_33_27 rfl rfl) rfl
theorem q_33_28 : zRun 33 28 [l0, l1, l2, l3, l4, l5, l6, l7, l8, l9, l10, l11, l12, l13, l14, l15, l16] (.int x :: S) sh mi mj mr = zRun 33 30 [l0, l1, l2, l3, l4, l5, zk2 l6, some (.int x), l8, l9, l10, l11, l12, l13, l14, l15, l16] S sh mi mj mr := zr_s1 (i := 7) (v := .int x) (L := [l0, l1, l2, l3, l4, l5, l6, l7, l8, l9, l10, l11, l12, l13, l14, l15, l16]) (zD_of zk_33 d_33_28 rfl rfl) rfl rfl rfl rfl
theorem q_33_30 : zRun 33 30 [l0, l1, l2, l3, l4, l5, l6, some (.int x), l8, l9, l10, l11, l12, l13, l14, l15, l16] S sh mi mj mr = zRun 33 32 [l0, l1, l2, l3, l4, l5, l6, some (.int x), l8, l9, l10, l11, l12, l13, l14, l15, l16] (.int x :: S) sh mi mj mr := zr_l (zD_of zk_33 d_33_30 rfl rfl) rfl rfl rfl
theorem q_33_32  : zRun 33 32 L S sh mi mj mr = zRun 33 34 L (.int 12 :: S) sh mi mj mr := zr_p (zD_of zk_33 d_33_32 rfl rfl) rfl
theorem q_33_34  : zRun 33 34 L (.int y :: .int x :: S) sh mi mj mr = if y ≤ x then zRun 33 95 L S sh mi mj mr else zRun 33 37 L S sh mi mj mr := zr_if (off := 61) (P := y ≤ x) (zD_of zk_33 d_33_34 rfl rfl) rfl rfl (by decide)
theorem q_33_37r : zRun 33 37 [l0, some (.ref o), l2, l3, l4, l5, l6, l7, l8, l9, l10, l11, l12, l13, l14, l15, l16] S sh mi mj mr = zRun 33 38 [l0, some (.ref o), l2, l3, l4, l5, l6, l7, l8, l9, l10, l11, l12, l13, l14, l15, l16] (.ref o :: S) sh mi mj mr := zr_l (zD_of zk_33 d_33_37 rfl rfl) rfl rfl rfl
theorem q_33_37n : zRun 33 37 [l0, some (.null), l2, l3, l4, l5, l6, l7, l8, l9, l10, l11, l12, l13, l14, l15, l16] S sh mi mj mr = zRun 33 38 [l0, some (.null), l2, l3, l4, l5, l6, l7, l8, l9, l10, l11, l12, l13, l14, l15, l16] (.null :: S) sh mi mj mr := zr_l (zD_of zk_33 d_33_37 rfl rfl) rfl rfl rfl
theorem q_33_38 (h : zIs sh o 0 2) : zRun 33 38 L (.ref o :: S) sh mi mj mr = zRun 33 41 L (.long (mj o 1) :: S) sh mi mj mr := zr_getJ (zD_of zk_33 d_33_38 rfl rfl) rfl rfl rfl h
theorem q_33_41r : zRun 33 41 [l0, l1, some (.ref o), l3, l4, l5, l6, l7, l8, l9, l10, l11, l12, l13, l14, l15, l16] S sh mi mj mr = zRun 33 42 [l0, l1, some (.ref o), l3, l4, l5, l6, l7, l8, l9, l10, l11, l12, l13, l14, l15, l16] (.ref o :: S) sh mi mj mr := zr_l (zD_of zk_33 d_33_41 rfl rfl) rfl rfl rfl
theorem q_33_41n : zRun 33 41 [l0, l1, some (.null), l3, l4, l5, l6, l7, l8, l9, l10, l11, l12, l13, l14, l15, l16] S sh mi mj mr = zRun 33 42 [l0, l1, some (.null), l3, l4, l5, l6, l7, l8, l9, l10, l11, l12, l13, l14, l15, l16] (.null :: S) sh mi mj mr := zr_l (zD_of zk_33 d_33_41 rfl rfl) rfl rfl rfl
theorem q_33_42 (h : zIs sh o 0 2) : zRun 33 42 L (.ref o :: S) sh mi mj mr = zRun 33 45 L (va_rf (mr o 5) :: S) sh mi mj mr := zr_getR (zD_of zk_33 d_33_42 rfl rfl) rfl rfl rfl h
theorem q_33_45 : zRun 33 45 [l0, l1, l2, l3, l4, l5, l6, some (.int x), l8, l9, l10, l11, l12, l13, l14, l15, l16] S sh mi mj mr = zRun 33 47 [l0, l1, l2, l3, l4, l5, l6, some (.int x), l8, l9, l10, l11, l12, l13, l14, l15, l16] (.int x :: S) sh mi mj mr := zr_l (zD_of zk_33 d_33_45 rfl rfl) rfl rfl rfl
theorem q_33_47 (h : zAt sh o 2 x) : zRun 33 47 L (.int x :: .ref o :: S) sh mi mj mr = zRun 33 48 L (.long (mj o x.toNatClampNeg) :: S) sh mi mj mr := zr_lald (zD_of zk_33 d_33_47 rfl rfl) h
theorem q_33_48  : zRun 33 48 L (.long v :: .long u :: S) sh mi mj mr = zRun 33 49 L (.long (u * v) :: S) sh mi mj mr := zr_p (zD_of zk_33 d_33_48 rfl rfl) rfl
theorem q_33_49r : zRun 33 49 [l0, l1, some (.ref o), l3, l4, l5, l6, l7, l8, l9, l10, l11, l12, l13, l14, l15, l16] S sh mi mj mr = zRun 33 50 [l0, l1, some (.ref o), l3, l4, l5, l6, l7, l8, l9, l10, l11, l12, l13, l14, l15, l16] (.ref o :: S) sh mi mj mr := zr_l (zD_of zk_33 d_33_49 rfl rfl) rfl rfl rfl
theorem q_33_49n : zRun 33 49 [l0, l1, some (.null), l3, l4, l5, l6, l7, l8, l9, l10, l11, l12, l13, l14, l15, l16] S sh mi mj mr = zRun 33 50 [l0, l1, some (.null), l3, l4, l5, l6, l7, l8, l9, l10, l11, l12, l13, l14, l15, l16] (.null :: S) sh mi mj mr := zr_l (zD_of zk_33 d_33_49 rfl rfl) rfl rfl rfl
theorem q_33_50 (h : zIs sh o 0 2) : zRun 33 50 L (.ref o :: S) sh mi mj mr = zRun 33 53 L (.long (mj o 1) :: S) sh mi mj mr := zr_getJ (zD_of zk_33 d_33_50 rfl rfl) rfl rfl rfl h
theorem q_33_53r : zRun 33 53 [l0, some (.ref o), l2, l3, l4, l5, l6, l7, l8, l9, l10, l11, l12, l13, l14, l15, l16] S sh mi mj mr = zRun 33 54 [l0, some (.ref o), l2, l3, l4, l5, l6, l7, l8, l9, l10, l11, l12, l13, l14, l15, l16] (.ref o :: S) sh mi mj mr := zr_l (zD_of zk_33 d_33_53 rfl rfl) rfl rfl rfl
theorem q_33_53n : zRun 33 53 [l0, some (.null), l2, l3, l4, l5, l6, l7, l8, l9, l10, l11, l12, l13, l14, l15, l16] S sh mi mj mr = zRun 33 54 [l0, some (.null), l2, l3, l4, l5, l6, l7, l8, l9, l10, l11, l12, l13, l14, l15, l16] (.null :: S) sh mi mj mr := zr_l (zD_of zk_33 d_33_53 rfl rfl) rfl rfl rfl
theorem q_33_54 (h : zIs sh o 0 2) : zRun 33 54 L (.ref o :: S) sh mi mj mr = zRun 33 57 L (va_rf (mr o 5) :: S) sh mi mj mr := zr_getR (zD_of zk_33 d_33_54 rfl rfl) rfl rfl rfl h
theorem q_33_57 : zRun 33 57 [l0, l1, l2, l3, l4, l5, l6, some (.int x), l8, l9, l10, l11, l12, l13, l14, l15, l16] S sh mi mj mr = zRun 33 59 [l0, l1, l2, l3, l4, l5, l6, some (.int x), l8, l9, l10, l11, l12, l13, l14, l15, l16] (.int x :: S) sh mi mj mr := zr_l (zD_of zk_33 d_33_57 rfl rfl) rfl rfl rfl
theorem q_33_59 (h : zAt sh o 2 x) : zRun 33 59 L (.int x :: .ref o :: S) sh mi mj mr = zRun 33 60 L (.long (mj o x.toNatClampNeg) :: S) sh mi mj mr := zr_lald (zD_of zk_33 d_33_59 rfl rfl) h
theorem q_33_60  : zRun 33 60 L (.long v :: .long u :: S) sh mi mj mr = zRun 33 61 L (.long (u * v) :: S) sh mi mj mr := zr_p (zD_of zk_33 d_33_60 rfl rfl) rfl
theorem q_33_61  : zRun 33 61 L (.long v :: .long u :: S) sh mi mj mr = zRun 33 62 L (.long (u + v) :: S) sh mi mj mr := zr_p (zD_of zk_33 d_33_61 rfl rfl) rfl
theorem q_33_62 : zRun 33 62 [l0, l1, l2, l3, l4, l5, l6, l7, l8, l9, l10, l11, l12, l13, l14, l15, l16] (.long u :: S) sh mi mj mr = zRun 33 64 [l0, l1, l2, l3, l4, l5, l6, zk2 l7, some (.long u), none, l10, l11, l12, l13, l14, l15, l16] S sh mi mj mr := zr_s2 (i := 8) (v := .long u) (L := [l0, l1, l2, l3, l4, l5, l6, l7, l8, l9, l10, l11, l12, l13, l14, l15, l16]) (zD_of zk_33 d_33_62 rfl rfl) rfl rfl rfl rfl
theorem q_33_64r : zRun 33 64 [some (.ref o), l1, l2, l3, l4, l5, l6, l7, l8, l9, l10, l11, l12, l13, l14, l15, l16] S sh mi mj mr = zRun 33 65 [some (.ref o), l1, l2, l3, l4, l5, l6, l7, l8, l9, l10, l11, l12, l13, l14, l15, l16] (.ref o :: S) sh mi mj mr := zr_l (zD_of zk_33 d_33_64 rfl rfl) rfl rfl rfl
theorem q_33_64n : zRun 33 64 [some (.null), l1, l2, l3, l4, l5, l6, l7, l8, l9, l10, l11, l12, l13, l14, l15, l16] S sh mi mj mr = zRun 33 65 [some (.null), l1, l2, l3, l4, l5, l6, l7, l8, l9, l10, l11, l12, l13, l14, l15, l16] (.null :: S) sh mi mj mr := zr_l (zD_of zk_33 d_33_64 rfl rfl) rfl rfl rfl
theorem q_33_65 (h : zIs sh o 0 2) : zRun 33 65 L (.ref o :: S) sh mi mj mr = zRun 33 68 L (va_rf (mr o 5) :: S) sh mi mj mr := zr_getR (zD_of zk_33 d_33_65 rfl rfl) rfl rfl rfl h
theorem q_33_68 : zRun 33 68 [l0, l1, l2, l3, l4, l5, l6, some (.int x), l8, l9, l10, l11, l12, l13, l14, l15, l16] S sh mi mj mr = zRun 33 70 [l0, l1, l2, l3, l4, l5, l6, some (.int x), l8, l9, l10, l11, l12, l13, l14, l15, l16] (.int x :: S) sh mi mj mr := zr_l (zD_of zk_33 d_33_68 rfl rfl) rfl rfl rfl
theorem q_33_70 : zRun 33 70 [l0, l1, l2, l3, l4, l5, l6, l7, some (.long u), l9, l10, l11, l12, l13, l14, l15, l16] S sh mi mj mr = zRun 33 72 [l0, l1, l2, l3, l4, l5, l6, l7, some (.long u), l9, l10, l11, l12, l13, l14, l15, l16] (.long u :: S) sh mi mj mr := zr_l (zD_of zk_33 d_33_70 rfl rfl) rfl rfl rfl
theorem q_33_72  : zRun 33 72 L S sh mi mj mr = zRun 33 74 L (.int 8 :: S) sh mi mj mr := zr_p (zD_of zk_33 d_33_72 rfl rfl) rfl
theorem q_33_74  : zRun 33 74 L (.int y :: .long u :: S) sh mi mj mr = zRun 33 75 L (.long (u >>> (y.toInt64 &&& 63)) :: S) sh mi mj mr := zr_p (zD_of zk_33 d_33_74 rfl rfl) rfl
theorem q_33_75 (h : zAt sh o 2 x) : zRun 33 75 L (.long u :: .int x :: .ref o :: S) sh mi mj mr = zRun 33 76 L S sh mi (zup mj o x.toNatClampNeg u) mr := zr_last (zD_of zk_33 d_33_75 rfl rfl) h
theorem q_33_76 : zRun 33 76 [l0, l1, l2, l3, l4, some (.long u), l6, l7, l8, l9, l10, l11, l12, l13, l14, l15, l16] S sh mi mj mr = zRun 33 78 [l0, l1, l2, l3, l4, some (.long u), l6, l7, l8, l9, l10, l11, l12, l13, l14, l15, l16] (.long u :: S) sh mi mj mr := zr_l (zD_of zk_33 d_33_76 rfl rfl) rfl rfl rfl
theorem q_33_78 : zRun 33 78 [l0, l1, l2, l3, l4, l5, l6, l7, some (.long u), l9, l10, l11, l12, l13, l14, l15, l16] S sh mi mj mr = zRun 33 80 [l0, l1, l2, l3, l4, l5, l6, l7, some (.long u), l9, l10, l11, l12, l13, l14, l15, l16] (.long u :: S) sh mi mj mr := zr_l (zD_of zk_33 d_33_78 rfl rfl) rfl rfl rfl
theorem q_33_80  : zRun 33 80 L S sh mi mj mr = zRun 33 82 L (.int 8 :: S) sh mi mj mr := zr_p (zD_of zk_33 d_33_80 rfl rfl) rfl
theorem q_33_82  {x0 : Int32} {u0 : Int64} (hS : zcat S ≤ 8) : zRun 33 82 L (.int x0 :: .long u0 :: S) sh mi mj mr = (zCall 41 [.long u0, .int x0] sh mi mj mr).bind fun r => zRun 33 85 L (r.1.toList ++ S) r.2.1 r.2.2.1 r.2.2.2.1 r.2.2.2.2 := zr_S (zD_of zk_33 d_33_82 rfl rfl) rfl zk_41 rfl rfl rfl hS
theorem q_33_85  : zRun 33 85 L (.int x :: S) sh mi mj mr = zRun 33 86 L (.long x.toInt64 :: S) sh mi mj mr := zr_p (zD_of zk_33 d_33_85 rfl rfl) rfl
theorem q_33_86  : zRun 33 86 L (.long v :: .long u :: S) sh mi mj mr = zRun 33 87 L (.long (u + v) :: S) sh mi mj mr := zr_p (zD_of zk_33 d_33_86 rfl rfl) rfl
theorem q_33_87 : zRun 33 87 [l0, l1, l2, l3, l4, l5, l6, l7, l8, l9, l10, l11, l12, l13, l14, l15, l16] (.long u :: S) sh mi mj mr = zRun 33 89 [l0, l1, l2, l3, zk2 l4, some (.long u), none, l7, l8, l9, l10, l11, l12, l13, l14, l15, l16] S sh mi mj mr := zr_s2 (i := 5) (v := .long u) (L := [l0, l1, l2, l3, l4, l5, l6, l7, l8, l9, l10, l11, l12, l13, l14, l15, l16]) (zD_of zk_33 d_33_87 rfl rfl) rfl rfl rfl rfl
theorem q_33_89  : zRun 33 89 [l0, l1, l2, l3, l4, l5, l6, some (.int x), l8, l9, l10, l11, l12, l13, l14, l15, l16] S sh mi mj mr = zRun 33 92 [l0, l1, l2, l3, l4, l5, zk2 l6, some (.int (x + 1)), l8, l9, l10, l11, l12, l13, l14, l15, l16] S sh mi mj mr := zr_s1 (i := 7) (v := .int (x + 1)) (L := [l0, l1, l2, l3, l4, l5, l6, some (.int x), l8, l9, l10, l11, l12, l13, l14, l15, l16]) (zD_of zk_33 d_33_89 rfl rfl) rfl rfl rfl rfl
theorem q_33_92  : zRun 33 92 L S sh mi mj mr = zRun 33 30 L S sh mi mj mr := zr_go (off := (-62)) (zD_of zk_33 d_33_92 rfl rfl) rfl rfl (by decide)
theorem q_33_95r : zRun 33 95 [l0, some (.ref o), l2, l3, l4, l5, l6, l7, l8, l9, l10, l11, l12, l13, l14, l15, l16] S sh mi mj mr = zRun 33 96 [l0, some (.ref o), l2, l3, l4, l5, l6, l7, l8, l9, l10, l11, l12, l13, l14, l15, l16] (.ref o :: S) sh mi mj mr := zr_l (zD_of zk_33 d_33_95 rfl rfl) rfl rfl rfl
theorem q_33_95n : zRun 33 95 [l0, some (.null), l2, l3, l4, l5, l6, l7, l8, l9, l10, l11, l12, l13, l14, l15, l16] S sh mi mj mr = zRun 33 96 [l0, some (.null), l2, l3, l4, l5, l6, l7, l8, l9, l10, l11, l12, l13, l14, l15, l16] (.null :: S) sh mi mj mr := zr_l (zD_of zk_33 d_33_95 rfl rfl) rfl rfl rfl
theorem q_33_96 (h : zIs sh o 0 2) : zRun 33 96 L (.ref o :: S) sh mi mj mr = zRun 33 99 L (.long (mj o 1) :: S) sh mi mj mr := zr_getJ (zD_of zk_33 d_33_96 rfl rfl) rfl rfl rfl h
theorem q_33_99  {u0 : Int64} (hS : zcat S ≤ 8) : zRun 33 99 L (.long u0 :: S) sh mi mj mr = (zCall 111 [.long u0] sh mi mj mr).bind fun r => zRun 33 102 L (r.1.toList ++ S) r.2.1 r.2.2.1 r.2.2.2.1 r.2.2.2.2 := zr_S (zD_of zk_33 d_33_99 rfl rfl) rfl zk_111 rfl rfl rfl hS
theorem q_33_102r : zRun 33 102 [l0, l1, some (.ref o), l3, l4, l5, l6, l7, l8, l9, l10, l11, l12, l13, l14, l15, l16] S sh mi mj mr = zRun 33 103 [l0, l1, some (.ref o), l3, l4, l5, l6, l7, l8, l9, l10, l11, l12, l13, l14, l15, l16] (.ref o :: S) sh mi mj mr := zr_l (zD_of zk_33 d_33_102 rfl rfl) rfl rfl rfl
theorem q_33_102n : zRun 33 102 [l0, l1, some (.null), l3, l4, l5, l6, l7, l8, l9, l10, l11, l12, l13, l14, l15, l16] S sh mi mj mr = zRun 33 103 [l0, l1, some (.null), l3, l4, l5, l6, l7, l8, l9, l10, l11, l12, l13, l14, l15, l16] (.null :: S) sh mi mj mr := zr_l (zD_of zk_33 d_33_102 rfl rfl) rfl rfl rfl
theorem q_33_103 (h : zIs sh o 0 2) : zRun 33 103 L (.ref o :: S) sh mi mj mr = zRun 33 106 L (.long (mj o 2) :: S) sh mi mj mr := zr_getJ (zD_of zk_33 d_33_103 rfl rfl) rfl rfl rfl h
theorem q_33_106  : zRun 33 106 L (.long v :: .long u :: S) sh mi mj mr = zRun 33 107 L (.long (u * v) :: S) sh mi mj mr := zr_p (zD_of zk_33 d_33_106 rfl rfl) rfl
theorem q_33_107r : zRun 33 107 [l0, l1, some (.ref o), l3, l4, l5, l6, l7, l8, l9, l10, l11, l12, l13, l14, l15, l16] S sh mi mj mr = zRun 33 108 [l0, l1, some (.ref o), l3, l4, l5, l6, l7, l8, l9, l10, l11, l12, l13, l14, l15, l16] (.ref o :: S) sh mi mj mr := zr_l (zD_of zk_33 d_33_107 rfl rfl) rfl rfl rfl
theorem q_33_107n : zRun 33 107 [l0, l1, some (.null), l3, l4, l5, l6, l7, l8, l9, l10, l11, l12, l13, l14, l15, l16] S sh mi mj mr = zRun 33 108 [l0, l1, some (.null), l3, l4, l5, l6, l7, l8, l9, l10, l11, l12, l13, l14, l15, l16] (.null :: S) sh mi mj mr := zr_l (zD_of zk_33 d_33_107 rfl rfl) rfl rfl rfl
theorem q_33_108 (h : zIs sh o 0 2) : zRun 33 108 L (.ref o :: S) sh mi mj mr = zRun 33 111 L (.long (mj o 1) :: S) sh mi mj mr := zr_getJ (zD_of zk_33 d_33_108 rfl rfl) rfl rfl rfl h
theorem q_33_111  {u0 : Int64} (hS : zcat S ≤ 8) : zRun 33 111 L (.long u0 :: S) sh mi mj mr = (zCall 111 [.long u0] sh mi mj mr).bind fun r => zRun 33 114 L (r.1.toList ++ S) r.2.1 r.2.2.1 r.2.2.2.1 r.2.2.2.2 := zr_S (zD_of zk_33 d_33_111 rfl rfl) rfl zk_111 rfl rfl rfl hS
theorem q_33_114r : zRun 33 114 [l0, some (.ref o), l2, l3, l4, l5, l6, l7, l8, l9, l10, l11, l12, l13, l14, l15, l16] S sh mi mj mr = zRun 33 115 [l0, some (.ref o), l2, l3, l4, l5, l6, l7, l8, l9, l10, l11, l12, l13, l14, l15, l16] (.ref o :: S) sh mi mj mr := zr_l (zD_of zk_33 d_33_114 rfl rfl) rfl rfl rfl
theorem q_33_114n : zRun 33 114 [l0, some (.null), l2, l3, l4, l5, l6, l7, l8, l9, l10, l11, l12, l13, l14, l15, l16] S sh mi mj mr = zRun 33 115 [l0, some (.null), l2, l3, l4, l5, l6, l7, l8, l9, l10, l11, l12, l13, l14, l15, l16] (.null :: S) sh mi mj mr := zr_l (zD_of zk_33 d_33_114 rfl rfl) rfl rfl rfl
theorem q_33_115 (h : zIs sh o 0 2) : zRun 33 115 L (.ref o :: S) sh mi mj mr = zRun 33 118 L (.long (mj o 2) :: S) sh mi mj mr := zr_getJ (zD_of zk_33 d_33_115 rfl rfl) rfl rfl rfl h
theorem q_33_118  : zRun 33 118 L (.long v :: .long u :: S) sh mi mj mr = zRun 33 119 L (.long (u * v) :: S) sh mi mj mr := zr_p (zD_of zk_33 d_33_118 rfl rfl) rfl
theorem q_33_119  : zRun 33 119 L (.long v :: .long u :: S) sh mi mj mr = zRun 33 120 L (.long (u + v) :: S) sh mi mj mr := zr_p (zD_of zk_33 d_33_119 rfl rfl) rfl
theorem q_33_120r : zRun 33 120 [l0, some (.ref o), l2, l3, l4, l5, l6, l7, l8, l9, l10, l11, l12, l13, l14, l15, l16] S sh mi mj mr = zRun 33 121 [l0, some (.ref o), l2, l3, l4, l5, l6, l7, l8, l9, l10, l11, l12, l13, l14, l15, l16] (.ref o :: S) sh mi mj mr := zr_l (zD_of zk_33 d_33_120 rfl rfl) rfl rfl rfl
theorem q_33_120n : zRun 33 120 [l0, some (.null), l2, l3, l4, l5, l6, l7, l8, l9, l10, l11, l12, l13, l14, l15, l16] S sh mi mj mr = zRun 33 121 [l0, some (.null), l2, l3, l4, l5, l6, l7, l8, l9, l10, l11, l12, l13, l14, l15, l16] (.null :: S) sh mi mj mr := zr_l (zD_of zk_33 d_33_120 rfl rfl) rfl rfl rfl
theorem q_33_121 (h : zIs sh o 0 2) : zRun 33 121 L (.ref o :: S) sh mi mj mr = zRun 33 124 L (.long (mj o 6) :: S) sh mi mj mr := zr_getJ (zD_of zk_33 d_33_121 rfl rfl) rfl rfl rfl h
theorem q_33_124r : zRun 33 124 [l0, l1, some (.ref o), l3, l4, l5, l6, l7, l8, l9, l10, l11, l12, l13, l14, l15, l16] S sh mi mj mr = zRun 33 125 [l0, l1, some (.ref o), l3, l4, l5, l6, l7, l8, l9, l10, l11, l12, l13, l14, l15, l16] (.ref o :: S) sh mi mj mr := zr_l (zD_of zk_33 d_33_124 rfl rfl) rfl rfl rfl
theorem q_33_124n : zRun 33 124 [l0, l1, some (.null), l3, l4, l5, l6, l7, l8, l9, l10, l11, l12, l13, l14, l15, l16] S sh mi mj mr = zRun 33 125 [l0, l1, some (.null), l3, l4, l5, l6, l7, l8, l9, l10, l11, l12, l13, l14, l15, l16] (.null :: S) sh mi mj mr := zr_l (zD_of zk_33 d_33_124 rfl rfl) rfl rfl rfl
theorem q_33_125 (h : zIs sh o 0 2) : zRun 33 125 L (.ref o :: S) sh mi mj mr = zRun 33 128 L (.long (mj o 6) :: S) sh mi mj mr := zr_getJ (zD_of zk_33 d_33_125 rfl rfl) rfl rfl rfl h
theorem q_33_128  : zRun 33 128 L (.long v :: .long u :: S) sh mi mj mr = zRun 33 129 L (.long (u * v) :: S) sh mi mj mr := zr_p (zD_of zk_33 d_33_128 rfl rfl) rfl
theorem q_33_129  : zRun 33 129 L (.long v :: .long u :: S) sh mi mj mr = zRun 33 130 L (.long (u + v) :: S) sh mi mj mr := zr_p (zD_of zk_33 d_33_129 rfl rfl) rfl
theorem q_33_130 : zRun 33 130 [l0, l1, l2, l3, l4, l5, l6, l7, l8, l9, l10, l11, l12, l13, l14, l15, l16] (.long u :: S) sh mi mj mr = zRun 33 132 [l0, l1, l2, l3, l4, l5, zk2 l6, some (.long u), none, l9, l10, l11, l12, l13, l14, l15, l16] S sh mi mj mr := zr_s2 (i := 7) (v := .long u) (L := [l0, l1, l2, l3, l4, l5, l6, l7, l8, l9, l10, l11, l12, l13, l14, l15, l16]) (zD_of zk_33 d_33_130 rfl rfl) rfl rfl rfl rfl
theorem q_33_132r : zRun 33 132 [some (.ref o), l1, l2, l3, l4, l5, l6, l7, l8, l9, l10, l11, l12, l13, l14, l15, l16] S sh mi mj mr = zRun 33 133 [some (.ref o), l1, l2, l3, l4, l5, l6, l7, l8, l9, l10, l11, l12, l13, l14, l15, l16] (.ref o :: S) sh mi mj mr := zr_l (zD_of zk_33 d_33_132 rfl rfl) rfl rfl rfl
theorem q_33_132n : zRun 33 132 [some (.null), l1, l2, l3, l4, l5, l6, l7, l8, l9, l10, l11, l12, l13, l14, l15, l16] S sh mi mj mr = zRun 33 133 [some (.null), l1, l2, l3, l4, l5, l6, l7, l8, l9, l10, l11, l12, l13, l14, l15, l16] (.null :: S) sh mi mj mr := zr_l (zD_of zk_33 d_33_132 rfl rfl) rfl rfl rfl
theorem q_33_133 : zRun 33 133 [l0, l1, l2, l3, l4, l5, l6, some (.long u), l8, l9, l10, l11, l12, l13, l14, l15, l16] S sh mi mj mr = zRun 33 135 [l0, l1, l2, l3, l4, l5, l6, some (.long u), l8, l9, l10, l11, l12, l13, l14, l15, l16] (.long u :: S) sh mi mj mr := zr_l (zD_of zk_33 d_33_133 rfl rfl) rfl rfl rfl
theorem q_33_135  : zRun 33 135 L S sh mi mj mr = zRun 33 137 L (.int 8 :: S) sh mi mj mr := zr_p (zD_of zk_33 d_33_135 rfl rfl) rfl
theorem q_33_137  {x0 : Int32} {u0 : Int64} (hS : zcat S ≤ 8) : zRun 33 137 L (.int x0 :: .long u0 :: S) sh mi mj mr = (zCall 42 [.long u0, .int x0] sh mi mj mr).bind fun r => zRun 33 140 L (r.1.toList ++ S) r.2.1 r.2.2.1 r.2.2.2.1 r.2.2.2.2 := zr_S (zD_of zk_33 d_33_137 rfl rfl) rfl zk_42 rfl rfl rfl hS
theorem q_33_140 : zRun 33 140 [l0, l1, l2, l3, l4, some (.long u), l6, l7, l8, l9, l10, l11, l12, l13, l14, l15, l16] S sh mi mj mr = zRun 33 142 [l0, l1, l2, l3, l4, some (.long u), l6, l7, l8, l9, l10, l11, l12, l13, l14, l15, l16] (.long u :: S) sh mi mj mr := zr_l (zD_of zk_33 d_33_140 rfl rfl) rfl rfl rfl
theorem q_33_142  : zRun 33 142 L (.long v :: .long u :: S) sh mi mj mr = zRun 33 143 L (.long (u + v) :: S) sh mi mj mr := zr_p (zD_of zk_33 d_33_142 rfl rfl) rfl
theorem q_33_143 (h : zIs sh o 0 2) : zRun 33 143 L (.long u :: .ref o :: S) sh mi mj mr = zRun 33 146 L S sh mi (zup mj o 2 u) mr := zr_putJ (zD_of zk_33 d_33_143 rfl rfl) rfl rfl rfl (Or.inl rfl) h
theorem q_33_146r : zRun 33 146 [l0, some (.ref o), l2, l3, l4, l5, l6, l7, l8, l9, l10, l11, l12, l13, l14, l15, l16] S sh mi mj mr = zRun 33 147 [l0, some (.ref o), l2, l3, l4, l5, l6, l7, l8, l9, l10, l11, l12, l13, l14, l15, l16] (.ref o :: S) sh mi mj mr := zr_l (zD_of zk_33 d_33_146 rfl rfl) rfl rfl rfl
theorem q_33_146n : zRun 33 146 [l0, some (.null), l2, l3, l4, l5, l6, l7, l8, l9, l10, l11, l12, l13, l14, l15, l16] S sh mi mj mr = zRun 33 147 [l0, some (.null), l2, l3, l4, l5, l6, l7, l8, l9, l10, l11, l12, l13, l14, l15, l16] (.null :: S) sh mi mj mr := zr_l (zD_of zk_33 d_33_146 rfl rfl) rfl rfl rfl
theorem q_33_147 (h : zIs sh o 0 2) : zRun 33 147 L (.ref o :: S) sh mi mj mr = zRun 33 150 L (.long (mj o 3) :: S) sh mi mj mr := zr_getJ (zD_of zk_33 d_33_147 rfl rfl) rfl rfl rfl h
theorem q_33_150r : zRun 33 150 [l0, l1, some (.ref o), l3, l4, l5, l6, l7, l8, l9, l10, l11, l12, l13, l14, l15, l16] S sh mi mj mr = zRun 33 151 [l0, l1, some (.ref o), l3, l4, l5, l6, l7, l8, l9, l10, l11, l12, l13, l14, l15, l16] (.ref o :: S) sh mi mj mr := zr_l (zD_of zk_33 d_33_150 rfl rfl) rfl rfl rfl
theorem q_33_150n : zRun 33 150 [l0, l1, some (.null), l3, l4, l5, l6, l7, l8, l9, l10, l11, l12, l13, l14, l15, l16] S sh mi mj mr = zRun 33 151 [l0, l1, some (.null), l3, l4, l5, l6, l7, l8, l9, l10, l11, l12, l13, l14, l15, l16] (.null :: S) sh mi mj mr := zr_l (zD_of zk_33 d_33_150 rfl rfl) rfl rfl rfl
theorem q_33_151 (h : zIs sh o 0 2) : zRun 33 151 L (.ref o :: S) sh mi mj mr = zRun 33 154 L (.long (mj o 3) :: S) sh mi mj mr := zr_getJ (zD_of zk_33 d_33_151 rfl rfl) rfl rfl rfl h
theorem q_33_154  : zRun 33 154 L (.long v :: .long u :: S) sh mi mj mr = zRun 33 155 L (.long (u * v) :: S) sh mi mj mr := zr_p (zD_of zk_33 d_33_154 rfl rfl) rfl
theorem q_33_155 : zRun 33 155 [l0, l1, l2, l3, l4, l5, l6, l7, l8, l9, l10, l11, l12, l13, l14, l15, l16] (.long u :: S) sh mi mj mr = zRun 33 157 [l0, l1, l2, l3, l4, l5, l6, l7, zk2 l8, some (.long u), none, l11, l12, l13, l14, l15, l16] S sh mi mj mr := zr_s2 (i := 9) (v := .long u) (L := [l0, l1, l2, l3, l4, l5, l6, l7, l8, l9, l10, l11, l12, l13, l14, l15, l16]) (zD_of zk_33 d_33_155 rfl rfl) rfl rfl rfl rfl
theorem q_33_157r : zRun 33 157 [l0, some (.ref o), l2, l3, l4, l5, l6, l7, l8, l9, l10, l11, l12, l13, l14, l15, l16] S sh mi mj mr = zRun 33 158 [l0, some (.ref o), l2, l3, l4, l5, l6, l7, l8, l9, l10, l11, l12, l13, l14, l15, l16] (.ref o :: S) sh mi mj mr := zr_l (zD_of zk_33 d_33_157 rfl rfl) rfl rfl rfl
theorem q_33_157n : zRun 33 157 [l0, some (.null), l2, l3, l4, l5, l6, l7, l8, l9, l10, l11, l12, l13, l14, l15, l16] S sh mi mj mr = zRun 33 158 [l0, some (.null), l2, l3, l4, l5, l6, l7, l8, l9, l10, l11, l12, l13, l14, l15, l16] (.null :: S) sh mi mj mr := zr_l (zD_of zk_33 d_33_157 rfl rfl) rfl rfl rfl
theorem q_33_158 (h : zIs sh o 0 2) : zRun 33 158 L (.ref o :: S) sh mi mj mr = zRun 33 161 L (.long (mj o 3) :: S) sh mi mj mr := zr_getJ (zD_of zk_33 d_33_158 rfl rfl) rfl rfl rfl h
theorem q_33_161r : zRun 33 161 [l0, l1, some (.ref o), l3, l4, l5, l6, l7, l8, l9, l10, l11, l12, l13, l14, l15, l16] S sh mi mj mr = zRun 33 162 [l0, l1, some (.ref o), l3, l4, l5, l6, l7, l8, l9, l10, l11, l12, l13, l14, l15, l16] (.ref o :: S) sh mi mj mr := zr_l (zD_of zk_33 d_33_161 rfl rfl) rfl rfl rfl
theorem q_33_161n : zRun 33 161 [l0, l1, some (.null), l3, l4, l5, l6, l7, l8, l9, l10, l11, l12, l13, l14, l15, l16] S sh mi mj mr = zRun 33 162 [l0, l1, some (.null), l3, l4, l5, l6, l7, l8, l9, l10, l11, l12, l13, l14, l15, l16] (.null :: S) sh mi mj mr := zr_l (zD_of zk_33 d_33_161 rfl rfl) rfl rfl rfl
theorem q_33_162 (h : zIs sh o 0 2) : zRun 33 162 L (.ref o :: S) sh mi mj mr = zRun 33 165 L (.long (mj o 4) :: S) sh mi mj mr := zr_getJ (zD_of zk_33 d_33_162 rfl rfl) rfl rfl rfl h
theorem q_33_165  : zRun 33 165 L (.long v :: .long u :: S) sh mi mj mr = zRun 33 166 L (.long (u * v) :: S) sh mi mj mr := zr_p (zD_of zk_33 d_33_165 rfl rfl) rfl
theorem q_33_166 : zRun 33 166 [l0, l1, l2, l3, l4, l5, l6, l7, l8, l9, l10, l11, l12, l13, l14, l15, l16] (.long u :: S) sh mi mj mr = zRun 33 168 [l0, l1, l2, l3, l4, l5, l6, l7, l8, l9, zk2 l10, some (.long u), none, l13, l14, l15, l16] S sh mi mj mr := zr_s2 (i := 11) (v := .long u) (L := [l0, l1, l2, l3, l4, l5, l6, l7, l8, l9, l10, l11, l12, l13, l14, l15, l16]) (zD_of zk_33 d_33_166 rfl rfl) rfl rfl rfl rfl
theorem q_33_168r : zRun 33 168 [l0, some (.ref o), l2, l3, l4, l5, l6, l7, l8, l9, l10, l11, l12, l13, l14, l15, l16] S sh mi mj mr = zRun 33 169 [l0, some (.ref o), l2, l3, l4, l5, l6, l7, l8, l9, l10, l11, l12, l13, l14, l15, l16] (.ref o :: S) sh mi mj mr := zr_l (zD_of zk_33 d_33_168 rfl rfl) rfl rfl rfl
theorem q_33_168n : zRun 33 168 [l0, some (.null), l2, l3, l4, l5, l6, l7, l8, l9, l10, l11, l12, l13, l14, l15, l16] S sh mi mj mr = zRun 33 169 [l0, some (.null), l2, l3, l4, l5, l6, l7, l8, l9, l10, l11, l12, l13, l14, l15, l16] (.null :: S) sh mi mj mr := zr_l (zD_of zk_33 d_33_168 rfl rfl) rfl rfl rfl
theorem q_33_169 (h : zIs sh o 0 2) : zRun 33 169 L (.ref o :: S) sh mi mj mr = zRun 33 172 L (.long (mj o 4) :: S) sh mi mj mr := zr_getJ (zD_of zk_33 d_33_169 rfl rfl) rfl rfl rfl h
theorem q_33_172r : zRun 33 172 [l0, l1, some (.ref o), l3, l4, l5, l6, l7, l8, l9, l10, l11, l12, l13, l14, l15, l16] S sh mi mj mr = zRun 33 173 [l0, l1, some (.ref o), l3, l4, l5, l6, l7, l8, l9, l10, l11, l12, l13, l14, l15, l16] (.ref o :: S) sh mi mj mr := zr_l (zD_of zk_33 d_33_172 rfl rfl) rfl rfl rfl
theorem q_33_172n : zRun 33 172 [l0, l1, some (.null), l3, l4, l5, l6, l7, l8, l9, l10, l11, l12, l13, l14, l15, l16] S sh mi mj mr = zRun 33 173 [l0, l1, some (.null), l3, l4, l5, l6, l7, l8, l9, l10, l11, l12, l13, l14, l15, l16] (.null :: S) sh mi mj mr := zr_l (zD_of zk_33 d_33_172 rfl rfl) rfl rfl rfl
theorem q_33_173 (h : zIs sh o 0 2) : zRun 33 173 L (.ref o :: S) sh mi mj mr = zRun 33 176 L (.long (mj o 3) :: S) sh mi mj mr := zr_getJ (zD_of zk_33 d_33_173 rfl rfl) rfl rfl rfl h
theorem q_33_176  : zRun 33 176 L (.long v :: .long u :: S) sh mi mj mr = zRun 33 177 L (.long (u * v) :: S) sh mi mj mr := zr_p (zD_of zk_33 d_33_176 rfl rfl) rfl
theorem q_33_177 : zRun 33 177 [l0, l1, l2, l3, l4, l5, l6, l7, l8, l9, l10, l11, l12, l13, l14, l15, l16] (.long u :: S) sh mi mj mr = zRun 33 179 [l0, l1, l2, l3, l4, l5, l6, l7, l8, l9, l10, l11, zk2 l12, some (.long u), none, l15, l16] S sh mi mj mr := zr_s2 (i := 13) (v := .long u) (L := [l0, l1, l2, l3, l4, l5, l6, l7, l8, l9, l10, l11, l12, l13, l14, l15, l16]) (zD_of zk_33 d_33_177 rfl rfl) rfl rfl rfl rfl
theorem q_33_179r : zRun 33 179 [l0, some (.ref o), l2, l3, l4, l5, l6, l7, l8, l9, l10, l11, l12, l13, l14, l15, l16] S sh mi mj mr = zRun 33 180 [l0, some (.ref o), l2, l3, l4, l5, l6, l7, l8, l9, l10, l11, l12, l13, l14, l15, l16] (.ref o :: S) sh mi mj mr := zr_l (zD_of zk_33 d_33_179 rfl rfl) rfl rfl rfl
theorem q_33_179n : zRun 33 179 [l0, some (.null), l2, l3, l4, l5, l6, l7, l8, l9, l10, l11, l12, l13, l14, l15, l16] S sh mi mj mr = zRun 33 180 [l0, some (.null), l2, l3, l4, l5, l6, l7, l8, l9, l10, l11, l12, l13, l14, l15, l16] (.null :: S) sh mi mj mr := zr_l (zD_of zk_33 d_33_179 rfl rfl) rfl rfl rfl
theorem q_33_180 (h : zIs sh o 0 2) : zRun 33 180 L (.ref o :: S) sh mi mj mr = zRun 33 183 L (.long (mj o 4) :: S) sh mi mj mr := zr_getJ (zD_of zk_33 d_33_180 rfl rfl) rfl rfl rfl h
theorem q_33_183r : zRun 33 183 [l0, l1, some (.ref o), l3, l4, l5, l6, l7, l8, l9, l10, l11, l12, l13, l14, l15, l16] S sh mi mj mr = zRun 33 184 [l0, l1, some (.ref o), l3, l4, l5, l6, l7, l8, l9, l10, l11, l12, l13, l14, l15, l16] (.ref o :: S) sh mi mj mr := zr_l (zD_of zk_33 d_33_183 rfl rfl) rfl rfl rfl
theorem q_33_183n : zRun 33 183 [l0, l1, some (.null), l3, l4, l5, l6, l7, l8, l9, l10, l11, l12, l13, l14, l15, l16] S sh mi mj mr = zRun 33 184 [l0, l1, some (.null), l3, l4, l5, l6, l7, l8, l9, l10, l11, l12, l13, l14, l15, l16] (.null :: S) sh mi mj mr := zr_l (zD_of zk_33 d_33_183 rfl rfl) rfl rfl rfl
theorem q_33_184 (h : zIs sh o 0 2) : zRun 33 184 L (.ref o :: S) sh mi mj mr = zRun 33 187 L (.long (mj o 4) :: S) sh mi mj mr := zr_getJ (zD_of zk_33 d_33_184 rfl rfl) rfl rfl rfl h
theorem q_33_187  : zRun 33 187 L (.long v :: .long u :: S) sh mi mj mr = zRun 33 188 L (.long (u * v) :: S) sh mi mj mr := zr_p (zD_of zk_33 d_33_187 rfl rfl) rfl
theorem q_33_188 : zRun 33 188 [l0, l1, l2, l3, l4, l5, l6, l7, l8, l9, l10, l11, l12, l13, l14, l15, l16] (.long u :: S) sh mi mj mr = zRun 33 190 [l0, l1, l2, l3, l4, l5, l6, l7, l8, l9, l10, l11, l12, l13, zk2 l14, some (.long u), none] S sh mi mj mr := zr_s2 (i := 15) (v := .long u) (L := [l0, l1, l2, l3, l4, l5, l6, l7, l8, l9, l10, l11, l12, l13, l14, l15, l16]) (zD_of zk_33 d_33_188 rfl rfl) rfl rfl rfl rfl
theorem q_33_190r : zRun 33 190 [some (.ref o), l1, l2, l3, l4, l5, l6, l7, l8, l9, l10, l11, l12, l13, l14, l15, l16] S sh mi mj mr = zRun 33 191 [some (.ref o), l1, l2, l3, l4, l5, l6, l7, l8, l9, l10, l11, l12, l13, l14, l15, l16] (.ref o :: S) sh mi mj mr := zr_l (zD_of zk_33 d_33_190 rfl rfl) rfl rfl rfl
theorem q_33_190n : zRun 33 190 [some (.null), l1, l2, l3, l4, l5, l6, l7, l8, l9, l10, l11, l12, l13, l14, l15, l16] S sh mi mj mr = zRun 33 191 [some (.null), l1, l2, l3, l4, l5, l6, l7, l8, l9, l10, l11, l12, l13, l14, l15, l16] (.null :: S) sh mi mj mr := zr_l (zD_of zk_33 d_33_190 rfl rfl) rfl rfl rfl
theorem q_33_191 : zRun 33 191 [l0, l1, l2, l3, l4, l5, l6, l7, l8, some (.long u), l10, l11, l12, l13, l14, l15, l16] S sh mi mj mr = zRun 33 193 [l0, l1, l2, l3, l4, l5, l6, l7, l8, some (.long u), l10, l11, l12, l13, l14, l15, l16] (.long u :: S) sh mi mj mr := zr_l (zD_of zk_33 d_33_191 rfl rfl) rfl rfl rfl
theorem q_33_193 : zRun 33 193 [l0, l1, l2, l3, l4, l5, l6, l7, l8, l9, l10, some (.long u), l12, l13, l14, l15, l16] S sh mi mj mr = zRun 33 195 [l0, l1, l2, l3, l4, l5, l6, l7, l8, l9, l10, some (.long u), l12, l13, l14, l15, l16] (.long u :: S) sh mi mj mr := zr_l (zD_of zk_33 d_33_193 rfl rfl) rfl rfl rfl
theorem q_33_195  {u0 u1 : Int64} (hS : zcat S ≤ 8) : zRun 33 195 L (.long u1 :: .long u0 :: S) sh mi mj mr = (zCall 114 [.long u0, .long u1] sh mi mj mr).bind fun r => zRun 33 198 L (r.1.toList ++ S) r.2.1 r.2.2.1 r.2.2.2.1 r.2.2.2.2 := zr_S (zD_of zk_33 d_33_195 rfl rfl) rfl zk_114 rfl rfl rfl hS
theorem q_33_198 : zRun 33 198 [l0, l1, l2, l3, l4, l5, l6, l7, l8, l9, l10, l11, l12, some (.long u), l14, l15, l16] S sh mi mj mr = zRun 33 200 [l0, l1, l2, l3, l4, l5, l6, l7, l8, l9, l10, l11, l12, some (.long u), l14, l15, l16] (.long u :: S) sh mi mj mr := zr_l (zD_of zk_33 d_33_198 rfl rfl) rfl rfl rfl
theorem q_33_200 : zRun 33 200 [l0, l1, l2, l3, l4, l5, l6, l7, l8, l9, l10, l11, l12, l13, l14, some (.long u), l16] S sh mi mj mr = zRun 33 202 [l0, l1, l2, l3, l4, l5, l6, l7, l8, l9, l10, l11, l12, l13, l14, some (.long u), l16] (.long u :: S) sh mi mj mr := zr_l (zD_of zk_33 d_33_200 rfl rfl) rfl rfl rfl
theorem q_33_202  {u0 u1 : Int64} (hS : zcat S ≤ 8) : zRun 33 202 L (.long u1 :: .long u0 :: S) sh mi mj mr = (zCall 114 [.long u0, .long u1] sh mi mj mr).bind fun r => zRun 33 205 L (r.1.toList ++ S) r.2.1 r.2.2.1 r.2.2.2.1 r.2.2.2.2 := zr_S (zD_of zk_33 d_33_202 rfl rfl) rfl zk_114 rfl rfl rfl hS
theorem q_33_205  {u0 u1 : Int64} (hS : zcat S ≤ 8) : zRun 33 205 L (.long u1 :: .long u0 :: S) sh mi mj mr = (zCall 114 [.long u0, .long u1] sh mi mj mr).bind fun r => zRun 33 208 L (r.1.toList ++ S) r.2.1 r.2.2.1 r.2.2.2.1 r.2.2.2.2 := zr_S (zD_of zk_33 d_33_205 rfl rfl) rfl zk_114 rfl rfl rfl hS
theorem q_33_208  : zRun 33 208 L S sh mi mj mr = zRun 33 210 L (.int 8 :: S) sh mi mj mr := zr_p (zD_of zk_33 d_33_208 rfl rfl) rfl
theorem q_33_210  : zRun 33 210 L (.int y :: .long u :: S) sh mi mj mr = zRun 33 211 L (.long (u >>> (y.toInt64 &&& 63)) :: S) sh mi mj mr := zr_p (zD_of zk_33 d_33_210 rfl rfl) rfl
theorem q_33_211 (h : zIs sh o 0 2) : zRun 33 211 L (.long u :: .ref o :: S) sh mi mj mr = zRun 33 214 L S sh mi (zup mj o 3 u) mr := zr_putJ (zD_of zk_33 d_33_211 rfl rfl) rfl rfl rfl (Or.inl rfl) h
theorem q_33_214r : zRun 33 214 [some (.ref o), l1, l2, l3, l4, l5, l6, l7, l8, l9, l10, l11, l12, l13, l14, l15, l16] S sh mi mj mr = zRun 33 215 [some (.ref o), l1, l2, l3, l4, l5, l6, l7, l8, l9, l10, l11, l12, l13, l14, l15, l16] (.ref o :: S) sh mi mj mr := zr_l (zD_of zk_33 d_33_214 rfl rfl) rfl rfl rfl
theorem q_33_214n : zRun 33 214 [some (.null), l1, l2, l3, l4, l5, l6, l7, l8, l9, l10, l11, l12, l13, l14, l15, l16] S sh mi mj mr = zRun 33 215 [some (.null), l1, l2, l3, l4, l5, l6, l7, l8, l9, l10, l11, l12, l13, l14, l15, l16] (.null :: S) sh mi mj mr := zr_l (zD_of zk_33 d_33_214 rfl rfl) rfl rfl rfl
theorem q_33_215 : zRun 33 215 [l0, l1, l2, l3, l4, l5, l6, l7, l8, some (.long u), l10, l11, l12, l13, l14, l15, l16] S sh mi mj mr = zRun 33 217 [l0, l1, l2, l3, l4, l5, l6, l7, l8, some (.long u), l10, l11, l12, l13, l14, l15, l16] (.long u :: S) sh mi mj mr := zr_l (zD_of zk_33 d_33_215 rfl rfl) rfl rfl rfl
theorem q_33_217 : zRun 33 217 [l0, l1, l2, l3, l4, l5, l6, l7, l8, l9, l10, some (.long u), l12, l13, l14, l15, l16] S sh mi mj mr = zRun 33 219 [l0, l1, l2, l3, l4, l5, l6, l7, l8, l9, l10, some (.long u), l12, l13, l14, l15, l16] (.long u :: S) sh mi mj mr := zr_l (zD_of zk_33 d_33_217 rfl rfl) rfl rfl rfl
theorem q_33_219  {u0 u1 : Int64} (hS : zcat S ≤ 8) : zRun 33 219 L (.long u1 :: .long u0 :: S) sh mi mj mr = (zCall 112 [.long u0, .long u1] sh mi mj mr).bind fun r => zRun 33 222 L (r.1.toList ++ S) r.2.1 r.2.2.1 r.2.2.2.1 r.2.2.2.2 := zr_S (zD_of zk_33 d_33_219 rfl rfl) rfl zk_112 rfl rfl rfl hS
theorem q_33_222 : zRun 33 222 [l0, l1, l2, l3, l4, l5, l6, l7, l8, l9, l10, l11, l12, some (.long u), l14, l15, l16] S sh mi mj mr = zRun 33 224 [l0, l1, l2, l3, l4, l5, l6, l7, l8, l9, l10, l11, l12, some (.long u), l14, l15, l16] (.long u :: S) sh mi mj mr := zr_l (zD_of zk_33 d_33_222 rfl rfl) rfl rfl rfl
theorem q_33_224 : zRun 33 224 [l0, l1, l2, l3, l4, l5, l6, l7, l8, l9, l10, l11, l12, l13, l14, some (.long u), l16] S sh mi mj mr = zRun 33 226 [l0, l1, l2, l3, l4, l5, l6, l7, l8, l9, l10, l11, l12, l13, l14, some (.long u), l16] (.long u :: S) sh mi mj mr := zr_l (zD_of zk_33 d_33_224 rfl rfl) rfl rfl rfl
theorem q_33_226  {u0 u1 : Int64} (hS : zcat S ≤ 8) : zRun 33 226 L (.long u1 :: .long u0 :: S) sh mi mj mr = (zCall 112 [.long u0, .long u1] sh mi mj mr).bind fun r => zRun 33 229 L (r.1.toList ++ S) r.2.1 r.2.2.1 r.2.2.2.1 r.2.2.2.2 := zr_S (zD_of zk_33 d_33_226 rfl rfl) rfl zk_112 rfl rfl rfl hS
theorem q_33_229  {u0 u1 : Int64} (hS : zcat S ≤ 8) : zRun 33 229 L (.long u1 :: .long u0 :: S) sh mi mj mr = (zCall 112 [.long u0, .long u1] sh mi mj mr).bind fun r => zRun 33 232 L (r.1.toList ++ S) r.2.1 r.2.2.1 r.2.2.2.1 r.2.2.2.2 := zr_S (zD_of zk_33 d_33_229 rfl rfl) rfl zk_112 rfl rfl rfl hS
theorem q_33_232  : zRun 33 232 L S sh mi mj mr = zRun 33 234 L (.int 8 :: S) sh mi mj mr := zr_p (zD_of zk_33 d_33_232 rfl rfl) rfl
theorem q_33_234  {x0 : Int32} {u0 : Int64} (hS : zcat S ≤ 8) : zRun 33 234 L (.int x0 :: .long u0 :: S) sh mi mj mr = (zCall 42 [.long u0, .int x0] sh mi mj mr).bind fun r => zRun 33 237 L (r.1.toList ++ S) r.2.1 r.2.2.1 r.2.2.2.1 r.2.2.2.2 := zr_S (zD_of zk_33 d_33_234 rfl rfl) rfl zk_42 rfl rfl rfl hS
theorem q_33_237 (h : zIs sh o 0 2) : zRun 33 237 L (.long u :: .ref o :: S) sh mi mj mr = zRun 33 240 L S sh mi (zup mj o 4 u) mr := zr_putJ (zD_of zk_33 d_33_237 rfl rfl) rfl rfl rfl (Or.inl rfl) h
theorem q_33_240  : zRun 33 240 L [] sh mi mj mr = some (none, sh, mi, mj, mr) := zr_ret (zD_of zk_33 d_33_240 rfl rfl) rfl rfl rfl rfl rfl rfl
theorem e_33 {o0 o1 : Nat} : zCall 33 [.ref o, .ref o0, .ref o1] sh mi mj mr = zRun 33 0 [some (.ref o), some (.ref o0), some (.ref o1), none, none, none, none, none, none, none, none, none, none, none, none, none, none] [] sh mi mj mr := rfl
theorem d_34_0 : decode cX2_square 0 = .ok (.ldc2_w 93, 3) := by decide +kernel
theorem d_34_3 : decode cX2_square 3 = .ok (.aload_n 1, 1) := by decide +kernel
theorem d_34_4 : decode cX2_square 4 = .ok (.getfield 32, 3) := by decide +kernel
theorem d_34_7 : decode cX2_square 7 = .ok (.lmul, 1) := by decide +kernel
theorem d_34_8 : decode cX2_square 8 = .ok (.aload_n 1, 1) := by decide +kernel
theorem d_34_9 : decode cX2_square 9 = .ok (.getfield 32, 3) := by decide +kernel
theorem d_34_12 : decode cX2_square 12 = .ok (.lmul, 1) := by decide +kernel
theorem d_34_13 : decode cX2_square 13 = .ok (.aload_n 1, 1) := by decide +kernel
theorem d_34_14 : decode cX2_square 14 = .ok (.getfield 23, 3) := by decide +kernel
theorem d_34_17 : decode cX2_square 17 = .ok (.aload_n 1, 1) := by decide +kernel
theorem d_34_18 : decode cX2_square 18 = .ok (.getfield 23, 3) := by decide +kernel
theorem d_34_21 : decode cX2_square 21 = .ok (.lmul, 1) := by decide +kernel
theorem d_34_22 : decode cX2_square 22 = .ok (.ladd, 1) := by decide +kernel
theorem d_34_23 : decode cX2_square 23 = .ok (.lstore_n 2, 1) := by decide +kernel
theorem d_34_24 : decode cX2_square 24 = .ok (.aload_n 0, 1) := by decide +kernel
theorem d_34_25 : decode cX2_square 25 = .ok (.lload_n 2, 1) := by decide +kernel
theorem d_34_26 : decode cX2_square 26 = .ok (.bipush 9, 2) := by decide +kernel
theorem d_34_28 : decode cX2_square 28 = .ok (.lshr, 1) := by decide +kernel
theorem d_34_29 : decode cX2_square 29 = .ok (.putfield 32, 3) := by decide +kernel
theorem d_34_32 : decode cX2_square 32 = .ok (.lload_n 2, 1) := by decide +kernel
theorem d_34_33 : decode cX2_square 33 = .ok (.bipush 9, 2) := by decide +kernel
theorem d_34_35 : decode cX2_square 35 = .ok (.invokestatic 85, 3) := by decide +kernel
theorem d_34_38 : decode cX2_square 38 = .ok (.i2l, 1) := by decide +kernel
theorem d_34_39 : decode cX2_square 39 = .ok (.lstore 4, 2) := by decide +kernel
theorem d_34_41 : decode cX2_square 41 = .ok (.iconst 0, 1) := by decide +kernel
theorem d_34_42 : decode cX2_square 42 = .ok (.istore 6, 2) := by decide +kernel
theorem d_34_44 : decode cX2_square 44 = .ok (.iload 6, 2) := by decide +kernel
theorem d_34_46 : decode cX2_square 46 = .ok (.bipush 12, 2) := by decide +kernel
theorem d_34_48 : decode cX2_square 48 = .ok (.if_icmp .ge 52, 3) := by decide +kernel
theorem d_34_51 : decode cX2_square 51 = .ok (.ldc2_w 93, 3) := by decide +kernel
theorem d_34_54 : decode cX2_square 54 = .ok (.aload_n 1, 1) := by decide +kernel
theorem d_34_55 : decode cX2_square 55 = .ok (.getfield 32, 3) := by decide +kernel
theorem d_34_58 : decode cX2_square 58 = .ok (.lmul, 1) := by decide +kernel
theorem d_34_59 : decode cX2_square 59 = .ok (.aload_n 1, 1) := by decide +kernel
theorem d_34_60 : decode cX2_square 60 = .ok (.getfield 9, 3) := by decide +kernel
theorem d_34_63 : decode cX2_square 63 = .ok (.iload 6, 2) := by decide +kernel
theorem d_34_65 : decode cX2_square 65 = .ok (.laload, 1) := by decide +kernel
theorem d_34_66 : decode cX2_square 66 = .ok (.lmul, 1) := by decide +kernel
theorem d_34_67 : decode cX2_square 67 = .ok (.lstore 7, 2) := by decide +kernel
theorem d_34_69 : decode cX2_square 69 = .ok (.aload_n 0, 1) := by decide +kernel
theorem d_34_70 : decode cX2_square 70 = .ok (.getfield 9, 3) := by decide +kernel
theorem d_34_73 : decode cX2_square 73 = .ok (.iload 6, 2) := by decide +kernel
theorem d_34_75 : decode cX2_square 75 = .ok (.lload 7, 2) := by decide +kernel
theorem d_34_77 : decode cX2_square 77 = .ok (.bipush 8, 2) := by decide +kernel
theorem d_34_79 : decode cX2_square 79 = .ok (.lshr, 1) := by decide +kernel
theorem d_34_80 : decode cX2_square 80 = .ok (.lastore, 1) := by decide +kernel
theorem d_34_81 : decode cX2_square 81 = .ok (.lload 4, 2) := by decide +kernel
theorem d_34_83 : decode cX2_square 83 = .ok (.lload 7, 2) := by decide +kernel
theorem d_34_85 : decode cX2_square 85 = .ok (.bipush 8, 2) := by decide +kernel
theorem d_34_87 : decode cX2_square 87 = .ok (.invokestatic 85, 3) := by decide +kernel
theorem d_34_90 : decode cX2_square 90 = .ok (.i2l, 1) := by decide +kernel
theorem d_34_91 : decode cX2_square 91 = .ok (.ladd, 1) := by decide +kernel
theorem d_34_92 : decode cX2_square 92 = .ok (.lstore 4, 2) := by decide +kernel
theorem d_34_94 : decode cX2_square 94 = .ok (.iinc 6 1, 3) := by decide +kernel
theorem d_34_97 : decode cX2_square 97 = .ok (.goto (-53), 3) := by decide +kernel
theorem d_34_100 : decode cX2_square 100 = .ok (.aload_n 0, 1) := by decide +kernel
theorem d_34_101 : decode cX2_square 101 = .ok (.ldc2_w 95, 3) := by decide +kernel
theorem d_34_104 : decode cX2_square 104 = .ok (.aload_n 1, 1) := by decide +kernel
theorem d_34_105 : decode cX2_square 105 = .ok (.getfield 32, 3) := by decide +kernel
theorem d_34_108 : decode cX2_square 108 = .ok (.invokestatic 26, 3) := by decide +kernel
theorem d_34_111 : decode cX2_square 111 = .ok (.lmul, 1) := by decide +kernel
theorem d_34_112 : decode cX2_square 112 = .ok (.aload_n 1, 1) := by decide +kernel
theorem d_34_113 : decode cX2_square 113 = .ok (.getfield 19, 3) := by decide +kernel
theorem d_34_116 : decode cX2_square 116 = .ok (.lmul, 1) := by decide +kernel
theorem d_34_117 : decode cX2_square 117 = .ok (.aload_n 1, 1) := by decide +kernel
theorem d_34_118 : decode cX2_square 118 = .ok (.getfield 23, 3) := by decide +kernel
theorem d_34_121 : decode cX2_square 121 = .ok (.aload_n 1, 1) := by decide +kernel
theorem d_34_122 : decode cX2_square 122 = .ok (.getfield 23, 3) := by decide +kernel
theorem d_34_125 : decode cX2_square 125 = .ok (.lmul, 1) := by decide +kernel
theorem d_34_126 : decode cX2_square 126 = .ok (.ladd, 1) := by decide +kernel
theorem d_34_127 : decode cX2_square 127 = .ok (.bipush 9, 2) := by decide +kernel
theorem d_34_129 : decode cX2_square 129 = .ok (.invokestatic 89, 3) := by decide +kernel
theorem d_34_132 : decode cX2_square 132 = .ok (.lload 4, 2) := by decide +kernel
theorem d_34_134 : decode cX2_square 134 = .ok (.ladd, 1) := by decide +kernel
theorem d_34_135 : decode cX2_square 135 = .ok (.putfield 19, 3) := by decide +kernel
theorem d_34_138 : decode cX2_square 138 = .ok (.aload_n 1, 1) := by decide +kernel
theorem d_34_139 : decode cX2_square 139 = .ok (.getfield 35, 3) := by decide +kernel
theorem d_34_142 : decode cX2_square 142 = .ok (.aload_n 1, 1) := by decide +kernel
theorem d_34_143 : decode cX2_square 143 = .ok (.getfield 35, 3) := by decide +kernel
theorem d_34_146 : decode cX2_square 146 = .ok (.lmul, 1) := by decide +kernel
theorem d_34_147 : decode cX2_square 147 = .ok (.lstore 6, 2) := by decide +kernel
theorem d_34_149 : decode cX2_square 149 = .ok (.aload_n 1, 1) := by decide +kernel
theorem d_34_150 : decode cX2_square 150 = .ok (.getfield 45, 3) := by decide +kernel
theorem d_34_153 : decode cX2_square 153 = .ok (.aload_n 1, 1) := by decide +kernel
theorem d_34_154 : decode cX2_square 154 = .ok (.getfield 45, 3) := by decide +kernel
theorem d_34_157 : decode cX2_square 157 = .ok (.lmul, 1) := by decide +kernel
theorem d_34_158 : decode cX2_square 158 = .ok (.lstore 8, 2) := by decide +kernel
theorem d_34_160 : decode cX2_square 160 = .ok (.aload_n 0, 1) := by decide +kernel
theorem d_34_161 : decode cX2_square 161 = .ok (.aload_n 1, 1) := by decide +kernel
theorem d_34_162 : decode cX2_square 162 = .ok (.getfield 35, 3) := by decide +kernel
theorem d_34_165 : decode cX2_square 165 = .ok (.lconst 0, 1) := by decide +kernel
theorem d_34_166 : decode cX2_square 166 = .ok (.lcmp, 1) := by decide +kernel
theorem d_34_167 : decode cX2_square 167 = .ok (.ifCond .gt 16, 3) := by decide +kernel
theorem d_34_170 : decode cX2_square 170 = .ok (.aload_n 1, 1) := by decide +kernel
theorem d_34_171 : decode cX2_square 171 = .ok (.getfield 45, 3) := by decide +kernel
theorem d_34_174 : decode cX2_square 174 = .ok (.lconst 0, 1) := by decide +kernel
theorem d_34_175 : decode cX2_square 175 = .ok (.lcmp, 1) := by decide +kernel
theorem d_34_176 : decode cX2_square 176 = .ok (.ifCond .lt 7, 3) := by decide +kernel
theorem d_34_179 : decode cX2_square 179 = .ok (.lconst 0, 1) := by decide +kernel
theorem d_34_180 : decode cX2_square 180 = .ok (.goto 13, 3) := by decide +kernel
theorem d_34_183 : decode cX2_square 183 = .ok (.lload 6, 2) := by decide +kernel
theorem d_34_185 : decode cX2_square 185 = .ok (.lload 8, 2) := by decide +kernel
theorem d_34_187 : decode cX2_square 187 = .ok (.invokestatic 48, 3) := by decide +kernel
theorem d_34_190 : decode cX2_square 190 = .ok (.bipush 8, 2) := by decide +kernel
theorem d_34_192 : decode cX2_square 192 = .ok (.lshr, 1) := by decide +kernel
theorem d_34_193 : decode cX2_square 193 = .ok (.putfield 35, 3) := by decide +kernel
theorem d_34_196 : decode cX2_square 196 = .ok (.aload_n 0, 1) := by decide +kernel
theorem d_34_197 : decode cX2_square 197 = .ok (.lload 6, 2) := by decide +kernel
theorem d_34_199 : decode cX2_square 199 = .ok (.lload 8, 2) := by decide +kernel
theorem d_34_201 : decode cX2_square 201 = .ok (.invokestatic 38, 3) := by decide +kernel
theorem d_34_204 : decode cX2_square 204 = .ok (.bipush 8, 2) := by decide +kernel
theorem d_34_206 : decode cX2_square 206 = .ok (.invokestatic 89, 3) := by decide +kernel
theorem d_34_209 : decode cX2_square 209 = .ok (.putfield 45, 3) := by decide +kernel
theorem d_34_212 : decode cX2_square 212 = .ok (.return_, 1) := by decide +kernel
theorem q_34_0  : zRun 34 0 L S sh mi mj mr = zRun 34 3 L (.long 2 :: S) sh mi mj mr := zr_k64 (zD_of zk_34 d_34_0 rfl rfl) rfl
theorem q_34_3r : zRun 34 3 [l0, some (.ref o), l2, l3, l4, l5, l6, l7, l8, l9] S sh mi mj mr = zRun 34 4 [l0, some (.ref o), l2, l3, l4, l5, l6, l7, l8, l9] (.ref o :: S) sh mi mj mr := zr_l (zD_of zk_34 d_34_3 rfl rfl) rfl rfl rfl
theorem q_34_3n : zRun 34 3 [l0, some (.null), l2, l3, l4, l5, l6, l7, l8, l9] S sh mi mj mr = zRun 34 4 [l0, some (.null), l2, l3, l4, l5, l6, l7, l8, l9] (.null :: S) sh mi mj mr := zr_l (zD_of zk_34 d_34_3 rfl rfl) rfl rfl rfl
theorem q_34_4 (h : zIs sh o 0 2) : zRun 34 4 L (.ref o :: S) sh mi mj mr = zRun 34 7 L (.long (mj o 1) :: S) sh mi mj mr := zr_getJ (zD_of zk_34 d_34_4 rfl rfl) rfl rfl rfl h
theorem q_34_7  : zRun 34 7 L (.long v :: .long u :: S) sh mi mj mr = zRun 34 8 L (.long (u * v) :: S) sh mi mj mr := zr_p (zD_of zk_34 d_34_7 rfl rfl) rfl
theorem q_34_8r : zRun 34 8 [l0, some (.ref o), l2, l3, l4, l5, l6, l7, l8, l9] S sh mi mj mr = zRun 34 9 [l0, some (.ref o), l2, l3, l4, l5, l6, l7, l8, l9] (.ref o :: S) sh mi mj mr := zr_l (zD_of zk_34 d_34_8 rfl rfl) rfl rfl rfl
theorem q_34_8n : zRun 34 8 [l0, some (.null), l2, l3, l4, l5, l6, l7, l8, l9] S sh mi mj mr = zRun 34 9 [l0, some (.null), l2, l3, l4, l5, l6, l7, l8, l9] (.null :: S) sh mi mj mr := zr_l (zD_of zk_34 d_34_8 rfl rfl) rfl rfl rfl
theorem q_34_9 (h : zIs sh o 0 2) : zRun 34 9 L (.ref o :: S) sh mi mj mr = zRun 34 12 L (.long (mj o 1) :: S) sh mi mj mr := zr_getJ (zD_of zk_34 d_34_9 rfl rfl) rfl rfl rfl h
theorem q_34_12  : zRun 34 12 L (.long v :: .long u :: S) sh mi mj mr = zRun 34 13 L (.long (u * v) :: S) sh mi mj mr := zr_p (zD_of zk_34 d_34_12 rfl rfl) rfl
theorem q_34_13r : zRun 34 13 [l0, some (.ref o), l2, l3, l4, l5, l6, l7, l8, l9] S sh mi mj mr = zRun 34 14 [l0, some (.ref o), l2, l3, l4, l5, l6, l7, l8, l9] (.ref o :: S) sh mi mj mr := zr_l (zD_of zk_34 d_34_13 rfl rfl) rfl rfl rfl
theorem q_34_13n : zRun 34 13 [l0, some (.null), l2, l3, l4, l5, l6, l7, l8, l9] S sh mi mj mr = zRun 34 14 [l0, some (.null), l2, l3, l4, l5, l6, l7, l8, l9] (.null :: S) sh mi mj mr := zr_l (zD_of zk_34 d_34_13 rfl rfl) rfl rfl rfl
theorem q_34_14 (h : zIs sh o 0 2) : zRun 34 14 L (.ref o :: S) sh mi mj mr = zRun 34 17 L (.long (mj o 6) :: S) sh mi mj mr := zr_getJ (zD_of zk_34 d_34_14 rfl rfl) rfl rfl rfl h
theorem q_34_17r : zRun 34 17 [l0, some (.ref o), l2, l3, l4, l5, l6, l7, l8, l9] S sh mi mj mr = zRun 34 18 [l0, some (.ref o), l2, l3, l4, l5, l6, l7, l8, l9] (.ref o :: S) sh mi mj mr := zr_l (zD_of zk_34 d_34_17 rfl rfl) rfl rfl rfl
theorem q_34_17n : zRun 34 17 [l0, some (.null), l2, l3, l4, l5, l6, l7, l8, l9] S sh mi mj mr = zRun 34 18 [l0, some (.null), l2, l3, l4, l5, l6, l7, l8, l9] (.null :: S) sh mi mj mr := zr_l (zD_of zk_34 d_34_17 rfl rfl) rfl rfl rfl
theorem q_34_18 (h : zIs sh o 0 2) : zRun 34 18 L (.ref o :: S) sh mi mj mr = zRun 34 21 L (.long (mj o 6) :: S) sh mi mj mr := zr_getJ (zD_of zk_34 d_34_18 rfl rfl) rfl rfl rfl h
theorem q_34_21  : zRun 34 21 L (.long v :: .long u :: S) sh mi mj mr = zRun 34 22 L (.long (u * v) :: S) sh mi mj mr := zr_p (zD_of zk_34 d_34_21 rfl rfl) rfl
theorem q_34_22  : zRun 34 22 L (.long v :: .long u :: S) sh mi mj mr = zRun 34 23 L (.long (u + v) :: S) sh mi mj mr := zr_p (zD_of zk_34 d_34_22 rfl rfl) rfl
theorem q_34_23 : zRun 34 23 [l0, l1, l2, l3, l4, l5, l6, l7, l8, l9] (.long u :: S) sh mi mj mr = zRun 34 24 [l0, zk2 l1, some (.long u), none, l4, l5, l6, l7, l8, l9] S sh mi mj mr := zr_s2 (i := 2) (v := .long u) (L := [l0, l1, l2, l3, l4, l5, l6, l7, l8, l9]) (zD_of zk_34 d_34_23 rfl rfl) rfl rfl rfl rfl
theorem q_34_24r : zRun 34 24 [some (.ref o), l1, l2, l3, l4, l5, l6, l7, l8, l9] S sh mi mj mr = zRun 34 25 [some (.ref o), l1, l2, l3, l4, l5, l6, l7, l8, l9] (.ref o :: S) sh mi mj mr := zr_l (zD_of zk_34 d_34_24 rfl rfl) rfl rfl rfl
theorem q_34_24n : zRun 34 24 [some (.null), l1, l2, l3, l4, l5, l6, l7, l8, l9] S sh mi mj mr = zRun 34 25 [some (.null), l1, l2, l3, l4, l5, l6, l7, l8, l9] (.null :: S) sh mi mj mr := zr_l (zD_of zk_34 d_34_24 rfl rfl) rfl rfl rfl
theorem q_34_25 : zRun 34 25 [l0, l1, some (.long u), l3, l4, l5, l6, l7, l8, l9] S sh mi mj mr = zRun 34 26 [l0, l1, some (.long u), l3, l4, l5, l6, l7, l8, l9] (.long u :: S) sh mi mj mr := zr_l (zD_of zk_34 d_34_25 rfl rfl) rfl rfl rfl
theorem q_34_26  : zRun 34 26 L S sh mi mj mr = zRun 34 28 L (.int 9 :: S) sh mi mj mr := zr_p (zD_of zk_34 d_34_26 rfl rfl) rfl
theorem q_34_28  : zRun 34 28 L (.int y :: .long u :: S) sh mi mj mr = zRun 34 29 L (.long (u >>> (y.toInt64 &&& 63)) :: S) sh mi mj mr := zr_p (zD_of zk_34 d_34_28 rfl rfl) rfl
theorem q_34_29 (h : zIs sh o 0 2) : zRun 34 29 L (.long u :: .ref o :: S) sh mi mj mr = zRun 34 32 L S sh mi (zup mj o 1 u) mr := zr_putJ (zD_of zk_34 d_34_29 rfl rfl) rfl rfl rfl (Or.inl rfl) h
theorem q_34_32 : zRun 34 32 [l0, l1, some (.long u), l3, l4, l5, l6, l7, l8, l9] S sh mi mj mr = zRun 34 33 [l0, l1, some (.long u), l3, l4, l5, l6, l7, l8, l9] (.long u :: S) sh mi mj mr := zr_l (zD_of zk_34 d_34_32 rfl rfl) rfl rfl rfl
theorem q_34_33  : zRun 34 33 L S sh mi mj mr = zRun 34 35 L (.int 9 :: S) sh mi mj mr := zr_p (zD_of zk_34 d_34_33 rfl rfl) rfl
theorem q_34_35  {x0 : Int32} {u0 : Int64} (hS : zcat S ≤ 8) : zRun 34 35 L (.int x0 :: .long u0 :: S) sh mi mj mr = (zCall 41 [.long u0, .int x0] sh mi mj mr).bind fun r => zRun 34 38 L (r.1.toList ++ S) r.2.1 r.2.2.1 r.2.2.2.1 r.2.2.2.2 := zr_S (zD_of zk_34 d_34_35 rfl rfl) rfl zk_41 rfl rfl rfl hS
theorem q_34_38  : zRun 34 38 L (.int x :: S) sh mi mj mr = zRun 34 39 L (.long x.toInt64 :: S) sh mi mj mr := zr_p (zD_of zk_34 d_34_38 rfl rfl) rfl
theorem q_34_39 : zRun 34 39 [l0, l1, l2, l3, l4, l5, l6, l7, l8, l9] (.long u :: S) sh mi mj mr = zRun 34 41 [l0, l1, l2, zk2 l3, some (.long u), none, l6, l7, l8, l9] S sh mi mj mr := zr_s2 (i := 4) (v := .long u) (L := [l0, l1, l2, l3, l4, l5, l6, l7, l8, l9]) (zD_of zk_34 d_34_39 rfl rfl) rfl rfl rfl rfl
theorem q_34_41  : zRun 34 41 L S sh mi mj mr = zRun 34 42 L (.int 0 :: S) sh mi mj mr := zr_p (zD_of zk_34 d_34_41 rfl rfl) rfl
theorem q_34_42 : zRun 34 42 [l0, l1, l2, l3, l4, l5, l6, l7, l8, l9] (.int x :: S) sh mi mj mr = zRun 34 44 [l0, l1, l2, l3, l4, zk2 l5, some (.int x), l7, l8, l9] S sh mi mj mr := zr_s1 (i := 6) (v := .int x) (L := [l0, l1, l2, l3, l4, l5, l6, l7, l8, l9]) (zD_of zk_34 d_34_42 rfl rfl) rfl rfl rfl rfl
theorem q_34_44 : zRun 34 44 [l0, l1, l2, l3, l4, l5, some (.int x), l7, l8, l9] S sh mi mj mr = zRun 34 46 [l0, l1, l2, l3, l4, l5, some (.int x), l7, l8, l9] (.int x :: S) sh mi mj mr := zr_l (zD_of zk_34 d_34_44 rfl rfl) rfl rfl rfl
theorem q_34_46  : zRun 34 46 L S sh mi mj mr = zRun 34 48 L (.int 12 :: S) sh mi mj mr := zr_p (zD_of zk_34 d_34_46 rfl rfl) rfl
theorem q_34_48  : zRun 34 48 L (.int y :: .int x :: S) sh mi mj mr = if y ≤ x then zRun 34 100 L S sh mi mj mr else zRun 34 51 L S sh mi mj mr := zr_if (off := 52) (P := y ≤ x) (zD_of zk_34 d_34_48 rfl rfl) rfl rfl (by decide)
theorem q_34_51  : zRun 34 51 L S sh mi mj mr = zRun 34 54 L (.long 2 :: S) sh mi mj mr := zr_k64 (zD_of zk_34 d_34_51 rfl rfl) rfl
theorem q_34_54r : zRun 34 54 [l0, some (.ref o), l2, l3, l4, l5, l6, l7, l8, l9] S sh mi mj mr = zRun 34 55 [l0, some (.ref o), l2, l3, l4, l5, l6, l7, l8, l9] (.ref o :: S) sh mi mj mr := zr_l (zD_of zk_34 d_34_54 rfl rfl) rfl rfl rfl
theorem q_34_54n : zRun 34 54 [l0, some (.null), l2, l3, l4, l5, l6, l7, l8, l9] S sh mi mj mr = zRun 34 55 [l0, some (.null), l2, l3, l4, l5, l6, l7, l8, l9] (.null :: S) sh mi mj mr := zr_l (zD_of zk_34 d_34_54 rfl rfl) rfl rfl rfl
theorem q_34_55 (h : zIs sh o 0 2) : zRun 34 55 L (.ref o :: S) sh mi mj mr = zRun 34 58 L (.long (mj o 1) :: S) sh mi mj mr := zr_getJ (zD_of zk_34 d_34_55 rfl rfl) rfl rfl rfl h
theorem q_34_58  : zRun 34 58 L (.long v :: .long u :: S) sh mi mj mr = zRun 34 59 L (.long (u * v) :: S) sh mi mj mr := zr_p (zD_of zk_34 d_34_58 rfl rfl) rfl
theorem q_34_59r : zRun 34 59 [l0, some (.ref o), l2, l3, l4, l5, l6, l7, l8, l9] S sh mi mj mr = zRun 34 60 [l0, some (.ref o), l2, l3, l4, l5, l6, l7, l8, l9] (.ref o :: S) sh mi mj mr := zr_l (zD_of zk_34 d_34_59 rfl rfl) rfl rfl rfl
theorem q_34_59n : zRun 34 59 [l0, some (.null), l2, l3, l4, l5, l6, l7, l8, l9] S sh mi mj mr = zRun 34 60 [l0, some (.null), l2, l3, l4, l5, l6, l7, l8, l9] (.null :: S) sh mi mj mr := zr_l (zD_of zk_34 d_34_59 rfl rfl) rfl rfl rfl
theorem q_34_60 (h : zIs sh o 0 2) : zRun 34 60 L (.ref o :: S) sh mi mj mr = zRun 34 63 L (va_rf (mr o 5) :: S) sh mi mj mr := zr_getR (zD_of zk_34 d_34_60 rfl rfl) rfl rfl rfl h
theorem q_34_63 : zRun 34 63 [l0, l1, l2, l3, l4, l5, some (.int x), l7, l8, l9] S sh mi mj mr = zRun 34 65 [l0, l1, l2, l3, l4, l5, some (.int x), l7, l8, l9] (.int x :: S) sh mi mj mr := zr_l (zD_of zk_34 d_34_63 rfl rfl) rfl rfl rfl
theorem q_34_65 (h : zAt sh o 2 x) : zRun 34 65 L (.int x :: .ref o :: S) sh mi mj mr = zRun 34 66 L (.long (mj o x.toNatClampNeg) :: S) sh mi mj mr := zr_lald (zD_of zk_34 d_34_65 rfl rfl) h
theorem q_34_66  : zRun 34 66 L (.long v :: .long u :: S) sh mi mj mr = zRun 34 67 L (.long (u * v) :: S) sh mi mj mr := zr_p (zD_of zk_34 d_34_66 rfl rfl) rfl
theorem q_34_67 : zRun 34 67 [l0, l1, l2, l3, l4, l5, l6, l7, l8, l9] (.long u :: S) sh mi mj mr = zRun 34 69 [l0, l1, l2, l3, l4, l5, zk2 l6, some (.long u), none, l9] S sh mi mj mr := zr_s2 (i := 7) (v := .long u) (L := [l0, l1, l2, l3, l4, l5, l6, l7, l8, l9]) (zD_of zk_34 d_34_67 rfl rfl) rfl rfl rfl rfl
theorem q_34_69r : zRun 34 69 [some (.ref o), l1, l2, l3, l4, l5, l6, l7, l8, l9] S sh mi mj mr = zRun 34 70 [some (.ref o), l1, l2, l3, l4, l5, l6, l7, l8, l9] (.ref o :: S) sh mi mj mr := zr_l (zD_of zk_34 d_34_69 rfl rfl) rfl rfl rfl
theorem q_34_69n : zRun 34 69 [some (.null), l1, l2, l3, l4, l5, l6, l7, l8, l9] S sh mi mj mr = zRun 34 70 [some (.null), l1, l2, l3, l4, l5, l6, l7, l8, l9] (.null :: S) sh mi mj mr := zr_l (zD_of zk_34 d_34_69 rfl rfl) rfl rfl rfl
theorem q_34_70 (h : zIs sh o 0 2) : zRun 34 70 L (.ref o :: S) sh mi mj mr = zRun 34 73 L (va_rf (mr o 5) :: S) sh mi mj mr := zr_getR (zD_of zk_34 d_34_70 rfl rfl) rfl rfl rfl h
theorem q_34_73 : zRun 34 73 [l0, l1, l2, l3, l4, l5, some (.int x), l7, l8, l9] S sh mi mj mr = zRun 34 75 [l0, l1, l2, l3, l4, l5, some (.int x), l7, l8, l9] (.int x :: S) sh mi mj mr := zr_l (zD_of zk_34 d_34_73 rfl rfl) rfl rfl rfl
theorem q_34_75 : zRun 34 75 [l0, l1, l2, l3, l4, l5, l6, some (.long u), l8, l9] S sh mi mj mr = zRun 34 77 [l0, l1, l2, l3, l4, l5, l6, some (.long u), l8, l9] (.long u :: S) sh mi mj mr := zr_l (zD_of zk_34 d_34_75 rfl rfl) rfl rfl rfl
theorem q_34_77  : zRun 34 77 L S sh mi mj mr = zRun 34 79 L (.int 8 :: S) sh mi mj mr := zr_p (zD_of zk_34 d_34_77 rfl rfl) rfl
theorem q_34_79  : zRun 34 79 L (.int y :: .long u :: S) sh mi mj mr = zRun 34 80 L (.long (u >>> (y.toInt64 &&& 63)) :: S) sh mi mj mr := zr_p (zD_of zk_34 d_34_79 rfl rfl) rfl
theorem q_34_80 (h : zAt sh o 2 x) : zRun 34 80 L (.long u :: .int x :: .ref o :: S) sh mi mj mr = zRun 34 81 L S sh mi (zup mj o x.toNatClampNeg u) mr := zr_last (zD_of zk_34 d_34_80 rfl rfl) h
theorem q_34_81 : zRun 34 81 [l0, l1, l2, l3, some (.long u), l5, l6, l7, l8, l9] S sh mi mj mr = zRun 34 83 [l0, l1, l2, l3, some (.long u), l5, l6, l7, l8, l9] (.long u :: S) sh mi mj mr := zr_l (zD_of zk_34 d_34_81 rfl rfl) rfl rfl rfl
theorem q_34_83 : zRun 34 83 [l0, l1, l2, l3, l4, l5, l6, some (.long u), l8, l9] S sh mi mj mr = zRun 34 85 [l0, l1, l2, l3, l4, l5, l6, some (.long u), l8, l9] (.long u :: S) sh mi mj mr := zr_l (zD_of zk_34 d_34_83 rfl rfl) rfl rfl rfl
theorem q_34_85  : zRun 34 85 L S sh mi mj mr = zRun 34 87 L (.int 8 :: S) sh mi mj mr := zr_p (zD_of zk_34 d_34_85 rfl rfl) rfl
theorem q_34_87  {x0 : Int32} {u0 : Int64} (hS : zcat S ≤ 8) : zRun 34 87 L (.int x0 :: .long u0 :: S) sh mi mj mr = (zCall 41 [.long u0, .int x0] sh mi mj mr).bind fun r => zRun 34 90 L (r.1.toList ++ S) r.2.1 r.2.2.1 r.2.2.2.1 r.2.2.2.2 := zr_S (zD_of zk_34 d_34_87 rfl rfl) rfl zk_41 rfl rfl rfl hS
theorem q_34_90  : zRun 34 90 L (.int x :: S) sh mi mj mr = zRun 34 91 L (.long x.toInt64 :: S) sh mi mj mr := zr_p (zD_of zk_34 d_34_90 rfl rfl) rfl
theorem q_34_91  : zRun 34 91 L (.long v :: .long u :: S) sh mi mj mr = zRun 34 92 L (.long (u + v) :: S) sh mi mj mr := zr_p (zD_of zk_34 d_34_91 rfl rfl) rfl
theorem q_34_92 : zRun 34 92 [l0, l1, l2, l3, l4, l5, l6, l7, l8, l9] (.long u :: S) sh mi mj mr = zRun 34 94 [l0, l1, l2, zk2 l3, some (.long u), none, l6, l7, l8, l9] S sh mi mj mr := zr_s2 (i := 4) (v := .long u) (L := [l0, l1, l2, l3, l4, l5, l6, l7, l8, l9]) (zD_of zk_34 d_34_92 rfl rfl) rfl rfl rfl rfl
theorem q_34_94  : zRun 34 94 [l0, l1, l2, l3, l4, l5, some (.int x), l7, l8, l9] S sh mi mj mr = zRun 34 97 [l0, l1, l2, l3, l4, zk2 l5, some (.int (x + 1)), l7, l8, l9] S sh mi mj mr := zr_s1 (i := 6) (v := .int (x + 1)) (L := [l0, l1, l2, l3, l4, l5, some (.int x), l7, l8, l9]) (zD_of zk_34 d_34_94 rfl rfl) rfl rfl rfl rfl
theorem q_34_97  : zRun 34 97 L S sh mi mj mr = zRun 34 44 L S sh mi mj mr := zr_go (off := (-53)) (zD_of zk_34 d_34_97 rfl rfl) rfl rfl (by decide)
theorem q_34_100r : zRun 34 100 [some (.ref o), l1, l2, l3, l4, l5, l6, l7, l8, l9] S sh mi mj mr = zRun 34 101 [some (.ref o), l1, l2, l3, l4, l5, l6, l7, l8, l9] (.ref o :: S) sh mi mj mr := zr_l (zD_of zk_34 d_34_100 rfl rfl) rfl rfl rfl
theorem q_34_100n : zRun 34 100 [some (.null), l1, l2, l3, l4, l5, l6, l7, l8, l9] S sh mi mj mr = zRun 34 101 [some (.null), l1, l2, l3, l4, l5, l6, l7, l8, l9] (.null :: S) sh mi mj mr := zr_l (zD_of zk_34 d_34_100 rfl rfl) rfl rfl rfl
theorem q_34_101  : zRun 34 101 L S sh mi mj mr = zRun 34 104 L (.long 4 :: S) sh mi mj mr := zr_k64 (zD_of zk_34 d_34_101 rfl rfl) rfl
theorem q_34_104r : zRun 34 104 [l0, some (.ref o), l2, l3, l4, l5, l6, l7, l8, l9] S sh mi mj mr = zRun 34 105 [l0, some (.ref o), l2, l3, l4, l5, l6, l7, l8, l9] (.ref o :: S) sh mi mj mr := zr_l (zD_of zk_34 d_34_104 rfl rfl) rfl rfl rfl
theorem q_34_104n : zRun 34 104 [l0, some (.null), l2, l3, l4, l5, l6, l7, l8, l9] S sh mi mj mr = zRun 34 105 [l0, some (.null), l2, l3, l4, l5, l6, l7, l8, l9] (.null :: S) sh mi mj mr := zr_l (zD_of zk_34 d_34_104 rfl rfl) rfl rfl rfl
theorem q_34_105 (h : zIs sh o 0 2) : zRun 34 105 L (.ref o :: S) sh mi mj mr = zRun 34 108 L (.long (mj o 1) :: S) sh mi mj mr := zr_getJ (zD_of zk_34 d_34_105 rfl rfl) rfl rfl rfl h
theorem q_34_108  {u0 : Int64} (hS : zcat S ≤ 8) : zRun 34 108 L (.long u0 :: S) sh mi mj mr = (zCall 111 [.long u0] sh mi mj mr).bind fun r => zRun 34 111 L (r.1.toList ++ S) r.2.1 r.2.2.1 r.2.2.2.1 r.2.2.2.2 := zr_S (zD_of zk_34 d_34_108 rfl rfl) rfl zk_111 rfl rfl rfl hS
theorem q_34_111  : zRun 34 111 L (.long v :: .long u :: S) sh mi mj mr = zRun 34 112 L (.long (u * v) :: S) sh mi mj mr := zr_p (zD_of zk_34 d_34_111 rfl rfl) rfl
theorem q_34_112r : zRun 34 112 [l0, some (.ref o), l2, l3, l4, l5, l6, l7, l8, l9] S sh mi mj mr = zRun 34 113 [l0, some (.ref o), l2, l3, l4, l5, l6, l7, l8, l9] (.ref o :: S) sh mi mj mr := zr_l (zD_of zk_34 d_34_112 rfl rfl) rfl rfl rfl
theorem q_34_112n : zRun 34 112 [l0, some (.null), l2, l3, l4, l5, l6, l7, l8, l9] S sh mi mj mr = zRun 34 113 [l0, some (.null), l2, l3, l4, l5, l6, l7, l8, l9] (.null :: S) sh mi mj mr := zr_l (zD_of zk_34 d_34_112 rfl rfl) rfl rfl rfl
theorem q_34_113 (h : zIs sh o 0 2) : zRun 34 113 L (.ref o :: S) sh mi mj mr = zRun 34 116 L (.long (mj o 2) :: S) sh mi mj mr := zr_getJ (zD_of zk_34 d_34_113 rfl rfl) rfl rfl rfl h
theorem q_34_116  : zRun 34 116 L (.long v :: .long u :: S) sh mi mj mr = zRun 34 117 L (.long (u * v) :: S) sh mi mj mr := zr_p (zD_of zk_34 d_34_116 rfl rfl) rfl
theorem q_34_117r : zRun 34 117 [l0, some (.ref o), l2, l3, l4, l5, l6, l7, l8, l9] S sh mi mj mr = zRun 34 118 [l0, some (.ref o), l2, l3, l4, l5, l6, l7, l8, l9] (.ref o :: S) sh mi mj mr := zr_l (zD_of zk_34 d_34_117 rfl rfl) rfl rfl rfl
theorem q_34_117n : zRun 34 117 [l0, some (.null), l2, l3, l4, l5, l6, l7, l8, l9] S sh mi mj mr = zRun 34 118 [l0, some (.null), l2, l3, l4, l5, l6, l7, l8, l9] (.null :: S) sh mi mj mr := zr_l (zD_of zk_34 d_34_117 rfl rfl) rfl rfl rfl
theorem q_34_118 (h : zIs sh o 0 2) : zRun 34 118 L (.ref o :: S) sh mi mj mr = zRun 34 121 L (.long (mj o 6) :: S) sh mi mj mr := zr_getJ (zD_of zk_34 d_34_118 rfl rfl) rfl rfl rfl h
theorem q_34_121r : zRun 34 121 [l0, some (.ref o), l2, l3, l4, l5, l6, l7, l8, l9] S sh mi mj mr = zRun 34 122 [l0, some (.ref o), l2, l3, l4, l5, l6, l7, l8, l9] (.ref o :: S) sh mi mj mr := zr_l (zD_of zk_34 d_34_121 rfl rfl) rfl rfl rfl
theorem q_34_121n : zRun 34 121 [l0, some (.null), l2, l3, l4, l5, l6, l7, l8, l9] S sh mi mj mr = zRun 34 122 [l0, some (.null), l2, l3, l4, l5, l6, l7, l8, l9] (.null :: S) sh mi mj mr := zr_l (zD_of zk_34 d_34_121 rfl rfl) rfl rfl rfl
theorem q_34_122 (h : zIs sh o 0 2) : zRun 34 122 L (.ref o :: S) sh mi mj mr = zRun 34 125 L (.long (mj o 6) :: S) sh mi mj mr := zr_getJ (zD_of zk_34 d_34_122 rfl rfl) rfl rfl rfl h
theorem q_34_125  : zRun 34 125 L (.long v :: .long u :: S) sh mi mj mr = zRun 34 126 L (.long (u * v) :: S) sh mi mj mr := zr_p (zD_of zk_34 d_34_125 rfl rfl) rfl
theorem q_34_126  : zRun 34 126 L (.long v :: .long u :: S) sh mi mj mr = zRun 34 127 L (.long (u + v) :: S) sh mi mj mr := zr_p (zD_of zk_34 d_34_126 rfl rfl) rfl
theorem q_34_127  : zRun 34 127 L S sh mi mj mr = zRun 34 129 L (.int 9 :: S) sh mi mj mr := zr_p (zD_of zk_34 d_34_127 rfl rfl) rfl
theorem q_34_129  {x0 : Int32} {u0 : Int64} (hS : zcat S ≤ 8) : zRun 34 129 L (.int x0 :: .long u0 :: S) sh mi mj mr = (zCall 42 [.long u0, .int x0] sh mi mj mr).bind fun r => zRun 34 132 L (r.1.toList ++ S) r.2.1 r.2.2.1 r.2.2.2.1 r.2.2.2.2 := zr_S (zD_of zk_34 d_34_129 rfl rfl) rfl zk_42 rfl rfl rfl hS
theorem q_34_132 : zRun 34 132 [l0, l1, l2, l3, some (.long u), l5, l6, l7, l8, l9] S sh mi mj mr = zRun 34 134 [l0, l1, l2, l3, some (.long u), l5, l6, l7, l8, l9] (.long u :: S) sh mi mj mr := zr_l (zD_of zk_34 d_34_132 rfl rfl) rfl rfl rfl
theorem q_34_134  : zRun 34 134 L (.long v :: .long u :: S) sh mi mj mr = zRun 34 135 L (.long (u + v) :: S) sh mi mj mr := zr_p (zD_of zk_34 d_34_134 rfl rfl) rfl
theorem q_34_135 (h : zIs sh o 0 2) : zRun 34 135 L (.long u :: .ref o :: S) sh mi mj mr = zRun 34 138 L S sh mi (zup mj o 2 u) mr := zr_putJ (zD_of zk_34 d_34_135 rfl rfl) rfl rfl rfl (Or.inl rfl) h
theorem q_34_138r : zRun 34 138 [l0, some (.ref o), l2, l3, l4, l5, l6, l7, l8, l9] S sh mi mj mr = zRun 34 139 [l0, some (.ref o), l2, l3, l4, l5, l6, l7, l8, l9] (.ref o :: S) sh mi mj mr := zr_l (zD_of zk_34 d_34_138 rfl rfl) rfl rfl rfl
theorem q_34_138n : zRun 34 138 [l0, some (.null), l2, l3, l4, l5, l6, l7, l8, l9] S sh mi mj mr = zRun 34 139 [l0, some (.null), l2, l3, l4, l5, l6, l7, l8, l9] (.null :: S) sh mi mj mr := zr_l (zD_of zk_34 d_34_138 rfl rfl) rfl rfl rfl
theorem q_34_139 (h : zIs sh o 0 2) : zRun 34 139 L (.ref o :: S) sh mi mj mr = zRun 34 142 L (.long (mj o 3) :: S) sh mi mj mr := zr_getJ (zD_of zk_34 d_34_139 rfl rfl) rfl rfl rfl h
theorem q_34_142r : zRun 34 142 [l0, some (.ref o), l2, l3, l4, l5, l6, l7, l8, l9] S sh mi mj mr = zRun 34 143 [l0, some (.ref o), l2, l3, l4, l5, l6, l7, l8, l9] (.ref o :: S) sh mi mj mr := zr_l (zD_of zk_34 d_34_142 rfl rfl) rfl rfl rfl
theorem q_34_142n : zRun 34 142 [l0, some (.null), l2, l3, l4, l5, l6, l7, l8, l9] S sh mi mj mr = zRun 34 143 [l0, some (.null), l2, l3, l4, l5, l6, l7, l8, l9] (.null :: S) sh mi mj mr := zr_l (zD_of zk_34 d_34_142 rfl rfl) rfl rfl rfl
theorem q_34_143 (h : zIs sh o 0 2) : zRun 34 143 L (.ref o :: S) sh mi mj mr = zRun 34 146 L (.long (mj o 3) :: S) sh mi mj mr := zr_getJ (zD_of zk_34 d_34_143 rfl rfl) rfl rfl rfl h
theorem q_34_146  : zRun 34 146 L (.long v :: .long u :: S) sh mi mj mr = zRun 34 147 L (.long (u * v) :: S) sh mi mj mr := zr_p (zD_of zk_34 d_34_146 rfl rfl) rfl
theorem q_34_147 : zRun 34 147 [l0, l1, l2, l3, l4, l5, l6, l7, l8, l9] (.long u :: S) sh mi mj mr = zRun 34 149 [l0, l1, l2, l3, l4, zk2 l5, some (.long u), none, l8, l9] S sh mi mj mr := zr_s2 (i := 6) (v := .long u) (L := [l0, l1, l2, l3, l4, l5, l6, l7, l8, l9]) (zD_of zk_34 d_34_147 rfl rfl) rfl rfl rfl rfl
theorem q_34_149r : zRun 34 149 [l0, some (.ref o), l2, l3, l4, l5, l6, l7, l8, l9] S sh mi mj mr = zRun 34 150 [l0, some (.ref o), l2, l3, l4, l5, l6, l7, l8, l9] (.ref o :: S) sh mi mj mr := zr_l (zD_of zk_34 d_34_149 rfl rfl) rfl rfl rfl
theorem q_34_149n : zRun 34 149 [l0, some (.null), l2, l3, l4, l5, l6, l7, l8, l9] S sh mi mj mr = zRun 34 150 [l0, some (.null), l2, l3, l4, l5, l6, l7, l8, l9] (.null :: S) sh mi mj mr := zr_l (zD_of zk_34 d_34_149 rfl rfl) rfl rfl rfl
theorem q_34_150 (h : zIs sh o 0 2) : zRun 34 150 L (.ref o :: S) sh mi mj mr = zRun 34 153 L (.long (mj o 4) :: S) sh mi mj mr := zr_getJ (zD_of zk_34 d_34_150 rfl rfl) rfl rfl rfl h
theorem q_34_153r : zRun 34 153 [l0, some (.ref o), l2, l3, l4, l5, l6, l7, l8, l9] S sh mi mj mr = zRun 34 154 [l0, some (.ref o), l2, l3, l4, l5, l6, l7, l8, l9] (.ref o :: S) sh mi mj mr := zr_l (zD_of zk_34 d_34_153 rfl rfl) rfl rfl rfl
theorem q_34_153n : zRun 34 153 [l0, some (.null), l2, l3, l4, l5, l6, l7, l8, l9] S sh mi mj mr = zRun 34 154 [l0, some (.null), l2, l3, l4, l5, l6, l7, l8, l9] (.null :: S) sh mi mj mr := zr_l (zD_of zk_34 d_34_153 rfl rfl) rfl rfl rfl
theorem q_34_154 (h : zIs sh o 0 2) : zRun 34 154 L (.ref o :: S) sh mi mj mr = zRun 34 157 L (.long (mj o 4) :: S) sh mi mj mr := zr_getJ (zD_of zk_34 d_34_154 rfl rfl) rfl rfl rfl h
theorem q_34_157  : zRun 34 157 L (.long v :: .long u :: S) sh mi mj mr = zRun 34 158 L (.long (u * v) :: S) sh mi mj mr := zr_p (zD_of zk_34 d_34_157 rfl rfl) rfl
theorem q_34_158 : zRun 34 158 [l0, l1, l2, l3, l4, l5, l6, l7, l8, l9] (.long u :: S) sh mi mj mr = zRun 34 160 [l0, l1, l2, l3, l4, l5, l6, zk2 l7, some (.long u), none] S sh mi mj mr := zr_s2 (i := 8) (v := .long u) (L := [l0, l1, l2, l3, l4, l5, l6, l7, l8, l9]) (zD_of zk_34 d_34_158 rfl rfl) rfl rfl rfl rfl
theorem q_34_160r : zRun 34 160 [some (.ref o), l1, l2, l3, l4, l5, l6, l7, l8, l9] S sh mi mj mr = zRun 34 161 [some (.ref o), l1, l2, l3, l4, l5, l6, l7, l8, l9] (.ref o :: S) sh mi mj mr := zr_l (zD_of zk_34 d_34_160 rfl rfl) rfl rfl rfl
theorem q_34_160n : zRun 34 160 [some (.null), l1, l2, l3, l4, l5, l6, l7, l8, l9] S sh mi mj mr = zRun 34 161 [some (.null), l1, l2, l3, l4, l5, l6, l7, l8, l9] (.null :: S) sh mi mj mr := zr_l (zD_of zk_34 d_34_160 rfl rfl) rfl rfl rfl
theorem q_34_161r : zRun 34 161 [l0, some (.ref o), l2, l3, l4, l5, l6, l7, l8, l9] S sh mi mj mr = zRun 34 162 [l0, some (.ref o), l2, l3, l4, l5, l6, l7, l8, l9] (.ref o :: S) sh mi mj mr := zr_l (zD_of zk_34 d_34_161 rfl rfl) rfl rfl rfl
theorem q_34_161n : zRun 34 161 [l0, some (.null), l2, l3, l4, l5, l6, l7, l8, l9] S sh mi mj mr = zRun 34 162 [l0, some (.null), l2, l3, l4, l5, l6, l7, l8, l9] (.null :: S) sh mi mj mr := zr_l (zD_of zk_34 d_34_161 rfl rfl) rfl rfl rfl
theorem q_34_162 (h : zIs sh o 0 2) : zRun 34 162 L (.ref o :: S) sh mi mj mr = zRun 34 165 L (.long (mj o 3) :: S) sh mi mj mr := zr_getJ (zD_of zk_34 d_34_162 rfl rfl) rfl rfl rfl h
theorem q_34_165  : zRun 34 165 L S sh mi mj mr = zRun 34 166 L (.long 0 :: S) sh mi mj mr := zr_p (zD_of zk_34 d_34_165 rfl rfl) rfl
theorem q_34_166  : zRun 34 166 L (.long v :: .long u :: S) sh mi mj mr = if v < u then zRun 34 183 L S sh mi mj mr else zRun 34 170 L S sh mi mj mr := zr_cmp (off := 16) (zD_of zk_34 d_34_166 rfl rfl) (zD_of zk_34 d_34_167 rfl rfl) rfl rfl (by decide) (lg_cmp_gt u v)
theorem q_34_167  : zRun 34 167 L (.int x :: S) sh mi mj mr = if 0 < x then zRun 34 183 L S sh mi mj mr else zRun 34 170 L S sh mi mj mr := zr_if (off := 16) (P := 0 < x) (zD_of zk_34 d_34_167 rfl rfl) rfl rfl (by decide)
theorem q_34_170r : zRun 34 170 [l0, some (.ref o), l2, l3, l4, l5, l6, l7, l8, l9] S sh mi mj mr = zRun 34 171 [l0, some (.ref o), l2, l3, l4, l5, l6, l7, l8, l9] (.ref o :: S) sh mi mj mr := zr_l (zD_of zk_34 d_34_170 rfl rfl) rfl rfl rfl
theorem q_34_170n : zRun 34 170 [l0, some (.null), l2, l3, l4, l5, l6, l7, l8, l9] S sh mi mj mr = zRun 34 171 [l0, some (.null), l2, l3, l4, l5, l6, l7, l8, l9] (.null :: S) sh mi mj mr := zr_l (zD_of zk_34 d_34_170 rfl rfl) rfl rfl rfl
theorem q_34_171 (h : zIs sh o 0 2) : zRun 34 171 L (.ref o :: S) sh mi mj mr = zRun 34 174 L (.long (mj o 4) :: S) sh mi mj mr := zr_getJ (zD_of zk_34 d_34_171 rfl rfl) rfl rfl rfl h
theorem q_34_174  : zRun 34 174 L S sh mi mj mr = zRun 34 175 L (.long 0 :: S) sh mi mj mr := zr_p (zD_of zk_34 d_34_174 rfl rfl) rfl
theorem q_34_175  : zRun 34 175 L (.long v :: .long u :: S) sh mi mj mr = if u < v then zRun 34 183 L S sh mi mj mr else zRun 34 179 L S sh mi mj mr := zr_cmp (off := 7) (zD_of zk_34 d_34_175 rfl rfl) (zD_of zk_34 d_34_176 rfl rfl) rfl rfl (by decide) (lg_cmp_lt u v)
theorem q_34_176  : zRun 34 176 L (.int x :: S) sh mi mj mr = if x < 0 then zRun 34 183 L S sh mi mj mr else zRun 34 179 L S sh mi mj mr := zr_if (off := 7) (P := x < 0) (zD_of zk_34 d_34_176 rfl rfl) rfl rfl (by decide)
theorem q_34_179  : zRun 34 179 L S sh mi mj mr = zRun 34 180 L (.long 0 :: S) sh mi mj mr := zr_p (zD_of zk_34 d_34_179 rfl rfl) rfl
theorem q_34_180  : zRun 34 180 L S sh mi mj mr = zRun 34 193 L S sh mi mj mr := zr_go (off := 13) (zD_of zk_34 d_34_180 rfl rfl) rfl rfl (by decide)
theorem q_34_183 : zRun 34 183 [l0, l1, l2, l3, l4, l5, some (.long u), l7, l8, l9] S sh mi mj mr = zRun 34 185 [l0, l1, l2, l3, l4, l5, some (.long u), l7, l8, l9] (.long u :: S) sh mi mj mr := zr_l (zD_of zk_34 d_34_183 rfl rfl) rfl rfl rfl
theorem q_34_185 : zRun 34 185 [l0, l1, l2, l3, l4, l5, l6, l7, some (.long u), l9] S sh mi mj mr = zRun 34 187 [l0, l1, l2, l3, l4, l5, l6, l7, some (.long u), l9] (.long u :: S) sh mi mj mr := zr_l (zD_of zk_34 d_34_185 rfl rfl) rfl rfl rfl
theorem q_34_187  {u0 u1 : Int64} (hS : zcat S ≤ 8) : zRun 34 187 L (.long u1 :: .long u0 :: S) sh mi mj mr = (zCall 114 [.long u0, .long u1] sh mi mj mr).bind fun r => zRun 34 190 L (r.1.toList ++ S) r.2.1 r.2.2.1 r.2.2.2.1 r.2.2.2.2 := zr_S (zD_of zk_34 d_34_187 rfl rfl) rfl zk_114 rfl rfl rfl hS
theorem q_34_190  : zRun 34 190 L S sh mi mj mr = zRun 34 192 L (.int 8 :: S) sh mi mj mr := zr_p (zD_of zk_34 d_34_190 rfl rfl) rfl
theorem q_34_192  : zRun 34 192 L (.int y :: .long u :: S) sh mi mj mr = zRun 34 193 L (.long (u >>> (y.toInt64 &&& 63)) :: S) sh mi mj mr := zr_p (zD_of zk_34 d_34_192 rfl rfl) rfl
theorem q_34_193 (h : zIs sh o 0 2) : zRun 34 193 L (.long u :: .ref o :: S) sh mi mj mr = zRun 34 196 L S sh mi (zup mj o 3 u) mr := zr_putJ (zD_of zk_34 d_34_193 rfl rfl) rfl rfl rfl (Or.inl rfl) h
theorem q_34_196r : zRun 34 196 [some (.ref o), l1, l2, l3, l4, l5, l6, l7, l8, l9] S sh mi mj mr = zRun 34 197 [some (.ref o), l1, l2, l3, l4, l5, l6, l7, l8, l9] (.ref o :: S) sh mi mj mr := zr_l (zD_of zk_34 d_34_196 rfl rfl) rfl rfl rfl
theorem q_34_196n : zRun 34 196 [some (.null), l1, l2, l3, l4, l5, l6, l7, l8, l9] S sh mi mj mr = zRun 34 197 [some (.null), l1, l2, l3, l4, l5, l6, l7, l8, l9] (.null :: S) sh mi mj mr := zr_l (zD_of zk_34 d_34_196 rfl rfl) rfl rfl rfl
theorem q_34_197 : zRun 34 197 [l0, l1, l2, l3, l4, l5, some (.long u), l7, l8, l9] S sh mi mj mr = zRun 34 199 [l0, l1, l2, l3, l4, l5, some (.long u), l7, l8, l9] (.long u :: S) sh mi mj mr := zr_l (zD_of zk_34 d_34_197 rfl rfl) rfl rfl rfl
theorem q_34_199 : zRun 34 199 [l0, l1, l2, l3, l4, l5, l6, l7, some (.long u), l9] S sh mi mj mr = zRun 34 201 [l0, l1, l2, l3, l4, l5, l6, l7, some (.long u), l9] (.long u :: S) sh mi mj mr := zr_l (zD_of zk_34 d_34_199 rfl rfl) rfl rfl rfl
theorem q_34_201  {u0 u1 : Int64} (hS : zcat S ≤ 8) : zRun 34 201 L (.long u1 :: .long u0 :: S) sh mi mj mr = (zCall 112 [.long u0, .long u1] sh mi mj mr).bind fun r => zRun 34 204 L (r.1.toList ++ S) r.2.1 r.2.2.1 r.2.2.2.1 r.2.2.2.2 := zr_S (zD_of zk_34 d_34_201 rfl rfl) rfl zk_112 rfl rfl rfl hS
theorem q_34_204  : zRun 34 204 L S sh mi mj mr = zRun 34 206 L (.int 8 :: S) sh mi mj mr := zr_p (zD_of zk_34 d_34_204 rfl rfl) rfl
theorem q_34_206  {x0 : Int32} {u0 : Int64} (hS : zcat S ≤ 8) : zRun 34 206 L (.int x0 :: .long u0 :: S) sh mi mj mr = (zCall 42 [.long u0, .int x0] sh mi mj mr).bind fun r => zRun 34 209 L (r.1.toList ++ S) r.2.1 r.2.2.1 r.2.2.2.1 r.2.2.2.2 := zr_S (zD_of zk_34 d_34_206 rfl rfl) rfl zk_42 rfl rfl rfl hS
theorem q_34_209 (h : zIs sh o 0 2) : zRun 34 209 L (.long u :: .ref o :: S) sh mi mj mr = zRun 34 212 L S sh mi (zup mj o 4 u) mr := zr_putJ (zD_of zk_34 d_34_209 rfl rfl) rfl rfl rfl (Or.inl rfl) h
theorem q_34_212  : zRun 34 212 L [] sh mi mj mr = some (none, sh, mi, mj, mr) := zr_ret (zD_of zk_34 d_34_212 rfl rfl) rfl rfl rfl rfl rfl rfl
theorem e_34 {o0 : Nat} : zCall 34 [.ref o, .ref o0] sh mi mj mr = zRun 34 0 [some (.ref o), some (.ref o0), none, none, none, none, none, none, none, none] [] sh mi mj mr := rfl
theorem d_35_0 : decode cX2_invert 0 = .ok (.aload_n 1, 1) := by decide +kernel
theorem d_35_1 : decode cX2_invert 1 = .ok (.getfield 42, 3) := by decide +kernel
theorem d_35_4 : decode cX2_invert 4 = .ok (.lconst 0, 1) := by decide +kernel
theorem d_35_5 : decode cX2_invert 5 = .ok (.lcmp, 1) := by decide +kernel
theorem d_35_6 : decode cX2_invert 6 = .ok (.ifCond .eq 12, 3) := by decide +kernel
theorem d_35_9 : decode cX2_invert 9 = .ok (.aload_n 1, 1) := by decide +kernel
theorem d_35_10 : decode cX2_invert 10 = .ok (.getfield 51, 3) := by decide +kernel
theorem d_35_13 : decode cX2_invert 13 = .ok (.lconst 0, 1) := by decide +kernel
theorem d_35_14 : decode cX2_invert 14 = .ok (.lcmp, 1) := by decide +kernel
theorem d_35_15 : decode cX2_invert 15 = .ok (.ifCond .ne 4, 3) := by decide +kernel
theorem d_35_18 : decode cX2_invert 18 = .ok (.return_, 1) := by decide +kernel
theorem d_35_19 : decode cX2_invert 19 = .ok (.aload_n 0, 1) := by decide +kernel
theorem d_35_20 : decode cX2_invert 20 = .ok (.ldc2_w 97, 3) := by decide +kernel
theorem d_35_23 : decode cX2_invert 23 = .ok (.aload_n 1, 1) := by decide +kernel
theorem d_35_24 : decode cX2_invert 24 = .ok (.getfield 51, 3) := by decide +kernel
theorem d_35_27 : decode cX2_invert 27 = .ok (.invokestatic 99, 3) := by decide +kernel
theorem d_35_30 : decode cX2_invert 30 = .ok (.ldc2_w 102, 3) := by decide +kernel
theorem d_35_33 : decode cX2_invert 33 = .ok (.aload_n 1, 1) := by decide +kernel
theorem d_35_34 : decode cX2_invert 34 = .ok (.getfield 42, 3) := by decide +kernel
theorem d_35_37 : decode cX2_invert 37 = .ok (.invokestatic 99, 3) := by decide +kernel
theorem d_35_40 : decode cX2_invert 40 = .ok (.lneg, 1) := by decide +kernel
theorem d_35_41 : decode cX2_invert 41 = .ok (.invokevirtual 72, 3) := by decide +kernel
theorem d_35_44 : decode cX2_invert 44 = .ok (.return_, 1) := by decide +kernel
theorem q_35_0r : zRun 35 0 [l0, some (.ref o)] S sh mi mj mr = zRun 35 1 [l0, some (.ref o)] (.ref o :: S) sh mi mj mr := zr_l (zD_of zk_35 d_35_0 rfl rfl) rfl rfl rfl
theorem q_35_0n : zRun 35 0 [l0, some (.null)] S sh mi mj mr = zRun 35 1 [l0, some (.null)] (.null :: S) sh mi mj mr := zr_l (zD_of zk_35 d_35_0 rfl rfl) rfl rfl rfl
theorem q_35_1 (h : zIs sh o 0 2) : zRun 35 1 L (.ref o :: S) sh mi mj mr = zRun 35 4 L (.long (mj o 7) :: S) sh mi mj mr := zr_getJ (zD_of zk_35 d_35_1 rfl rfl) rfl rfl rfl h
theorem q_35_4  : zRun 35 4 L S sh mi mj mr = zRun 35 5 L (.long 0 :: S) sh mi mj mr := zr_p (zD_of zk_35 d_35_4 rfl rfl) rfl
theorem q_35_5  : zRun 35 5 L (.long v :: .long u :: S) sh mi mj mr = if u = v then zRun 35 18 L S sh mi mj mr else zRun 35 9 L S sh mi mj mr := zr_cmp (off := 12) (zD_of zk_35 d_35_5 rfl rfl) (zD_of zk_35 d_35_6 rfl rfl) rfl rfl (by decide) (lg_cmp_eq u v)
theorem q_35_6  : zRun 35 6 L (.int x :: S) sh mi mj mr = if x = 0 then zRun 35 18 L S sh mi mj mr else zRun 35 9 L S sh mi mj mr := zr_if (off := 12) (P := x = 0) (zD_of zk_35 d_35_6 rfl rfl) rfl rfl (by decide)
theorem q_35_9r : zRun 35 9 [l0, some (.ref o)] S sh mi mj mr = zRun 35 10 [l0, some (.ref o)] (.ref o :: S) sh mi mj mr := zr_l (zD_of zk_35 d_35_9 rfl rfl) rfl rfl rfl
theorem q_35_9n : zRun 35 9 [l0, some (.null)] S sh mi mj mr = zRun 35 10 [l0, some (.null)] (.null :: S) sh mi mj mr := zr_l (zD_of zk_35 d_35_9 rfl rfl) rfl rfl rfl
theorem q_35_10 (h : zIs sh o 0 2) : zRun 35 10 L (.ref o :: S) sh mi mj mr = zRun 35 13 L (.long (mj o 8) :: S) sh mi mj mr := zr_getJ (zD_of zk_35 d_35_10 rfl rfl) rfl rfl rfl h
theorem q_35_13  : zRun 35 13 L S sh mi mj mr = zRun 35 14 L (.long 0 :: S) sh mi mj mr := zr_p (zD_of zk_35 d_35_13 rfl rfl) rfl
theorem q_35_14  : zRun 35 14 L (.long v :: .long u :: S) sh mi mj mr = if ¬ u = v then zRun 35 19 L S sh mi mj mr else zRun 35 18 L S sh mi mj mr := zr_cmp (off := 4) (zD_of zk_35 d_35_14 rfl rfl) (zD_of zk_35 d_35_15 rfl rfl) rfl rfl (by decide) (not_congr (lg_cmp_eq u v))
theorem q_35_15  : zRun 35 15 L (.int x :: S) sh mi mj mr = if ¬ x = 0 then zRun 35 19 L S sh mi mj mr else zRun 35 18 L S sh mi mj mr := zr_if (off := 4) (P := ¬ x = 0) (zD_of zk_35 d_35_15 rfl rfl) rfl rfl (by decide)
theorem q_35_18  : zRun 35 18 L [] sh mi mj mr = some (none, sh, mi, mj, mr) := zr_ret (zD_of zk_35 d_35_18 rfl rfl) rfl rfl rfl rfl rfl rfl
theorem q_35_19r : zRun 35 19 [some (.ref o), l1] S sh mi mj mr = zRun 35 20 [some (.ref o), l1] (.ref o :: S) sh mi mj mr := zr_l (zD_of zk_35 d_35_19 rfl rfl) rfl rfl rfl
theorem q_35_19n : zRun 35 19 [some (.null), l1] S sh mi mj mr = zRun 35 20 [some (.null), l1] (.null :: S) sh mi mj mr := zr_l (zD_of zk_35 d_35_19 rfl rfl) rfl rfl rfl
theorem q_35_20  : zRun 35 20 L S sh mi mj mr = zRun 35 23 L (.long 65536 :: S) sh mi mj mr := zr_k64 (zD_of zk_35 d_35_20 rfl rfl) rfl
theorem q_35_23r : zRun 35 23 [l0, some (.ref o)] S sh mi mj mr = zRun 35 24 [l0, some (.ref o)] (.ref o :: S) sh mi mj mr := zr_l (zD_of zk_35 d_35_23 rfl rfl) rfl rfl rfl
theorem q_35_23n : zRun 35 23 [l0, some (.null)] S sh mi mj mr = zRun 35 24 [l0, some (.null)] (.null :: S) sh mi mj mr := zr_l (zD_of zk_35 d_35_23 rfl rfl) rfl rfl rfl
theorem q_35_24 (h : zIs sh o 0 2) : zRun 35 24 L (.ref o :: S) sh mi mj mr = zRun 35 27 L (.long (mj o 8) :: S) sh mi mj mr := zr_getJ (zD_of zk_35 d_35_24 rfl rfl) rfl rfl rfl h
theorem q_35_27  {u0 u1 : Int64} (hS : zcat S ≤ 8) : zRun 35 27 L (.long u1 :: .long u0 :: S) sh mi mj mr = (zCall 110 [.long u0, .long u1] sh mi mj mr).bind fun r => zRun 35 30 L (r.1.toList ++ S) r.2.1 r.2.2.1 r.2.2.2.1 r.2.2.2.2 := zr_S (zD_of zk_35 d_35_27 rfl rfl) rfl zk_110 rfl rfl rfl hS
theorem q_35_30  : zRun 35 30 L S sh mi mj mr = zRun 35 33 L (.long (-65536) :: S) sh mi mj mr := zr_k64 (zD_of zk_35 d_35_30 rfl rfl) rfl
theorem q_35_33r : zRun 35 33 [l0, some (.ref o)] S sh mi mj mr = zRun 35 34 [l0, some (.ref o)] (.ref o :: S) sh mi mj mr := zr_l (zD_of zk_35 d_35_33 rfl rfl) rfl rfl rfl
theorem q_35_33n : zRun 35 33 [l0, some (.null)] S sh mi mj mr = zRun 35 34 [l0, some (.null)] (.null :: S) sh mi mj mr := zr_l (zD_of zk_35 d_35_33 rfl rfl) rfl rfl rfl
theorem q_35_34 (h : zIs sh o 0 2) : zRun 35 34 L (.ref o :: S) sh mi mj mr = zRun 35 37 L (.long (mj o 7) :: S) sh mi mj mr := zr_getJ (zD_of zk_35 d_35_34 rfl rfl) rfl rfl rfl h
theorem q_35_37  {u0 u1 : Int64} (hS : zcat S ≤ 8) : zRun 35 37 L (.long u1 :: .long u0 :: S) sh mi mj mr = (zCall 110 [.long u0, .long u1] sh mi mj mr).bind fun r => zRun 35 40 L (r.1.toList ++ S) r.2.1 r.2.2.1 r.2.2.2.1 r.2.2.2.2 := zr_S (zD_of zk_35 d_35_37 rfl rfl) rfl zk_110 rfl rfl rfl hS
theorem q_35_40  : zRun 35 40 L (.long u :: S) sh mi mj mr = zRun 35 41 L (.long (-u) :: S) sh mi mj mr := zr_p (zD_of zk_35 d_35_40 rfl rfl) rfl
theorem q_35_41  {u0 u1 : Int64} (hS : zcat S ≤ 8) (h : zIs sh o 0 2) : zRun 35 41 L (.long u1 :: .long u0 :: .ref o :: S) sh mi mj mr = (zCall 26 [.ref o, .long u0, .long u1] sh mi mj mr).bind fun r => zRun 35 44 L (r.1.toList ++ S) r.2.1 r.2.2.1 r.2.2.2.1 r.2.2.2.2 := zr_V (zD_of zk_35 d_35_41 rfl rfl) rfl zk_26 rfl rfl rfl hS h
theorem q_35_44  : zRun 35 44 L [] sh mi mj mr = some (none, sh, mi, mj, mr) := zr_ret (zD_of zk_35 d_35_44 rfl rfl) rfl rfl rfl rfl rfl rfl
theorem e_35 {o0 : Nat} : zCall 35 [.ref o, .ref o0] sh mi mj mr = zRun 35 0 [some (.ref o), some (.ref o0)] [] sh mi mj mr := rfl
theorem d_36_0 : decode cX2_absolute 0 = .ok (.aload_n 1, 1) := by decide +kernel
theorem d_36_1 : decode cX2_absolute 1 = .ok (.getfield 42, 3) := by decide +kernel
theorem d_36_4 : decode cX2_absolute 4 = .ok (.lconst 0, 1) := by decide +kernel
theorem d_36_5 : decode cX2_absolute 5 = .ok (.lcmp, 1) := by decide +kernel
theorem d_36_6 : decode cX2_absolute 6 = .ok (.ifCond .lt 11, 3) := by decide +kernel
theorem d_36_9 : decode cX2_absolute 9 = .ok (.aload_n 0, 1) := by decide +kernel
theorem d_36_10 : decode cX2_absolute 10 = .ok (.aload_n 1, 1) := by decide +kernel
theorem d_36_11 : decode cX2_absolute 11 = .ok (.invokevirtual 104, 3) := by decide +kernel
theorem d_36_14 : decode cX2_absolute 14 = .ok (.goto 37, 3) := by decide +kernel
theorem d_36_17 : decode cX2_absolute 17 = .ok (.aload_n 1, 1) := by decide +kernel
theorem d_36_18 : decode cX2_absolute 18 = .ok (.getfield 51, 3) := by decide +kernel
theorem d_36_21 : decode cX2_absolute 21 = .ok (.lconst 0, 1) := by decide +kernel
theorem d_36_22 : decode cX2_absolute 22 = .ok (.lcmp, 1) := by decide +kernel
theorem d_36_23 : decode cX2_absolute 23 = .ok (.ifCond .gt 11, 3) := by decide +kernel
theorem d_36_26 : decode cX2_absolute 26 = .ok (.aload_n 0, 1) := by decide +kernel
theorem d_36_27 : decode cX2_absolute 27 = .ok (.aload_n 1, 1) := by decide +kernel
theorem d_36_28 : decode cX2_absolute 28 = .ok (.invokevirtual 108, 3) := by decide +kernel
theorem d_36_31 : decode cX2_absolute 31 = .ok (.goto 20, 3) := by decide +kernel
theorem d_36_34 : decode cX2_absolute 34 = .ok (.aload_n 0, 1) := by decide +kernel
theorem d_36_35 : decode cX2_absolute 35 = .ok (.lconst 0, 1) := by decide +kernel
theorem d_36_36 : decode cX2_absolute 36 = .ok (.aload_n 1, 1) := by decide +kernel
theorem d_36_37 : decode cX2_absolute 37 = .ok (.getfield 42, 3) := by decide +kernel
theorem d_36_40 : decode cX2_absolute 40 = .ok (.lneg, 1) := by decide +kernel
theorem d_36_41 : decode cX2_absolute 41 = .ok (.aload_n 1, 1) := by decide +kernel
theorem d_36_42 : decode cX2_absolute 42 = .ok (.getfield 51, 3) := by decide +kernel
theorem d_36_45 : decode cX2_absolute 45 = .ok (.invokestatic 38, 3) := by decide +kernel
theorem d_36_48 : decode cX2_absolute 48 = .ok (.invokevirtual 72, 3) := by decide +kernel
theorem d_36_51 : decode cX2_absolute 51 = .ok (.return_, 1) := by decide +kernel
theorem q_36_0r : zRun 36 0 [l0, some (.ref o)] S sh mi mj mr = zRun 36 1 [l0, some (.ref o)] (.ref o :: S) sh mi mj mr := zr_l (zD_of zk_36 d_36_0 rfl rfl) rfl rfl rfl
theorem q_36_0n : zRun 36 0 [l0, some (.null)] S sh mi mj mr = zRun 36 1 [l0, some (.null)] (.null :: S) sh mi mj mr := zr_l (zD_of zk_36 d_36_0 rfl rfl) rfl rfl rfl
theorem q_36_1 (h : zIs sh o 0 2) : zRun 36 1 L (.ref o :: S) sh mi mj mr = zRun 36 4 L (.long (mj o 7) :: S) sh mi mj mr := zr_getJ (zD_of zk_36 d_36_1 rfl rfl) rfl rfl rfl h
theorem q_36_4  : zRun 36 4 L S sh mi mj mr = zRun 36 5 L (.long 0 :: S) sh mi mj mr := zr_p (zD_of zk_36 d_36_4 rfl rfl) rfl
theorem q_36_5  : zRun 36 5 L (.long v :: .long u :: S) sh mi mj mr = if u < v then zRun 36 17 L S sh mi mj mr else zRun 36 9 L S sh mi mj mr := zr_cmp (off := 11) (zD_of zk_36 d_36_5 rfl rfl) (zD_of zk_36 d_36_6 rfl rfl) rfl rfl (by decide) (lg_cmp_lt u v)
theorem q_36_6  : zRun 36 6 L (.int x :: S) sh mi mj mr = if x < 0 then zRun 36 17 L S sh mi mj mr else zRun 36 9 L S sh mi mj mr := zr_if (off := 11) (P := x < 0) (zD_of zk_36 d_36_6 rfl rfl) rfl rfl (by decide)
theorem q_36_9r : zRun 36 9 [some (.ref o), l1] S sh mi mj mr = zRun 36 10 [some (.ref o), l1] (.ref o :: S) sh mi mj mr := zr_l (zD_of zk_36 d_36_9 rfl rfl) rfl rfl rfl
theorem q_36_9n : zRun 36 9 [some (.null), l1] S sh mi mj mr = zRun 36 10 [some (.null), l1] (.null :: S) sh mi mj mr := zr_l (zD_of zk_36 d_36_9 rfl rfl) rfl rfl rfl
theorem q_36_10r : zRun 36 10 [l0, some (.ref o)] S sh mi mj mr = zRun 36 11 [l0, some (.ref o)] (.ref o :: S) sh mi mj mr := zr_l (zD_of zk_36 d_36_10 rfl rfl) rfl rfl rfl
theorem q_36_10n : zRun 36 10 [l0, some (.null)] S sh mi mj mr = zRun 36 11 [l0, some (.null)] (.null :: S) sh mi mj mr := zr_l (zD_of zk_36 d_36_10 rfl rfl) rfl rfl rfl
theorem q_36_11  {o0 : Nat} (hS : zcat S ≤ 8) (h : zIs sh o 0 2) : zRun 36 11 L (.ref o0 :: .ref o :: S) sh mi mj mr = (zCall 29 [.ref o, .ref o0] sh mi mj mr).bind fun r => zRun 36 14 L (r.1.toList ++ S) r.2.1 r.2.2.1 r.2.2.2.1 r.2.2.2.2 := zr_V (zD_of zk_36 d_36_11 rfl rfl) rfl zk_29 rfl rfl rfl hS h
theorem q_36_14  : zRun 36 14 L S sh mi mj mr = zRun 36 51 L S sh mi mj mr := zr_go (off := 37) (zD_of zk_36 d_36_14 rfl rfl) rfl rfl (by decide)
theorem q_36_17r : zRun 36 17 [l0, some (.ref o)] S sh mi mj mr = zRun 36 18 [l0, some (.ref o)] (.ref o :: S) sh mi mj mr := zr_l (zD_of zk_36 d_36_17 rfl rfl) rfl rfl rfl
theorem q_36_17n : zRun 36 17 [l0, some (.null)] S sh mi mj mr = zRun 36 18 [l0, some (.null)] (.null :: S) sh mi mj mr := zr_l (zD_of zk_36 d_36_17 rfl rfl) rfl rfl rfl
theorem q_36_18 (h : zIs sh o 0 2) : zRun 36 18 L (.ref o :: S) sh mi mj mr = zRun 36 21 L (.long (mj o 8) :: S) sh mi mj mr := zr_getJ (zD_of zk_36 d_36_18 rfl rfl) rfl rfl rfl h
theorem q_36_21  : zRun 36 21 L S sh mi mj mr = zRun 36 22 L (.long 0 :: S) sh mi mj mr := zr_p (zD_of zk_36 d_36_21 rfl rfl) rfl
theorem q_36_22  : zRun 36 22 L (.long v :: .long u :: S) sh mi mj mr = if v < u then zRun 36 34 L S sh mi mj mr else zRun 36 26 L S sh mi mj mr := zr_cmp (off := 11) (zD_of zk_36 d_36_22 rfl rfl) (zD_of zk_36 d_36_23 rfl rfl) rfl rfl (by decide) (lg_cmp_gt u v)
theorem q_36_23  : zRun 36 23 L (.int x :: S) sh mi mj mr = if 0 < x then zRun 36 34 L S sh mi mj mr else zRun 36 26 L S sh mi mj mr := zr_if (off := 11) (P := 0 < x) (zD_of zk_36 d_36_23 rfl rfl) rfl rfl (by decide)
theorem q_36_26r : zRun 36 26 [some (.ref o), l1] S sh mi mj mr = zRun 36 27 [some (.ref o), l1] (.ref o :: S) sh mi mj mr := zr_l (zD_of zk_36 d_36_26 rfl rfl) rfl rfl rfl
theorem q_36_26n : zRun 36 26 [some (.null), l1] S sh mi mj mr = zRun 36 27 [some (.null), l1] (.null :: S) sh mi mj mr := zr_l (zD_of zk_36 d_36_26 rfl rfl) rfl rfl rfl
theorem q_36_27r : zRun 36 27 [l0, some (.ref o)] S sh mi mj mr = zRun 36 28 [l0, some (.ref o)] (.ref o :: S) sh mi mj mr := zr_l (zD_of zk_36 d_36_27 rfl rfl) rfl rfl rfl
theorem q_36_27n : zRun 36 27 [l0, some (.null)] S sh mi mj mr = zRun 36 28 [l0, some (.null)] (.null :: S) sh mi mj mr := zr_l (zD_of zk_36 d_36_27 rfl rfl) rfl rfl rfl
theorem q_36_28  {o0 : Nat} (hS : zcat S ≤ 8) (h : zIs sh o 0 2) : zRun 36 28 L (.ref o0 :: .ref o :: S) sh mi mj mr = (zCall 32 [.ref o, .ref o0] sh mi mj mr).bind fun r => zRun 36 31 L (r.1.toList ++ S) r.2.1 r.2.2.1 r.2.2.2.1 r.2.2.2.2 := zr_V (zD_of zk_36 d_36_28 rfl rfl) rfl zk_32 rfl rfl rfl hS h
theorem q_36_31  : zRun 36 31 L S sh mi mj mr = zRun 36 51 L S sh mi mj mr := zr_go (off := 20) (zD_of zk_36 d_36_31 rfl rfl) rfl rfl (by decide)
theorem q_36_34r : zRun 36 34 [some (.ref o), l1] S sh mi mj mr = zRun 36 35 [some (.ref o), l1] (.ref o :: S) sh mi mj mr := zr_l (zD_of zk_36 d_36_34 rfl rfl) rfl rfl rfl
theorem q_36_34n : zRun 36 34 [some (.null), l1] S sh mi mj mr = zRun 36 35 [some (.null), l1] (.null :: S) sh mi mj mr := zr_l (zD_of zk_36 d_36_34 rfl rfl) rfl rfl rfl
theorem q_36_35  : zRun 36 35 L S sh mi mj mr = zRun 36 36 L (.long 0 :: S) sh mi mj mr := zr_p (zD_of zk_36 d_36_35 rfl rfl) rfl
theorem q_36_36r : zRun 36 36 [l0, some (.ref o)] S sh mi mj mr = zRun 36 37 [l0, some (.ref o)] (.ref o :: S) sh mi mj mr := zr_l (zD_of zk_36 d_36_36 rfl rfl) rfl rfl rfl
theorem q_36_36n : zRun 36 36 [l0, some (.null)] S sh mi mj mr = zRun 36 37 [l0, some (.null)] (.null :: S) sh mi mj mr := zr_l (zD_of zk_36 d_36_36 rfl rfl) rfl rfl rfl
theorem q_36_37 (h : zIs sh o 0 2) : zRun 36 37 L (.ref o :: S) sh mi mj mr = zRun 36 40 L (.long (mj o 7) :: S) sh mi mj mr := zr_getJ (zD_of zk_36 d_36_37 rfl rfl) rfl rfl rfl h
theorem q_36_40  : zRun 36 40 L (.long u :: S) sh mi mj mr = zRun 36 41 L (.long (-u) :: S) sh mi mj mr := zr_p (zD_of zk_36 d_36_40 rfl rfl) rfl
theorem q_36_41r : zRun 36 41 [l0, some (.ref o)] S sh mi mj mr = zRun 36 42 [l0, some (.ref o)] (.ref o :: S) sh mi mj mr := zr_l (zD_of zk_36 d_36_41 rfl rfl) rfl rfl rfl
theorem q_36_41n : zRun 36 41 [l0, some (.null)] S sh mi mj mr = zRun 36 42 [l0, some (.null)] (.null :: S) sh mi mj mr := zr_l (zD_of zk_36 d_36_41 rfl rfl) rfl rfl rfl
theorem q_36_42 (h : zIs sh o 0 2) : zRun 36 42 L (.ref o :: S) sh mi mj mr = zRun 36 45 L (.long (mj o 8) :: S) sh mi mj mr := zr_getJ (zD_of zk_36 d_36_42 rfl rfl) rfl rfl rfl h
theorem q_36_45  {u0 u1 : Int64} (hS : zcat S ≤ 8) : zRun 36 45 L (.long u1 :: .long u0 :: S) sh mi mj mr = (zCall 112 [.long u0, .long u1] sh mi mj mr).bind fun r => zRun 36 48 L (r.1.toList ++ S) r.2.1 r.2.2.1 r.2.2.2.1 r.2.2.2.2 := zr_S (zD_of zk_36 d_36_45 rfl rfl) rfl zk_112 rfl rfl rfl hS
theorem q_36_48  {u0 u1 : Int64} (hS : zcat S ≤ 8) (h : zIs sh o 0 2) : zRun 36 48 L (.long u1 :: .long u0 :: .ref o :: S) sh mi mj mr = (zCall 26 [.ref o, .long u0, .long u1] sh mi mj mr).bind fun r => zRun 36 51 L (r.1.toList ++ S) r.2.1 r.2.2.1 r.2.2.2.1 r.2.2.2.2 := zr_V (zD_of zk_36 d_36_48 rfl rfl) rfl zk_26 rfl rfl rfl hS h
theorem q_36_51  : zRun 36 51 L [] sh mi mj mr = some (none, sh, mi, mj, mr) := zr_ret (zD_of zk_36 d_36_51 rfl rfl) rfl rfl rfl rfl rfl rfl
theorem e_36 {o0 : Nat} : zCall 36 [.ref o, .ref o0] sh mi mj mr = zRun 36 0 [some (.ref o), some (.ref o0)] [] sh mi mj mr := rfl
theorem d_37_0 : decode cX2_root 0 = .ok (.aload_n 1, 1) := by decide +kernel
theorem d_37_1 : decode cX2_root 1 = .ok (.getfield 51, 3) := by decide +kernel
theorem d_37_4 : decode cX2_root 4 = .ok (.lconst 0, 1) := by decide +kernel
theorem d_37_5 : decode cX2_root 5 = .ok (.lcmp, 1) := by decide +kernel
theorem d_37_6 : decode cX2_root 6 = .ok (.ifCond .ge 9, 3) := by decide +kernel
theorem d_37_9 : decode cX2_root 9 = .ok (.aload_n 0, 1) := by decide +kernel
theorem d_37_10 : decode cX2_root 10 = .ok (.iconst 2, 1) := by decide +kernel
theorem d_37_11 : decode cX2_root 11 = .ok (.invokevirtual 58, 3) := by decide +kernel
theorem d_37_14 : decode cX2_root 14 = .ok (.return_, 1) := by decide +kernel
theorem d_37_15 : decode cX2_root 15 = .ok (.ldc2_w 111, 3) := by decide +kernel
theorem d_37_18 : decode cX2_root 18 = .ok (.aload_n 1, 1) := by decide +kernel
theorem d_37_19 : decode cX2_root 19 = .ok (.getfield 51, 3) := by decide +kernel
theorem d_37_22 : decode cX2_root 22 = .ok (.lmul, 1) := by decide +kernel
theorem d_37_23 : decode cX2_root 23 = .ok (.lstore_n 2, 1) := by decide +kernel
theorem d_37_24 : decode cX2_root 24 = .ok (.lload_n 2, 1) := by decide +kernel
theorem d_37_25 : decode cX2_root 25 = .ok (.invokestatic 113, 3) := by decide +kernel
theorem d_37_28 : decode cX2_root 28 = .ok (.lstore 4, 2) := by decide +kernel
theorem d_37_30 : decode cX2_root 30 = .ok (.lload 4, 2) := by decide +kernel
theorem d_37_32 : decode cX2_root 32 = .ok (.lload 4, 2) := by decide +kernel
theorem d_37_34 : decode cX2_root 34 = .ok (.lmul, 1) := by decide +kernel
theorem d_37_35 : decode cX2_root 35 = .ok (.lload_n 2, 1) := by decide +kernel
theorem d_37_36 : decode cX2_root 36 = .ok (.lcmp, 1) := by decide +kernel
theorem d_37_37 : decode cX2_root 37 = .ok (.ifCond .ge 9, 3) := by decide +kernel
theorem d_37_40 : decode cX2_root 40 = .ok (.lload 4, 2) := by decide +kernel
theorem d_37_42 : decode cX2_root 42 = .ok (.lconst 1, 1) := by decide +kernel
theorem d_37_43 : decode cX2_root 43 = .ok (.ladd, 1) := by decide +kernel
theorem d_37_44 : decode cX2_root 44 = .ok (.lstore 4, 2) := by decide +kernel
theorem d_37_46 : decode cX2_root 46 = .ok (.aload_n 0, 1) := by decide +kernel
theorem d_37_47 : decode cX2_root 47 = .ok (.ldc2_w 111, 3) := by decide +kernel
theorem d_37_50 : decode cX2_root 50 = .ok (.aload_n 1, 1) := by decide +kernel
theorem d_37_51 : decode cX2_root 51 = .ok (.getfield 42, 3) := by decide +kernel
theorem d_37_54 : decode cX2_root 54 = .ok (.lconst 0, 1) := by decide +kernel
theorem d_37_55 : decode cX2_root 55 = .ok (.invokestatic 38, 3) := by decide +kernel
theorem d_37_58 : decode cX2_root 58 = .ok (.lmul, 1) := by decide +kernel
theorem d_37_59 : decode cX2_root 59 = .ok (.invokestatic 113, 3) := by decide +kernel
theorem d_37_62 : decode cX2_root 62 = .ok (.lload 4, 2) := by decide +kernel
theorem d_37_64 : decode cX2_root 64 = .ok (.invokevirtual 72, 3) := by decide +kernel
theorem d_37_67 : decode cX2_root 67 = .ok (.return_, 1) := by decide +kernel
theorem q_37_0r : zRun 37 0 [l0, some (.ref o), l2, l3, l4, l5] S sh mi mj mr = zRun 37 1 [l0, some (.ref o), l2, l3, l4, l5] (.ref o :: S) sh mi mj mr := zr_l (zD_of zk_37 d_37_0 rfl rfl) rfl rfl rfl
theorem q_37_0n : zRun 37 0 [l0, some (.null), l2, l3, l4, l5] S sh mi mj mr = zRun 37 1 [l0, some (.null), l2, l3, l4, l5] (.null :: S) sh mi mj mr := zr_l (zD_of zk_37 d_37_0 rfl rfl) rfl rfl rfl
theorem q_37_1 (h : zIs sh o 0 2) : zRun 37 1 L (.ref o :: S) sh mi mj mr = zRun 37 4 L (.long (mj o 8) :: S) sh mi mj mr := zr_getJ (zD_of zk_37 d_37_1 rfl rfl) rfl rfl rfl h
theorem q_37_4  : zRun 37 4 L S sh mi mj mr = zRun 37 5 L (.long 0 :: S) sh mi mj mr := zr_p (zD_of zk_37 d_37_4 rfl rfl) rfl
theorem q_37_5  : zRun 37 5 L (.long v :: .long u :: S) sh mi mj mr = if v ≤ u then zRun 37 15 L S sh mi mj mr else zRun 37 9 L S sh mi mj mr := zr_cmp (off := 9) (zD_of zk_37 d_37_5 rfl rfl) (zD_of zk_37 d_37_6 rfl rfl) rfl rfl (by decide) (lg_cmp_ge u v)
theorem q_37_6  : zRun 37 6 L (.int x :: S) sh mi mj mr = if 0 ≤ x then zRun 37 15 L S sh mi mj mr else zRun 37 9 L S sh mi mj mr := zr_if (off := 9) (P := 0 ≤ x) (zD_of zk_37 d_37_6 rfl rfl) rfl rfl (by decide)
theorem q_37_9r : zRun 37 9 [some (.ref o), l1, l2, l3, l4, l5] S sh mi mj mr = zRun 37 10 [some (.ref o), l1, l2, l3, l4, l5] (.ref o :: S) sh mi mj mr := zr_l (zD_of zk_37 d_37_9 rfl rfl) rfl rfl rfl
theorem q_37_9n : zRun 37 9 [some (.null), l1, l2, l3, l4, l5] S sh mi mj mr = zRun 37 10 [some (.null), l1, l2, l3, l4, l5] (.null :: S) sh mi mj mr := zr_l (zD_of zk_37 d_37_9 rfl rfl) rfl rfl rfl
theorem q_37_10  : zRun 37 10 L S sh mi mj mr = zRun 37 11 L (.int 2 :: S) sh mi mj mr := zr_p (zD_of zk_37 d_37_10 rfl rfl) rfl
theorem q_37_11  {x0 : Int32} (hS : zcat S ≤ 8) (h : zIs sh o 0 2) : zRun 37 11 L (.int x0 :: .ref o :: S) sh mi mj mr = (zCall 19 [.ref o, .int x0] sh mi mj mr).bind fun r => zRun 37 14 L (r.1.toList ++ S) r.2.1 r.2.2.1 r.2.2.2.1 r.2.2.2.2 := zr_V (zD_of zk_37 d_37_11 rfl rfl) rfl zk_19 rfl rfl rfl hS h
theorem q_37_14  : zRun 37 14 L [] sh mi mj mr = some (none, sh, mi, mj, mr) := zr_ret (zD_of zk_37 d_37_14 rfl rfl) rfl rfl rfl rfl rfl rfl
theorem q_37_15  : zRun 37 15 L S sh mi mj mr = zRun 37 18 L (.long 256 :: S) sh mi mj mr := zr_k64 (zD_of zk_37 d_37_15 rfl rfl) rfl
theorem q_37_18r : zRun 37 18 [l0, some (.ref o), l2, l3, l4, l5] S sh mi mj mr = zRun 37 19 [l0, some (.ref o), l2, l3, l4, l5] (.ref o :: S) sh mi mj mr := zr_l (zD_of zk_37 d_37_18 rfl rfl) rfl rfl rfl
theorem q_37_18n : zRun 37 18 [l0, some (.null), l2, l3, l4, l5] S sh mi mj mr = zRun 37 19 [l0, some (.null), l2, l3, l4, l5] (.null :: S) sh mi mj mr := zr_l (zD_of zk_37 d_37_18 rfl rfl) rfl rfl rfl
theorem q_37_19 (h : zIs sh o 0 2) : zRun 37 19 L (.ref o :: S) sh mi mj mr = zRun 37 22 L (.long (mj o 8) :: S) sh mi mj mr := zr_getJ (zD_of zk_37 d_37_19 rfl rfl) rfl rfl rfl h
theorem q_37_22  : zRun 37 22 L (.long v :: .long u :: S) sh mi mj mr = zRun 37 23 L (.long (u * v) :: S) sh mi mj mr := zr_p (zD_of zk_37 d_37_22 rfl rfl) rfl
theorem q_37_23 : zRun 37 23 [l0, l1, l2, l3, l4, l5] (.long u :: S) sh mi mj mr = zRun 37 24 [l0, zk2 l1, some (.long u), none, l4, l5] S sh mi mj mr := zr_s2 (i := 2) (v := .long u) (L := [l0, l1, l2, l3, l4, l5]) (zD_of zk_37 d_37_23 rfl rfl) rfl rfl rfl rfl
theorem q_37_24 : zRun 37 24 [l0, l1, some (.long u), l3, l4, l5] S sh mi mj mr = zRun 37 25 [l0, l1, some (.long u), l3, l4, l5] (.long u :: S) sh mi mj mr := zr_l (zD_of zk_37 d_37_24 rfl rfl) rfl rfl rfl
theorem q_37_25  {u0 : Int64} (hS : zcat S ≤ 8) : zRun 37 25 L (.long u0 :: S) sh mi mj mr = (zCall 43 [.long u0] sh mi mj mr).bind fun r => zRun 37 28 L (r.1.toList ++ S) r.2.1 r.2.2.1 r.2.2.2.1 r.2.2.2.2 := zr_S (zD_of zk_37 d_37_25 rfl rfl) rfl zk_43 rfl rfl rfl hS
theorem q_37_28 : zRun 37 28 [l0, l1, l2, l3, l4, l5] (.long u :: S) sh mi mj mr = zRun 37 30 [l0, l1, l2, zk2 l3, some (.long u), none] S sh mi mj mr := zr_s2 (i := 4) (v := .long u) (L := [l0, l1, l2, l3, l4, l5]) (zD_of zk_37 d_37_28 rfl rfl) rfl rfl rfl rfl
theorem q_37_30 : zRun 37 30 [l0, l1, l2, l3, some (.long u), l5] S sh mi mj mr = zRun 37 32 [l0, l1, l2, l3, some (.long u), l5] (.long u :: S) sh mi mj mr := zr_l (zD_of zk_37 d_37_30 rfl rfl) rfl rfl rfl
theorem q_37_32 : zRun 37 32 [l0, l1, l2, l3, some (.long u), l5] S sh mi mj mr = zRun 37 34 [l0, l1, l2, l3, some (.long u), l5] (.long u :: S) sh mi mj mr := zr_l (zD_of zk_37 d_37_32 rfl rfl) rfl rfl rfl
theorem q_37_34  : zRun 37 34 L (.long v :: .long u :: S) sh mi mj mr = zRun 37 35 L (.long (u * v) :: S) sh mi mj mr := zr_p (zD_of zk_37 d_37_34 rfl rfl) rfl
theorem q_37_35 : zRun 37 35 [l0, l1, some (.long u), l3, l4, l5] S sh mi mj mr = zRun 37 36 [l0, l1, some (.long u), l3, l4, l5] (.long u :: S) sh mi mj mr := zr_l (zD_of zk_37 d_37_35 rfl rfl) rfl rfl rfl
theorem q_37_36  : zRun 37 36 L (.long v :: .long u :: S) sh mi mj mr = if v ≤ u then zRun 37 46 L S sh mi mj mr else zRun 37 40 L S sh mi mj mr := zr_cmp (off := 9) (zD_of zk_37 d_37_36 rfl rfl) (zD_of zk_37 d_37_37 rfl rfl) rfl rfl (by decide) (lg_cmp_ge u v)
theorem q_37_37  : zRun 37 37 L (.int x :: S) sh mi mj mr = if 0 ≤ x then zRun 37 46 L S sh mi mj mr else zRun 37 40 L S sh mi mj mr := zr_if (off := 9) (P := 0 ≤ x) (zD_of zk_37 d_37_37 rfl rfl) rfl rfl (by decide)
theorem q_37_40 : zRun 37 40 [l0, l1, l2, l3, some (.long u), l5] S sh mi mj mr = zRun 37 42 [l0, l1, l2, l3, some (.long u), l5] (.long u :: S) sh mi mj mr := zr_l (zD_of zk_37 d_37_40 rfl rfl) rfl rfl rfl
theorem q_37_42  : zRun 37 42 L S sh mi mj mr = zRun 37 43 L (.long 1 :: S) sh mi mj mr := zr_p (zD_of zk_37 d_37_42 rfl rfl) rfl
theorem q_37_43  : zRun 37 43 L (.long v :: .long u :: S) sh mi mj mr = zRun 37 44 L (.long (u + v) :: S) sh mi mj mr := zr_p (zD_of zk_37 d_37_43 rfl rfl) rfl
theorem q_37_44 : zRun 37 44 [l0, l1, l2, l3, l4, l5] (.long u :: S) sh mi mj mr = zRun 37 46 [l0, l1, l2, zk2 l3, some (.long u), none] S sh mi mj mr := zr_s2 (i := 4) (v := .long u) (L := [l0, l1, l2, l3, l4, l5]) (zD_of zk_37 d_37_44 rfl rfl) rfl rfl rfl rfl
theorem q_37_46r : zRun 37 46 [some (.ref o), l1, l2, l3, l4, l5] S sh mi mj mr = zRun 37 47 [some (.ref o), l1, l2, l3, l4, l5] (.ref o :: S) sh mi mj mr := zr_l (zD_of zk_37 d_37_46 rfl rfl) rfl rfl rfl
theorem q_37_46n : zRun 37 46 [some (.null), l1, l2, l3, l4, l5] S sh mi mj mr = zRun 37 47 [some (.null), l1, l2, l3, l4, l5] (.null :: S) sh mi mj mr := zr_l (zD_of zk_37 d_37_46 rfl rfl) rfl rfl rfl
theorem q_37_47  : zRun 37 47 L S sh mi mj mr = zRun 37 50 L (.long 256 :: S) sh mi mj mr := zr_k64 (zD_of zk_37 d_37_47 rfl rfl) rfl
theorem q_37_50r : zRun 37 50 [l0, some (.ref o), l2, l3, l4, l5] S sh mi mj mr = zRun 37 51 [l0, some (.ref o), l2, l3, l4, l5] (.ref o :: S) sh mi mj mr := zr_l (zD_of zk_37 d_37_50 rfl rfl) rfl rfl rfl
theorem q_37_50n : zRun 37 50 [l0, some (.null), l2, l3, l4, l5] S sh mi mj mr = zRun 37 51 [l0, some (.null), l2, l3, l4, l5] (.null :: S) sh mi mj mr := zr_l (zD_of zk_37 d_37_50 rfl rfl) rfl rfl rfl
theorem q_37_51 (h : zIs sh o 0 2) : zRun 37 51 L (.ref o :: S) sh mi mj mr = zRun 37 54 L (.long (mj o 7) :: S) sh mi mj mr := zr_getJ (zD_of zk_37 d_37_51 rfl rfl) rfl rfl rfl h
theorem q_37_54  : zRun 37 54 L S sh mi mj mr = zRun 37 55 L (.long 0 :: S) sh mi mj mr := zr_p (zD_of zk_37 d_37_54 rfl rfl) rfl
theorem q_37_55  {u0 u1 : Int64} (hS : zcat S ≤ 8) : zRun 37 55 L (.long u1 :: .long u0 :: S) sh mi mj mr = (zCall 112 [.long u0, .long u1] sh mi mj mr).bind fun r => zRun 37 58 L (r.1.toList ++ S) r.2.1 r.2.2.1 r.2.2.2.1 r.2.2.2.2 := zr_S (zD_of zk_37 d_37_55 rfl rfl) rfl zk_112 rfl rfl rfl hS
theorem q_37_58  : zRun 37 58 L (.long v :: .long u :: S) sh mi mj mr = zRun 37 59 L (.long (u * v) :: S) sh mi mj mr := zr_p (zD_of zk_37 d_37_58 rfl rfl) rfl
theorem q_37_59  {u0 : Int64} (hS : zcat S ≤ 8) : zRun 37 59 L (.long u0 :: S) sh mi mj mr = (zCall 43 [.long u0] sh mi mj mr).bind fun r => zRun 37 62 L (r.1.toList ++ S) r.2.1 r.2.2.1 r.2.2.2.1 r.2.2.2.2 := zr_S (zD_of zk_37 d_37_59 rfl rfl) rfl zk_43 rfl rfl rfl hS
theorem q_37_62 : zRun 37 62 [l0, l1, l2, l3, some (.long u), l5] S sh mi mj mr = zRun 37 64 [l0, l1, l2, l3, some (.long u), l5] (.long u :: S) sh mi mj mr := zr_l (zD_of zk_37 d_37_62 rfl rfl) rfl rfl rfl
theorem q_37_64  {u0 u1 : Int64} (hS : zcat S ≤ 8) (h : zIs sh o 0 2) : zRun 37 64 L (.long u1 :: .long u0 :: .ref o :: S) sh mi mj mr = (zCall 26 [.ref o, .long u0, .long u1] sh mi mj mr).bind fun r => zRun 37 67 L (r.1.toList ++ S) r.2.1 r.2.2.1 r.2.2.2.1 r.2.2.2.2 := zr_V (zD_of zk_37 d_37_64 rfl rfl) rfl zk_26 rfl rfl rfl hS h
theorem q_37_67  : zRun 37 67 L [] sh mi mj mr = some (none, sh, mi, mj, mr) := zr_ret (zD_of zk_37 d_37_67 rfl rfl) rfl rfl rfl rfl rfl rfl
theorem e_37 {o0 : Nat} : zCall 37 [.ref o, .ref o0] sh mi mj mr = zRun 37 0 [some (.ref o), some (.ref o0), none, none, none, none] [] sh mi mj mr := rfl
theorem d_38_0 : decode cX2_least 0 = .ok (.aload_n 1, 1) := by decide +kernel
theorem d_38_1 : decode cX2_least 1 = .ok (.getfield 51, 3) := by decide +kernel
theorem d_38_4 : decode cX2_least 4 = .ok (.aload_n 2, 1) := by decide +kernel
theorem d_38_5 : decode cX2_least 5 = .ok (.getfield 42, 3) := by decide +kernel
theorem d_38_8 : decode cX2_least 8 = .ok (.lcmp, 1) := by decide +kernel
theorem d_38_9 : decode cX2_least 9 = .ok (.ifCond .gt 11, 3) := by decide +kernel
theorem d_38_12 : decode cX2_least 12 = .ok (.aload_n 0, 1) := by decide +kernel
theorem d_38_13 : decode cX2_least 13 = .ok (.aload_n 1, 1) := by decide +kernel
theorem d_38_14 : decode cX2_least 14 = .ok (.invokevirtual 104, 3) := by decide +kernel
theorem d_38_17 : decode cX2_least 17 = .ok (.goto 49, 3) := by decide +kernel
theorem d_38_20 : decode cX2_least 20 = .ok (.aload_n 2, 1) := by decide +kernel
theorem d_38_21 : decode cX2_least 21 = .ok (.getfield 51, 3) := by decide +kernel
theorem d_38_24 : decode cX2_least 24 = .ok (.aload_n 1, 1) := by decide +kernel
theorem d_38_25 : decode cX2_least 25 = .ok (.getfield 42, 3) := by decide +kernel
theorem d_38_28 : decode cX2_least 28 = .ok (.lcmp, 1) := by decide +kernel
theorem d_38_29 : decode cX2_least 29 = .ok (.ifCond .gt 11, 3) := by decide +kernel
theorem d_38_32 : decode cX2_least 32 = .ok (.aload_n 0, 1) := by decide +kernel
theorem d_38_33 : decode cX2_least 33 = .ok (.aload_n 2, 1) := by decide +kernel
theorem d_38_34 : decode cX2_least 34 = .ok (.invokevirtual 104, 3) := by decide +kernel
theorem d_38_37 : decode cX2_least 37 = .ok (.goto 29, 3) := by decide +kernel
theorem d_38_40 : decode cX2_least 40 = .ok (.aload_n 0, 1) := by decide +kernel
theorem d_38_41 : decode cX2_least 41 = .ok (.aload_n 1, 1) := by decide +kernel
theorem d_38_42 : decode cX2_least 42 = .ok (.getfield 42, 3) := by decide +kernel
theorem d_38_45 : decode cX2_least 45 = .ok (.aload_n 2, 1) := by decide +kernel
theorem d_38_46 : decode cX2_least 46 = .ok (.getfield 42, 3) := by decide +kernel
theorem d_38_49 : decode cX2_least 49 = .ok (.invokestatic 48, 3) := by decide +kernel
theorem d_38_52 : decode cX2_least 52 = .ok (.aload_n 1, 1) := by decide +kernel
theorem d_38_53 : decode cX2_least 53 = .ok (.getfield 51, 3) := by decide +kernel
theorem d_38_56 : decode cX2_least 56 = .ok (.aload_n 2, 1) := by decide +kernel
theorem d_38_57 : decode cX2_least 57 = .ok (.getfield 51, 3) := by decide +kernel
theorem d_38_60 : decode cX2_least 60 = .ok (.invokestatic 48, 3) := by decide +kernel
theorem d_38_63 : decode cX2_least 63 = .ok (.invokevirtual 72, 3) := by decide +kernel
theorem d_38_66 : decode cX2_least 66 = .ok (.return_, 1) := by decide +kernel
theorem q_38_0r : zRun 38 0 [l0, some (.ref o), l2] S sh mi mj mr = zRun 38 1 [l0, some (.ref o), l2] (.ref o :: S) sh mi mj mr := zr_l (zD_of zk_38 d_38_0 rfl rfl) rfl rfl rfl
theorem q_38_0n : zRun 38 0 [l0, some (.null), l2] S sh mi mj mr = zRun 38 1 [l0, some (.null), l2] (.null :: S) sh mi mj mr := zr_l (zD_of zk_38 d_38_0 rfl rfl) rfl rfl rfl
theorem q_38_1 (h : zIs sh o 0 2) : zRun 38 1 L (.ref o :: S) sh mi mj mr = zRun 38 4 L (.long (mj o 8) :: S) sh mi mj mr := zr_getJ (zD_of zk_38 d_38_1 rfl rfl) rfl rfl rfl h
theorem q_38_4r : zRun 38 4 [l0, l1, some (.ref o)] S sh mi mj mr = zRun 38 5 [l0, l1, some (.ref o)] (.ref o :: S) sh mi mj mr := zr_l (zD_of zk_38 d_38_4 rfl rfl) rfl rfl rfl
theorem q_38_4n : zRun 38 4 [l0, l1, some (.null)] S sh mi mj mr = zRun 38 5 [l0, l1, some (.null)] (.null :: S) sh mi mj mr := zr_l (zD_of zk_38 d_38_4 rfl rfl) rfl rfl rfl
theorem q_38_5 (h : zIs sh o 0 2) : zRun 38 5 L (.ref o :: S) sh mi mj mr = zRun 38 8 L (.long (mj o 7) :: S) sh mi mj mr := zr_getJ (zD_of zk_38 d_38_5 rfl rfl) rfl rfl rfl h
theorem q_38_8  : zRun 38 8 L (.long v :: .long u :: S) sh mi mj mr = if v < u then zRun 38 20 L S sh mi mj mr else zRun 38 12 L S sh mi mj mr := zr_cmp (off := 11) (zD_of zk_38 d_38_8 rfl rfl) (zD_of zk_38 d_38_9 rfl rfl) rfl rfl (by decide) (lg_cmp_gt u v)
theorem q_38_9  : zRun 38 9 L (.int x :: S) sh mi mj mr = if 0 < x then zRun 38 20 L S sh mi mj mr else zRun 38 12 L S sh mi mj mr := zr_if (off := 11) (P := 0 < x) (zD_of zk_38 d_38_9 rfl rfl) rfl rfl (by decide)
theorem q_38_12r : zRun 38 12 [some (.ref o), l1, l2] S sh mi mj mr = zRun 38 13 [some (.ref o), l1, l2] (.ref o :: S) sh mi mj mr := zr_l (zD_of zk_38 d_38_12 rfl rfl) rfl rfl rfl
theorem q_38_12n : zRun 38 12 [some (.null), l1, l2] S sh mi mj mr = zRun 38 13 [some (.null), l1, l2] (.null :: S) sh mi mj mr := zr_l (zD_of zk_38 d_38_12 rfl rfl) rfl rfl rfl
theorem q_38_13r : zRun 38 13 [l0, some (.ref o), l2] S sh mi mj mr = zRun 38 14 [l0, some (.ref o), l2] (.ref o :: S) sh mi mj mr := zr_l (zD_of zk_38 d_38_13 rfl rfl) rfl rfl rfl
theorem q_38_13n : zRun 38 13 [l0, some (.null), l2] S sh mi mj mr = zRun 38 14 [l0, some (.null), l2] (.null :: S) sh mi mj mr := zr_l (zD_of zk_38 d_38_13 rfl rfl) rfl rfl rfl
theorem q_38_14  {o0 : Nat} (hS : zcat S ≤ 8) (h : zIs sh o 0 2) : zRun 38 14 L (.ref o0 :: .ref o :: S) sh mi mj mr = (zCall 29 [.ref o, .ref o0] sh mi mj mr).bind fun r => zRun 38 17 L (r.1.toList ++ S) r.2.1 r.2.2.1 r.2.2.2.1 r.2.2.2.2 := zr_V (zD_of zk_38 d_38_14 rfl rfl) rfl zk_29 rfl rfl rfl hS h
theorem q_38_17  : zRun 38 17 L S sh mi mj mr = zRun 38 66 L S sh mi mj mr := zr_go (off := 49) (zD_of zk_38 d_38_17 rfl rfl) rfl rfl (by decide)
theorem q_38_20r : zRun 38 20 [l0, l1, some (.ref o)] S sh mi mj mr = zRun 38 21 [l0, l1, some (.ref o)] (.ref o :: S) sh mi mj mr := zr_l (zD_of zk_38 d_38_20 rfl rfl) rfl rfl rfl
theorem q_38_20n : zRun 38 20 [l0, l1, some (.null)] S sh mi mj mr = zRun 38 21 [l0, l1, some (.null)] (.null :: S) sh mi mj mr := zr_l (zD_of zk_38 d_38_20 rfl rfl) rfl rfl rfl
theorem q_38_21 (h : zIs sh o 0 2) : zRun 38 21 L (.ref o :: S) sh mi mj mr = zRun 38 24 L (.long (mj o 8) :: S) sh mi mj mr := zr_getJ (zD_of zk_38 d_38_21 rfl rfl) rfl rfl rfl h
theorem q_38_24r : zRun 38 24 [l0, some (.ref o), l2] S sh mi mj mr = zRun 38 25 [l0, some (.ref o), l2] (.ref o :: S) sh mi mj mr := zr_l (zD_of zk_38 d_38_24 rfl rfl) rfl rfl rfl
theorem q_38_24n : zRun 38 24 [l0, some (.null), l2] S sh mi mj mr = zRun 38 25 [l0, some (.null), l2] (.null :: S) sh mi mj mr := zr_l (zD_of zk_38 d_38_24 rfl rfl) rfl rfl rfl
theorem q_38_25 (h : zIs sh o 0 2) : zRun 38 25 L (.ref o :: S) sh mi mj mr = zRun 38 28 L (.long (mj o 7) :: S) sh mi mj mr := zr_getJ (zD_of zk_38 d_38_25 rfl rfl) rfl rfl rfl h
theorem q_38_28  : zRun 38 28 L (.long v :: .long u :: S) sh mi mj mr = if v < u then zRun 38 40 L S sh mi mj mr else zRun 38 32 L S sh mi mj mr := zr_cmp (off := 11) (zD_of zk_38 d_38_28 rfl rfl) (zD_of zk_38 d_38_29 rfl rfl) rfl rfl (by decide) (lg_cmp_gt u v)
theorem q_38_29  : zRun 38 29 L (.int x :: S) sh mi mj mr = if 0 < x then zRun 38 40 L S sh mi mj mr else zRun 38 32 L S sh mi mj mr := zr_if (off := 11) (P := 0 < x) (zD_of zk_38 d_38_29 rfl rfl) rfl rfl (by decide)
theorem q_38_32r : zRun 38 32 [some (.ref o), l1, l2] S sh mi mj mr = zRun 38 33 [some (.ref o), l1, l2] (.ref o :: S) sh mi mj mr := zr_l (zD_of zk_38 d_38_32 rfl rfl) rfl rfl rfl
theorem q_38_32n : zRun 38 32 [some (.null), l1, l2] S sh mi mj mr = zRun 38 33 [some (.null), l1, l2] (.null :: S) sh mi mj mr := zr_l (zD_of zk_38 d_38_32 rfl rfl) rfl rfl rfl
theorem q_38_33r : zRun 38 33 [l0, l1, some (.ref o)] S sh mi mj mr = zRun 38 34 [l0, l1, some (.ref o)] (.ref o :: S) sh mi mj mr := zr_l (zD_of zk_38 d_38_33 rfl rfl) rfl rfl rfl
theorem q_38_33n : zRun 38 33 [l0, l1, some (.null)] S sh mi mj mr = zRun 38 34 [l0, l1, some (.null)] (.null :: S) sh mi mj mr := zr_l (zD_of zk_38 d_38_33 rfl rfl) rfl rfl rfl
theorem q_38_34  {o0 : Nat} (hS : zcat S ≤ 8) (h : zIs sh o 0 2) : zRun 38 34 L (.ref o0 :: .ref o :: S) sh mi mj mr = (zCall 29 [.ref o, .ref o0] sh mi mj mr).bind fun r => zRun 38 37 L (r.1.toList ++ S) r.2.1 r.2.2.1 r.2.2.2.1 r.2.2.2.2 := zr_V (zD_of zk_38 d_38_34 rfl rfl) rfl zk_29 rfl rfl rfl hS h
theorem q_38_37  : zRun 38 37 L S sh mi mj mr = zRun 38 66 L S sh mi mj mr := zr_go (off := 29) (zD_of zk_38 d_38_37 rfl rfl) rfl rfl (by decide)
theorem q_38_40r : zRun 38 40 [some (.ref o), l1, l2] S sh mi mj mr = zRun 38 41 [some (.ref o), l1, l2] (.ref o :: S) sh mi mj mr := zr_l (zD_of zk_38 d_38_40 rfl rfl) rfl rfl rfl
theorem q_38_40n : zRun 38 40 [some (.null), l1, l2] S sh mi mj mr = zRun 38 41 [some (.null), l1, l2] (.null :: S) sh mi mj mr := zr_l (zD_of zk_38 d_38_40 rfl rfl) rfl rfl rfl
theorem q_38_41r : zRun 38 41 [l0, some (.ref o), l2] S sh mi mj mr = zRun 38 42 [l0, some (.ref o), l2] (.ref o :: S) sh mi mj mr := zr_l (zD_of zk_38 d_38_41 rfl rfl) rfl rfl rfl
theorem q_38_41n : zRun 38 41 [l0, some (.null), l2] S sh mi mj mr = zRun 38 42 [l0, some (.null), l2] (.null :: S) sh mi mj mr := zr_l (zD_of zk_38 d_38_41 rfl rfl) rfl rfl rfl
theorem q_38_42 (h : zIs sh o 0 2) : zRun 38 42 L (.ref o :: S) sh mi mj mr = zRun 38 45 L (.long (mj o 7) :: S) sh mi mj mr := zr_getJ (zD_of zk_38 d_38_42 rfl rfl) rfl rfl rfl h
theorem q_38_45r : zRun 38 45 [l0, l1, some (.ref o)] S sh mi mj mr = zRun 38 46 [l0, l1, some (.ref o)] (.ref o :: S) sh mi mj mr := zr_l (zD_of zk_38 d_38_45 rfl rfl) rfl rfl rfl
theorem q_38_45n : zRun 38 45 [l0, l1, some (.null)] S sh mi mj mr = zRun 38 46 [l0, l1, some (.null)] (.null :: S) sh mi mj mr := zr_l (zD_of zk_38 d_38_45 rfl rfl) rfl rfl rfl
theorem q_38_46 (h : zIs sh o 0 2) : zRun 38 46 L (.ref o :: S) sh mi mj mr = zRun 38 49 L (.long (mj o 7) :: S) sh mi mj mr := zr_getJ (zD_of zk_38 d_38_46 rfl rfl) rfl rfl rfl h
theorem q_38_49  {u0 u1 : Int64} (hS : zcat S ≤ 8) : zRun 38 49 L (.long u1 :: .long u0 :: S) sh mi mj mr = (zCall 114 [.long u0, .long u1] sh mi mj mr).bind fun r => zRun 38 52 L (r.1.toList ++ S) r.2.1 r.2.2.1 r.2.2.2.1 r.2.2.2.2 := zr_S (zD_of zk_38 d_38_49 rfl rfl) rfl zk_114 rfl rfl rfl hS
theorem q_38_52r : zRun 38 52 [l0, some (.ref o), l2] S sh mi mj mr = zRun 38 53 [l0, some (.ref o), l2] (.ref o :: S) sh mi mj mr := zr_l (zD_of zk_38 d_38_52 rfl rfl) rfl rfl rfl
theorem q_38_52n : zRun 38 52 [l0, some (.null), l2] S sh mi mj mr = zRun 38 53 [l0, some (.null), l2] (.null :: S) sh mi mj mr := zr_l (zD_of zk_38 d_38_52 rfl rfl) rfl rfl rfl
theorem q_38_53 (h : zIs sh o 0 2) : zRun 38 53 L (.ref o :: S) sh mi mj mr = zRun 38 56 L (.long (mj o 8) :: S) sh mi mj mr := zr_getJ (zD_of zk_38 d_38_53 rfl rfl) rfl rfl rfl h
theorem q_38_56r : zRun 38 56 [l0, l1, some (.ref o)] S sh mi mj mr = zRun 38 57 [l0, l1, some (.ref o)] (.ref o :: S) sh mi mj mr := zr_l (zD_of zk_38 d_38_56 rfl rfl) rfl rfl rfl
theorem q_38_56n : zRun 38 56 [l0, l1, some (.null)] S sh mi mj mr = zRun 38 57 [l0, l1, some (.null)] (.null :: S) sh mi mj mr := zr_l (zD_of zk_38 d_38_56 rfl rfl) rfl rfl rfl
theorem q_38_57 (h : zIs sh o 0 2) : zRun 38 57 L (.ref o :: S) sh mi mj mr = zRun 38 60 L (.long (mj o 8) :: S) sh mi mj mr := zr_getJ (zD_of zk_38 d_38_57 rfl rfl) rfl rfl rfl h
theorem q_38_60  {u0 u1 : Int64} (hS : zcat S ≤ 8) : zRun 38 60 L (.long u1 :: .long u0 :: S) sh mi mj mr = (zCall 114 [.long u0, .long u1] sh mi mj mr).bind fun r => zRun 38 63 L (r.1.toList ++ S) r.2.1 r.2.2.1 r.2.2.2.1 r.2.2.2.2 := zr_S (zD_of zk_38 d_38_60 rfl rfl) rfl zk_114 rfl rfl rfl hS
theorem q_38_63  {u0 u1 : Int64} (hS : zcat S ≤ 8) (h : zIs sh o 0 2) : zRun 38 63 L (.long u1 :: .long u0 :: .ref o :: S) sh mi mj mr = (zCall 26 [.ref o, .long u0, .long u1] sh mi mj mr).bind fun r => zRun 38 66 L (r.1.toList ++ S) r.2.1 r.2.2.1 r.2.2.2.1 r.2.2.2.2 := zr_V (zD_of zk_38 d_38_63 rfl rfl) rfl zk_26 rfl rfl rfl hS h
theorem q_38_66  : zRun 38 66 L [] sh mi mj mr = some (none, sh, mi, mj, mr) := zr_ret (zD_of zk_38 d_38_66 rfl rfl) rfl rfl rfl rfl rfl rfl
theorem e_38 {o0 o1 : Nat} : zCall 38 [.ref o, .ref o0, .ref o1] sh mi mj mr = zRun 38 0 [some (.ref o), some (.ref o0), some (.ref o1)] [] sh mi mj mr := rfl
theorem d_39_0 : decode cX2_greatest 0 = .ok (.aload_n 1, 1) := by decide +kernel
theorem d_39_1 : decode cX2_greatest 1 = .ok (.getfield 42, 3) := by decide +kernel
theorem d_39_4 : decode cX2_greatest 4 = .ok (.aload_n 2, 1) := by decide +kernel
theorem d_39_5 : decode cX2_greatest 5 = .ok (.getfield 51, 3) := by decide +kernel
theorem d_39_8 : decode cX2_greatest 8 = .ok (.lcmp, 1) := by decide +kernel
theorem d_39_9 : decode cX2_greatest 9 = .ok (.ifCond .lt 11, 3) := by decide +kernel
theorem d_39_12 : decode cX2_greatest 12 = .ok (.aload_n 0, 1) := by decide +kernel
theorem d_39_13 : decode cX2_greatest 13 = .ok (.aload_n 1, 1) := by decide +kernel
theorem d_39_14 : decode cX2_greatest 14 = .ok (.invokevirtual 104, 3) := by decide +kernel
theorem d_39_17 : decode cX2_greatest 17 = .ok (.goto 49, 3) := by decide +kernel
theorem d_39_20 : decode cX2_greatest 20 = .ok (.aload_n 2, 1) := by decide +kernel
theorem d_39_21 : decode cX2_greatest 21 = .ok (.getfield 42, 3) := by decide +kernel
theorem d_39_24 : decode cX2_greatest 24 = .ok (.aload_n 1, 1) := by decide +kernel
theorem d_39_25 : decode cX2_greatest 25 = .ok (.getfield 51, 3) := by decide +kernel
theorem d_39_28 : decode cX2_greatest 28 = .ok (.lcmp, 1) := by decide +kernel
theorem d_39_29 : decode cX2_greatest 29 = .ok (.ifCond .lt 11, 3) := by decide +kernel
theorem d_39_32 : decode cX2_greatest 32 = .ok (.aload_n 0, 1) := by decide +kernel
theorem d_39_33 : decode cX2_greatest 33 = .ok (.aload_n 2, 1) := by decide +kernel
theorem d_39_34 : decode cX2_greatest 34 = .ok (.invokevirtual 104, 3) := by decide +kernel
theorem d_39_37 : decode cX2_greatest 37 = .ok (.goto 29, 3) := by decide +kernel
theorem d_39_40 : decode cX2_greatest 40 = .ok (.aload_n 0, 1) := by decide +kernel
theorem d_39_41 : decode cX2_greatest 41 = .ok (.aload_n 1, 1) := by decide +kernel
theorem d_39_42 : decode cX2_greatest 42 = .ok (.getfield 42, 3) := by decide +kernel
theorem d_39_45 : decode cX2_greatest 45 = .ok (.aload_n 2, 1) := by decide +kernel
theorem d_39_46 : decode cX2_greatest 46 = .ok (.getfield 42, 3) := by decide +kernel
theorem d_39_49 : decode cX2_greatest 49 = .ok (.invokestatic 38, 3) := by decide +kernel
theorem d_39_52 : decode cX2_greatest 52 = .ok (.aload_n 1, 1) := by decide +kernel
theorem d_39_53 : decode cX2_greatest 53 = .ok (.getfield 51, 3) := by decide +kernel
theorem d_39_56 : decode cX2_greatest 56 = .ok (.aload_n 2, 1) := by decide +kernel
theorem d_39_57 : decode cX2_greatest 57 = .ok (.getfield 51, 3) := by decide +kernel
theorem d_39_60 : decode cX2_greatest 60 = .ok (.invokestatic 38, 3) := by decide +kernel
theorem d_39_63 : decode cX2_greatest 63 = .ok (.invokevirtual 72, 3) := by decide +kernel
theorem d_39_66 : decode cX2_greatest 66 = .ok (.return_, 1) := by decide +kernel
theorem q_39_0r : zRun 39 0 [l0, some (.ref o), l2] S sh mi mj mr = zRun 39 1 [l0, some (.ref o), l2] (.ref o :: S) sh mi mj mr := zr_l (zD_of zk_39 d_39_0 rfl rfl) rfl rfl rfl
theorem q_39_0n : zRun 39 0 [l0, some (.null), l2] S sh mi mj mr = zRun 39 1 [l0, some (.null), l2] (.null :: S) sh mi mj mr := zr_l (zD_of zk_39 d_39_0 rfl rfl) rfl rfl rfl
theorem q_39_1 (h : zIs sh o 0 2) : zRun 39 1 L (.ref o :: S) sh mi mj mr = zRun 39 4 L (.long (mj o 7) :: S) sh mi mj mr := zr_getJ (zD_of zk_39 d_39_1 rfl rfl) rfl rfl rfl h
theorem q_39_4r : zRun 39 4 [l0, l1, some (.ref o)] S sh mi mj mr = zRun 39 5 [l0, l1, some (.ref o)] (.ref o :: S) sh mi mj mr := zr_l (zD_of zk_39 d_39_4 rfl rfl) rfl rfl rfl
theorem q_39_4n : zRun 39 4 [l0, l1, some (.null)] S sh mi mj mr = zRun 39 5 [l0, l1, some (.null)] (.null :: S) sh mi mj mr := zr_l (zD_of zk_39 d_39_4 rfl rfl) rfl rfl rfl
theorem q_39_5 (h : zIs sh o 0 2) : zRun 39 5 L (.ref o :: S) sh mi mj mr = zRun 39 8 L (.long (mj o 8) :: S) sh mi mj mr := zr_getJ (zD_of zk_39 d_39_5 rfl rfl) rfl rfl rfl h
theorem q_39_8  : zRun 39 8 L (.long v :: .long u :: S) sh mi mj mr = if u < v then zRun 39 20 L S sh mi mj mr else zRun 39 12 L S sh mi mj mr := zr_cmp (off := 11) (zD_of zk_39 d_39_8 rfl rfl) (zD_of zk_39 d_39_9 rfl rfl) rfl rfl (by decide) (lg_cmp_lt u v)
theorem q_39_9  : zRun 39 9 L (.int x :: S) sh mi mj mr = if x < 0 then zRun 39 20 L S sh mi mj mr else zRun 39 12 L S sh mi mj mr := zr_if (off := 11) (P := x < 0) (zD_of zk_39 d_39_9 rfl rfl) rfl rfl (by decide)
theorem q_39_12r : zRun 39 12 [some (.ref o), l1, l2] S sh mi mj mr = zRun 39 13 [some (.ref o), l1, l2] (.ref o :: S) sh mi mj mr := zr_l (zD_of zk_39 d_39_12 rfl rfl) rfl rfl rfl
theorem q_39_12n : zRun 39 12 [some (.null), l1, l2] S sh mi mj mr = zRun 39 13 [some (.null), l1, l2] (.null :: S) sh mi mj mr := zr_l (zD_of zk_39 d_39_12 rfl rfl) rfl rfl rfl
theorem q_39_13r : zRun 39 13 [l0, some (.ref o), l2] S sh mi mj mr = zRun 39 14 [l0, some (.ref o), l2] (.ref o :: S) sh mi mj mr := zr_l (zD_of zk_39 d_39_13 rfl rfl) rfl rfl rfl
theorem q_39_13n : zRun 39 13 [l0, some (.null), l2] S sh mi mj mr = zRun 39 14 [l0, some (.null), l2] (.null :: S) sh mi mj mr := zr_l (zD_of zk_39 d_39_13 rfl rfl) rfl rfl rfl
theorem q_39_14  {o0 : Nat} (hS : zcat S ≤ 8) (h : zIs sh o 0 2) : zRun 39 14 L (.ref o0 :: .ref o :: S) sh mi mj mr = (zCall 29 [.ref o, .ref o0] sh mi mj mr).bind fun r => zRun 39 17 L (r.1.toList ++ S) r.2.1 r.2.2.1 r.2.2.2.1 r.2.2.2.2 := zr_V (zD_of zk_39 d_39_14 rfl rfl) rfl zk_29 rfl rfl rfl hS h
theorem q_39_17  : zRun 39 17 L S sh mi mj mr = zRun 39 66 L S sh mi mj mr := zr_go (off := 49) (zD_of zk_39 d_39_17 rfl rfl) rfl rfl (by decide)
theorem q_39_20r : zRun 39 20 [l0, l1, some (.ref o)] S sh mi mj mr = zRun 39 21 [l0, l1, some (.ref o)] (.ref o :: S) sh mi mj mr := zr_l (zD_of zk_39 d_39_20 rfl rfl) rfl rfl rfl
theorem q_39_20n : zRun 39 20 [l0, l1, some (.null)] S sh mi mj mr = zRun 39 21 [l0, l1, some (.null)] (.null :: S) sh mi mj mr := zr_l (zD_of zk_39 d_39_20 rfl rfl) rfl rfl rfl
theorem q_39_21 (h : zIs sh o 0 2) : zRun 39 21 L (.ref o :: S) sh mi mj mr = zRun 39 24 L (.long (mj o 7) :: S) sh mi mj mr := zr_getJ (zD_of zk_39 d_39_21 rfl rfl) rfl rfl rfl h
theorem q_39_24r : zRun 39 24 [l0, some (.ref o), l2] S sh mi mj mr = zRun 39 25 [l0, some (.ref o), l2] (.ref o :: S) sh mi mj mr := zr_l (zD_of zk_39 d_39_24 rfl rfl) rfl rfl rfl
theorem q_39_24n : zRun 39 24 [l0, some (.null), l2] S sh mi mj mr = zRun 39 25 [l0, some (.null), l2] (.null :: S) sh mi mj mr := zr_l (zD_of zk_39 d_39_24 rfl rfl) rfl rfl rfl
theorem q_39_25 (h : zIs sh o 0 2) : zRun 39 25 L (.ref o :: S) sh mi mj mr = zRun 39 28 L (.long (mj o 8) :: S) sh mi mj mr := zr_getJ (zD_of zk_39 d_39_25 rfl rfl) rfl rfl rfl h
theorem q_39_28  : zRun 39 28 L (.long v :: .long u :: S) sh mi mj mr = if u < v then zRun 39 40 L S sh mi mj mr else zRun 39 32 L S sh mi mj mr := zr_cmp (off := 11) (zD_of zk_39 d_39_28 rfl rfl) (zD_of zk_39 d_39_29 rfl rfl) rfl rfl (by decide) (lg_cmp_lt u v)
theorem q_39_29  : zRun 39 29 L (.int x :: S) sh mi mj mr = if x < 0 then zRun 39 40 L S sh mi mj mr else zRun 39 32 L S sh mi mj mr := zr_if (off := 11) (P := x < 0) (zD_of zk_39 d_39_29 rfl rfl) rfl rfl (by decide)
theorem q_39_32r : zRun 39 32 [some (.ref o), l1, l2] S sh mi mj mr = zRun 39 33 [some (.ref o), l1, l2] (.ref o :: S) sh mi mj mr := zr_l (zD_of zk_39 d_39_32 rfl rfl) rfl rfl rfl
theorem q_39_32n : zRun 39 32 [some (.null), l1, l2] S sh mi mj mr = zRun 39 33 [some (.null), l1, l2] (.null :: S) sh mi mj mr := zr_l (zD_of zk_39 d_39_32 rfl rfl) rfl rfl rfl
theorem q_39_33r : zRun 39 33 [l0, l1, some (.ref o)] S sh mi mj mr = zRun 39 34 [l0, l1, some (.ref o)] (.ref o :: S) sh mi mj mr := zr_l (zD_of zk_39 d_39_33 rfl rfl) rfl rfl rfl
theorem q_39_33n : zRun 39 33 [l0, l1, some (.null)] S sh mi mj mr = zRun 39 34 [l0, l1, some (.null)] (.null :: S) sh mi mj mr := zr_l (zD_of zk_39 d_39_33 rfl rfl) rfl rfl rfl
theorem q_39_34  {o0 : Nat} (hS : zcat S ≤ 8) (h : zIs sh o 0 2) : zRun 39 34 L (.ref o0 :: .ref o :: S) sh mi mj mr = (zCall 29 [.ref o, .ref o0] sh mi mj mr).bind fun r => zRun 39 37 L (r.1.toList ++ S) r.2.1 r.2.2.1 r.2.2.2.1 r.2.2.2.2 := zr_V (zD_of zk_39 d_39_34 rfl rfl) rfl zk_29 rfl rfl rfl hS h
theorem q_39_37  : zRun 39 37 L S sh mi mj mr = zRun 39 66 L S sh mi mj mr := zr_go (off := 29) (zD_of zk_39 d_39_37 rfl rfl) rfl rfl (by decide)
theorem q_39_40r : zRun 39 40 [some (.ref o), l1, l2] S sh mi mj mr = zRun 39 41 [some (.ref o), l1, l2] (.ref o :: S) sh mi mj mr := zr_l (zD_of zk_39 d_39_40 rfl rfl) rfl rfl rfl
theorem q_39_40n : zRun 39 40 [some (.null), l1, l2] S sh mi mj mr = zRun 39 41 [some (.null), l1, l2] (.null :: S) sh mi mj mr := zr_l (zD_of zk_39 d_39_40 rfl rfl) rfl rfl rfl
theorem q_39_41r : zRun 39 41 [l0, some (.ref o), l2] S sh mi mj mr = zRun 39 42 [l0, some (.ref o), l2] (.ref o :: S) sh mi mj mr := zr_l (zD_of zk_39 d_39_41 rfl rfl) rfl rfl rfl
theorem q_39_41n : zRun 39 41 [l0, some (.null), l2] S sh mi mj mr = zRun 39 42 [l0, some (.null), l2] (.null :: S) sh mi mj mr := zr_l (zD_of zk_39 d_39_41 rfl rfl) rfl rfl rfl
theorem q_39_42 (h : zIs sh o 0 2) : zRun 39 42 L (.ref o :: S) sh mi mj mr = zRun 39 45 L (.long (mj o 7) :: S) sh mi mj mr := zr_getJ (zD_of zk_39 d_39_42 rfl rfl) rfl rfl rfl h
theorem q_39_45r : zRun 39 45 [l0, l1, some (.ref o)] S sh mi mj mr = zRun 39 46 [l0, l1, some (.ref o)] (.ref o :: S) sh mi mj mr := zr_l (zD_of zk_39 d_39_45 rfl rfl) rfl rfl rfl
theorem q_39_45n : zRun 39 45 [l0, l1, some (.null)] S sh mi mj mr = zRun 39 46 [l0, l1, some (.null)] (.null :: S) sh mi mj mr := zr_l (zD_of zk_39 d_39_45 rfl rfl) rfl rfl rfl
theorem q_39_46 (h : zIs sh o 0 2) : zRun 39 46 L (.ref o :: S) sh mi mj mr = zRun 39 49 L (.long (mj o 7) :: S) sh mi mj mr := zr_getJ (zD_of zk_39 d_39_46 rfl rfl) rfl rfl rfl h
theorem q_39_49  {u0 u1 : Int64} (hS : zcat S ≤ 8) : zRun 39 49 L (.long u1 :: .long u0 :: S) sh mi mj mr = (zCall 112 [.long u0, .long u1] sh mi mj mr).bind fun r => zRun 39 52 L (r.1.toList ++ S) r.2.1 r.2.2.1 r.2.2.2.1 r.2.2.2.2 := zr_S (zD_of zk_39 d_39_49 rfl rfl) rfl zk_112 rfl rfl rfl hS
theorem q_39_52r : zRun 39 52 [l0, some (.ref o), l2] S sh mi mj mr = zRun 39 53 [l0, some (.ref o), l2] (.ref o :: S) sh mi mj mr := zr_l (zD_of zk_39 d_39_52 rfl rfl) rfl rfl rfl
theorem q_39_52n : zRun 39 52 [l0, some (.null), l2] S sh mi mj mr = zRun 39 53 [l0, some (.null), l2] (.null :: S) sh mi mj mr := zr_l (zD_of zk_39 d_39_52 rfl rfl) rfl rfl rfl
theorem q_39_53 (h : zIs sh o 0 2) : zRun 39 53 L (.ref o :: S) sh mi mj mr = zRun 39 56 L (.long (mj o 8) :: S) sh mi mj mr := zr_getJ (zD_of zk_39 d_39_53 rfl rfl) rfl rfl rfl h
theorem q_39_56r : zRun 39 56 [l0, l1, some (.ref o)] S sh mi mj mr = zRun 39 57 [l0, l1, some (.ref o)] (.ref o :: S) sh mi mj mr := zr_l (zD_of zk_39 d_39_56 rfl rfl) rfl rfl rfl
theorem q_39_56n : zRun 39 56 [l0, l1, some (.null)] S sh mi mj mr = zRun 39 57 [l0, l1, some (.null)] (.null :: S) sh mi mj mr := zr_l (zD_of zk_39 d_39_56 rfl rfl) rfl rfl rfl
theorem q_39_57 (h : zIs sh o 0 2) : zRun 39 57 L (.ref o :: S) sh mi mj mr = zRun 39 60 L (.long (mj o 8) :: S) sh mi mj mr := zr_getJ (zD_of zk_39 d_39_57 rfl rfl) rfl rfl rfl h
theorem q_39_60  {u0 u1 : Int64} (hS : zcat S ≤ 8) : zRun 39 60 L (.long u1 :: .long u0 :: S) sh mi mj mr = (zCall 112 [.long u0, .long u1] sh mi mj mr).bind fun r => zRun 39 63 L (r.1.toList ++ S) r.2.1 r.2.2.1 r.2.2.2.1 r.2.2.2.2 := zr_S (zD_of zk_39 d_39_60 rfl rfl) rfl zk_112 rfl rfl rfl hS
theorem q_39_63  {u0 u1 : Int64} (hS : zcat S ≤ 8) (h : zIs sh o 0 2) : zRun 39 63 L (.long u1 :: .long u0 :: .ref o :: S) sh mi mj mr = (zCall 26 [.ref o, .long u0, .long u1] sh mi mj mr).bind fun r => zRun 39 66 L (r.1.toList ++ S) r.2.1 r.2.2.1 r.2.2.2.1 r.2.2.2.2 := zr_V (zD_of zk_39 d_39_63 rfl rfl) rfl zk_26 rfl rfl rfl hS h
theorem q_39_66  : zRun 39 66 L [] sh mi mj mr = some (none, sh, mi, mj, mr) := zr_ret (zD_of zk_39 d_39_66 rfl rfl) rfl rfl rfl rfl rfl rfl
theorem e_39 {o0 o1 : Nat} : zCall 39 [.ref o, .ref o0, .ref o1] sh mi mj mr = zRun 39 0 [some (.ref o), some (.ref o0), some (.ref o1)] [] sh mi mj mr := rfl
theorem d_40_0 : decode cX2_isLarge 0 = .ok (.lload_n 0, 1) := by decide +kernel
theorem d_40_1 : decode cX2_isLarge 1 = .ok (.ldc2_w 116, 3) := by decide +kernel
theorem d_40_4 : decode cX2_isLarge 4 = .ok (.lcmp, 1) := by decide +kernel
theorem d_40_5 : decode cX2_isLarge 5 = .ok (.ifCond .gt 11, 3) := by decide +kernel
theorem d_40_8 : decode cX2_isLarge 8 = .ok (.lload_n 0, 1) := by decide +kernel
theorem d_40_9 : decode cX2_isLarge 9 = .ok (.ldc2_w 118, 3) := by decide +kernel
theorem d_40_12 : decode cX2_isLarge 12 = .ok (.lcmp, 1) := by decide +kernel
theorem d_40_13 : decode cX2_isLarge 13 = .ok (.ifCond .ge 7, 3) := by decide +kernel
theorem d_40_16 : decode cX2_isLarge 16 = .ok (.iconst 1, 1) := by decide +kernel
theorem d_40_17 : decode cX2_isLarge 17 = .ok (.goto 4, 3) := by decide +kernel
theorem d_40_20 : decode cX2_isLarge 20 = .ok (.iconst 0, 1) := by decide +kernel
theorem d_40_21 : decode cX2_isLarge 21 = .ok (.ireturn, 1) := by decide +kernel
theorem q_40_0 : zRun 40 0 [some (.long u), l1] S sh mi mj mr = zRun 40 1 [some (.long u), l1] (.long u :: S) sh mi mj mr := zr_l (zD_of zk_40 d_40_0 rfl rfl) rfl rfl rfl
theorem q_40_1  : zRun 40 1 L S sh mi mj mr = zRun 40 4 L (.long 1000000000 :: S) sh mi mj mr := zr_k64 (zD_of zk_40 d_40_1 rfl rfl) rfl
theorem q_40_4  : zRun 40 4 L (.long v :: .long u :: S) sh mi mj mr = if v < u then zRun 40 16 L S sh mi mj mr else zRun 40 8 L S sh mi mj mr := zr_cmp (off := 11) (zD_of zk_40 d_40_4 rfl rfl) (zD_of zk_40 d_40_5 rfl rfl) rfl rfl (by decide) (lg_cmp_gt u v)
theorem q_40_5  : zRun 40 5 L (.int x :: S) sh mi mj mr = if 0 < x then zRun 40 16 L S sh mi mj mr else zRun 40 8 L S sh mi mj mr := zr_if (off := 11) (P := 0 < x) (zD_of zk_40 d_40_5 rfl rfl) rfl rfl (by decide)
theorem q_40_8 : zRun 40 8 [some (.long u), l1] S sh mi mj mr = zRun 40 9 [some (.long u), l1] (.long u :: S) sh mi mj mr := zr_l (zD_of zk_40 d_40_8 rfl rfl) rfl rfl rfl
theorem q_40_9  : zRun 40 9 L S sh mi mj mr = zRun 40 12 L (.long (-1000000000) :: S) sh mi mj mr := zr_k64 (zD_of zk_40 d_40_9 rfl rfl) rfl
theorem q_40_12  : zRun 40 12 L (.long v :: .long u :: S) sh mi mj mr = if v ≤ u then zRun 40 20 L S sh mi mj mr else zRun 40 16 L S sh mi mj mr := zr_cmp (off := 7) (zD_of zk_40 d_40_12 rfl rfl) (zD_of zk_40 d_40_13 rfl rfl) rfl rfl (by decide) (lg_cmp_ge u v)
theorem q_40_13  : zRun 40 13 L (.int x :: S) sh mi mj mr = if 0 ≤ x then zRun 40 20 L S sh mi mj mr else zRun 40 16 L S sh mi mj mr := zr_if (off := 7) (P := 0 ≤ x) (zD_of zk_40 d_40_13 rfl rfl) rfl rfl (by decide)
theorem q_40_16  : zRun 40 16 L S sh mi mj mr = zRun 40 17 L (.int 1 :: S) sh mi mj mr := zr_p (zD_of zk_40 d_40_16 rfl rfl) rfl
theorem q_40_17  : zRun 40 17 L S sh mi mj mr = zRun 40 21 L S sh mi mj mr := zr_go (off := 4) (zD_of zk_40 d_40_17 rfl rfl) rfl rfl (by decide)
theorem q_40_20  : zRun 40 20 L S sh mi mj mr = zRun 40 21 L (.int 0 :: S) sh mi mj mr := zr_p (zD_of zk_40 d_40_20 rfl rfl) rfl
theorem q_40_21 (h : x = 0 ∨ x = 1) : zRun 40 21 L ([.int x]) sh mi mj mr = some (some (.int x), sh, mi, mj, mr) := zr_ret (zD_of zk_40 d_40_21 rfl rfl) rfl rfl rfl rfl rfl (if_pos (zna_b h))
theorem e_40 {u0 : Int64} : zCall 40 [.long u0] sh mi mj mr = zRun 40 0 [some (.long u0), none] [] sh mi mj mr := rfl
theorem d_41_0 : decode cX2_roundings 0 = .ok (.lload_n 0, 1) := by decide +kernel
theorem d_41_1 : decode cX2_roundings 1 = .ok (.lconst 1, 1) := by decide +kernel
theorem d_41_2 : decode cX2_roundings 2 = .ok (.iload_n 2, 1) := by decide +kernel
theorem d_41_3 : decode cX2_roundings 3 = .ok (.lshl, 1) := by decide +kernel
theorem d_41_4 : decode cX2_roundings 4 = .ok (.lconst 1, 1) := by decide +kernel
theorem d_41_5 : decode cX2_roundings 5 = .ok (.lsub, 1) := by decide +kernel
theorem d_41_6 : decode cX2_roundings 6 = .ok (.land, 1) := by decide +kernel
theorem d_41_7 : decode cX2_roundings 7 = .ok (.lconst 0, 1) := by decide +kernel
theorem d_41_8 : decode cX2_roundings 8 = .ok (.lcmp, 1) := by decide +kernel
theorem d_41_9 : decode cX2_roundings 9 = .ok (.ifCond .ne 7, 3) := by decide +kernel
theorem d_41_12 : decode cX2_roundings 12 = .ok (.iconst 0, 1) := by decide +kernel
theorem d_41_13 : decode cX2_roundings 13 = .ok (.goto 4, 3) := by decide +kernel
theorem d_41_16 : decode cX2_roundings 16 = .ok (.iconst 1, 1) := by decide +kernel
theorem d_41_17 : decode cX2_roundings 17 = .ok (.ireturn, 1) := by decide +kernel
theorem q_41_0 : zRun 41 0 [some (.long u), l1, l2] S sh mi mj mr = zRun 41 1 [some (.long u), l1, l2] (.long u :: S) sh mi mj mr := zr_l (zD_of zk_41 d_41_0 rfl rfl) rfl rfl rfl
theorem q_41_1  : zRun 41 1 L S sh mi mj mr = zRun 41 2 L (.long 1 :: S) sh mi mj mr := zr_p (zD_of zk_41 d_41_1 rfl rfl) rfl
theorem q_41_2 : zRun 41 2 [l0, l1, some (.int x)] S sh mi mj mr = zRun 41 3 [l0, l1, some (.int x)] (.int x :: S) sh mi mj mr := zr_l (zD_of zk_41 d_41_2 rfl rfl) rfl rfl rfl
theorem q_41_3  : zRun 41 3 L (.int y :: .long u :: S) sh mi mj mr = zRun 41 4 L (.long (u <<< (y.toInt64 &&& 63)) :: S) sh mi mj mr := zr_p (zD_of zk_41 d_41_3 rfl rfl) rfl
theorem q_41_4  : zRun 41 4 L S sh mi mj mr = zRun 41 5 L (.long 1 :: S) sh mi mj mr := zr_p (zD_of zk_41 d_41_4 rfl rfl) rfl
theorem q_41_5  : zRun 41 5 L (.long v :: .long u :: S) sh mi mj mr = zRun 41 6 L (.long (u - v) :: S) sh mi mj mr := zr_p (zD_of zk_41 d_41_5 rfl rfl) rfl
theorem q_41_6  : zRun 41 6 L (.long v :: .long u :: S) sh mi mj mr = zRun 41 7 L (.long (u &&& v) :: S) sh mi mj mr := zr_p (zD_of zk_41 d_41_6 rfl rfl) rfl
theorem q_41_7  : zRun 41 7 L S sh mi mj mr = zRun 41 8 L (.long 0 :: S) sh mi mj mr := zr_p (zD_of zk_41 d_41_7 rfl rfl) rfl
theorem q_41_8  : zRun 41 8 L (.long v :: .long u :: S) sh mi mj mr = if ¬ u = v then zRun 41 16 L S sh mi mj mr else zRun 41 12 L S sh mi mj mr := zr_cmp (off := 7) (zD_of zk_41 d_41_8 rfl rfl) (zD_of zk_41 d_41_9 rfl rfl) rfl rfl (by decide) (not_congr (lg_cmp_eq u v))
theorem q_41_9  : zRun 41 9 L (.int x :: S) sh mi mj mr = if ¬ x = 0 then zRun 41 16 L S sh mi mj mr else zRun 41 12 L S sh mi mj mr := zr_if (off := 7) (P := ¬ x = 0) (zD_of zk_41 d_41_9 rfl rfl) rfl rfl (by decide)
theorem q_41_12  : zRun 41 12 L S sh mi mj mr = zRun 41 13 L (.int 0 :: S) sh mi mj mr := zr_p (zD_of zk_41 d_41_12 rfl rfl) rfl
theorem q_41_13  : zRun 41 13 L S sh mi mj mr = zRun 41 17 L S sh mi mj mr := zr_go (off := 4) (zD_of zk_41 d_41_13 rfl rfl) rfl rfl (by decide)
theorem q_41_16  : zRun 41 16 L S sh mi mj mr = zRun 41 17 L (.int 1 :: S) sh mi mj mr := zr_p (zD_of zk_41 d_41_16 rfl rfl) rfl
theorem q_41_17  : zRun 41 17 L ([.int x]) sh mi mj mr = some (some (.int x), sh, mi, mj, mr) := zr_ret (zD_of zk_41 d_41_17 rfl rfl) rfl rfl rfl rfl rfl (if_pos rfl)
theorem e_41 {x0 : Int32} {u0 : Int64} : zCall 41 [.long u0, .int x0] sh mi mj mr = zRun 41 0 [some (.long u0), none, some (.int x0)] [] sh mi mj mr := rfl
theorem d_42_0 : decode cX2_roundedUp 0 = .ok (.lload_n 0, 1) := by decide +kernel
theorem d_42_1 : decode cX2_roundedUp 1 = .ok (.lconst 1, 1) := by decide +kernel
theorem d_42_2 : decode cX2_roundedUp 2 = .ok (.iload_n 2, 1) := by decide +kernel
theorem d_42_3 : decode cX2_roundedUp 3 = .ok (.lshl, 1) := by decide +kernel
theorem d_42_4 : decode cX2_roundedUp 4 = .ok (.ladd, 1) := by decide +kernel
theorem d_42_5 : decode cX2_roundedUp 5 = .ok (.lconst 1, 1) := by decide +kernel
theorem d_42_6 : decode cX2_roundedUp 6 = .ok (.lsub, 1) := by decide +kernel
theorem d_42_7 : decode cX2_roundedUp 7 = .ok (.iload_n 2, 1) := by decide +kernel
theorem d_42_8 : decode cX2_roundedUp 8 = .ok (.lshr, 1) := by decide +kernel
theorem d_42_9 : decode cX2_roundedUp 9 = .ok (.lreturn, 1) := by decide +kernel
theorem q_42_0 : zRun 42 0 [some (.long u), l1, l2] S sh mi mj mr = zRun 42 1 [some (.long u), l1, l2] (.long u :: S) sh mi mj mr := zr_l (zD_of zk_42 d_42_0 rfl rfl) rfl rfl rfl
theorem q_42_1  : zRun 42 1 L S sh mi mj mr = zRun 42 2 L (.long 1 :: S) sh mi mj mr := zr_p (zD_of zk_42 d_42_1 rfl rfl) rfl
theorem q_42_2 : zRun 42 2 [l0, l1, some (.int x)] S sh mi mj mr = zRun 42 3 [l0, l1, some (.int x)] (.int x :: S) sh mi mj mr := zr_l (zD_of zk_42 d_42_2 rfl rfl) rfl rfl rfl
theorem q_42_3  : zRun 42 3 L (.int y :: .long u :: S) sh mi mj mr = zRun 42 4 L (.long (u <<< (y.toInt64 &&& 63)) :: S) sh mi mj mr := zr_p (zD_of zk_42 d_42_3 rfl rfl) rfl
theorem q_42_4  : zRun 42 4 L (.long v :: .long u :: S) sh mi mj mr = zRun 42 5 L (.long (u + v) :: S) sh mi mj mr := zr_p (zD_of zk_42 d_42_4 rfl rfl) rfl
theorem q_42_5  : zRun 42 5 L S sh mi mj mr = zRun 42 6 L (.long 1 :: S) sh mi mj mr := zr_p (zD_of zk_42 d_42_5 rfl rfl) rfl
theorem q_42_6  : zRun 42 6 L (.long v :: .long u :: S) sh mi mj mr = zRun 42 7 L (.long (u - v) :: S) sh mi mj mr := zr_p (zD_of zk_42 d_42_6 rfl rfl) rfl
theorem q_42_7 : zRun 42 7 [l0, l1, some (.int x)] S sh mi mj mr = zRun 42 8 [l0, l1, some (.int x)] (.int x :: S) sh mi mj mr := zr_l (zD_of zk_42 d_42_7 rfl rfl) rfl rfl rfl
theorem q_42_8  : zRun 42 8 L (.int y :: .long u :: S) sh mi mj mr = zRun 42 9 L (.long (u >>> (y.toInt64 &&& 63)) :: S) sh mi mj mr := zr_p (zD_of zk_42 d_42_8 rfl rfl) rfl
theorem q_42_9  : zRun 42 9 L ([.long u]) sh mi mj mr = some (some (.long u), sh, mi, mj, mr) := zr_ret (zD_of zk_42 d_42_9 rfl rfl) rfl rfl rfl rfl rfl rfl
theorem e_42 {x0 : Int32} {u0 : Int64} : zCall 42 [.long u0, .int x0] sh mi mj mr = zRun 42 0 [some (.long u0), none, some (.int x0)] [] sh mi mj mr := rfl
theorem d_43_0 : decode cX2_rootDown 0 = .ok (.lconst 0, 1) := by decide +kernel
theorem d_43_1 : decode cX2_rootDown 1 = .ok (.lstore_n 2, 1) := by decide +kernel
theorem d_43_2 : decode cX2_rootDown 2 = .ok (.bipush 19, 2) := by decide +kernel
theorem d_43_4 : decode cX2_rootDown 4 = .ok (.istore 4, 2) := by decide +kernel
theorem d_43_6 : decode cX2_rootDown 6 = .ok (.iload 4, 2) := by decide +kernel
theorem d_43_8 : decode cX2_rootDown 8 = .ok (.ifCond .lt 30, 3) := by decide +kernel
theorem d_43_11 : decode cX2_rootDown 11 = .ok (.lload_n 2, 1) := by decide +kernel
theorem d_43_12 : decode cX2_rootDown 12 = .ok (.lconst 1, 1) := by decide +kernel
theorem d_43_13 : decode cX2_rootDown 13 = .ok (.iload 4, 2) := by decide +kernel
theorem d_43_15 : decode cX2_rootDown 15 = .ok (.lshl, 1) := by decide +kernel
theorem d_43_16 : decode cX2_rootDown 16 = .ok (.ladd, 1) := by decide +kernel
theorem d_43_17 : decode cX2_rootDown 17 = .ok (.lstore 5, 2) := by decide +kernel
theorem d_43_19 : decode cX2_rootDown 19 = .ok (.lload 5, 2) := by decide +kernel
theorem d_43_21 : decode cX2_rootDown 21 = .ok (.lload 5, 2) := by decide +kernel
theorem d_43_23 : decode cX2_rootDown 23 = .ok (.lmul, 1) := by decide +kernel
theorem d_43_24 : decode cX2_rootDown 24 = .ok (.lload_n 0, 1) := by decide +kernel
theorem d_43_25 : decode cX2_rootDown 25 = .ok (.lcmp, 1) := by decide +kernel
theorem d_43_26 : decode cX2_rootDown 26 = .ok (.ifCond .gt 6, 3) := by decide +kernel
theorem d_43_29 : decode cX2_rootDown 29 = .ok (.lload 5, 2) := by decide +kernel
theorem d_43_31 : decode cX2_rootDown 31 = .ok (.lstore_n 2, 1) := by decide +kernel
theorem d_43_32 : decode cX2_rootDown 32 = .ok (.iinc 4 (-1), 3) := by decide +kernel
theorem d_43_35 : decode cX2_rootDown 35 = .ok (.goto (-29), 3) := by decide +kernel
theorem d_43_38 : decode cX2_rootDown 38 = .ok (.lload_n 2, 1) := by decide +kernel
theorem d_43_39 : decode cX2_rootDown 39 = .ok (.lreturn, 1) := by decide +kernel
theorem q_43_0  : zRun 43 0 L S sh mi mj mr = zRun 43 1 L (.long 0 :: S) sh mi mj mr := zr_p (zD_of zk_43 d_43_0 rfl rfl) rfl
theorem q_43_1 : zRun 43 1 [l0, l1, l2, l3, l4, l5, l6] (.long u :: S) sh mi mj mr = zRun 43 2 [l0, zk2 l1, some (.long u), none, l4, l5, l6] S sh mi mj mr := zr_s2 (i := 2) (v := .long u) (L := [l0, l1, l2, l3, l4, l5, l6]) (zD_of zk_43 d_43_1 rfl rfl) rfl rfl rfl rfl
theorem q_43_2  : zRun 43 2 L S sh mi mj mr = zRun 43 4 L (.int 19 :: S) sh mi mj mr := zr_p (zD_of zk_43 d_43_2 rfl rfl) rfl
theorem q_43_4 : zRun 43 4 [l0, l1, l2, l3, l4, l5, l6] (.int x :: S) sh mi mj mr = zRun 43 6 [l0, l1, l2, zk2 l3, some (.int x), l5, l6] S sh mi mj mr := zr_s1 (i := 4) (v := .int x) (L := [l0, l1, l2, l3, l4, l5, l6]) (zD_of zk_43 d_43_4 rfl rfl) rfl rfl rfl rfl
theorem q_43_6 : zRun 43 6 [l0, l1, l2, l3, some (.int x), l5, l6] S sh mi mj mr = zRun 43 8 [l0, l1, l2, l3, some (.int x), l5, l6] (.int x :: S) sh mi mj mr := zr_l (zD_of zk_43 d_43_6 rfl rfl) rfl rfl rfl
theorem q_43_8  : zRun 43 8 L (.int x :: S) sh mi mj mr = if x < 0 then zRun 43 38 L S sh mi mj mr else zRun 43 11 L S sh mi mj mr := zr_if (off := 30) (P := x < 0) (zD_of zk_43 d_43_8 rfl rfl) rfl rfl (by decide)
theorem q_43_11 : zRun 43 11 [l0, l1, some (.long u), l3, l4, l5, l6] S sh mi mj mr = zRun 43 12 [l0, l1, some (.long u), l3, l4, l5, l6] (.long u :: S) sh mi mj mr := zr_l (zD_of zk_43 d_43_11 rfl rfl) rfl rfl rfl
theorem q_43_12  : zRun 43 12 L S sh mi mj mr = zRun 43 13 L (.long 1 :: S) sh mi mj mr := zr_p (zD_of zk_43 d_43_12 rfl rfl) rfl
theorem q_43_13 : zRun 43 13 [l0, l1, l2, l3, some (.int x), l5, l6] S sh mi mj mr = zRun 43 15 [l0, l1, l2, l3, some (.int x), l5, l6] (.int x :: S) sh mi mj mr := zr_l (zD_of zk_43 d_43_13 rfl rfl) rfl rfl rfl
theorem q_43_15  : zRun 43 15 L (.int y :: .long u :: S) sh mi mj mr = zRun 43 16 L (.long (u <<< (y.toInt64 &&& 63)) :: S) sh mi mj mr := zr_p (zD_of zk_43 d_43_15 rfl rfl) rfl
theorem q_43_16  : zRun 43 16 L (.long v :: .long u :: S) sh mi mj mr = zRun 43 17 L (.long (u + v) :: S) sh mi mj mr := zr_p (zD_of zk_43 d_43_16 rfl rfl) rfl
theorem q_43_17 : zRun 43 17 [l0, l1, l2, l3, l4, l5, l6] (.long u :: S) sh mi mj mr = zRun 43 19 [l0, l1, l2, l3, zk2 l4, some (.long u), none] S sh mi mj mr := zr_s2 (i := 5) (v := .long u) (L := [l0, l1, l2, l3, l4, l5, l6]) (zD_of zk_43 d_43_17 rfl rfl) rfl rfl rfl rfl
theorem q_43_19 : zRun 43 19 [l0, l1, l2, l3, l4, some (.long u), l6] S sh mi mj mr = zRun 43 21 [l0, l1, l2, l3, l4, some (.long u), l6] (.long u :: S) sh mi mj mr := zr_l (zD_of zk_43 d_43_19 rfl rfl) rfl rfl rfl
theorem q_43_21 : zRun 43 21 [l0, l1, l2, l3, l4, some (.long u), l6] S sh mi mj mr = zRun 43 23 [l0, l1, l2, l3, l4, some (.long u), l6] (.long u :: S) sh mi mj mr := zr_l (zD_of zk_43 d_43_21 rfl rfl) rfl rfl rfl
theorem q_43_23  : zRun 43 23 L (.long v :: .long u :: S) sh mi mj mr = zRun 43 24 L (.long (u * v) :: S) sh mi mj mr := zr_p (zD_of zk_43 d_43_23 rfl rfl) rfl
theorem q_43_24 : zRun 43 24 [some (.long u), l1, l2, l3, l4, l5, l6] S sh mi mj mr = zRun 43 25 [some (.long u), l1, l2, l3, l4, l5, l6] (.long u :: S) sh mi mj mr := zr_l (zD_of zk_43 d_43_24 rfl rfl) rfl rfl rfl
theorem q_43_25  : zRun 43 25 L (.long v :: .long u :: S) sh mi mj mr = if v < u then zRun 43 32 L S sh mi mj mr else zRun 43 29 L S sh mi mj mr := zr_cmp (off := 6) (zD_of zk_43 d_43_25 rfl rfl) (zD_of zk_43 d_43_26 rfl rfl) rfl rfl (by decide) (lg_cmp_gt u v)
theorem q_43_26  : zRun 43 26 L (.int x :: S) sh mi mj mr = if 0 < x then zRun 43 32 L S sh mi mj mr else zRun 43 29 L S sh mi mj mr := zr_if (off := 6) (P := 0 < x) (zD_of zk_43 d_43_26 rfl rfl) rfl rfl (by decide)
theorem q_43_29 : zRun 43 29 [l0, l1, l2, l3, l4, some (.long u), l6] S sh mi mj mr = zRun 43 31 [l0, l1, l2, l3, l4, some (.long u), l6] (.long u :: S) sh mi mj mr := zr_l (zD_of zk_43 d_43_29 rfl rfl) rfl rfl rfl
theorem q_43_31 : zRun 43 31 [l0, l1, l2, l3, l4, l5, l6] (.long u :: S) sh mi mj mr = zRun 43 32 [l0, zk2 l1, some (.long u), none, l4, l5, l6] S sh mi mj mr := zr_s2 (i := 2) (v := .long u) (L := [l0, l1, l2, l3, l4, l5, l6]) (zD_of zk_43 d_43_31 rfl rfl) rfl rfl rfl rfl
theorem q_43_32  : zRun 43 32 [l0, l1, l2, l3, some (.int x), l5, l6] S sh mi mj mr = zRun 43 35 [l0, l1, l2, zk2 l3, some (.int (x + (-1))), l5, l6] S sh mi mj mr := zr_s1 (i := 4) (v := .int (x + (-1))) (L := [l0, l1, l2, l3, some (.int x), l5, l6]) (zD_of zk_43 d_43_32 rfl rfl) rfl rfl rfl rfl
theorem q_43_35  : zRun 43 35 L S sh mi mj mr = zRun 43 6 L S sh mi mj mr := zr_go (off := (-29)) (zD_of zk_43 d_43_35 rfl rfl) rfl rfl (by decide)
theorem q_43_38 : zRun 43 38 [l0, l1, some (.long u), l3, l4, l5, l6] S sh mi mj mr = zRun 43 39 [l0, l1, some (.long u), l3, l4, l5, l6] (.long u :: S) sh mi mj mr := zr_l (zD_of zk_43 d_43_38 rfl rfl) rfl rfl rfl
theorem q_43_39  : zRun 43 39 L ([.long u]) sh mi mj mr = some (some (.long u), sh, mi, mj, mr) := zr_ret (zD_of zk_43 d_43_39 rfl rfl) rfl rfl rfl rfl rfl rfl
theorem e_43 {u0 : Int64} : zCall 43 [.long u0] sh mi mj mr = zRun 43 0 [some (.long u0), none, none, none, none, none, none] [] sh mi mj mr := rfl
end
