
/-! ===== the tables of the interpreter: methods, links, constants; and that each row stands in lw_tbl ===== -/
def zT (p : Nat) (w : Cond) : Bool := decide (lw_tbl[p]? = some w)
theorem zT_mem {p : Nat} {w : Cond} (h : zT p w = true) : w ∈ lw_tbl := List.mem_of_getElem? (of_decide_eq_true h)
def zW : List Cond := lw_tbl.filter goodWord
theorem zW_mem {p : Nat} {w : Cond} (h : zT p w = true) (g : goodWord w = true) : w ∈ zW := List.mem_filter.mpr ⟨zT_mem h, g⟩
theorem zW_good : GoodIn zW zW := fun _ h => ⟨h, good_of_word (List.mem_filter.mp h).2⟩
def zN : List String := [RX0, RX1, RX2, RX3, RX4, RX5, RX6, RX7, RX8, RL, RJ9, RJ7, RJ10]
def zM : List (MethodName × ByteArray × Nat × Option FieldType × Nat × Nat × Nat × Nat × Nat) := [
  (yL_law, cL_law, 4, (some .boolean), 9, 11, 1, 0, 70),
  (yX0_init, cX0_init, 1, none, 0, 1, 0, 101, 73),
  (yX0_setEnds, cX0_setEnds, 4, none, 0, 1, 3, 123, 73),
  (yX0_copyFrom, cX0_copyFrom, 3, none, 0, 2, 1, 709, 73),
  (yX0_width, cX0_width, 2, (some .int), 0, 1, 1, 335, 73),
  (yX0_middle, cX0_middle, 2, (some .int), 0, 1, 1, 655, 73),
  (yX0_place, cX0_place, 3, (some .int), 0, 2, 2, 651, 73),
  (yX0_wideInputs, cX0_wideInputs, 3, (some .int), 0, 1, 0, 750, 73),
  (yX0_inputToSplit, cX0_inputToSplit, 8, (some .int), 0, 3, 1, 694, 73),
  (yX0_split, cX0_split, 5, none, 0, 3, 3, 705, 73),
  (yX1_init, cX1_init, 1, none, 1, 1, 0, 260, 78),
  (yX1_clear, cX1_clear, 1, none, 1, 1, 0, 673, 78),
  (yX1_append, cX1_append, 2, none, 1, 2, 1, 677, 78),
  (yX1_replace, cX1_replace, 3, none, 1, 1, 2, 681, 78),
  (yX1_copyTo, cX1_copyTo, 3, none, 1, 1, 2, 690, 78),
  (yX1_takeLast, cX1_takeLast, 2, (some .boolean), 1, 2, 1, 686, 78),
  (yX1_note, cX1_note, 5, none, 1, 1, 3, 726, 78),
  (yX1_worst, cX1_worst, 3, (some .int), 1, 1, 0, 730, 78),
  (yX2_init, cX2_init, 1, none, 2, 1, 0, 198, 77),
  (yX2_becomeWild, cX2_becomeWild, 2, none, 2, 1, 1, 509, 77),
  (yX2_measure, cX2_measure, 2, none, 2, 2, 0, 579, 77),
  (yX2_bestEnd, cX2_bestEnd, 2, (some .long), 2, 1, 1, 622, 77),
  (yX2_holdsZero, cX2_holdsZero, 1, (some .boolean), 2, 1, 0, 566, 77),
  (yX2_weight, cX2_weight, 2, (some .long), 2, 2, 1, 604, 77),
  (yX2_condense, cX2_condense, 2, none, 2, 3, 1, 608, 77),
  (yX2_nameLoosePart, cX2_nameLoosePart, 2, none, 2, 1, 1, 493, 77),
  (yX2_setRange, cX2_setRange, 5, none, 2, 2, 2, 486, 77),
  (yX2_setNumber, cX2_setNumber, 3, none, 2, 2, 1, 475, 77),
  (yX2_setInput, cX2_setInput, 4, none, 2, 3, 3, 482, 77),
  (yX2_copyFrom, cX2_copyFrom, 2, none, 2, 1, 1, 501, 77),
  (yX2_add, cX2_add, 4, none, 2, 1, 2, 554, 77),
  (yX2_subtract, cX2_subtract, 4, none, 2, 1, 2, 558, 77),
  (yX2_negate, cX2_negate, 3, none, 2, 1, 1, 513, 77),
  (yX2_multiply, cX2_multiply, 17, none, 2, 2, 2, 562, 77),
  (yX2_square, cX2_square, 10, none, 2, 2, 1, 517, 77),
  (yX2_invert, cX2_invert, 2, none, 2, 3, 1, 570, 77),
  (yX2_absolute, cX2_absolute, 2, none, 2, 3, 1, 535, 77),
  (yX2_root, cX2_root, 6, none, 2, 3, 1, 541, 77),
  (yX2_least, cX2_least, 3, none, 2, 3, 2, 588, 77),
  (yX2_greatest, cX2_greatest, 3, none, 2, 3, 2, 592, 77),
  (yX2_isLarge, cX2_isLarge, 2, (some .boolean), 2, 1, 1, 582, 77),
  (yX2_roundings, cX2_roundings, 3, (some .int), 2, 1, 2, 521, 77),
  (yX2_roundedUp, cX2_roundedUp, 3, (some .long), 2, 1, 2, 528, 77),
  (yX2_rootDown, cX2_rootDown, 7, (some .long), 2, 1, 1, 546, 77),
  (yX3_init, cX3_init, 2, none, 3, 2, 0, 191, 76),
  (yX3_evaluate, cX3_evaluate, 6, (some (.object "AffineRanges$Form")), 3, 6, 4, 464, 76),
  (yX3_difference, cX3_difference, 6, (some (.object "AffineRanges$Form")), 3, 7, 4, 663, 76),
  (yX3_top, cX3_top, 1, (some (.object "AffineRanges$Form")), 3, 1, 0, 497, 76),
  (yX3_perform, cX3_perform, 6, none, 3, 5, 3, 468, 76),
  (yX3_operands, cX3_operands, 1, (some .int), 3, 1, 1, 471, 76),
  (yX3_change, cX3_change, 3, none, 3, 4, 3, 505, 76),
  (yX3_combine, cX3_combine, 5, none, 3, 4, 4, 550, 76),
  (yX3_nameLoosePart, cX3_nameLoosePart, 8, none, 3, 4, 1, 596, 76),
  (yX3_weightOf, cX3_weightOf, 5, (some .long), 3, 3, 1, 600, 76),
  (yX4_init, cX4_init, 1, none, 4, 2, 0, 165, 75),
  (yX4_read, cX4_read, 5, (some .int), 4, 6, 2, 364, 75),
  (yX4_take, cX4_take, 2, (some .boolean), 4, 5, 1, 371, 75),
  (yX4_takeOperand, cX4_takeOperand, 2, (some .boolean), 4, 3, 1, 379, 75),
  (yX4_takeInWhole, cX4_takeInWhole, 3, (some .boolean), 4, 3, 1, 406, 75),
  (yX4_addDigit, cX4_addDigit, 4, (some .boolean), 4, 2, 3, 390, 75),
  (yX4_takePower, cX4_takePower, 2, (some .boolean), 4, 2, 1, 433, 75),
  (yX4_takeBehind, cX4_takeBehind, 2, (some .boolean), 4, 4, 1, 410, 75),
  (yX4_operator, cX4_operator, 3, (some .boolean), 4, 3, 2, 414, 75),
  (yX4_open, cX4_open, 2, (some .boolean), 4, 1, 1, 402, 75),
  (yX4_close, cX4_close, 2, (some .boolean), 4, 3, 0, 425, 75),
  (yX4_passComma, cX4_passComma, 1, (some .boolean), 4, 3, 0, 429, 75),
  (yX4_hold, cX4_hold, 3, (some .boolean), 4, 1, 2, 375, 75),
  (yX4_complete, cX4_complete, 2, none, 4, 2, 1, 418, 75),
  (yX4_bindingOf, cX4_bindingOf, 1, (some .int), 4, 1, 1, 421, 75),
  (yX4_isDigit, cX4_isDigit, 1, (some .boolean), 4, 1, 1, 386, 75),
  (yX5_init, cX5_init, 2, none, 5, 2, 0, 95, 72),
  (yX5_copyFrom, cX5_copyFrom, 3, none, 5, 3, 1, 758, 72),
  (yX5_expressionSet, cX5_expressionSet, 3, (some .int), 5, 1, 0, 746, 72),
  (yX6_init, cX6_init, 1, none, 6, 1, 0, 127, 74),
  (yX6_copyFrom, cX6_copyFrom, 2, none, 6, 1, 1, 441, 74),
  (yX6_append, cX6_append, 3, none, 6, 1, 2, 383, 74),
  (yX6_lastValue, cX6_lastValue, 1, (some .int), 6, 1, 0, 394, 74),
  (yX6_setLastValue, cX6_setLastValue, 2, none, 6, 1, 1, 398, 74),
  (yX7_init, cX7_init, 2, none, 7, 3, 0, 87, 71),
  (yX7_setDomain, cX7_setDomain, 5, (some .int), 7, 2, 3, 326, 71),
  (yX7_domain, cX7_domain, 3, (some .int), 7, 2, 2, 340, 71),
  (yX7_setSymbols, cX7_setSymbols, 3, (some .int), 7, 1, 1, 348, 71),
  (yX7_say, cX7_say, 2, (some .int), 7, 1, 1, 352, 71),
  (yX7_wipe, cX7_wipe, 2, (some .int), 7, 1, 0, 356, 71),
  (yX7_fault, cX7_fault, 1, (some .int), 7, 7, 0, 360, 71),
  (yX7_load, cX7_load, 2, (some .int), 7, 7, 1, 437, 71),
  (yX7_step, cX7_step, 5, (some .int), 7, 2, 3, 448, 71),
  (yX7_inputs, cX7_inputs, 6, (some .int), 7, 2, 1, 456, 71),
  (yX7_reason, cX7_reason, 3, (some .int), 7, 7, 1, 460, 71),
  (yX7_bound, cX7_bound, 6, (some .long), 7, 7, 3, 614, 71),
  (yX7_part, cX7_part, 5, (some .long), 7, 7, 2, 626, 71),
  (yX7_trace, cX7_trace, 5, (some .long), 7, 7, 3, 630, 71),
  (yX7_dominant, cX7_dominant, 10, (some .int), 7, 7, 1, 637, 71),
  (yX7_gain, cX7_gain, 4, (some .long), 7, 7, 1, 642, 71),
  (yX7_sample, cX7_sample, 7, (some .long), 7, 7, 3, 647, 71),
  (yX7_compare, cX7_compare, 6, (some .int), 7, 8, 2, 659, 71),
  (yX7_prove, cX7_prove, 8, (some .int), 7, 8, 3, 668, 71),
  (yX7_proof, cX7_proof, 2, (some .long), 7, 2, 1, 714, 71),
  (yX7_tighten, cX7_tighten, 8, (some .long), 7, 8, 3, 718, 71),
  (yX7_roots, cX7_roots, 10, (some .int), 7, 7, 3, 736, 71),
  (yX7_count, cX7_count, 2, (some .int), 7, 2, 1, 742, 71),
  (yX7_save, cX7_save, 2, (some .int), 7, 4, 1, 754, 71),
  (yX7_restore, cX7_restore, 2, (some .int), 7, 4, 1, 764, 71),
  (yX7_find, cX7_find, 3, (some (.object "AffineRanges$Steps")), 7, 1, 1, 452, 71),
  (yX7_isMiddleAtMost, cX7_isMiddleAtMost, 6, (some .boolean), 7, 7, 3, 700, 71),
  (yX7_rank, cX7_rank, 8, none, 7, 7, 4, 722, 71),
  (yX7_endOf, cX7_endOf, 2, (some .long), 7, 2, 2, 633, 71),
  (yX7_gone, cX7_gone, 1, (some .long), 7, 1, 1, 617, 71),
  (yX7_isInput, cX7_isInput, 1, (some .boolean), 7, 1, 1, 329, 71),
  (yX7_isSide, cX7_isSide, 1, (some .boolean), 7, 1, 1, 343, 71),
  (yX8_init, cX8_init, 2, none, 8, 1, 0, 769, 79),
  (yX8_in, cX8_in, 3, (some .boolean), 8, 1, 3, 871, 79),
  (yX8_isInput, cX8_isInput, 1, (some .boolean), 8, 2, 1, 868, 79),
  (yX8_isExpression, cX8_isExpression, 2, (some .boolean), 8, 2, 1, 959, 79),
  (yX8_isSide, cX8_isSide, 1, (some .boolean), 8, 2, 1, 880, 79),
  (yX8_setDomain, cX8_setDomain, 5, (some .int), 8, 3, 3, 865, 79),
  (yX8_domain, cX8_domain, 3, (some .int), 8, 3, 2, 877, 79),
  (yX8_setSymbols, cX8_setSymbols, 3, (some .int), 8, 2, 1, 885, 79),
  (yX8_say, cX8_say, 2, (some .int), 8, 2, 1, 889, 79),
  (yX8_wipe, cX8_wipe, 2, (some .int), 8, 1, 0, 893, 79),
  (yX8_isDigit, cX8_isDigit, 1, (some .boolean), 8, 2, 1, 908, 79),
  (yX8_beginAtom, cX8_beginAtom, 2, (some .int), 8, 3, 1, 905, 79),
  (yX8_goOn, cX8_goOn, 2, (some .int), 8, 1, 1, 912, 79),
  (yX8_openBracket, cX8_openBracket, 3, (some .int), 8, 1, 2, 916, 79),
  (yX8_next, cX8_next, 3, (some .int), 8, 4, 2, 901, 79),
  (yX8_fault, cX8_fault, 3, (some .int), 8, 5, 0, 897, 79),
  (yX8_addStep, cX8_addStep, 4, none, 8, 1, 2, 933, 79),
  (yX8_strength, cX8_strength, 1, (some .int), 8, 1, 1, 951, 79),
  (yX8_release, cX8_release, 2, none, 8, 2, 1, 948, 79),
  (yX8_hold, cX8_hold, 2, none, 8, 1, 1, 941, 79),
  (yX8_power, cX8_power, 2, none, 8, 2, 1, 937, 79),
  (yX8_functionOf, cX8_functionOf, 1, (some .int), 8, 1, 1, 944, 79),
  (yX8_takeNumber, cX8_takeNumber, 5, (some .int), 8, 3, 1, 929, 79),
  (yX8_laySteps, cX8_laySteps, 6, none, 8, 4, 0, 925, 79),
  (yX8_load, cX8_load, 2, (some .int), 8, 6, 1, 920, 79),
  (yX8_step, cX8_step, 5, (some .int), 8, 3, 3, 955, 79),
  (yX8_inputs, cX8_inputs, 5, (some .int), 8, 3, 1, 963, 79),
  (yX8_size, cX8_size, 2, (some .long), 8, 1, 1, 1042, 79),
  (yX8_radius, cX8_radius, 5, (some .long), 8, 2, 1, 1046, 79),
  (yX8_bestLow, cX8_bestLow, 4, (some .long), 8, 3, 1, 1070, 79),
  (yX8_bestHigh, cX8_bestHigh, 4, (some .long), 8, 3, 1, 1074, 79),
  (yX8_isWild, cX8_isWild, 2, (some .boolean), 8, 1, 1, 1019, 79),
  (yX8_clearForm, cX8_clearForm, 3, none, 8, 1, 1, 997, 79),
  (yX8_copyForm, cX8_copyForm, 4, none, 8, 1, 2, 1012, 79),
  (yX8_goWild, cX8_goWild, 3, none, 8, 2, 2, 1023, 79),
  (yX8_layPlain, cX8_layPlain, 8, none, 8, 2, 3, 1079, 79),
  (yX8_negate, cX8_negate, 5, none, 8, 1, 1, 1035, 79),
  (yX8_down, cX8_down, 6, (some .long), 8, 1, 2, 1052, 79),
  (yX8_up, cX8_up, 6, (some .long), 8, 1, 2, 1049, 79),
  (yX8_sum, cX8_sum, 7, none, 8, 2, 3, 1031, 79),
  (yX8_least, cX8_least, 4, (some .long), 8, 1, 2, 1055, 79),
  (yX8_most, cX8_most, 4, (some .long), 8, 1, 2, 1004, 79),
  (yX8_multiply, cX8_multiply, 19, none, 8, 3, 2, 1039, 79),
  (yX8_square, cX8_square, 16, none, 8, 3, 1, 1059, 79),
  (yX8_root, cX8_root, 8, (some .long), 8, 1, 1, 1090, 79),
  (yX8_divide, cX8_divide, 7, none, 8, 4, 2, 1066, 79),
  (yX8_absolute, cX8_absolute, 6, none, 8, 4, 1, 1083, 79),
  (yX8_squareRoot, cX8_squareRoot, 8, none, 8, 4, 1, 1087, 79),
  (yX8_extreme, cX8_extreme, 12, none, 8, 4, 3, 1095, 79),
  (yX8_name, cX8_name, 9, none, 8, 2, 0, 1108, 79),
  (yX8_isGreat, cX8_isGreat, 2, (some .boolean), 8, 1, 1, 1102, 79),
  (yX8_isTooLarge, cX8_isTooLarge, 2, (some .boolean), 8, 3, 1, 1099, 79),
  (yX8_addRun, cX8_addRun, 3, none, 8, 1, 1, 983, 79),
  (yX8_wholeBox, cX8_wholeBox, 2, none, 8, 1, 0, 975, 79),
  (yX8_layInput, cX8_layInput, 5, none, 8, 2, 1, 1001, 79),
  (yX8_layNumber, cX8_layNumber, 6, none, 8, 2, 1, 991, 79),
  (yX8_operate, cX8_operate, 4, none, 8, 5, 3, 1027, 79),
  (yX8_isOfTwo, cX8_isOfTwo, 1, (some .boolean), 8, 1, 1, 1015, 79),
  (yX8_make, cX8_make, 5, none, 8, 6, 1, 1008, 79),
  (yX8_run, cX8_run, 4, none, 8, 7, 0, 987, 79),
  (yX8_evaluate, cX8_evaluate, 2, none, 8, 8, 1, 979, 79),
  (yX8_evaluateWhole, cX8_evaluateWhole, 2, none, 8, 9, 1, 971, 79),
  (yX8_reason, cX8_reason, 2, (some .int), 8, 10, 1, 967, 79),
  (yX8_bound, cX8_bound, 4, (some .long), 8, 10, 3, 1112, 79),
  (yX8_part, cX8_part, 3, (some .long), 8, 10, 2, 1119, 79),
  (yX8_trace, cX8_trace, 4, (some .long), 8, 10, 3, 1123, 79),
  (yX8_dominant, cX8_dominant, 8, (some .int), 8, 10, 1, 1127, 79),
  (yX8_gain, cX8_gain, 2, (some .long), 8, 10, 1, 1131, 79),
  (yX8_sample, cX8_sample, 8, (some .long), 8, 9, 3, 1135, 79),
  (yX8_compare, cX8_compare, 7, (some .int), 8, 8, 2, 1139, 79),
  (yX8_keepBox, cX8_keepBox, 3, none, 8, 1, 1, 1148, 79),
  (yX8_takeBox, cX8_takeBox, 3, none, 8, 1, 1, 1152, 79),
  (yX8_splitInput, cX8_splitInput, 8, (some .int), 8, 2, 0, 1160, 79),
  (yX8_half, cX8_half, 5, none, 8, 1, 2, 1168, 79),
  (yX8_noteProof, cX8_noteProof, 4, none, 8, 1, 2, 1156, 79),
  (yX8_isRefuted, cX8_isRefuted, 4, (some .boolean), 8, 9, 2, 1164, 79),
  (yX8_prove, cX8_prove, 7, (some .int), 8, 10, 3, 1143, 79),
  (yX8_takeBoxAside, cX8_takeBoxAside, 2, none, 8, 1, 0, 1172, 79),
  (yX8_putBothBack, cX8_putBothBack, 3, none, 8, 2, 1, 1176, 79),
  (yX8_proof, cX8_proof, 2, (some .long), 8, 2, 1, 1180, 79),
  (yX8_keepFound, cX8_keepFound, 3, none, 8, 9, 2, 1189, 79),
  (yX8_worst, cX8_worst, 5, (some .int), 8, 1, 1, 1193, 79),
  (yX8_tighten, cX8_tighten, 8, (some .long), 8, 10, 3, 1185, 79),
  (yX8_roots, cX8_roots, 9, (some .int), 8, 9, 3, 1197, 79),
  (yX8_expressions, cX8_expressions, 3, (some .int), 8, 1, 0, 1205, 79),
  (yX8_wides, cX8_wides, 3, (some .int), 8, 1, 0, 1209, 79),
  (yX8_count, cX8_count, 2, (some .int), 8, 2, 1, 1201, 79),
  (yX8_save, cX8_save, 3, (some .int), 8, 3, 1, 1213, 79),
  (yX8_restore, cX8_restore, 3, (some .int), 8, 3, 1, 1217, 79),
  (yJ9_floorDiv_f86c9, cJ9_floorDiv_f86c9, 6, (some .long), 10, 1, 2, 574, 80),
  (yJ9_abs_067f4, cJ9_abs_067f4, 2, (some .long), 10, 1, 1, 525, 80),
  (yJ9_max_f86c9, cJ9_max_f86c9, 4, (some .long), 10, 1, 2, 489, 80),
  (yJ9_min_7cf53, cJ9_min_7cf53, 2, (some .int), 10, 1, 2, 367, 80),
  (yJ9_min_f86c9, cJ9_min_f86c9, 4, (some .long), 10, 1, 2, 531, 80),
  (yJ7_fill_d0a16, cJ7_fill_d0a16, 5, none, 11, 1, 2, 478, 82)]
def zF : List (List (Nat × Nat × Nat × Nat)) := [[(9, 0, 0, 103), (15, 0, 1, 107)],
  [(9, 1, 0, 262), (15, 1, 1, 263), (18, 1, 2, 264), (22, 1, 3, 266), (25, 1, 4, 268), (33, 0, 0, 105), (44, 0, 1, 109)],
  [(9, 2, 5, 212), (15, 2, 0, 200), (19, 2, 2, 205), (23, 2, 6, 214), (32, 2, 1, 203), (35, 2, 3, 208), (42, 2, 7, 216), (45, 2, 4, 210), (51, 2, 8, 218)],
  [(11, 3, 0, 240), (18, 3, 1, 241), (22, 3, 2, 242), (25, 3, 3, 243), (29, 3, 4, 244), (32, 6, 2, 137), (37, 6, 0, 130), (41, 6, 1, 133), (56, 2, 0, 201), (67, 0, 0, 106), (72, 0, 1, 110), (94, 2, 2, 206)],
  [(12, 4, 0, 169), (18, 4, 1, 171), (22, 6, 2, 136), (26, 4, 2, 172), (29, 4, 3, 173), (53, 4, 4, 174)],
  [(12, 5, 0, 147), (20, 5, 1, 149), (24, 5, 2, 151), (40, 6, 2, 138)],
  [(9, 6, 0, 129), (15, 6, 1, 132), (18, 6, 2, 135)],
  [(9, 7, 0, 283), (13, 7, 1, 284), (20, 7, 2, 285), (24, 7, 3, 286), (28, 7, 4, 287), (35, 7, 5, 288), (42, 7, 6, 289), (49, 7, 7, 290), (56, 7, 8, 291), (60, 7, 9, 292), (63, 7, 10, 293), (66, 7, 11, 294), (69, 7, 12, 295), (78, 5, 0, 148), (93, 0, 0, 104), (97, 0, 1, 108), (100, 5, 2, 152), (107, 5, 1, 150), (111, 4, 0, 170), (121, 6, 2, 139), (128, 6, 0, 131), (131, 6, 1, 134), (138, 2, 0, 202), (147, 2, 1, 204), (151, 2, 6, 215), (154, 2, 3, 209), (156, 2, 4, 211), (161, 2, 5, 213), (165, 2, 2, 207), (185, 2, 7, 217), (188, 2, 8, 219), (223, 1, 3, 267), (233, 1, 4, 269), (234, 1, 2, 265)],
  [(7, 8, 0, 771), (13, 8, 1, 772), (16, 8, 2, 773), (20, 8, 3, 774), (23, 8, 5, 776), (26, 8, 7, 778), (29, 8, 10, 781), (33, 8, 13, 784), (36, 8, 14, 785), (39, 8, 16, 787), (42, 8, 17, 788), (45, 8, 18, 789), (48, 8, 19, 790), (51, 8, 20, 791), (54, 8, 21, 792), (57, 8, 24, 795), (60, 8, 26, 797), (63, 8, 27, 798), (66, 8, 28, 799), (69, 8, 29, 800), (86, 8, 4, 775), (93, 8, 6, 777), (110, 8, 9, 780), (113, 8, 8, 779), (160, 8, 12, 783), (213, 8, 11, 782), (224, 8, 15, 786), (294, 8, 23, 794), (297, 8, 25, 796), (305, 8, 22, 793)],
  [],
  [],
  [],
  []]
def zI2 : List (List (Nat × Nat × Nat × Nat × Nat × Nat)) := [[(3, 4, 0, 102, 89, 90), (18, 0, 2, 710, 121, 122), (22, 0, 5, 652, 653, 654), (26, 0, 23, 695, 602, 603), (32, 0, 4, 696, 333, 334), (35, 0, 3, 706, 707, 708)],
  [(3, 4, 0, 261, 89, 90), (29, 0, 13, 678, 679, 680), (38, 5, 0, 682, 443, 444), (47, 0, 14, 687, 688, 689)],
  [(3, 4, 0, 199, 89, 90), (26, 2, 200, 523, 524, 0), (38, 2, 201, 487, 488, 0), (48, 2, 203, 529, 530, 0), (54, 2, 40, 580, 581, 0), (58, 0, 19, 542, 507, 508), (62, 0, 23, 609, 602, 603), (66, 2, 204, 476, 477, 0), (72, 0, 26, 483, 484, 485), (76, 0, 25, 490, 491, 492), (79, 5, 0, 502, 443, 444), (85, 2, 41, 519, 520, 0), (89, 2, 42, 526, 527, 0), (99, 2, 199, 572, 573, 0), (104, 0, 29, 536, 499, 500), (108, 0, 32, 537, 511, 512), (113, 2, 43, 544, 545, 0)],
  [(3, 4, 0, 192, 89, 90), (17, 3, 18, 196, 197, 0), (44, 0, 48, 465, 467, 13), (48, 0, 47, 494, 496, 14), (52, 0, 45, 664, 462, 463), (59, 2, 49, 469, 470, 0), (63, 0, 27, 472, 473, 474), (75, 0, 28, 479, 480, 481), (79, 0, 29, 498, 499, 500), (83, 2, 50, 503, 504, 0), (87, 0, 51, 547, 549, 15), (91, 0, 20, 576, 577, 578), (98, 0, 52, 593, 595, 16), (101, 0, 19, 506, 507, 508), (104, 0, 32, 510, 511, 512), (107, 0, 34, 514, 515, 516), (110, 0, 36, 532, 533, 534), (113, 0, 37, 538, 539, 540), (116, 0, 30, 551, 552, 553), (120, 0, 31, 555, 556, 557), (123, 0, 33, 559, 560, 561), (126, 0, 22, 563, 564, 565), (130, 0, 35, 567, 568, 569), (133, 0, 38, 585, 586, 587), (136, 0, 39, 589, 590, 591), (139, 0, 53, 597, 599, 17), (143, 0, 24, 605, 606, 607), (146, 0, 25, 610, 491, 492), (148, 0, 23, 601, 602, 603)],
  [(3, 4, 0, 166, 89, 90), (11, 3, 73, 168, 126, 0), (32, 2, 202, 365, 366, 0), (38, 0, 56, 368, 370, 0), (42, 0, 67, 415, 417, 8), (46, 0, 66, 372, 374, 1), (50, 0, 57, 376, 378, 2), (56, 2, 69, 384, 385, 0), (59, 0, 58, 403, 405, 5), (62, 0, 61, 407, 409, 6), (65, 0, 59, 387, 389, 3), (69, 0, 60, 430, 432, 11), (72, 0, 75, 380, 381, 382), (76, 0, 63, 399, 401, 4), (80, 0, 76, 391, 392, 393), (84, 0, 77, 395, 396, 397), (87, 0, 62, 411, 413, 7), (90, 0, 64, 422, 424, 9), (94, 0, 65, 426, 428, 10), (97, 2, 68, 419, 420, 0)],
  [(3, 4, 0, 96, 89, 90), (11, 3, 1, 99, 100, 0), (28, 0, 2, 120, 121, 122), (32, 3, 73, 125, 126, 0), (33, 0, 3, 759, 707, 708), (37, 0, 74, 760, 439, 440)],
  [(3, 4, 0, 128, 89, 90), (22, 5, 0, 442, 443, 444)],
  [(3, 4, 0, 88, 89, 90), (19, 1, 70, 93, 94, 0), (34, 3, 54, 163, 164, 0), (41, 1, 44, 189, 190, 0), (48, 3, 10, 258, 259, 0), (55, 3, 1, 282, 100, 0), (72, 2, 108, 327, 328, 0), (81, 0, 4, 332, 333, 334), (85, 0, 2, 336, 121, 122), (89, 2, 109, 341, 342, 0), (103, 0, 55, 361, 362, 363), (115, 0, 74, 438, 439, 440), (124, 0, 103, 449, 451, 12), (134, 0, 45, 461, 462, 463), (143, 2, 107, 615, 616, 0), (158, 0, 21, 619, 620, 621), (168, 2, 106, 631, 632, 0), (172, 0, 23, 638, 602, 603), (177, 0, 6, 648, 649, 650), (181, 0, 46, 660, 661, 662), (192, 0, 11, 670, 671, 672), (195, 0, 12, 674, 675, 676), (199, 0, 15, 683, 684, 685), (203, 0, 8, 691, 692, 693), (207, 0, 104, 697, 699, 18), (211, 0, 9, 702, 703, 704), (215, 0, 105, 719, 721, 19), (219, 0, 17, 727, 728, 729), (226, 0, 14, 731, 688, 689), (230, 0, 13, 732, 679, 680), (239, 0, 3, 737, 707, 708), (241, 0, 22, 738, 564, 565), (245, 0, 72, 743, 744, 745), (248, 0, 7, 747, 748, 749), (251, 0, 71, 755, 756, 757), (254, 0, 5, 701, 653, 654), (257, 0, 16, 723, 724, 725)],
  [(1, 4, 0, 770, 89, 90), (72, 2, 111, 869, 870, 0), (76, 2, 112, 866, 867, 0), (82, 2, 114, 878, 879, 0), (90, 2, 120, 906, 907, 0), (96, 0, 121, 902, 904, 21), (100, 0, 122, 909, 911, 22), (103, 0, 123, 913, 915, 23), (107, 0, 124, 898, 900, 20), (116, 2, 127, 949, 950, 0), (119, 0, 126, 930, 932, 26), (123, 0, 132, 926, 928, 25), (126, 0, 130, 934, 936, 27), (130, 0, 129, 938, 940, 28), (133, 2, 131, 942, 943, 0), (136, 0, 128, 945, 947, 29), (139, 0, 125, 921, 895, 896), (143, 0, 133, 922, 924, 24), (146, 0, 113, 956, 958, 30), (149, 2, 137, 1040, 1041, 0), (153, 0, 138, 1043, 1045, 47), (157, 0, 142, 994, 996, 37), (163, 0, 146, 1032, 1034, 45), (168, 2, 148, 1047, 1048, 0), (172, 2, 147, 1050, 1051, 0), (175, 2, 150, 1053, 1054, 0), (178, 2, 151, 1002, 1003, 0), (189, 0, 139, 1067, 1069, 50), (192, 0, 140, 1071, 1073, 51), (195, 0, 144, 1020, 1022, 42), (200, 0, 145, 1076, 1078, 52), (204, 0, 152, 1036, 1038, 46), (207, 2, 154, 1088, 1089, 0), (210, 0, 143, 1009, 1011, 40), (220, 2, 160, 1100, 1101, 0), (229, 0, 149, 1028, 1030, 44), (233, 0, 153, 1056, 1058, 48), (236, 0, 155, 1063, 1065, 49), (239, 0, 156, 1080, 1082, 53), (242, 0, 157, 1084, 1086, 54), (245, 0, 158, 1092, 1094, 55), (248, 2, 167, 1013, 1014, 0), (251, 0, 141, 1016, 1018, 41), (254, 0, 166, 1024, 1026, 43), (258, 0, 161, 1096, 1098, 56), (261, 0, 159, 1105, 1107, 57), (264, 0, 165, 988, 990, 36), (267, 0, 164, 998, 1000, 38), (270, 0, 168, 1005, 1007, 39), (273, 0, 162, 980, 982, 34), (276, 0, 169, 984, 986, 35), (279, 0, 163, 972, 974, 32), (282, 0, 170, 976, 978, 33), (285, 0, 171, 968, 970, 31), (302, 0, 180, 1145, 1147, 58), (308, 0, 181, 1149, 1151, 59), (311, 0, 184, 1153, 1155, 60), (314, 0, 182, 1157, 1159, 61), (317, 0, 185, 1161, 1163, 62), (321, 0, 183, 1165, 1167, 63), (325, 0, 187, 1169, 1171, 64), (328, 0, 188, 1173, 1175, 65), (333, 0, 190, 1186, 1188, 66), (336, 0, 191, 1190, 1192, 67), (339, 0, 194, 1202, 1204, 68), (342, 0, 195, 1206, 1208, 69)],
  [(9, 1, 78, 85, 86, 0), (12, 1, 110, 767, 768, 0), (13, 0, 79, 323, 324, 325), (17, 0, 115, 862, 863, 864), (18, 0, 80, 337, 338, 339), (22, 0, 116, 874, 875, 876), (23, 0, 81, 345, 346, 347), (27, 0, 117, 882, 883, 884), (28, 0, 82, 349, 350, 351), (31, 0, 118, 886, 887, 888), (32, 0, 83, 353, 354, 355), (36, 0, 119, 890, 891, 892), (37, 0, 84, 357, 358, 359), (40, 0, 125, 894, 895, 896), (41, 0, 85, 434, 435, 436), (44, 0, 134, 917, 918, 919), (45, 0, 86, 445, 446, 447), (48, 0, 135, 952, 953, 954), (49, 0, 87, 453, 454, 455), (52, 0, 136, 960, 961, 962), (53, 0, 88, 457, 458, 459), (56, 0, 172, 964, 965, 966), (57, 0, 89, 611, 612, 613), (61, 0, 173, 1109, 1110, 1111), (62, 0, 90, 623, 624, 625), (66, 0, 174, 1116, 1117, 1118), (67, 0, 91, 627, 628, 629), (70, 0, 175, 1120, 1121, 1122), (71, 0, 92, 634, 635, 636), (74, 0, 176, 1124, 1125, 1126), (75, 0, 93, 639, 640, 641), (79, 0, 177, 1128, 1129, 1130), (80, 0, 94, 644, 645, 646), (83, 0, 178, 1132, 1133, 1134), (84, 0, 95, 656, 657, 658), (87, 0, 179, 1136, 1137, 1138), (88, 0, 96, 665, 666, 667), (91, 0, 186, 1140, 1141, 1142), (92, 0, 97, 711, 712, 713), (95, 0, 189, 1177, 1178, 1179), (96, 0, 98, 715, 716, 717), (99, 0, 192, 1182, 1183, 1184), (100, 0, 99, 733, 734, 735), (103, 0, 193, 1194, 1195, 1196), (104, 0, 100, 739, 740, 741), (107, 0, 196, 1198, 1199, 1200), (108, 0, 101, 751, 752, 753), (111, 0, 197, 1210, 1211, 1212), (112, 0, 102, 761, 762, 763), (115, 0, 198, 1214, 1215, 1216)],
  [],
  [],
  []]
def zK32 : List (List (Nat × Int × Nat)) := [[],
  [],
  [],
  [],
  [],
  [],
  [],
  [(76, (-100000), 330), (77, 100000, 331), (92, 1000000, 344), (191, (-1000000), 669)],
  [(80, (-100000), 872), (81, 100000, 873), (85, 1000000, 881), (301, (-1000000), 1144)],
  [],
  [],
  [],
  []]
def zK64 : List (List (Nat × Int × Nat)) := [[],
  [],
  [(93, 2, 518), (95, 4, 522), (97, 65536, 571), (102, (-65536), 575), (111, 256, 543), (116, 1000000000, 583), (118, (-1000000000), 584)],
  [],
  [],
  [],
  [],
  [(175, 2, 643), (237, (-1000000000000000000), 618)],
  [(166, 256, 992), (181, 4, 1060), (183, 512, 1061), (185, 2, 1062), (187, 1000000, 1091), (198, 65536, 1075), (216, 1000000000, 1103), (218, (-1000000000), 1104), (227, 100, 993), (288, (-1000000000000000001), 1113), (290, (-1000000000000000002), 1114), (292, (-1000000000000000005), 1115), (331, (-1000000000000000006), 1181)],
  [],
  [],
  [],
  []]
def zCL : List (List (Nat × Nat × Nat)) := [[],
  [],
  [],
  [(9, 2, 193)],
  [(9, 6, 167)],
  [(9, 0, 97), (18, 6, 118)],
  [],
  [(17, 5, 91), (32, 4, 161), (39, 3, 187), (46, 1, 256), (53, 0, 281)],
  [],
  [(7, 7, 83), (10, 8, 765)],
  [],
  [],
  []]
def zCI : List (Nat × Nat) := [(98, 73), (257, 78), (195, 77), (188, 76), (162, 75), (92, 72), (124, 74), (84, 71), (766, 79)]
def zLP : List (List Nat) := [[111, 113], [270, 272, 274, 276, 278], [220, 222, 224, 226, 228, 230, 232, 234, 236], [245, 247, 249, 251, 253], [175, 177, 179, 181, 183], [153, 155, 157], [140, 142, 144], [296, 298, 300, 302, 304, 306, 308, 310, 312, 314, 316, 318, 320], [801, 803, 805, 807, 809, 811, 813, 815, 817, 819, 821, 823, 825, 827, 829, 831, 833, 835, 837, 839, 841, 843, 845, 847, 849, 851, 853, 855, 857, 859]]
-- arrayClass int 117 long 239 char 116 boolean 186
-- arrayOver {'AffineRanges$Steps': 119, 'AffineRanges$State': 160, 'AffineRanges$Form': 194}
-- nest [('.methodLinkNest "AffineRanges$State" 11 ({ cls := "AffineRanges$Box", name := "<init>", desc := "()V" } : Jvm.MethodName) "AffineRanges"', 99), ('.methodLinkNest "AffineRanges$State" 32 ({ cls := "AffineRanges$Steps", name := "<init>", desc := "()V" } : Jvm.MethodName) "AffineRanges"', 125), ('.methodLinkNest "AffineRanges" 34 ({ cls := "AffineRanges$Reader", name := "<init>", desc := "()V" } : Jvm.MethodName) "AffineRanges"', 163), ('.methodLinkNest "AffineRanges$Reader" 11 ({ cls := "AffineRanges$Steps", name := "<init>", desc := "()V" } : Jvm.MethodName) "AffineRanges"', 168), ('.methodLinkNest "AffineRanges$Machine" 17 ({ cls := "AffineRanges$Form", name := "<init>", desc := "()V" } : Jvm.MethodName) "AffineRanges"', 196), ('.methodLinkNest "AffineRanges" 48 ({ cls := "AffineRanges$BoxList", name := "<init>", desc := "()V" } : Jvm.MethodName) "AffineRanges"', 258), ('.methodLinkNest "AffineRanges" 55 ({ cls := "AffineRanges$Box", name := "<init>", desc := "()V" } : Jvm.MethodName) "AffineRanges"', 282)]

def zC : List (String × u_T × Nat × (Nat → FieldType)) := [(RX0, TX0, 2, tyX0), (RX1, TX1, 5, tyX1), (RX2, TX2, 9, tyX2), (RX3, TX3, 5, tyX3), (RX4, TX4, 5, tyX4), (RX5, TX5, 3, tyX5), (RX6, TX6, 3, tyX6), (RX7, TX7, 13, tyX7), (RX8, TX8, 30, tyX8)]
def zfld (c idx : Nat) : Option (Nat × Nat × Nat) := ((zF[c]?).getD []).lookup idx
def zmth (c idx : Nat) : Option (Nat × Nat × Nat × Nat × Nat) := ((zI2[c]?).getD []).lookup idx
def zk32 (c idx : Nat) : Option (Int × Nat) := ((zK32[c]?).getD []).lookup idx
def zk64 (c idx : Nat) : Option (Int × Nat) := ((zK64[c]?).getD []).lookup idx
def zclk (c idx : Nat) : Option (Nat × Nat) := ((zCL[c]?).getD []).lookup idx
def zMok (e : MethodName × ByteArray × Nat × Option FieldType × Nat × Nat × Nat × Nat × Nat) : Bool := match e with
  | (y, _, ml, _, c, lv, np, _, pi) => zT pi (.initialized y.cls) && decide (y.cls ≠ "java/lang/invoke/MethodHandle") && decide (y.cls ≠ "java/lang/invoke/VarHandle") && decide ((parseMethodDescriptor y.desc).map (fun d => d.parameters.length) = some np) && decide (ml ≤ 19) && decide (1 ≤ lv) && decide (zN[c]? = some y.cls) && (plainName y.cls || plainFor y)
def zFok (c : Nat) (e : Nat × Nat × Nat × Nat) : Bool := match e with
  | (idx, ci, j, p) => match zN[c]?, zC[ci]? with
    | some own, some (_, T, n, _) => decide (j < n) && zT p (.fieldLink own idx (T j).1 (T j).2.1 (T j).2.2.1)
    | _, _ => false
def zIok (c : Nat) (e : Nat × Nat × Nat × Nat × Nat × Nat) : Bool := match e with
  | (idx, kd, k2, p, q1, q2) => match zN[c]?, zM[k2]? with
    | some own, some (y, _, _, rt, _, _, _, _, _) =>
      if kd = 0 then decide (1 ≤ k2) && zT p (.methodLink own idx y) && zT q1 (.instanceMethod y) && zT q2 (.selects y.cls y y)
      else if kd = 1 then decide (1 ≤ k2) && zT p (.methodLink own idx y) && zT q1 (.instanceMethod y) && decide (y.name = "<init>") && decide (rt = none)
      else if kd = 2 then decide (1 ≤ k2) && zT p (.methodLink own idx y) && zT q1 (.static y)
      else if kd = 3 then decide (1 ≤ k2) && zT p (.methodLinkNest own idx y "AffineRanges") && zT q1 (.instanceMethod y) && decide (y.name = "<init>") && decide (rt = none)
      else if kd = 4 then zT p (.methodLink own idx objectInit) && zT q1 (.instanceMethod objectInit) && zT q2 (.code objectInit ⟨#[0xb1]⟩ 1 none)
      else if kd = 5 then zT p (.methodLink own idx arraycopyName) && zT q1 (.static arraycopyName) && zT q2 (.native arraycopyName)
      else false
    | _, _ => false
def zK32ok (c : Nat) (e : Nat × Int × Nat) : Bool := match e with
  | (idx, v, p) => match zN[c]? with
    | some own => zT p (.constant own idx (Int32.ofInt v))
    | _ => false
def zK64ok (c : Nat) (e : Nat × Int × Nat) : Bool := match e with
  | (idx, v, p) => match zN[c]? with
    | some own => zT p (.constantLong own idx (Int64.ofInt v))
    | _ => false
def zCLok (c : Nat) (e : Nat × Nat × Nat) : Bool := match e with
  | (idx, ci, p) => match zN[c]?, zC[ci]? with
    | some own, some (C, _, _, _) => zT p (.classLink own idx C)
    | _, _ => false
def zCIok (ci : Nat) : Bool := match zC[ci]?, zCI[ci]? with
  | some (C, _, n, _), some (p, q) => zT p (.instantiable C n) && zT q (.initialized C)
  | _, _ => false
def zLPok (ci : Nat) : Bool := match zC[ci]?, zLP[ci]? with
  | some (C, T, n, _), some ps => (List.range n).all fun j => zT (ps.getD j 0) (u_lay C T j)
  | _, _ => false
def zall {α : Type} (f : Nat → α → Bool) (l : List (List α)) : Bool := (List.range l.length).all fun c => ((l[c]?).getD []).all (f c)
set_option maxRecDepth 100000 in
theorem zM_ok : (zM.drop 1).all zMok = true := by decide +kernel
theorem zc_1 : zT 101 (.code yX0_init cX0_init 1 none) = true := by decide +kernel
theorem zc_2 : zT 123 (.code yX0_setEnds cX0_setEnds 4 none) = true := by decide +kernel
theorem zc_3 : zT 709 (.code yX0_copyFrom cX0_copyFrom 3 none) = true := by decide +kernel
theorem zc_4 : zT 335 (.code yX0_width cX0_width 2 (some .int)) = true := by decide +kernel
theorem zc_5 : zT 655 (.code yX0_middle cX0_middle 2 (some .int)) = true := by decide +kernel
theorem zc_6 : zT 651 (.code yX0_place cX0_place 3 (some .int)) = true := by decide +kernel
theorem zc_7 : zT 750 (.code yX0_wideInputs cX0_wideInputs 3 (some .int)) = true := by decide +kernel
theorem zc_8 : zT 694 (.code yX0_inputToSplit cX0_inputToSplit 8 (some .int)) = true := by decide +kernel
theorem zc_9 : zT 705 (.code yX0_split cX0_split 5 none) = true := by decide +kernel
theorem zc_10 : zT 260 (.code yX1_init cX1_init 1 none) = true := by decide +kernel
theorem zc_11 : zT 673 (.code yX1_clear cX1_clear 1 none) = true := by decide +kernel
theorem zc_12 : zT 677 (.code yX1_append cX1_append 2 none) = true := by decide +kernel
theorem zc_13 : zT 681 (.code yX1_replace cX1_replace 3 none) = true := by decide +kernel
theorem zc_14 : zT 690 (.code yX1_copyTo cX1_copyTo 3 none) = true := by decide +kernel
theorem zc_15 : zT 686 (.code yX1_takeLast cX1_takeLast 2 (some .boolean)) = true := by decide +kernel
theorem zc_16 : zT 726 (.code yX1_note cX1_note 5 none) = true := by decide +kernel
theorem zc_17 : zT 730 (.code yX1_worst cX1_worst 3 (some .int)) = true := by decide +kernel
theorem zc_18 : zT 198 (.code yX2_init cX2_init 1 none) = true := by decide +kernel
theorem zc_19 : zT 509 (.code yX2_becomeWild cX2_becomeWild 2 none) = true := by decide +kernel
theorem zc_20 : zT 579 (.code yX2_measure cX2_measure 2 none) = true := by decide +kernel
theorem zc_21 : zT 622 (.code yX2_bestEnd cX2_bestEnd 2 (some .long)) = true := by decide +kernel
theorem zc_22 : zT 566 (.code yX2_holdsZero cX2_holdsZero 1 (some .boolean)) = true := by decide +kernel
theorem zc_23 : zT 604 (.code yX2_weight cX2_weight 2 (some .long)) = true := by decide +kernel
theorem zc_24 : zT 608 (.code yX2_condense cX2_condense 2 none) = true := by decide +kernel
theorem zc_25 : zT 493 (.code yX2_nameLoosePart cX2_nameLoosePart 2 none) = true := by decide +kernel
theorem zc_26 : zT 486 (.code yX2_setRange cX2_setRange 5 none) = true := by decide +kernel
theorem zc_27 : zT 475 (.code yX2_setNumber cX2_setNumber 3 none) = true := by decide +kernel
theorem zc_28 : zT 482 (.code yX2_setInput cX2_setInput 4 none) = true := by decide +kernel
theorem zc_29 : zT 501 (.code yX2_copyFrom cX2_copyFrom 2 none) = true := by decide +kernel
theorem zc_30 : zT 554 (.code yX2_add cX2_add 4 none) = true := by decide +kernel
theorem zc_31 : zT 558 (.code yX2_subtract cX2_subtract 4 none) = true := by decide +kernel
theorem zc_32 : zT 513 (.code yX2_negate cX2_negate 3 none) = true := by decide +kernel
theorem zc_33 : zT 562 (.code yX2_multiply cX2_multiply 17 none) = true := by decide +kernel
theorem zc_34 : zT 517 (.code yX2_square cX2_square 10 none) = true := by decide +kernel
theorem zc_35 : zT 570 (.code yX2_invert cX2_invert 2 none) = true := by decide +kernel
theorem zc_36 : zT 535 (.code yX2_absolute cX2_absolute 2 none) = true := by decide +kernel
theorem zc_37 : zT 541 (.code yX2_root cX2_root 6 none) = true := by decide +kernel
theorem zc_38 : zT 588 (.code yX2_least cX2_least 3 none) = true := by decide +kernel
theorem zc_39 : zT 592 (.code yX2_greatest cX2_greatest 3 none) = true := by decide +kernel
theorem zc_40 : zT 582 (.code yX2_isLarge cX2_isLarge 2 (some .boolean)) = true := by decide +kernel
theorem zc_41 : zT 521 (.code yX2_roundings cX2_roundings 3 (some .int)) = true := by decide +kernel
theorem zc_42 : zT 528 (.code yX2_roundedUp cX2_roundedUp 3 (some .long)) = true := by decide +kernel
theorem zc_43 : zT 546 (.code yX2_rootDown cX2_rootDown 7 (some .long)) = true := by decide +kernel
theorem zc_44 : zT 191 (.code yX3_init cX3_init 2 none) = true := by decide +kernel
theorem zc_45 : zT 464 (.code yX3_evaluate cX3_evaluate 6 (some (.object "AffineRanges$Form"))) = true := by decide +kernel
theorem zc_46 : zT 663 (.code yX3_difference cX3_difference 6 (some (.object "AffineRanges$Form"))) = true := by decide +kernel
theorem zc_47 : zT 497 (.code yX3_top cX3_top 1 (some (.object "AffineRanges$Form"))) = true := by decide +kernel
theorem zc_48 : zT 468 (.code yX3_perform cX3_perform 6 none) = true := by decide +kernel
theorem zc_49 : zT 471 (.code yX3_operands cX3_operands 1 (some .int)) = true := by decide +kernel
theorem zc_50 : zT 505 (.code yX3_change cX3_change 3 none) = true := by decide +kernel
theorem zc_51 : zT 550 (.code yX3_combine cX3_combine 5 none) = true := by decide +kernel
theorem zc_52 : zT 596 (.code yX3_nameLoosePart cX3_nameLoosePart 8 none) = true := by decide +kernel
theorem zc_53 : zT 600 (.code yX3_weightOf cX3_weightOf 5 (some .long)) = true := by decide +kernel
theorem zc_54 : zT 165 (.code yX4_init cX4_init 1 none) = true := by decide +kernel
theorem zc_55 : zT 364 (.code yX4_read cX4_read 5 (some .int)) = true := by decide +kernel
theorem zc_56 : zT 371 (.code yX4_take cX4_take 2 (some .boolean)) = true := by decide +kernel
theorem zc_57 : zT 379 (.code yX4_takeOperand cX4_takeOperand 2 (some .boolean)) = true := by decide +kernel
theorem zc_58 : zT 406 (.code yX4_takeInWhole cX4_takeInWhole 3 (some .boolean)) = true := by decide +kernel
theorem zc_59 : zT 390 (.code yX4_addDigit cX4_addDigit 4 (some .boolean)) = true := by decide +kernel
theorem zc_60 : zT 433 (.code yX4_takePower cX4_takePower 2 (some .boolean)) = true := by decide +kernel
theorem zc_61 : zT 410 (.code yX4_takeBehind cX4_takeBehind 2 (some .boolean)) = true := by decide +kernel
theorem zc_62 : zT 414 (.code yX4_operator cX4_operator 3 (some .boolean)) = true := by decide +kernel
theorem zc_63 : zT 402 (.code yX4_open cX4_open 2 (some .boolean)) = true := by decide +kernel
theorem zc_64 : zT 425 (.code yX4_close cX4_close 2 (some .boolean)) = true := by decide +kernel
theorem zc_65 : zT 429 (.code yX4_passComma cX4_passComma 1 (some .boolean)) = true := by decide +kernel
theorem zc_66 : zT 375 (.code yX4_hold cX4_hold 3 (some .boolean)) = true := by decide +kernel
theorem zc_67 : zT 418 (.code yX4_complete cX4_complete 2 none) = true := by decide +kernel
theorem zc_68 : zT 421 (.code yX4_bindingOf cX4_bindingOf 1 (some .int)) = true := by decide +kernel
theorem zc_69 : zT 386 (.code yX4_isDigit cX4_isDigit 1 (some .boolean)) = true := by decide +kernel
theorem zc_70 : zT 95 (.code yX5_init cX5_init 2 none) = true := by decide +kernel
theorem zc_71 : zT 758 (.code yX5_copyFrom cX5_copyFrom 3 none) = true := by decide +kernel
theorem zc_72 : zT 746 (.code yX5_expressionSet cX5_expressionSet 3 (some .int)) = true := by decide +kernel
theorem zc_73 : zT 127 (.code yX6_init cX6_init 1 none) = true := by decide +kernel
theorem zc_74 : zT 441 (.code yX6_copyFrom cX6_copyFrom 2 none) = true := by decide +kernel
theorem zc_75 : zT 383 (.code yX6_append cX6_append 3 none) = true := by decide +kernel
theorem zc_76 : zT 394 (.code yX6_lastValue cX6_lastValue 1 (some .int)) = true := by decide +kernel
theorem zc_77 : zT 398 (.code yX6_setLastValue cX6_setLastValue 2 none) = true := by decide +kernel
theorem zc_78 : zT 87 (.code yX7_init cX7_init 2 none) = true := by decide +kernel
theorem zc_79 : zT 326 (.code yX7_setDomain cX7_setDomain 5 (some .int)) = true := by decide +kernel
theorem zc_80 : zT 340 (.code yX7_domain cX7_domain 3 (some .int)) = true := by decide +kernel
theorem zc_81 : zT 348 (.code yX7_setSymbols cX7_setSymbols 3 (some .int)) = true := by decide +kernel
theorem zc_82 : zT 352 (.code yX7_say cX7_say 2 (some .int)) = true := by decide +kernel
theorem zc_83 : zT 356 (.code yX7_wipe cX7_wipe 2 (some .int)) = true := by decide +kernel
theorem zc_84 : zT 360 (.code yX7_fault cX7_fault 1 (some .int)) = true := by decide +kernel
theorem zc_85 : zT 437 (.code yX7_load cX7_load 2 (some .int)) = true := by decide +kernel
theorem zc_86 : zT 448 (.code yX7_step cX7_step 5 (some .int)) = true := by decide +kernel
theorem zc_87 : zT 456 (.code yX7_inputs cX7_inputs 6 (some .int)) = true := by decide +kernel
theorem zc_88 : zT 460 (.code yX7_reason cX7_reason 3 (some .int)) = true := by decide +kernel
theorem zc_89 : zT 614 (.code yX7_bound cX7_bound 6 (some .long)) = true := by decide +kernel
theorem zc_90 : zT 626 (.code yX7_part cX7_part 5 (some .long)) = true := by decide +kernel
theorem zc_91 : zT 630 (.code yX7_trace cX7_trace 5 (some .long)) = true := by decide +kernel
theorem zc_92 : zT 637 (.code yX7_dominant cX7_dominant 10 (some .int)) = true := by decide +kernel
theorem zc_93 : zT 642 (.code yX7_gain cX7_gain 4 (some .long)) = true := by decide +kernel
theorem zc_94 : zT 647 (.code yX7_sample cX7_sample 7 (some .long)) = true := by decide +kernel
theorem zc_95 : zT 659 (.code yX7_compare cX7_compare 6 (some .int)) = true := by decide +kernel
theorem zc_96 : zT 668 (.code yX7_prove cX7_prove 8 (some .int)) = true := by decide +kernel
theorem zc_97 : zT 714 (.code yX7_proof cX7_proof 2 (some .long)) = true := by decide +kernel
theorem zc_98 : zT 718 (.code yX7_tighten cX7_tighten 8 (some .long)) = true := by decide +kernel
theorem zc_99 : zT 736 (.code yX7_roots cX7_roots 10 (some .int)) = true := by decide +kernel
theorem zc_100 : zT 742 (.code yX7_count cX7_count 2 (some .int)) = true := by decide +kernel
theorem zc_101 : zT 754 (.code yX7_save cX7_save 2 (some .int)) = true := by decide +kernel
theorem zc_102 : zT 764 (.code yX7_restore cX7_restore 2 (some .int)) = true := by decide +kernel
theorem zc_103 : zT 452 (.code yX7_find cX7_find 3 (some (.object "AffineRanges$Steps"))) = true := by decide +kernel
theorem zc_104 : zT 700 (.code yX7_isMiddleAtMost cX7_isMiddleAtMost 6 (some .boolean)) = true := by decide +kernel
theorem zc_105 : zT 722 (.code yX7_rank cX7_rank 8 none) = true := by decide +kernel
theorem zc_106 : zT 633 (.code yX7_endOf cX7_endOf 2 (some .long)) = true := by decide +kernel
theorem zc_107 : zT 617 (.code yX7_gone cX7_gone 1 (some .long)) = true := by decide +kernel
theorem zc_108 : zT 329 (.code yX7_isInput cX7_isInput 1 (some .boolean)) = true := by decide +kernel
theorem zc_109 : zT 343 (.code yX7_isSide cX7_isSide 1 (some .boolean)) = true := by decide +kernel
theorem zc_110 : zT 769 (.code yX8_init cX8_init 2 none) = true := by decide +kernel
theorem zc_111 : zT 871 (.code yX8_in cX8_in 3 (some .boolean)) = true := by decide +kernel
theorem zc_112 : zT 868 (.code yX8_isInput cX8_isInput 1 (some .boolean)) = true := by decide +kernel
theorem zc_113 : zT 959 (.code yX8_isExpression cX8_isExpression 2 (some .boolean)) = true := by decide +kernel
theorem zc_114 : zT 880 (.code yX8_isSide cX8_isSide 1 (some .boolean)) = true := by decide +kernel
theorem zc_115 : zT 865 (.code yX8_setDomain cX8_setDomain 5 (some .int)) = true := by decide +kernel
theorem zc_116 : zT 877 (.code yX8_domain cX8_domain 3 (some .int)) = true := by decide +kernel
theorem zc_117 : zT 885 (.code yX8_setSymbols cX8_setSymbols 3 (some .int)) = true := by decide +kernel
theorem zc_118 : zT 889 (.code yX8_say cX8_say 2 (some .int)) = true := by decide +kernel
theorem zc_119 : zT 893 (.code yX8_wipe cX8_wipe 2 (some .int)) = true := by decide +kernel
theorem zc_120 : zT 908 (.code yX8_isDigit cX8_isDigit 1 (some .boolean)) = true := by decide +kernel
theorem zc_121 : zT 905 (.code yX8_beginAtom cX8_beginAtom 2 (some .int)) = true := by decide +kernel
theorem zc_122 : zT 912 (.code yX8_goOn cX8_goOn 2 (some .int)) = true := by decide +kernel
theorem zc_123 : zT 916 (.code yX8_openBracket cX8_openBracket 3 (some .int)) = true := by decide +kernel
theorem zc_124 : zT 901 (.code yX8_next cX8_next 3 (some .int)) = true := by decide +kernel
theorem zc_125 : zT 897 (.code yX8_fault cX8_fault 3 (some .int)) = true := by decide +kernel
theorem zc_126 : zT 933 (.code yX8_addStep cX8_addStep 4 none) = true := by decide +kernel
theorem zc_127 : zT 951 (.code yX8_strength cX8_strength 1 (some .int)) = true := by decide +kernel
theorem zc_128 : zT 948 (.code yX8_release cX8_release 2 none) = true := by decide +kernel
theorem zc_129 : zT 941 (.code yX8_hold cX8_hold 2 none) = true := by decide +kernel
theorem zc_130 : zT 937 (.code yX8_power cX8_power 2 none) = true := by decide +kernel
theorem zc_131 : zT 944 (.code yX8_functionOf cX8_functionOf 1 (some .int)) = true := by decide +kernel
theorem zc_132 : zT 929 (.code yX8_takeNumber cX8_takeNumber 5 (some .int)) = true := by decide +kernel
theorem zc_133 : zT 925 (.code yX8_laySteps cX8_laySteps 6 none) = true := by decide +kernel
theorem zc_134 : zT 920 (.code yX8_load cX8_load 2 (some .int)) = true := by decide +kernel
theorem zc_135 : zT 955 (.code yX8_step cX8_step 5 (some .int)) = true := by decide +kernel
theorem zc_136 : zT 963 (.code yX8_inputs cX8_inputs 5 (some .int)) = true := by decide +kernel
theorem zc_137 : zT 1042 (.code yX8_size cX8_size 2 (some .long)) = true := by decide +kernel
theorem zc_138 : zT 1046 (.code yX8_radius cX8_radius 5 (some .long)) = true := by decide +kernel
theorem zc_139 : zT 1070 (.code yX8_bestLow cX8_bestLow 4 (some .long)) = true := by decide +kernel
theorem zc_140 : zT 1074 (.code yX8_bestHigh cX8_bestHigh 4 (some .long)) = true := by decide +kernel
theorem zc_141 : zT 1019 (.code yX8_isWild cX8_isWild 2 (some .boolean)) = true := by decide +kernel
theorem zc_142 : zT 997 (.code yX8_clearForm cX8_clearForm 3 none) = true := by decide +kernel
theorem zc_143 : zT 1012 (.code yX8_copyForm cX8_copyForm 4 none) = true := by decide +kernel
theorem zc_144 : zT 1023 (.code yX8_goWild cX8_goWild 3 none) = true := by decide +kernel
theorem zc_145 : zT 1079 (.code yX8_layPlain cX8_layPlain 8 none) = true := by decide +kernel
theorem zc_146 : zT 1035 (.code yX8_negate cX8_negate 5 none) = true := by decide +kernel
theorem zc_147 : zT 1052 (.code yX8_down cX8_down 6 (some .long)) = true := by decide +kernel
theorem zc_148 : zT 1049 (.code yX8_up cX8_up 6 (some .long)) = true := by decide +kernel
theorem zc_149 : zT 1031 (.code yX8_sum cX8_sum 7 none) = true := by decide +kernel
theorem zc_150 : zT 1055 (.code yX8_least cX8_least 4 (some .long)) = true := by decide +kernel
theorem zc_151 : zT 1004 (.code yX8_most cX8_most 4 (some .long)) = true := by decide +kernel
theorem zc_152 : zT 1039 (.code yX8_multiply cX8_multiply 19 none) = true := by decide +kernel
theorem zc_153 : zT 1059 (.code yX8_square cX8_square 16 none) = true := by decide +kernel
theorem zc_154 : zT 1090 (.code yX8_root cX8_root 8 (some .long)) = true := by decide +kernel
theorem zc_155 : zT 1066 (.code yX8_divide cX8_divide 7 none) = true := by decide +kernel
theorem zc_156 : zT 1083 (.code yX8_absolute cX8_absolute 6 none) = true := by decide +kernel
theorem zc_157 : zT 1087 (.code yX8_squareRoot cX8_squareRoot 8 none) = true := by decide +kernel
theorem zc_158 : zT 1095 (.code yX8_extreme cX8_extreme 12 none) = true := by decide +kernel
theorem zc_159 : zT 1108 (.code yX8_name cX8_name 9 none) = true := by decide +kernel
theorem zc_160 : zT 1102 (.code yX8_isGreat cX8_isGreat 2 (some .boolean)) = true := by decide +kernel
theorem zc_161 : zT 1099 (.code yX8_isTooLarge cX8_isTooLarge 2 (some .boolean)) = true := by decide +kernel
theorem zc_162 : zT 983 (.code yX8_addRun cX8_addRun 3 none) = true := by decide +kernel
theorem zc_163 : zT 975 (.code yX8_wholeBox cX8_wholeBox 2 none) = true := by decide +kernel
theorem zc_164 : zT 1001 (.code yX8_layInput cX8_layInput 5 none) = true := by decide +kernel
theorem zc_165 : zT 991 (.code yX8_layNumber cX8_layNumber 6 none) = true := by decide +kernel
theorem zc_166 : zT 1027 (.code yX8_operate cX8_operate 4 none) = true := by decide +kernel
theorem zc_167 : zT 1015 (.code yX8_isOfTwo cX8_isOfTwo 1 (some .boolean)) = true := by decide +kernel
theorem zc_168 : zT 1008 (.code yX8_make cX8_make 5 none) = true := by decide +kernel
theorem zc_169 : zT 987 (.code yX8_run cX8_run 4 none) = true := by decide +kernel
theorem zc_170 : zT 979 (.code yX8_evaluate cX8_evaluate 2 none) = true := by decide +kernel
theorem zc_171 : zT 971 (.code yX8_evaluateWhole cX8_evaluateWhole 2 none) = true := by decide +kernel
theorem zc_172 : zT 967 (.code yX8_reason cX8_reason 2 (some .int)) = true := by decide +kernel
theorem zc_173 : zT 1112 (.code yX8_bound cX8_bound 4 (some .long)) = true := by decide +kernel
theorem zc_174 : zT 1119 (.code yX8_part cX8_part 3 (some .long)) = true := by decide +kernel
theorem zc_175 : zT 1123 (.code yX8_trace cX8_trace 4 (some .long)) = true := by decide +kernel
theorem zc_176 : zT 1127 (.code yX8_dominant cX8_dominant 8 (some .int)) = true := by decide +kernel
theorem zc_177 : zT 1131 (.code yX8_gain cX8_gain 2 (some .long)) = true := by decide +kernel
theorem zc_178 : zT 1135 (.code yX8_sample cX8_sample 8 (some .long)) = true := by decide +kernel
theorem zc_179 : zT 1139 (.code yX8_compare cX8_compare 7 (some .int)) = true := by decide +kernel
theorem zc_180 : zT 1148 (.code yX8_keepBox cX8_keepBox 3 none) = true := by decide +kernel
theorem zc_181 : zT 1152 (.code yX8_takeBox cX8_takeBox 3 none) = true := by decide +kernel
theorem zc_182 : zT 1160 (.code yX8_splitInput cX8_splitInput 8 (some .int)) = true := by decide +kernel
theorem zc_183 : zT 1168 (.code yX8_half cX8_half 5 none) = true := by decide +kernel
theorem zc_184 : zT 1156 (.code yX8_noteProof cX8_noteProof 4 none) = true := by decide +kernel
theorem zc_185 : zT 1164 (.code yX8_isRefuted cX8_isRefuted 4 (some .boolean)) = true := by decide +kernel
theorem zc_186 : zT 1143 (.code yX8_prove cX8_prove 7 (some .int)) = true := by decide +kernel
theorem zc_187 : zT 1172 (.code yX8_takeBoxAside cX8_takeBoxAside 2 none) = true := by decide +kernel
theorem zc_188 : zT 1176 (.code yX8_putBothBack cX8_putBothBack 3 none) = true := by decide +kernel
theorem zc_189 : zT 1180 (.code yX8_proof cX8_proof 2 (some .long)) = true := by decide +kernel
theorem zc_190 : zT 1189 (.code yX8_keepFound cX8_keepFound 3 none) = true := by decide +kernel
theorem zc_191 : zT 1193 (.code yX8_worst cX8_worst 5 (some .int)) = true := by decide +kernel
theorem zc_192 : zT 1185 (.code yX8_tighten cX8_tighten 8 (some .long)) = true := by decide +kernel
theorem zc_193 : zT 1197 (.code yX8_roots cX8_roots 9 (some .int)) = true := by decide +kernel
theorem zc_194 : zT 1205 (.code yX8_expressions cX8_expressions 3 (some .int)) = true := by decide +kernel
theorem zc_195 : zT 1209 (.code yX8_wides cX8_wides 3 (some .int)) = true := by decide +kernel
theorem zc_196 : zT 1201 (.code yX8_count cX8_count 2 (some .int)) = true := by decide +kernel
theorem zc_197 : zT 1213 (.code yX8_save cX8_save 3 (some .int)) = true := by decide +kernel
theorem zc_198 : zT 1217 (.code yX8_restore cX8_restore 3 (some .int)) = true := by decide +kernel
theorem zc_199 : zT 574 (.code yJ9_floorDiv_f86c9 cJ9_floorDiv_f86c9 6 (some .long)) = true := by decide +kernel
theorem zc_200 : zT 525 (.code yJ9_abs_067f4 cJ9_abs_067f4 2 (some .long)) = true := by decide +kernel
theorem zc_201 : zT 489 (.code yJ9_max_f86c9 cJ9_max_f86c9 4 (some .long)) = true := by decide +kernel
theorem zc_202 : zT 367 (.code yJ9_min_7cf53 cJ9_min_7cf53 2 (some .int)) = true := by decide +kernel
theorem zc_203 : zT 531 (.code yJ9_min_f86c9 cJ9_min_f86c9 4 (some .long)) = true := by decide +kernel
theorem zc_204 : zT 478 (.code yJ7_fill_d0a16 cJ7_fill_d0a16 5 none) = true := by decide +kernel
def zMcf (e : MethodName × ByteArray × Nat × Option FieldType × Nat × Nat × Nat × Nat × Nat) : Bool := zT e.2.2.2.2.2.2.2.1 (.code e.1 e.2.1 e.2.2.1 e.2.2.2.1)
set_option maxRecDepth 100000 in
theorem zMc_ok : (zM.drop 1).all zMcf = true := by
  simp only [zM, List.drop_succ_cons, List.drop_zero, List.all_cons, List.all_nil, zMcf, zc_1, zc_2, zc_3, zc_4, zc_5, zc_6, zc_7, zc_8, zc_9, zc_10, zc_11, zc_12, zc_13, zc_14, zc_15, zc_16, zc_17, zc_18, zc_19, zc_20, zc_21, zc_22, zc_23, zc_24, zc_25, zc_26, zc_27, zc_28, zc_29, zc_30, zc_31, zc_32, zc_33, zc_34, zc_35, zc_36, zc_37, zc_38, zc_39, zc_40, zc_41, zc_42, zc_43, zc_44, zc_45, zc_46, zc_47, zc_48, zc_49, zc_50, zc_51, zc_52, zc_53, zc_54, zc_55, zc_56, zc_57, zc_58, zc_59, zc_60, zc_61, zc_62, zc_63, zc_64, zc_65, zc_66, zc_67, zc_68, zc_69, zc_70, zc_71, zc_72, zc_73, zc_74, zc_75, zc_76, zc_77, zc_78, zc_79, zc_80, zc_81, zc_82, zc_83, zc_84, zc_85, zc_86, zc_87, zc_88, zc_89, zc_90, zc_91, zc_92, zc_93, zc_94, zc_95, zc_96, zc_97, zc_98, zc_99, zc_100, zc_101, zc_102, zc_103, zc_104, zc_105, zc_106, zc_107, zc_108, zc_109, zc_110, zc_111, zc_112, zc_113, zc_114, zc_115, zc_116, zc_117, zc_118, zc_119, zc_120, zc_121, zc_122, zc_123, zc_124, zc_125, zc_126, zc_127, zc_128, zc_129, zc_130, zc_131, zc_132, zc_133, zc_134, zc_135, zc_136, zc_137, zc_138, zc_139, zc_140, zc_141, zc_142, zc_143, zc_144, zc_145, zc_146, zc_147, zc_148, zc_149, zc_150, zc_151, zc_152, zc_153, zc_154, zc_155, zc_156, zc_157, zc_158, zc_159, zc_160, zc_161, zc_162, zc_163, zc_164, zc_165, zc_166, zc_167, zc_168, zc_169, zc_170, zc_171, zc_172, zc_173, zc_174, zc_175, zc_176, zc_177, zc_178, zc_179, zc_180, zc_181, zc_182, zc_183, zc_184, zc_185, zc_186, zc_187, zc_188, zc_189, zc_190, zc_191, zc_192, zc_193, zc_194, zc_195, zc_196, zc_197, zc_198, zc_199, zc_200, zc_201, zc_202, zc_203, zc_204, Bool.and_true, Bool.and_self]
set_option maxRecDepth 100000 in
theorem zF_ok : zall zFok zF = true := by decide +kernel
set_option maxRecDepth 100000 in
theorem zI_ok : zall zIok zI2 = true := by decide +kernel
set_option maxRecDepth 100000 in
theorem zK32_ok : zall zK32ok zK32 = true := by decide +kernel
set_option maxRecDepth 100000 in
theorem zK64_ok : zall zK64ok zK64 = true := by decide +kernel
set_option maxRecDepth 100000 in
theorem zCL_ok : zall zCLok zCL = true := by decide +kernel
set_option maxRecDepth 100000 in
theorem zCI_ok : (List.range 9).all zCIok = true := by decide +kernel
set_option maxRecDepth 100000 in
theorem zLP_ok : (List.range 9).all zLPok = true := by decide +kernel
set_option maxRecDepth 100000 in
theorem zA_ok : (zT 117 (.arrayClass .int) && zT 239 (.arrayClass .long) && zT 116 (.arrayClass .char) && zT 186 (.arrayClass .boolean) && zT 119 (.arrayOver (.object RX6)) && zT 160 (.arrayOver (.object RX5)) && zT 194 (.arrayOver (.object RX2)) && zT 81 (.initialized "java/lang/System")) = true := by decide +kernel
theorem zC_vw (ci : Nat) : vwCl[ci]? = (zC[ci]?).map (fun e => (e.1, e.2.1, e.2.2.1)) := by
  match ci with
  | 0 | 1 | 2 | 3 | 4 | 5 | 6 | 7 | 8 => rfl
  | n + 9 => rfl
