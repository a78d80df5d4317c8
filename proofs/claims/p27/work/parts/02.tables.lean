
/-! ===== the tables of the interpreter: methods, links, constants; and that each row stands in lw_tbl ===== -/
def zT (p : Nat) (w : Cond) : Bool := decide (lw_tbl[p]? = some w)
theorem zT_mem {p : Nat} {w : Cond} (h : zT p w = true) : w ∈ lw_tbl := List.mem_of_getElem? (of_decide_eq_true h)
def zW : List Cond := lw_tbl.filter goodWord
theorem zW_mem {p : Nat} {w : Cond} (h : zT p w = true) (g : goodWord w = true) : w ∈ zW := List.mem_filter.mpr ⟨zT_mem h, g⟩
theorem zW_good : GoodIn zW zW := fun _ h => ⟨h, good_of_word (List.mem_filter.mp h).2⟩
def zN : List String := [RX0, RX1, RX2, RX3, RX4, RX5, RX6, RX7, RX8, RL, RJ9, RJ7, RJ10]
def zM : List (MethodName × ByteArray × Nat × Option FieldType × Nat × Nat × Nat × Nat × Nat) := [
  (yL_law, cL_law, 7, (some .boolean), 9, 10, 1, 0, 20),
  (yX0_init, cX0_init, 1, none, 0, 1, 0, 50, 23),
  (yX0_setEnds, cX0_setEnds, 4, none, 0, 1, 3, 72, 23),
  (yX0_copyFrom, cX0_copyFrom, 3, none, 0, 2, 1, 695, 23),
  (yX0_width, cX0_width, 2, (some .int), 0, 1, 1, 284, 23),
  (yX0_middle, cX0_middle, 2, (some .int), 0, 1, 1, 645, 23),
  (yX0_place, cX0_place, 3, (some .int), 0, 2, 2, 641, 23),
  (yX0_wideInputs, cX0_wideInputs, 3, (some .int), 0, 1, 0, 389, 23),
  (yX0_inputToSplit, cX0_inputToSplit, 8, (some .int), 0, 3, 1, 680, 23),
  (yX0_split, cX0_split, 5, none, 0, 3, 3, 691, 23),
  (yX1_init, cX1_init, 1, none, 1, 1, 0, 209, 28),
  (yX1_clear, cX1_clear, 1, none, 1, 1, 0, 659, 28),
  (yX1_append, cX1_append, 2, none, 1, 2, 1, 663, 28),
  (yX1_replace, cX1_replace, 3, none, 1, 1, 2, 667, 28),
  (yX1_copyTo, cX1_copyTo, 3, none, 1, 1, 2, 676, 28),
  (yX1_takeLast, cX1_takeLast, 2, (some .boolean), 1, 2, 1, 672, 28),
  (yX1_note, cX1_note, 5, none, 1, 1, 3, 732, 28),
  (yX1_worst, cX1_worst, 3, (some .int), 1, 1, 0, 736, 28),
  (yX2_init, cX2_init, 1, none, 2, 1, 0, 147, 27),
  (yX2_becomeWild, cX2_becomeWild, 2, none, 2, 1, 1, 475, 27),
  (yX2_measure, cX2_measure, 2, none, 2, 2, 0, 545, 27),
  (yX2_bestEnd, cX2_bestEnd, 2, (some .long), 2, 1, 1, 583, 27),
  (yX2_holdsZero, cX2_holdsZero, 1, (some .boolean), 2, 1, 0, 532, 27),
  (yX2_weight, cX2_weight, 2, (some .long), 2, 2, 1, 570, 27),
  (yX2_condense, cX2_condense, 2, none, 2, 3, 1, 574, 27),
  (yX2_nameLoosePart, cX2_nameLoosePart, 2, none, 2, 1, 1, 459, 27),
  (yX2_setRange, cX2_setRange, 5, none, 2, 2, 2, 452, 27),
  (yX2_setNumber, cX2_setNumber, 3, none, 2, 2, 1, 441, 27),
  (yX2_setInput, cX2_setInput, 4, none, 2, 3, 3, 448, 27),
  (yX2_copyFrom, cX2_copyFrom, 2, none, 2, 1, 1, 467, 27),
  (yX2_add, cX2_add, 4, none, 2, 1, 2, 520, 27),
  (yX2_subtract, cX2_subtract, 4, none, 2, 1, 2, 524, 27),
  (yX2_negate, cX2_negate, 3, none, 2, 1, 1, 479, 27),
  (yX2_multiply, cX2_multiply, 17, none, 2, 2, 2, 528, 27),
  (yX2_square, cX2_square, 10, none, 2, 2, 1, 483, 27),
  (yX2_invert, cX2_invert, 2, none, 2, 3, 1, 536, 27),
  (yX2_absolute, cX2_absolute, 2, none, 2, 3, 1, 501, 27),
  (yX2_root, cX2_root, 6, none, 2, 3, 1, 507, 27),
  (yX2_least, cX2_least, 3, none, 2, 3, 2, 554, 27),
  (yX2_greatest, cX2_greatest, 3, none, 2, 3, 2, 558, 27),
  (yX2_isLarge, cX2_isLarge, 2, (some .boolean), 2, 1, 1, 548, 27),
  (yX2_roundings, cX2_roundings, 3, (some .int), 2, 1, 2, 487, 27),
  (yX2_roundedUp, cX2_roundedUp, 3, (some .long), 2, 1, 2, 494, 27),
  (yX2_rootDown, cX2_rootDown, 7, (some .long), 2, 1, 1, 512, 27),
  (yX3_init, cX3_init, 2, none, 3, 2, 0, 140, 26),
  (yX3_evaluate, cX3_evaluate, 6, (some (.object "AffineRanges$Form")), 3, 6, 4, 430, 26),
  (yX3_difference, cX3_difference, 6, (some (.object "AffineRanges$Form")), 3, 7, 4, 612, 26),
  (yX3_top, cX3_top, 1, (some (.object "AffineRanges$Form")), 3, 1, 0, 463, 26),
  (yX3_perform, cX3_perform, 6, none, 3, 5, 3, 434, 26),
  (yX3_operands, cX3_operands, 1, (some .int), 3, 1, 1, 437, 26),
  (yX3_change, cX3_change, 3, none, 3, 4, 3, 471, 26),
  (yX3_combine, cX3_combine, 5, none, 3, 4, 4, 516, 26),
  (yX3_nameLoosePart, cX3_nameLoosePart, 8, none, 3, 4, 1, 562, 26),
  (yX3_weightOf, cX3_weightOf, 5, (some .long), 3, 3, 1, 566, 26),
  (yX4_init, cX4_init, 1, none, 4, 2, 0, 114, 25),
  (yX4_read, cX4_read, 5, (some .int), 4, 6, 2, 297, 25),
  (yX4_take, cX4_take, 2, (some .boolean), 4, 5, 1, 304, 25),
  (yX4_takeOperand, cX4_takeOperand, 2, (some .boolean), 4, 3, 1, 312, 25),
  (yX4_takeInWhole, cX4_takeInWhole, 3, (some .boolean), 4, 3, 1, 339, 25),
  (yX4_addDigit, cX4_addDigit, 4, (some .boolean), 4, 2, 3, 323, 25),
  (yX4_takePower, cX4_takePower, 2, (some .boolean), 4, 2, 1, 366, 25),
  (yX4_takeBehind, cX4_takeBehind, 2, (some .boolean), 4, 4, 1, 343, 25),
  (yX4_operator, cX4_operator, 3, (some .boolean), 4, 3, 2, 347, 25),
  (yX4_open, cX4_open, 2, (some .boolean), 4, 1, 1, 335, 25),
  (yX4_close, cX4_close, 2, (some .boolean), 4, 3, 0, 358, 25),
  (yX4_passComma, cX4_passComma, 1, (some .boolean), 4, 3, 0, 362, 25),
  (yX4_hold, cX4_hold, 3, (some .boolean), 4, 1, 2, 308, 25),
  (yX4_complete, cX4_complete, 2, none, 4, 2, 1, 351, 25),
  (yX4_bindingOf, cX4_bindingOf, 1, (some .int), 4, 1, 1, 354, 25),
  (yX4_isDigit, cX4_isDigit, 1, (some .boolean), 4, 1, 1, 319, 25),
  (yX5_init, cX5_init, 2, none, 5, 2, 0, 44, 22),
  (yX5_copyFrom, cX5_copyFrom, 3, none, 5, 3, 1, 711, 22),
  (yX5_expressionSet, cX5_expressionSet, 3, (some .int), 5, 1, 0, 385, 22),
  (yX6_init, cX6_init, 1, none, 6, 1, 0, 76, 24),
  (yX6_copyFrom, cX6_copyFrom, 2, none, 6, 1, 1, 374, 24),
  (yX6_append, cX6_append, 3, none, 6, 1, 2, 316, 24),
  (yX6_lastValue, cX6_lastValue, 1, (some .int), 6, 1, 0, 327, 24),
  (yX6_setLastValue, cX6_setLastValue, 2, none, 6, 1, 1, 331, 24),
  (yX7_init, cX7_init, 2, none, 7, 3, 0, 36, 21),
  (yX7_setDomain, cX7_setDomain, 5, (some .int), 7, 2, 3, 275, 21),
  (yX7_domain, cX7_domain, 3, (some .int), 7, 2, 2, 587, 21),
  (yX7_setSymbols, cX7_setSymbols, 3, (some .int), 7, 1, 1, 289, 21),
  (yX7_say, cX7_say, 2, (some .int), 7, 1, 1, 404, 21),
  (yL_cell, cL_cell, 2, (some .int), 9, 1, 2, 392, 20),
  (yX7_fault, cX7_fault, 1, (some .int), 7, 7, 0, 293, 21),
  (yX7_load, cX7_load, 2, (some .int), 7, 7, 1, 370, 21),
  (yX7_step, cX7_step, 5, (some .int), 7, 2, 3, 411, 21),
  (yX7_inputs, cX7_inputs, 6, (some .int), 7, 2, 1, 596, 21),
  (yX7_reason, cX7_reason, 3, (some .int), 7, 7, 1, 600, 21),
  (yX7_bound, cX7_bound, 6, (some .long), 7, 7, 3, 604, 21),
  (yX7_part, cX7_part, 5, (some .long), 7, 7, 2, 617, 21),
  (yX7_trace, cX7_trace, 5, (some .long), 7, 7, 3, 419, 21),
  (yX7_dominant, cX7_dominant, 10, (some .int), 7, 7, 1, 629, 21),
  (yX7_gain, cX7_gain, 4, (some .long), 7, 7, 1, 624, 21),
  (yX7_sample, cX7_sample, 7, (some .long), 7, 7, 3, 637, 21),
  (yX7_compare, cX7_compare, 6, (some .int), 7, 8, 2, 608, 21),
  (yX7_prove, cX7_prove, 8, (some .int), 7, 8, 3, 654, 21),
  (yX7_proof, cX7_proof, 2, (some .long), 7, 2, 1, 700, 21),
  (yX7_tighten, cX7_tighten, 8, (some .long), 7, 8, 3, 724, 21),
  (yX7_roots, cX7_roots, 10, (some .int), 7, 7, 3, 745, 21),
  (yX7_count, cX7_count, 2, (some .int), 7, 2, 1, 381, 21),
  (yX7_save, cX7_save, 2, (some .int), 7, 4, 1, 707, 21),
  (yX7_restore, cX7_restore, 2, (some .int), 7, 4, 1, 717, 21),
  (yX7_find, cX7_find, 3, (some (.object "AffineRanges$Steps")), 7, 1, 1, 415, 21),
  (yX7_isMiddleAtMost, cX7_isMiddleAtMost, 6, (some .boolean), 7, 7, 3, 686, 21),
  (yX7_rank, cX7_rank, 8, none, 7, 7, 4, 728, 21),
  (yX7_endOf, cX7_endOf, 2, (some .long), 7, 2, 2, 579, 21),
  (yX7_gone, cX7_gone, 1, (some .long), 7, 1, 1, 422, 21),
  (yX7_isInput, cX7_isInput, 1, (some .boolean), 7, 1, 1, 278, 21),
  (yX7_isSide, cX7_isSide, 1, (some .boolean), 7, 1, 1, 426, 21),
  (yJ9_floorDiv_f86c9, cJ9_floorDiv_f86c9, 6, (some .long), 10, 1, 2, 540, 29),
  (yJ9_abs_067f4, cJ9_abs_067f4, 2, (some .long), 10, 1, 1, 491, 29),
  (yJ9_max_f86c9, cJ9_max_f86c9, 4, (some .long), 10, 1, 2, 455, 29),
  (yJ9_min_7cf53, cJ9_min_7cf53, 2, (some .int), 10, 1, 2, 300, 29),
  (yJ9_min_f86c9, cJ9_min_f86c9, 4, (some .long), 10, 1, 2, 497, 29),
  (yJ7_fill_d0a16, cJ7_fill_d0a16, 5, none, 11, 1, 2, 444, 31),
  (yL_up, cL_up, 2, (some .int), 9, 1, 2, 396, 20),
  (yL_text, cL_text, 11, (some .int), 9, 2, 3, 400, 20),
  (yL_abs, cL_abs, 2, (some .long), 9, 1, 1, 620, 20),
  (yL_parts, cL_parts, 16, (some .boolean), 9, 9, 2, 407, 20),
  (yL_meets, cL_meets, 9, (some .boolean), 9, 8, 3, 633, 20),
  (yL_proves, cL_proves, 12, (some .boolean), 9, 9, 4, 648, 20),
  (yL_isPoint, cL_isPoint, 3, (some .boolean), 9, 3, 1, 703, 20),
  (yL_tightens, cL_tightens, 12, (some .boolean), 9, 9, 3, 720, 20),
  (yL_zeros, cL_zeros, 9, (some .boolean), 9, 8, 3, 741, 20),
  (yL_compares, cL_compares, 13, (some .boolean), 9, 9, 3, 750, 20),
  (yL_saved, cL_saved, 9, (some .boolean), 9, 8, 2, 753, 20),
  (yL_refused, cL_refused, 3, (some .boolean), 9, 9, 2, 756, 20)]
def zF : List (List (Nat × Nat × Nat × Nat)) := [[(9, 0, 0, 52), (15, 0, 1, 56)],
  [(9, 1, 0, 211), (15, 1, 1, 212), (18, 1, 2, 213), (22, 1, 3, 215), (25, 1, 4, 217), (33, 0, 0, 54), (44, 0, 1, 58)],
  [(9, 2, 5, 161), (15, 2, 0, 149), (19, 2, 2, 154), (23, 2, 6, 163), (32, 2, 1, 152), (35, 2, 3, 157), (42, 2, 7, 165), (45, 2, 4, 159), (51, 2, 8, 167)],
  [(11, 3, 0, 189), (18, 3, 1, 190), (22, 3, 2, 191), (25, 3, 3, 192), (29, 3, 4, 193), (32, 6, 2, 86), (37, 6, 0, 79), (41, 6, 1, 82), (56, 2, 0, 150), (67, 0, 0, 55), (72, 0, 1, 59), (94, 2, 2, 155)],
  [(12, 4, 0, 118), (18, 4, 1, 120), (22, 6, 2, 85), (26, 4, 2, 121), (29, 4, 3, 122), (53, 4, 4, 123)],
  [(12, 5, 0, 96), (20, 5, 1, 98), (24, 5, 2, 100), (40, 6, 2, 87)],
  [(9, 6, 0, 78), (15, 6, 1, 81), (18, 6, 2, 84)],
  [(9, 7, 0, 232), (13, 7, 1, 233), (20, 7, 2, 234), (24, 7, 3, 235), (28, 7, 4, 236), (35, 7, 5, 237), (42, 7, 6, 238), (49, 7, 7, 239), (56, 7, 8, 240), (60, 7, 9, 241), (63, 7, 10, 242), (66, 7, 11, 243), (69, 7, 12, 244), (78, 5, 0, 97), (93, 0, 0, 53), (97, 0, 1, 57), (100, 5, 2, 101), (107, 5, 1, 99), (111, 4, 0, 119), (121, 6, 2, 88), (128, 6, 0, 80), (131, 6, 1, 83), (138, 2, 0, 151), (147, 2, 1, 153), (151, 2, 6, 164), (154, 2, 3, 158), (156, 2, 4, 160), (161, 2, 5, 162), (165, 2, 2, 156), (185, 2, 7, 166), (188, 2, 8, 168), (223, 1, 3, 216), (233, 1, 4, 218), (234, 1, 2, 214)],
  [],
  [],
  [],
  [],
  []]
def zI2 : List (List (Nat × Nat × Nat × Nat × Nat × Nat)) := [[(3, 4, 0, 51, 38, 39), (18, 0, 2, 696, 70, 71), (22, 0, 5, 642, 643, 644), (26, 0, 23, 681, 568, 569), (32, 0, 4, 682, 282, 283), (35, 0, 3, 692, 693, 694)],
  [(3, 4, 0, 210, 38, 39), (29, 0, 13, 664, 665, 666), (38, 5, 0, 668, 376, 377), (47, 0, 14, 673, 674, 675)],
  [(3, 4, 0, 148, 38, 39), (26, 2, 111, 489, 490, 0), (38, 2, 112, 453, 454, 0), (48, 2, 114, 495, 496, 0), (54, 2, 40, 546, 547, 0), (58, 0, 19, 508, 473, 474), (62, 0, 23, 575, 568, 569), (66, 2, 115, 442, 443, 0), (72, 0, 26, 449, 450, 451), (76, 0, 25, 456, 457, 458), (79, 5, 0, 468, 376, 377), (85, 2, 41, 485, 486, 0), (89, 2, 42, 492, 493, 0), (99, 2, 110, 538, 539, 0), (104, 0, 29, 502, 465, 466), (108, 0, 32, 503, 477, 478), (113, 2, 43, 510, 511, 0)],
  [(3, 4, 0, 141, 38, 39), (17, 3, 18, 145, 146, 0), (44, 0, 48, 431, 433, 13), (48, 0, 47, 460, 462, 14), (52, 0, 45, 613, 428, 429), (59, 2, 49, 435, 436, 0), (63, 0, 27, 438, 439, 440), (75, 0, 28, 445, 446, 447), (79, 0, 29, 464, 465, 466), (83, 2, 50, 469, 470, 0), (87, 0, 51, 513, 515, 15), (91, 0, 20, 542, 543, 544), (98, 0, 52, 559, 561, 16), (101, 0, 19, 472, 473, 474), (104, 0, 32, 476, 477, 478), (107, 0, 34, 480, 481, 482), (110, 0, 36, 498, 499, 500), (113, 0, 37, 504, 505, 506), (116, 0, 30, 517, 518, 519), (120, 0, 31, 521, 522, 523), (123, 0, 33, 525, 526, 527), (126, 0, 22, 529, 530, 531), (130, 0, 35, 533, 534, 535), (133, 0, 38, 551, 552, 553), (136, 0, 39, 555, 556, 557), (139, 0, 53, 563, 565, 17), (143, 0, 24, 571, 572, 573), (146, 0, 25, 576, 457, 458), (148, 0, 23, 567, 568, 569)],
  [(3, 4, 0, 115, 38, 39), (11, 3, 73, 117, 75, 0), (32, 2, 113, 298, 299, 0), (38, 0, 56, 301, 303, 0), (42, 0, 67, 348, 350, 8), (46, 0, 66, 305, 307, 1), (50, 0, 57, 309, 311, 2), (56, 2, 69, 317, 318, 0), (59, 0, 58, 336, 338, 5), (62, 0, 61, 340, 342, 6), (65, 0, 59, 320, 322, 3), (69, 0, 60, 363, 365, 11), (72, 0, 75, 313, 314, 315), (76, 0, 63, 332, 334, 4), (80, 0, 76, 324, 325, 326), (84, 0, 77, 328, 329, 330), (87, 0, 62, 344, 346, 7), (90, 0, 64, 355, 357, 9), (94, 0, 65, 359, 361, 10), (97, 2, 68, 352, 353, 0)],
  [(3, 4, 0, 45, 38, 39), (11, 3, 1, 48, 49, 0), (28, 0, 2, 69, 70, 71), (32, 3, 73, 74, 75, 0), (33, 0, 3, 712, 693, 694), (37, 0, 74, 713, 372, 373)],
  [(3, 4, 0, 77, 38, 39), (22, 5, 0, 375, 376, 377)],
  [(3, 4, 0, 37, 38, 39), (19, 1, 70, 42, 43, 0), (34, 3, 54, 112, 113, 0), (41, 1, 44, 138, 139, 0), (48, 3, 10, 207, 208, 0), (55, 3, 1, 231, 49, 0), (72, 2, 108, 276, 277, 0), (81, 0, 4, 281, 282, 283), (85, 0, 2, 285, 70, 71), (89, 2, 109, 424, 425, 0), (103, 0, 55, 294, 295, 296), (115, 0, 74, 371, 372, 373), (124, 0, 103, 412, 414, 12), (134, 0, 45, 427, 428, 429), (143, 2, 107, 420, 421, 0), (158, 0, 21, 580, 581, 582), (168, 2, 106, 577, 578, 0), (172, 0, 23, 630, 568, 569), (177, 0, 6, 638, 639, 640), (181, 0, 46, 609, 610, 611), (192, 0, 11, 656, 657, 658), (195, 0, 12, 660, 661, 662), (199, 0, 15, 669, 670, 671), (203, 0, 8, 677, 678, 679), (207, 0, 104, 683, 685, 18), (211, 0, 9, 688, 689, 690), (215, 0, 105, 725, 727, 19), (219, 0, 17, 733, 734, 735), (226, 0, 14, 737, 674, 675), (230, 0, 13, 738, 665, 666), (239, 0, 3, 746, 693, 694), (241, 0, 22, 747, 530, 531), (245, 0, 72, 382, 383, 384), (248, 0, 7, 386, 387, 388), (251, 0, 71, 708, 709, 710), (254, 0, 5, 687, 643, 644), (257, 0, 16, 729, 730, 731)],
  [],
  [(11, 1, 78, 34, 35, 0), (12, 2, 83, 390, 391, 0), (18, 2, 127, 754, 755, 0), (22, 2, 116, 394, 395, 0), (26, 0, 81, 286, 287, 288), (31, 0, 79, 272, 273, 274), (35, 2, 117, 398, 399, 0), (39, 0, 100, 378, 379, 380), (42, 0, 84, 290, 291, 292), (46, 0, 85, 367, 368, 369), (49, 2, 119, 405, 406, 0), (52, 2, 120, 631, 632, 0), (56, 2, 121, 646, 647, 0), (60, 2, 123, 718, 719, 0), (63, 2, 124, 739, 740, 0), (66, 2, 125, 748, 749, 0), (69, 2, 126, 751, 752, 0), (72, 0, 82, 401, 402, 403), (75, 0, 86, 408, 409, 410), (78, 0, 91, 416, 417, 418), (82, 0, 80, 584, 585, 586), (92, 0, 87, 593, 594, 595), (95, 0, 88, 597, 598, 599), (98, 0, 89, 601, 602, 603), (101, 0, 95, 605, 606, 607), (104, 0, 90, 614, 615, 616), (108, 2, 118, 618, 619, 0), (112, 0, 93, 621, 622, 623), (116, 0, 92, 626, 627, 628), (119, 0, 94, 634, 635, 636), (124, 0, 96, 651, 652, 653), (127, 0, 97, 697, 698, 699), (130, 2, 122, 701, 702, 0), (134, 0, 101, 704, 705, 706), (137, 0, 102, 714, 715, 716), (140, 0, 98, 721, 722, 723), (143, 0, 99, 742, 743, 744)],
  [],
  [],
  []]
def zK32 : List (List (Nat × Int × Nat)) := [[],
  [],
  [],
  [],
  [],
  [],
  [],
  [(76, (-100000), 279), (77, 100000, 280), (92, 1000000, 588), (191, (-1000000), 655)],
  [],
  [(7, 739982445, 393), (8, 2147483647, 397), (30, 40000, 762), (85, 1000000, 589), (122, 200000, 649), (123, 100000, 650), (146, (-100001), 757), (147, 900000, 758), (148, 1000001, 759)],
  [],
  [],
  []]
def zK64 : List (List (Nat × Int × Nat)) := [[],
  [],
  [(93, 2, 484), (95, 4, 488), (97, 65536, 537), (102, (-65536), 541), (111, 256, 509), (116, 1000000000, 549), (118, (-1000000000), 550)],
  [],
  [],
  [],
  [],
  [(175, 2, 625), (237, (-1000000000000000000), 423)],
  [],
  [(86, 100, 590), (88, 256, 591), (90, (-1000000000000000005), 592), (149, (-1000000000000000001), 760), (151, (-1000000000000000002), 761)],
  [],
  [],
  []]
def zCL : List (List (Nat × Nat × Nat)) := [[],
  [],
  [],
  [(9, 2, 142)],
  [(9, 6, 116)],
  [(9, 0, 46), (18, 6, 67)],
  [],
  [(17, 5, 40), (32, 4, 110), (39, 3, 136), (46, 1, 205), (53, 0, 230)],
  [],
  [(9, 7, 32)],
  [],
  [],
  []]
def zCI : List (Nat × Nat) := [(47, 23), (206, 28), (144, 27), (137, 26), (111, 25), (41, 22), (73, 24), (33, 21)]
def zLP : List (List Nat) := [[60, 62], [219, 221, 223, 225, 227], [169, 171, 173, 175, 177, 179, 181, 183, 185], [194, 196, 198, 200, 202], [124, 126, 128, 130, 132], [102, 104, 106], [89, 91, 93], [245, 247, 249, 251, 253, 255, 257, 259, 261, 263, 265, 267, 269]]
-- arrayClass int 66 long 188 char 65 boolean 135
-- arrayOver {'AffineRanges$Steps': 68, 'AffineRanges$State': 109, 'AffineRanges$Form': 143}
-- nest [('.methodLinkNest "AffineRanges$State" 11 ({ cls := "AffineRanges$Box", name := "<init>", desc := "()V" } : Jvm.MethodName) "AffineRanges"', 48), ('.methodLinkNest "AffineRanges$State" 32 ({ cls := "AffineRanges$Steps", name := "<init>", desc := "()V" } : Jvm.MethodName) "AffineRanges"', 74), ('.methodLinkNest "AffineRanges" 34 ({ cls := "AffineRanges$Reader", name := "<init>", desc := "()V" } : Jvm.MethodName) "AffineRanges"', 112), ('.methodLinkNest "AffineRanges$Reader" 11 ({ cls := "AffineRanges$Steps", name := "<init>", desc := "()V" } : Jvm.MethodName) "AffineRanges"', 117), ('.methodLinkNest "AffineRanges$Machine" 17 ({ cls := "AffineRanges$Form", name := "<init>", desc := "()V" } : Jvm.MethodName) "AffineRanges"', 145), ('.methodLinkNest "AffineRanges" 48 ({ cls := "AffineRanges$BoxList", name := "<init>", desc := "()V" } : Jvm.MethodName) "AffineRanges"', 207), ('.methodLinkNest "AffineRanges" 55 ({ cls := "AffineRanges$Box", name := "<init>", desc := "()V" } : Jvm.MethodName) "AffineRanges"', 231)]

def zC : List (String × u_T × Nat × (Nat → FieldType)) := [(RX0, TX0, 2, tyX0), (RX1, TX1, 5, tyX1), (RX2, TX2, 9, tyX2), (RX3, TX3, 5, tyX3), (RX4, TX4, 5, tyX4), (RX5, TX5, 3, tyX5), (RX6, TX6, 3, tyX6), (RX7, TX7, 13, tyX7)]
def zfld (c idx : Nat) : Option (Nat × Nat × Nat) := ((zF[c]?).getD []).lookup idx
def zmth (c idx : Nat) : Option (Nat × Nat × Nat × Nat × Nat) := ((zI2[c]?).getD []).lookup idx
def zk32 (c idx : Nat) : Option (Int × Nat) := ((zK32[c]?).getD []).lookup idx
def zk64 (c idx : Nat) : Option (Int × Nat) := ((zK64[c]?).getD []).lookup idx
def zclk (c idx : Nat) : Option (Nat × Nat) := ((zCL[c]?).getD []).lookup idx
def zMok (e : MethodName × ByteArray × Nat × Option FieldType × Nat × Nat × Nat × Nat × Nat) : Bool := match e with
  | (y, _, ml, _, c, lv, np, _, pi) => zT pi (.initialized y.cls) && decide (y.cls ≠ "java/lang/invoke/MethodHandle") && decide (y.cls ≠ "java/lang/invoke/VarHandle") && decide ((parseMethodDescriptor y.desc).map (fun d => d.parameters.length) = some np) && decide (ml ≤ 19) && decide (1 ≤ lv) && decide (zN[c]? = some y.cls) && (plainName y.cls || plainFor y)
def zFok (c : Nat) (e : Nat × Nat × Nat × Nat) : Bool := match e with
  | (idx, ci, j, p) => match zN[c]?, zC[ci]? with
    | some own, some (_, T, n, _) => decide (j < n) && zT p (.fieldLink own idx (T j).1 (T j).2.1 (T j).2.2.1)
    | _, _ => false
def zIok (c : Nat) (e : Nat × Nat × Nat × Nat × Nat × Nat) : Bool := match e with
  | (idx, kd, k2, p, q1, q2) => match zN[c]?, zM[k2]? with
    | some own, some (y, _, _, rt, _, _, _, _, _) =>
      if kd = 0 then decide (1 ≤ k2) && zT p (.methodLink own idx y) && zT q1 (.instanceMethod y) && zT q2 (.selects y.cls y y)
      else if kd = 1 then decide (1 ≤ k2) && zT p (.methodLink own idx y) && zT q1 (.instanceMethod y) && decide (y.name = "<init>") && decide (rt = none)
      else if kd = 2 then decide (1 ≤ k2) && zT p (.methodLink own idx y) && zT q1 (.static y)
      else if kd = 3 then decide (1 ≤ k2) && zT p (.methodLinkNest own idx y "AffineRanges") && zT q1 (.instanceMethod y) && decide (y.name = "<init>") && decide (rt = none)
      else if kd = 4 then zT p (.methodLink own idx objectInit) && zT q1 (.instanceMethod objectInit) && zT q2 (.code objectInit ⟨#[0xb1]⟩ 1 none)
      else if kd = 5 then zT p (.methodLink own idx arraycopyName) && zT q1 (.static arraycopyName) && zT q2 (.native arraycopyName)
      else false
    | _, _ => false
def zK32ok (c : Nat) (e : Nat × Int × Nat) : Bool := match e with
  | (idx, v, p) => match zN[c]? with
    | some own => zT p (.constant own idx (Int32.ofInt v))
    | _ => false
def zK64ok (c : Nat) (e : Nat × Int × Nat) : Bool := match e with
  | (idx, v, p) => match zN[c]? with
    | some own => zT p (.constantLong own idx (Int64.ofInt v))
    | _ => false
def zCLok (c : Nat) (e : Nat × Nat × Nat) : Bool := match e with
  | (idx, ci, p) => match zN[c]?, zC[ci]? with
    | some own, some (C, _, _, _) => zT p (.classLink own idx C)
    | _, _ => false
def zCIok (ci : Nat) : Bool := match zC[ci]?, zCI[ci]? with
  | some (C, _, n, _), some (p, q) => zT p (.instantiable C n) && zT q (.initialized C)
  | _, _ => false
def zLPok (ci : Nat) : Bool := match zC[ci]?, zLP[ci]? with
  | some (C, T, n, _), some ps => (List.range n).all fun j => zT (ps.getD j 0) (u_lay C T j)
  | _, _ => false
def zall {α : Type} (f : Nat → α → Bool) (l : List (List α)) : Bool := (List.range l.length).all fun c => ((l[c]?).getD []).all (f c)
set_option maxRecDepth 100000 in
theorem zM_ok : (zM.drop 1).all zMok = true := by decide +kernel
theorem zc_1 : zT 50 (.code yX0_init cX0_init 1 none) = true := by decide +kernel
theorem zc_2 : zT 72 (.code yX0_setEnds cX0_setEnds 4 none) = true := by decide +kernel
theorem zc_3 : zT 695 (.code yX0_copyFrom cX0_copyFrom 3 none) = true := by decide +kernel
theorem zc_4 : zT 284 (.code yX0_width cX0_width 2 (some .int)) = true := by decide +kernel
theorem zc_5 : zT 645 (.code yX0_middle cX0_middle 2 (some .int)) = true := by decide +kernel
theorem zc_6 : zT 641 (.code yX0_place cX0_place 3 (some .int)) = true := by decide +kernel
theorem zc_7 : zT 389 (.code yX0_wideInputs cX0_wideInputs 3 (some .int)) = true := by decide +kernel
theorem zc_8 : zT 680 (.code yX0_inputToSplit cX0_inputToSplit 8 (some .int)) = true := by decide +kernel
theorem zc_9 : zT 691 (.code yX0_split cX0_split 5 none) = true := by decide +kernel
theorem zc_10 : zT 209 (.code yX1_init cX1_init 1 none) = true := by decide +kernel
theorem zc_11 : zT 659 (.code yX1_clear cX1_clear 1 none) = true := by decide +kernel
theorem zc_12 : zT 663 (.code yX1_append cX1_append 2 none) = true := by decide +kernel
theorem zc_13 : zT 667 (.code yX1_replace cX1_replace 3 none) = true := by decide +kernel
theorem zc_14 : zT 676 (.code yX1_copyTo cX1_copyTo 3 none) = true := by decide +kernel
theorem zc_15 : zT 672 (.code yX1_takeLast cX1_takeLast 2 (some .boolean)) = true := by decide +kernel
theorem zc_16 : zT 732 (.code yX1_note cX1_note 5 none) = true := by decide +kernel
theorem zc_17 : zT 736 (.code yX1_worst cX1_worst 3 (some .int)) = true := by decide +kernel
theorem zc_18 : zT 147 (.code yX2_init cX2_init 1 none) = true := by decide +kernel
theorem zc_19 : zT 475 (.code yX2_becomeWild cX2_becomeWild 2 none) = true := by decide +kernel
theorem zc_20 : zT 545 (.code yX2_measure cX2_measure 2 none) = true := by decide +kernel
theorem zc_21 : zT 583 (.code yX2_bestEnd cX2_bestEnd 2 (some .long)) = true := by decide +kernel
theorem zc_22 : zT 532 (.code yX2_holdsZero cX2_holdsZero 1 (some .boolean)) = true := by decide +kernel
theorem zc_23 : zT 570 (.code yX2_weight cX2_weight 2 (some .long)) = true := by decide +kernel
theorem zc_24 : zT 574 (.code yX2_condense cX2_condense 2 none) = true := by decide +kernel
theorem zc_25 : zT 459 (.code yX2_nameLoosePart cX2_nameLoosePart 2 none) = true := by decide +kernel
theorem zc_26 : zT 452 (.code yX2_setRange cX2_setRange 5 none) = true := by decide +kernel
theorem zc_27 : zT 441 (.code yX2_setNumber cX2_setNumber 3 none) = true := by decide +kernel
theorem zc_28 : zT 448 (.code yX2_setInput cX2_setInput 4 none) = true := by decide +kernel
theorem zc_29 : zT 467 (.code yX2_copyFrom cX2_copyFrom 2 none) = true := by decide +kernel
theorem zc_30 : zT 520 (.code yX2_add cX2_add 4 none) = true := by decide +kernel
theorem zc_31 : zT 524 (.code yX2_subtract cX2_subtract 4 none) = true := by decide +kernel
theorem zc_32 : zT 479 (.code yX2_negate cX2_negate 3 none) = true := by decide +kernel
theorem zc_33 : zT 528 (.code yX2_multiply cX2_multiply 17 none) = true := by decide +kernel
theorem zc_34 : zT 483 (.code yX2_square cX2_square 10 none) = true := by decide +kernel
theorem zc_35 : zT 536 (.code yX2_invert cX2_invert 2 none) = true := by decide +kernel
theorem zc_36 : zT 501 (.code yX2_absolute cX2_absolute 2 none) = true := by decide +kernel
theorem zc_37 : zT 507 (.code yX2_root cX2_root 6 none) = true := by decide +kernel
theorem zc_38 : zT 554 (.code yX2_least cX2_least 3 none) = true := by decide +kernel
theorem zc_39 : zT 558 (.code yX2_greatest cX2_greatest 3 none) = true := by decide +kernel
theorem zc_40 : zT 548 (.code yX2_isLarge cX2_isLarge 2 (some .boolean)) = true := by decide +kernel
theorem zc_41 : zT 487 (.code yX2_roundings cX2_roundings 3 (some .int)) = true := by decide +kernel
theorem zc_42 : zT 494 (.code yX2_roundedUp cX2_roundedUp 3 (some .long)) = true := by decide +kernel
theorem zc_43 : zT 512 (.code yX2_rootDown cX2_rootDown 7 (some .long)) = true := by decide +kernel
theorem zc_44 : zT 140 (.code yX3_init cX3_init 2 none) = true := by decide +kernel
theorem zc_45 : zT 430 (.code yX3_evaluate cX3_evaluate 6 (some (.object "AffineRanges$Form"))) = true := by decide +kernel
theorem zc_46 : zT 612 (.code yX3_difference cX3_difference 6 (some (.object "AffineRanges$Form"))) = true := by decide +kernel
theorem zc_47 : zT 463 (.code yX3_top cX3_top 1 (some (.object "AffineRanges$Form"))) = true := by decide +kernel
theorem zc_48 : zT 434 (.code yX3_perform cX3_perform 6 none) = true := by decide +kernel
theorem zc_49 : zT 437 (.code yX3_operands cX3_operands 1 (some .int)) = true := by decide +kernel
theorem zc_50 : zT 471 (.code yX3_change cX3_change 3 none) = true := by decide +kernel
theorem zc_51 : zT 516 (.code yX3_combine cX3_combine 5 none) = true := by decide +kernel
theorem zc_52 : zT 562 (.code yX3_nameLoosePart cX3_nameLoosePart 8 none) = true := by decide +kernel
theorem zc_53 : zT 566 (.code yX3_weightOf cX3_weightOf 5 (some .long)) = true := by decide +kernel
theorem zc_54 : zT 114 (.code yX4_init cX4_init 1 none) = true := by decide +kernel
theorem zc_55 : zT 297 (.code yX4_read cX4_read 5 (some .int)) = true := by decide +kernel
theorem zc_56 : zT 304 (.code yX4_take cX4_take 2 (some .boolean)) = true := by decide +kernel
theorem zc_57 : zT 312 (.code yX4_takeOperand cX4_takeOperand 2 (some .boolean)) = true := by decide +kernel
theorem zc_58 : zT 339 (.code yX4_takeInWhole cX4_takeInWhole 3 (some .boolean)) = true := by decide +kernel
theorem zc_59 : zT 323 (.code yX4_addDigit cX4_addDigit 4 (some .boolean)) = true := by decide +kernel
theorem zc_60 : zT 366 (.code yX4_takePower cX4_takePower 2 (some .boolean)) = true := by decide +kernel
theorem zc_61 : zT 343 (.code yX4_takeBehind cX4_takeBehind 2 (some .boolean)) = true := by decide +kernel
theorem zc_62 : zT 347 (.code yX4_operator cX4_operator 3 (some .boolean)) = true := by decide +kernel
theorem zc_63 : zT 335 (.code yX4_open cX4_open 2 (some .boolean)) = true := by decide +kernel
theorem zc_64 : zT 358 (.code yX4_close cX4_close 2 (some .boolean)) = true := by decide +kernel
theorem zc_65 : zT 362 (.code yX4_passComma cX4_passComma 1 (some .boolean)) = true := by decide +kernel
theorem zc_66 : zT 308 (.code yX4_hold cX4_hold 3 (some .boolean)) = true := by decide +kernel
theorem zc_67 : zT 351 (.code yX4_complete cX4_complete 2 none) = true := by decide +kernel
theorem zc_68 : zT 354 (.code yX4_bindingOf cX4_bindingOf 1 (some .int)) = true := by decide +kernel
theorem zc_69 : zT 319 (.code yX4_isDigit cX4_isDigit 1 (some .boolean)) = true := by decide +kernel
theorem zc_70 : zT 44 (.code yX5_init cX5_init 2 none) = true := by decide +kernel
theorem zc_71 : zT 711 (.code yX5_copyFrom cX5_copyFrom 3 none) = true := by decide +kernel
theorem zc_72 : zT 385 (.code yX5_expressionSet cX5_expressionSet 3 (some .int)) = true := by decide +kernel
theorem zc_73 : zT 76 (.code yX6_init cX6_init 1 none) = true := by decide +kernel
theorem zc_74 : zT 374 (.code yX6_copyFrom cX6_copyFrom 2 none) = true := by decide +kernel
theorem zc_75 : zT 316 (.code yX6_append cX6_append 3 none) = true := by decide +kernel
theorem zc_76 : zT 327 (.code yX6_lastValue cX6_lastValue 1 (some .int)) = true := by decide +kernel
theorem zc_77 : zT 331 (.code yX6_setLastValue cX6_setLastValue 2 none) = true := by decide +kernel
theorem zc_78 : zT 36 (.code yX7_init cX7_init 2 none) = true := by decide +kernel
theorem zc_79 : zT 275 (.code yX7_setDomain cX7_setDomain 5 (some .int)) = true := by decide +kernel
theorem zc_80 : zT 587 (.code yX7_domain cX7_domain 3 (some .int)) = true := by decide +kernel
theorem zc_81 : zT 289 (.code yX7_setSymbols cX7_setSymbols 3 (some .int)) = true := by decide +kernel
theorem zc_82 : zT 404 (.code yX7_say cX7_say 2 (some .int)) = true := by decide +kernel
theorem zc_83 : zT 392 (.code yL_cell cL_cell 2 (some .int)) = true := by decide +kernel
theorem zc_84 : zT 293 (.code yX7_fault cX7_fault 1 (some .int)) = true := by decide +kernel
theorem zc_85 : zT 370 (.code yX7_load cX7_load 2 (some .int)) = true := by decide +kernel
theorem zc_86 : zT 411 (.code yX7_step cX7_step 5 (some .int)) = true := by decide +kernel
theorem zc_87 : zT 596 (.code yX7_inputs cX7_inputs 6 (some .int)) = true := by decide +kernel
theorem zc_88 : zT 600 (.code yX7_reason cX7_reason 3 (some .int)) = true := by decide +kernel
theorem zc_89 : zT 604 (.code yX7_bound cX7_bound 6 (some .long)) = true := by decide +kernel
theorem zc_90 : zT 617 (.code yX7_part cX7_part 5 (some .long)) = true := by decide +kernel
theorem zc_91 : zT 419 (.code yX7_trace cX7_trace 5 (some .long)) = true := by decide +kernel
theorem zc_92 : zT 629 (.code yX7_dominant cX7_dominant 10 (some .int)) = true := by decide +kernel
theorem zc_93 : zT 624 (.code yX7_gain cX7_gain 4 (some .long)) = true := by decide +kernel
theorem zc_94 : zT 637 (.code yX7_sample cX7_sample 7 (some .long)) = true := by decide +kernel
theorem zc_95 : zT 608 (.code yX7_compare cX7_compare 6 (some .int)) = true := by decide +kernel
theorem zc_96 : zT 654 (.code yX7_prove cX7_prove 8 (some .int)) = true := by decide +kernel
theorem zc_97 : zT 700 (.code yX7_proof cX7_proof 2 (some .long)) = true := by decide +kernel
theorem zc_98 : zT 724 (.code yX7_tighten cX7_tighten 8 (some .long)) = true := by decide +kernel
theorem zc_99 : zT 745 (.code yX7_roots cX7_roots 10 (some .int)) = true := by decide +kernel
theorem zc_100 : zT 381 (.code yX7_count cX7_count 2 (some .int)) = true := by decide +kernel
theorem zc_101 : zT 707 (.code yX7_save cX7_save 2 (some .int)) = true := by decide +kernel
theorem zc_102 : zT 717 (.code yX7_restore cX7_restore 2 (some .int)) = true := by decide +kernel
theorem zc_103 : zT 415 (.code yX7_find cX7_find 3 (some (.object "AffineRanges$Steps"))) = true := by decide +kernel
theorem zc_104 : zT 686 (.code yX7_isMiddleAtMost cX7_isMiddleAtMost 6 (some .boolean)) = true := by decide +kernel
theorem zc_105 : zT 728 (.code yX7_rank cX7_rank 8 none) = true := by decide +kernel
theorem zc_106 : zT 579 (.code yX7_endOf cX7_endOf 2 (some .long)) = true := by decide +kernel
theorem zc_107 : zT 422 (.code yX7_gone cX7_gone 1 (some .long)) = true := by decide +kernel
theorem zc_108 : zT 278 (.code yX7_isInput cX7_isInput 1 (some .boolean)) = true := by decide +kernel
theorem zc_109 : zT 426 (.code yX7_isSide cX7_isSide 1 (some .boolean)) = true := by decide +kernel
theorem zc_110 : zT 540 (.code yJ9_floorDiv_f86c9 cJ9_floorDiv_f86c9 6 (some .long)) = true := by decide +kernel
theorem zc_111 : zT 491 (.code yJ9_abs_067f4 cJ9_abs_067f4 2 (some .long)) = true := by decide +kernel
theorem zc_112 : zT 455 (.code yJ9_max_f86c9 cJ9_max_f86c9 4 (some .long)) = true := by decide +kernel
theorem zc_113 : zT 300 (.code yJ9_min_7cf53 cJ9_min_7cf53 2 (some .int)) = true := by decide +kernel
theorem zc_114 : zT 497 (.code yJ9_min_f86c9 cJ9_min_f86c9 4 (some .long)) = true := by decide +kernel
theorem zc_115 : zT 444 (.code yJ7_fill_d0a16 cJ7_fill_d0a16 5 none) = true := by decide +kernel
theorem zc_116 : zT 396 (.code yL_up cL_up 2 (some .int)) = true := by decide +kernel
theorem zc_117 : zT 400 (.code yL_text cL_text 11 (some .int)) = true := by decide +kernel
theorem zc_118 : zT 620 (.code yL_abs cL_abs 2 (some .long)) = true := by decide +kernel
set_option maxRecDepth 100000 in
theorem zc_119 : zT 407 (.code yL_parts cL_parts 16 (some .boolean)) = true := decide_eq_true (by rfl)
theorem zc_120 : zT 633 (.code yL_meets cL_meets 9 (some .boolean)) = true := by decide +kernel
theorem zc_121 : zT 648 (.code yL_proves cL_proves 12 (some .boolean)) = true := by decide +kernel
theorem zc_122 : zT 703 (.code yL_isPoint cL_isPoint 3 (some .boolean)) = true := by decide +kernel
theorem zc_123 : zT 720 (.code yL_tightens cL_tightens 12 (some .boolean)) = true := by decide +kernel
theorem zc_124 : zT 741 (.code yL_zeros cL_zeros 9 (some .boolean)) = true := by decide +kernel
theorem zc_125 : zT 750 (.code yL_compares cL_compares 13 (some .boolean)) = true := by decide +kernel
theorem zc_126 : zT 753 (.code yL_saved cL_saved 9 (some .boolean)) = true := by decide +kernel
theorem zc_127 : zT 756 (.code yL_refused cL_refused 3 (some .boolean)) = true := by decide +kernel
def zMcf (e : MethodName × ByteArray × Nat × Option FieldType × Nat × Nat × Nat × Nat × Nat) : Bool := zT e.2.2.2.2.2.2.2.1 (.code e.1 e.2.1 e.2.2.1 e.2.2.2.1)
set_option maxRecDepth 100000 in
theorem zMc_ok : (zM.drop 1).all zMcf = true := by
  simp only [zM, List.drop_succ_cons, List.drop_zero, List.all_cons, List.all_nil, zMcf, zc_1, zc_2, zc_3, zc_4, zc_5, zc_6, zc_7, zc_8, zc_9, zc_10, zc_11, zc_12, zc_13, zc_14, zc_15, zc_16, zc_17, zc_18, zc_19, zc_20, zc_21, zc_22, zc_23, zc_24, zc_25, zc_26, zc_27, zc_28, zc_29, zc_30, zc_31, zc_32, zc_33, zc_34, zc_35, zc_36, zc_37, zc_38, zc_39, zc_40, zc_41, zc_42, zc_43, zc_44, zc_45, zc_46, zc_47, zc_48, zc_49, zc_50, zc_51, zc_52, zc_53, zc_54, zc_55, zc_56, zc_57, zc_58, zc_59, zc_60, zc_61, zc_62, zc_63, zc_64, zc_65, zc_66, zc_67, zc_68, zc_69, zc_70, zc_71, zc_72, zc_73, zc_74, zc_75, zc_76, zc_77, zc_78, zc_79, zc_80, zc_81, zc_82, zc_83, zc_84, zc_85, zc_86, zc_87, zc_88, zc_89, zc_90, zc_91, zc_92, zc_93, zc_94, zc_95, zc_96, zc_97, zc_98, zc_99, zc_100, zc_101, zc_102, zc_103, zc_104, zc_105, zc_106, zc_107, zc_108, zc_109, zc_110, zc_111, zc_112, zc_113, zc_114, zc_115, zc_116, zc_117, zc_118, zc_119, zc_120, zc_121, zc_122, zc_123, zc_124, zc_125, zc_126, zc_127, Bool.and_true, Bool.and_self]
set_option maxRecDepth 100000 in
theorem zF_ok : zall zFok zF = true := by decide +kernel
set_option maxRecDepth 100000 in
theorem zI_ok : zall zIok zI2 = true := by decide +kernel
set_option maxRecDepth 100000 in
theorem zK32_ok : zall zK32ok zK32 = true := by decide +kernel
set_option maxRecDepth 100000 in
theorem zK64_ok : zall zK64ok zK64 = true := by decide +kernel
set_option maxRecDepth 100000 in
theorem zCL_ok : zall zCLok zCL = true := by decide +kernel
set_option maxRecDepth 100000 in
theorem zCI_ok : (List.range 8).all zCIok = true := by decide +kernel
set_option maxRecDepth 100000 in
theorem zLP_ok : (List.range 8).all zLPok = true := by decide +kernel
set_option maxRecDepth 100000 in
theorem zA_ok : (zT 66 (.arrayClass .int) && zT 188 (.arrayClass .long) && zT 65 (.arrayClass .char) && zT 135 (.arrayClass .boolean) && zT 68 (.arrayOver (.object RX6)) && zT 109 (.arrayOver (.object RX5)) && zT 143 (.arrayOver (.object RX2)) && zT 30 (.initialized "java/lang/System")) = true := by decide +kernel
theorem zC_vw (ci : Nat) : vwCl[ci]? = (zC[ci]?).map (fun e => (e.1, e.2.1, e.2.2.1)) := by
  match ci with
  | 0 | 1 | 2 | 3 | 4 | 5 | 6 | 7 => rfl
  | n + 8 => rfl
