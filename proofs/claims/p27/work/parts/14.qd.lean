/-! ===== one rule for each instruction of the library and the law (1) ===== -/
section
variable {L : zLS} {S : List Value} {sh : zSh} {mi : zI} {mj : zJ} {mr : zR} {x y z : Int32} {u v : Int64} {o o2 : Nat} {l0 l1 l2 l3 l4 l5 l6 l7 l8 l9 l10 l11 l12 l13 l14 l15 l16 l17 l18 : Option Value}
theorem d_110_0 : decode cJ9_floorDiv_f86c9 0 = .ok (.lload_n 0, 1) := by decide +kernel
theorem d_110_1 : decode cJ9_floorDiv_f86c9 1 = .ok (.lload_n 2, 1) := by decide +kernel
theorem d_110_2 : decode cJ9_floorDiv_f86c9 2 = .ok (.ldiv, 1) := by decide +kernel
theorem d_110_3 : decode cJ9_floorDiv_f86c9 3 = .ok (.lstore 4, 2) := by decide +kernel
theorem d_110_5 : decode cJ9_floorDiv_f86c9 5 = .ok (.lload_n 0, 1) := by decide +kernel
theorem d_110_6 : decode cJ9_floorDiv_f86c9 6 = .ok (.lload_n 2, 1) := by decide +kernel
theorem d_110_7 : decode cJ9_floorDiv_f86c9 7 = .ok (.lxor, 1) := by decide +kernel
theorem d_110_8 : decode cJ9_floorDiv_f86c9 8 = .ok (.lconst 0, 1) := by decide +kernel
theorem d_110_9 : decode cJ9_floorDiv_f86c9 9 = .ok (.lcmp, 1) := by decide +kernel
theorem d_110_10 : decode cJ9_floorDiv_f86c9 10 = .ok (.ifCond .ge 17, 3) := by decide +kernel
theorem d_110_13 : decode cJ9_floorDiv_f86c9 13 = .ok (.lload 4, 2) := by decide +kernel
theorem d_110_15 : decode cJ9_floorDiv_f86c9 15 = .ok (.lload_n 2, 1) := by decide +kernel
theorem d_110_16 : decode cJ9_floorDiv_f86c9 16 = .ok (.lmul, 1) := by decide +kernel
theorem d_110_17 : decode cJ9_floorDiv_f86c9 17 = .ok (.lload_n 0, 1) := by decide +kernel
theorem d_110_18 : decode cJ9_floorDiv_f86c9 18 = .ok (.lcmp, 1) := by decide +kernel
theorem d_110_19 : decode cJ9_floorDiv_f86c9 19 = .ok (.ifCond .eq 8, 3) := by decide +kernel
theorem d_110_22 : decode cJ9_floorDiv_f86c9 22 = .ok (.lload 4, 2) := by decide +kernel
theorem d_110_24 : decode cJ9_floorDiv_f86c9 24 = .ok (.lconst 1, 1) := by decide +kernel
theorem d_110_25 : decode cJ9_floorDiv_f86c9 25 = .ok (.lsub, 1) := by decide +kernel
theorem d_110_26 : decode cJ9_floorDiv_f86c9 26 = .ok (.lreturn, 1) := by decide +kernel
theorem d_110_27 : decode cJ9_floorDiv_f86c9 27 = .ok (.lload 4, 2) := by decide +kernel
theorem d_110_29 : decode cJ9_floorDiv_f86c9 29 = .ok (.lreturn, 1) := by decide +kernel
theorem q_110_0 : zRun 110 0 [some (.long u), l1, l2, l3, l4, l5] S sh mi mj mr = zRun 110 1 [some (.long u), l1, l2, l3, l4, l5] (.long u :: S) sh mi mj mr := zr_l (zD_of zk_110 d_110_0 rfl rfl) rfl rfl rfl
theorem q_110_1 : zRun 110 1 [l0, l1, some (.long u), l3, l4, l5] S sh mi mj mr = zRun 110 2 [l0, l1, some (.long u), l3, l4, l5] (.long u :: S) sh mi mj mr := zr_l (zD_of zk_110 d_110_1 rfl rfl) rfl rfl rfl
theorem q_110_2 (h : ¬ v = 0) : zRun 110 2 L (.long v :: .long u :: S) sh mi mj mr = zRun 110 3 L (.long (u / v) :: S) sh mi mj mr := zr_p (zD_of zk_110 d_110_2 rfl rfl) (if_neg h)
theorem q_110_3 : zRun 110 3 [l0, l1, l2, l3, l4, l5] (.long u :: S) sh mi mj mr = zRun 110 5 [l0, l1, l2, zk2 l3, some (.long u), none] S sh mi mj mr := zr_s2 (i := 4) (v := .long u) (L := [l0, l1, l2, l3, l4, l5]) (zD_of zk_110 d_110_3 rfl rfl) rfl rfl rfl rfl
theorem q_110_5 : zRun 110 5 [some (.long u), l1, l2, l3, l4, l5] S sh mi mj mr = zRun 110 6 [some (.long u), l1, l2, l3, l4, l5] (.long u :: S) sh mi mj mr := zr_l (zD_of zk_110 d_110_5 rfl rfl) rfl rfl rfl
theorem q_110_6 : zRun 110 6 [l0, l1, some (.long u), l3, l4, l5] S sh mi mj mr = zRun 110 7 [l0, l1, some (.long u), l3, l4, l5] (.long u :: S) sh mi mj mr := zr_l (zD_of zk_110 d_110_6 rfl rfl) rfl rfl rfl
theorem q_110_7  : zRun 110 7 L (.long v :: .long u :: S) sh mi mj mr = zRun 110 8 L (.long (u ^^^ v) :: S) sh mi mj mr := zr_p (zD_of zk_110 d_110_7 rfl rfl) rfl
theorem q_110_8  : zRun 110 8 L S sh mi mj mr = zRun 110 9 L (.long 0 :: S) sh mi mj mr := zr_p (zD_of zk_110 d_110_8 rfl rfl) rfl
theorem q_110_9  : zRun 110 9 L (.long v :: .long u :: S) sh mi mj mr = if v ≤ u then zRun 110 27 L S sh mi mj mr else zRun 110 13 L S sh mi mj mr := zr_cmp (off := 17) (zD_of zk_110 d_110_9 rfl rfl) (zD_of zk_110 d_110_10 rfl rfl) rfl rfl (by decide) (lg_cmp_ge u v)
theorem q_110_10  : zRun 110 10 L (.int x :: S) sh mi mj mr = if 0 ≤ x then zRun 110 27 L S sh mi mj mr else zRun 110 13 L S sh mi mj mr := zr_if (off := 17) (P := 0 ≤ x) (zD_of zk_110 d_110_10 rfl rfl) rfl rfl (by decide)
theorem q_110_13 : zRun 110 13 [l0, l1, l2, l3, some (.long u), l5] S sh mi mj mr = zRun 110 15 [l0, l1, l2, l3, some (.long u), l5] (.long u :: S) sh mi mj mr := zr_l (zD_of zk_110 d_110_13 rfl rfl) rfl rfl rfl
theorem q_110_15 : zRun 110 15 [l0, l1, some (.long u), l3, l4, l5] S sh mi mj mr = zRun 110 16 [l0, l1, some (.long u), l3, l4, l5] (.long u :: S) sh mi mj mr := zr_l (zD_of zk_110 d_110_15 rfl rfl) rfl rfl rfl
theorem q_110_16  : zRun 110 16 L (.long v :: .long u :: S) sh mi mj mr = zRun 110 17 L (.long (u * v) :: S) sh mi mj mr := zr_p (zD_of zk_110 d_110_16 rfl rfl) rfl
theorem q_110_17 : zRun 110 17 [some (.long u), l1, l2, l3, l4, l5] S sh mi mj mr = zRun 110 18 [some (.long u), l1, l2, l3, l4, l5] (.long u :: S) sh mi mj mr := zr_l (zD_of zk_110 d_110_17 rfl rfl) rfl rfl rfl
theorem q_110_18  : zRun 110 18 L (.long v :: .long u :: S) sh mi mj mr = if u = v then zRun 110 27 L S sh mi mj mr else zRun 110 22 L S sh mi mj mr := zr_cmp (off := 8) (zD_of zk_110 d_110_18 rfl rfl) (zD_of zk_110 d_110_19 rfl rfl) rfl rfl (by decide) (lg_cmp_eq u v)
theorem q_110_19  : zRun 110 19 L (.int x :: S) sh mi mj mr = if x = 0 then zRun 110 27 L S sh mi mj mr else zRun 110 22 L S sh mi mj mr := zr_if (off := 8) (P := x = 0) (zD_of zk_110 d_110_19 rfl rfl) rfl rfl (by decide)
theorem q_110_22 : zRun 110 22 [l0, l1, l2, l3, some (.long u), l5] S sh mi mj mr = zRun 110 24 [l0, l1, l2, l3, some (.long u), l5] (.long u :: S) sh mi mj mr := zr_l (zD_of zk_110 d_110_22 rfl rfl) rfl rfl rfl
theorem q_110_24  : zRun 110 24 L S sh mi mj mr = zRun 110 25 L (.long 1 :: S) sh mi mj mr := zr_p (zD_of zk_110 d_110_24 rfl rfl) rfl
theorem q_110_25  : zRun 110 25 L (.long v :: .long u :: S) sh mi mj mr = zRun 110 26 L (.long (u - v) :: S) sh mi mj mr := zr_p (zD_of zk_110 d_110_25 rfl rfl) rfl
theorem q_110_26  : zRun 110 26 L ([.long u]) sh mi mj mr = some (some (.long u), sh, mi, mj, mr) := zr_ret (zD_of zk_110 d_110_26 rfl rfl) rfl rfl rfl rfl rfl rfl
theorem q_110_27 : zRun 110 27 [l0, l1, l2, l3, some (.long u), l5] S sh mi mj mr = zRun 110 29 [l0, l1, l2, l3, some (.long u), l5] (.long u :: S) sh mi mj mr := zr_l (zD_of zk_110 d_110_27 rfl rfl) rfl rfl rfl
theorem q_110_29  : zRun 110 29 L ([.long u]) sh mi mj mr = some (some (.long u), sh, mi, mj, mr) := zr_ret (zD_of zk_110 d_110_29 rfl rfl) rfl rfl rfl rfl rfl rfl
theorem e_110 {u0 u1 : Int64} : zCall 110 [.long u0, .long u1] sh mi mj mr = zRun 110 0 [some (.long u0), none, some (.long u1), none, none, none] [] sh mi mj mr := rfl
theorem d_111_0 : decode cJ9_abs_067f4 0 = .ok (.lload_n 0, 1) := by decide +kernel
theorem d_111_1 : decode cJ9_abs_067f4 1 = .ok (.lconst 0, 1) := by decide +kernel
theorem d_111_2 : decode cJ9_abs_067f4 2 = .ok (.lcmp, 1) := by decide +kernel
theorem d_111_3 : decode cJ9_abs_067f4 3 = .ok (.ifCond .ge 8, 3) := by decide +kernel
theorem d_111_6 : decode cJ9_abs_067f4 6 = .ok (.lload_n 0, 1) := by decide +kernel
theorem d_111_7 : decode cJ9_abs_067f4 7 = .ok (.lneg, 1) := by decide +kernel
theorem d_111_8 : decode cJ9_abs_067f4 8 = .ok (.goto 4, 3) := by decide +kernel
theorem d_111_11 : decode cJ9_abs_067f4 11 = .ok (.lload_n 0, 1) := by decide +kernel
theorem d_111_12 : decode cJ9_abs_067f4 12 = .ok (.lreturn, 1) := by decide +kernel
theorem q_111_0 : zRun 111 0 [some (.long u), l1] S sh mi mj mr = zRun 111 1 [some (.long u), l1] (.long u :: S) sh mi mj mr := zr_l (zD_of zk_111 d_111_0 rfl rfl) rfl rfl rfl
theorem q_111_1  : zRun 111 1 L S sh mi mj mr = zRun 111 2 L (.long 0 :: S) sh mi mj mr := zr_p (zD_of zk_111 d_111_1 rfl rfl) rfl
theorem q_111_2  : zRun 111 2 L (.long v :: .long u :: S) sh mi mj mr = if v ≤ u then zRun 111 11 L S sh mi mj mr else zRun 111 6 L S sh mi mj mr := zr_cmp (off := 8) (zD_of zk_111 d_111_2 rfl rfl) (zD_of zk_111 d_111_3 rfl rfl) rfl rfl (by decide) (lg_cmp_ge u v)
theorem q_111_3  : zRun 111 3 L (.int x :: S) sh mi mj mr = if 0 ≤ x then zRun 111 11 L S sh mi mj mr else zRun 111 6 L S sh mi mj mr := zr_if (off := 8) (P := 0 ≤ x) (zD_of zk_111 d_111_3 rfl rfl) rfl rfl (by decide)
theorem q_111_6 : zRun 111 6 [some (.long u), l1] S sh mi mj mr = zRun 111 7 [some (.long u), l1] (.long u :: S) sh mi mj mr := zr_l (zD_of zk_111 d_111_6 rfl rfl) rfl rfl rfl
theorem q_111_7  : zRun 111 7 L (.long u :: S) sh mi mj mr = zRun 111 8 L (.long (-u) :: S) sh mi mj mr := zr_p (zD_of zk_111 d_111_7 rfl rfl) rfl
theorem q_111_8  : zRun 111 8 L S sh mi mj mr = zRun 111 12 L S sh mi mj mr := zr_go (off := 4) (zD_of zk_111 d_111_8 rfl rfl) rfl rfl (by decide)
theorem q_111_11 : zRun 111 11 [some (.long u), l1] S sh mi mj mr = zRun 111 12 [some (.long u), l1] (.long u :: S) sh mi mj mr := zr_l (zD_of zk_111 d_111_11 rfl rfl) rfl rfl rfl
theorem q_111_12  : zRun 111 12 L ([.long u]) sh mi mj mr = some (some (.long u), sh, mi, mj, mr) := zr_ret (zD_of zk_111 d_111_12 rfl rfl) rfl rfl rfl rfl rfl rfl
theorem e_111 {u0 : Int64} : zCall 111 [.long u0] sh mi mj mr = zRun 111 0 [some (.long u0), none] [] sh mi mj mr := rfl
theorem d_112_0 : decode cJ9_max_f86c9 0 = .ok (.lload_n 0, 1) := by decide +kernel
theorem d_112_1 : decode cJ9_max_f86c9 1 = .ok (.lload_n 2, 1) := by decide +kernel
theorem d_112_2 : decode cJ9_max_f86c9 2 = .ok (.lcmp, 1) := by decide +kernel
theorem d_112_3 : decode cJ9_max_f86c9 3 = .ok (.ifCond .lt 7, 3) := by decide +kernel
theorem d_112_6 : decode cJ9_max_f86c9 6 = .ok (.lload_n 0, 1) := by decide +kernel
theorem d_112_7 : decode cJ9_max_f86c9 7 = .ok (.goto 4, 3) := by decide +kernel
theorem d_112_10 : decode cJ9_max_f86c9 10 = .ok (.lload_n 2, 1) := by decide +kernel
theorem d_112_11 : decode cJ9_max_f86c9 11 = .ok (.lreturn, 1) := by decide +kernel
theorem q_112_0 : zRun 112 0 [some (.long u), l1, l2, l3] S sh mi mj mr = zRun 112 1 [some (.long u), l1, l2, l3] (.long u :: S) sh mi mj mr := zr_l (zD_of zk_112 d_112_0 rfl rfl) rfl rfl rfl
theorem q_112_1 : zRun 112 1 [l0, l1, some (.long u), l3] S sh mi mj mr = zRun 112 2 [l0, l1, some (.long u), l3] (.long u :: S) sh mi mj mr := zr_l (zD_of zk_112 d_112_1 rfl rfl) rfl rfl rfl
theorem q_112_2  : zRun 112 2 L (.long v :: .long u :: S) sh mi mj mr = if u < v then zRun 112 10 L S sh mi mj mr else zRun 112 6 L S sh mi mj mr := zr_cmp (off := 7) (zD_of zk_112 d_112_2 rfl rfl) (zD_of zk_112 d_112_3 rfl rfl) rfl rfl (by decide) (lg_cmp_lt u v)
theorem q_112_3  : zRun 112 3 L (.int x :: S) sh mi mj mr = if x < 0 then zRun 112 10 L S sh mi mj mr else zRun 112 6 L S sh mi mj mr := zr_if (off := 7) (P := x < 0) (zD_of zk_112 d_112_3 rfl rfl) rfl rfl (by decide)
theorem q_112_6 : zRun 112 6 [some (.long u), l1, l2, l3] S sh mi mj mr = zRun 112 7 [some (.long u), l1, l2, l3] (.long u :: S) sh mi mj mr := zr_l (zD_of zk_112 d_112_6 rfl rfl) rfl rfl rfl
theorem q_112_7  : zRun 112 7 L S sh mi mj mr = zRun 112 11 L S sh mi mj mr := zr_go (off := 4) (zD_of zk_112 d_112_7 rfl rfl) rfl rfl (by decide)
theorem q_112_10 : zRun 112 10 [l0, l1, some (.long u), l3] S sh mi mj mr = zRun 112 11 [l0, l1, some (.long u), l3] (.long u :: S) sh mi mj mr := zr_l (zD_of zk_112 d_112_10 rfl rfl) rfl rfl rfl
theorem q_112_11  : zRun 112 11 L ([.long u]) sh mi mj mr = some (some (.long u), sh, mi, mj, mr) := zr_ret (zD_of zk_112 d_112_11 rfl rfl) rfl rfl rfl rfl rfl rfl
theorem e_112 {u0 u1 : Int64} : zCall 112 [.long u0, .long u1] sh mi mj mr = zRun 112 0 [some (.long u0), none, some (.long u1), none] [] sh mi mj mr := rfl
theorem d_113_0 : decode cJ9_min_7cf53 0 = .ok (.iload_n 0, 1) := by decide +kernel
theorem d_113_1 : decode cJ9_min_7cf53 1 = .ok (.iload_n 1, 1) := by decide +kernel
theorem d_113_2 : decode cJ9_min_7cf53 2 = .ok (.if_icmp .gt 7, 3) := by decide +kernel
theorem d_113_5 : decode cJ9_min_7cf53 5 = .ok (.iload_n 0, 1) := by decide +kernel
theorem d_113_6 : decode cJ9_min_7cf53 6 = .ok (.goto 4, 3) := by decide +kernel
theorem d_113_9 : decode cJ9_min_7cf53 9 = .ok (.iload_n 1, 1) := by decide +kernel
theorem d_113_10 : decode cJ9_min_7cf53 10 = .ok (.ireturn, 1) := by decide +kernel
theorem q_113_0 : zRun 113 0 [some (.int x), l1] S sh mi mj mr = zRun 113 1 [some (.int x), l1] (.int x :: S) sh mi mj mr := zr_l (zD_of zk_113 d_113_0 rfl rfl) rfl rfl rfl
theorem q_113_1 : zRun 113 1 [l0, some (.int x)] S sh mi mj mr = zRun 113 2 [l0, some (.int x)] (.int x :: S) sh mi mj mr := zr_l (zD_of zk_113 d_113_1 rfl rfl) rfl rfl rfl
theorem q_113_2  : zRun 113 2 L (.int y :: .int x :: S) sh mi mj mr = if y < x then zRun 113 9 L S sh mi mj mr else zRun 113 5 L S sh mi mj mr := zr_if (off := 7) (P := y < x) (zD_of zk_113 d_113_2 rfl rfl) rfl rfl (by decide)
theorem q_113_5 : zRun 113 5 [some (.int x), l1] S sh mi mj mr = zRun 113 6 [some (.int x), l1] (.int x :: S) sh mi mj mr := zr_l (zD_of zk_113 d_113_5 rfl rfl) rfl rfl rfl
theorem q_113_6  : zRun 113 6 L S sh mi mj mr = zRun 113 10 L S sh mi mj mr := zr_go (off := 4) (zD_of zk_113 d_113_6 rfl rfl) rfl rfl (by decide)
theorem q_113_9 : zRun 113 9 [l0, some (.int x)] S sh mi mj mr = zRun 113 10 [l0, some (.int x)] (.int x :: S) sh mi mj mr := zr_l (zD_of zk_113 d_113_9 rfl rfl) rfl rfl rfl
theorem q_113_10  : zRun 113 10 L ([.int x]) sh mi mj mr = some (some (.int x), sh, mi, mj, mr) := zr_ret (zD_of zk_113 d_113_10 rfl rfl) rfl rfl rfl rfl rfl (if_pos rfl)
theorem e_113 {x0 x1 : Int32} : zCall 113 [.int x0, .int x1] sh mi mj mr = zRun 113 0 [some (.int x0), some (.int x1)] [] sh mi mj mr := rfl
theorem d_114_0 : decode cJ9_min_f86c9 0 = .ok (.lload_n 0, 1) := by decide +kernel
theorem d_114_1 : decode cJ9_min_f86c9 1 = .ok (.lload_n 2, 1) := by decide +kernel
theorem d_114_2 : decode cJ9_min_f86c9 2 = .ok (.lcmp, 1) := by decide +kernel
theorem d_114_3 : decode cJ9_min_f86c9 3 = .ok (.ifCond .gt 7, 3) := by decide +kernel
theorem d_114_6 : decode cJ9_min_f86c9 6 = .ok (.lload_n 0, 1) := by decide +kernel
theorem d_114_7 : decode cJ9_min_f86c9 7 = .ok (.goto 4, 3) := by decide +kernel
theorem d_114_10 : decode cJ9_min_f86c9 10 = .ok (.lload_n 2, 1) := by decide +kernel
theorem d_114_11 : decode cJ9_min_f86c9 11 = .ok (.lreturn, 1) := by decide +kernel
theorem q_114_0 : zRun 114 0 [some (.long u), l1, l2, l3] S sh mi mj mr = zRun 114 1 [some (.long u), l1, l2, l3] (.long u :: S) sh mi mj mr := zr_l (zD_of zk_114 d_114_0 rfl rfl) rfl rfl rfl
theorem q_114_1 : zRun 114 1 [l0, l1, some (.long u), l3] S sh mi mj mr = zRun 114 2 [l0, l1, some (.long u), l3] (.long u :: S) sh mi mj mr := zr_l (zD_of zk_114 d_114_1 rfl rfl) rfl rfl rfl
theorem q_114_2  : zRun 114 2 L (.long v :: .long u :: S) sh mi mj mr = if v < u then zRun 114 10 L S sh mi mj mr else zRun 114 6 L S sh mi mj mr := zr_cmp (off := 7) (zD_of zk_114 d_114_2 rfl rfl) (zD_of zk_114 d_114_3 rfl rfl) rfl rfl (by decide) (lg_cmp_gt u v)
theorem q_114_3  : zRun 114 3 L (.int x :: S) sh mi mj mr = if 0 < x then zRun 114 10 L S sh mi mj mr else zRun 114 6 L S sh mi mj mr := zr_if (off := 7) (P := 0 < x) (zD_of zk_114 d_114_3 rfl rfl) rfl rfl (by decide)
theorem q_114_6 : zRun 114 6 [some (.long u), l1, l2, l3] S sh mi mj mr = zRun 114 7 [some (.long u), l1, l2, l3] (.long u :: S) sh mi mj mr := zr_l (zD_of zk_114 d_114_6 rfl rfl) rfl rfl rfl
theorem q_114_7  : zRun 114 7 L S sh mi mj mr = zRun 114 11 L S sh mi mj mr := zr_go (off := 4) (zD_of zk_114 d_114_7 rfl rfl) rfl rfl (by decide)
theorem q_114_10 : zRun 114 10 [l0, l1, some (.long u), l3] S sh mi mj mr = zRun 114 11 [l0, l1, some (.long u), l3] (.long u :: S) sh mi mj mr := zr_l (zD_of zk_114 d_114_10 rfl rfl) rfl rfl rfl
theorem q_114_11  : zRun 114 11 L ([.long u]) sh mi mj mr = some (some (.long u), sh, mi, mj, mr) := zr_ret (zD_of zk_114 d_114_11 rfl rfl) rfl rfl rfl rfl rfl rfl
theorem e_114 {u0 u1 : Int64} : zCall 114 [.long u0, .long u1] sh mi mj mr = zRun 114 0 [some (.long u0), none, some (.long u1), none] [] sh mi mj mr := rfl
theorem d_115_0 : decode cJ7_fill_d0a16 0 = .ok (.iconst 0, 1) := by decide +kernel
theorem d_115_1 : decode cJ7_fill_d0a16 1 = .ok (.istore_n 3, 1) := by decide +kernel
theorem d_115_2 : decode cJ7_fill_d0a16 2 = .ok (.aload_n 0, 1) := by decide +kernel
theorem d_115_3 : decode cJ7_fill_d0a16 3 = .ok (.arraylength, 1) := by decide +kernel
theorem d_115_4 : decode cJ7_fill_d0a16 4 = .ok (.istore 4, 2) := by decide +kernel
theorem d_115_6 : decode cJ7_fill_d0a16 6 = .ok (.iload_n 3, 1) := by decide +kernel
theorem d_115_7 : decode cJ7_fill_d0a16 7 = .ok (.iload 4, 2) := by decide +kernel
theorem d_115_9 : decode cJ7_fill_d0a16 9 = .ok (.if_icmp .ge 13, 3) := by decide +kernel
theorem d_115_12 : decode cJ7_fill_d0a16 12 = .ok (.aload_n 0, 1) := by decide +kernel
theorem d_115_13 : decode cJ7_fill_d0a16 13 = .ok (.iload_n 3, 1) := by decide +kernel
theorem d_115_14 : decode cJ7_fill_d0a16 14 = .ok (.lload_n 1, 1) := by decide +kernel
theorem d_115_15 : decode cJ7_fill_d0a16 15 = .ok (.lastore, 1) := by decide +kernel
theorem d_115_16 : decode cJ7_fill_d0a16 16 = .ok (.iinc 3 1, 3) := by decide +kernel
theorem d_115_19 : decode cJ7_fill_d0a16 19 = .ok (.goto (-13), 3) := by decide +kernel
theorem d_115_22 : decode cJ7_fill_d0a16 22 = .ok (.return_, 1) := by decide +kernel
theorem q_115_0  : zRun 115 0 L S sh mi mj mr = zRun 115 1 L (.int 0 :: S) sh mi mj mr := zr_p (zD_of zk_115 d_115_0 rfl rfl) rfl
theorem q_115_1 : zRun 115 1 [l0, l1, l2, l3, l4] (.int x :: S) sh mi mj mr = zRun 115 2 [l0, l1, zk2 l2, some (.int x), l4] S sh mi mj mr := zr_s1 (i := 3) (v := .int x) (L := [l0, l1, l2, l3, l4]) (zD_of zk_115 d_115_1 rfl rfl) rfl rfl rfl rfl
theorem q_115_2r : zRun 115 2 [some (.ref o), l1, l2, l3, l4] S sh mi mj mr = zRun 115 3 [some (.ref o), l1, l2, l3, l4] (.ref o :: S) sh mi mj mr := zr_l (zD_of zk_115 d_115_2 rfl rfl) rfl rfl rfl
theorem q_115_2n : zRun 115 2 [some (.null), l1, l2, l3, l4] S sh mi mj mr = zRun 115 3 [some (.null), l1, l2, l3, l4] (.null :: S) sh mi mj mr := zr_l (zD_of zk_115 d_115_2 rfl rfl) rfl rfl rfl
theorem q_115_3 {n : Nat} (h : zIs sh o 2 n) : zRun 115 3 L (.ref o :: S) sh mi mj mr = zRun 115 4 L (.int (Int32.ofNat n) :: S) sh mi mj mr := zr_len (zD_of zk_115 d_115_3 rfl rfl) (by decide) h
theorem q_115_4 : zRun 115 4 [l0, l1, l2, l3, l4] (.int x :: S) sh mi mj mr = zRun 115 6 [l0, l1, l2, zk2 l3, some (.int x)] S sh mi mj mr := zr_s1 (i := 4) (v := .int x) (L := [l0, l1, l2, l3, l4]) (zD_of zk_115 d_115_4 rfl rfl) rfl rfl rfl rfl
theorem q_115_6 : zRun 115 6 [l0, l1, l2, some (.int x), l4] S sh mi mj mr = zRun 115 7 [l0, l1, l2, some (.int x), l4] (.int x :: S) sh mi mj mr := zr_l (zD_of zk_115 d_115_6 rfl rfl) rfl rfl rfl
theorem q_115_7 : zRun 115 7 [l0, l1, l2, l3, some (.int x)] S sh mi mj mr = zRun 115 9 [l0, l1, l2, l3, some (.int x)] (.int x :: S) sh mi mj mr := zr_l (zD_of zk_115 d_115_7 rfl rfl) rfl rfl rfl
theorem q_115_9  : zRun 115 9 L (.int y :: .int x :: S) sh mi mj mr = if y ≤ x then zRun 115 22 L S sh mi mj mr else zRun 115 12 L S sh mi mj mr := zr_if (off := 13) (P := y ≤ x) (zD_of zk_115 d_115_9 rfl rfl) rfl rfl (by decide)
theorem q_115_12r : zRun 115 12 [some (.ref o), l1, l2, l3, l4] S sh mi mj mr = zRun 115 13 [some (.ref o), l1, l2, l3, l4] (.ref o :: S) sh mi mj mr := zr_l (zD_of zk_115 d_115_12 rfl rfl) rfl rfl rfl
theorem q_115_12n : zRun 115 12 [some (.null), l1, l2, l3, l4] S sh mi mj mr = zRun 115 13 [some (.null), l1, l2, l3, l4] (.null :: S) sh mi mj mr := zr_l (zD_of zk_115 d_115_12 rfl rfl) rfl rfl rfl
theorem q_115_13 : zRun 115 13 [l0, l1, l2, some (.int x), l4] S sh mi mj mr = zRun 115 14 [l0, l1, l2, some (.int x), l4] (.int x :: S) sh mi mj mr := zr_l (zD_of zk_115 d_115_13 rfl rfl) rfl rfl rfl
theorem q_115_14 : zRun 115 14 [l0, some (.long u), l2, l3, l4] S sh mi mj mr = zRun 115 15 [l0, some (.long u), l2, l3, l4] (.long u :: S) sh mi mj mr := zr_l (zD_of zk_115 d_115_14 rfl rfl) rfl rfl rfl
theorem q_115_15 (h : zAt sh o 2 x) : zRun 115 15 L (.long u :: .int x :: .ref o :: S) sh mi mj mr = zRun 115 16 L S sh mi (zup mj o x.toNatClampNeg u) mr := zr_last (zD_of zk_115 d_115_15 rfl rfl) h
theorem q_115_16  : zRun 115 16 [l0, l1, l2, some (.int x), l4] S sh mi mj mr = zRun 115 19 [l0, l1, zk2 l2, some (.int (x + 1)), l4] S sh mi mj mr := zr_s1 (i := 3) (v := .int (x + 1)) (L := [l0, l1, l2, some (.int x), l4]) (zD_of zk_115 d_115_16 rfl rfl) rfl rfl rfl rfl
theorem q_115_19  : zRun 115 19 L S sh mi mj mr = zRun 115 6 L S sh mi mj mr := zr_go (off := (-13)) (zD_of zk_115 d_115_19 rfl rfl) rfl rfl (by decide)
theorem q_115_22  : zRun 115 22 L [] sh mi mj mr = some (none, sh, mi, mj, mr) := zr_ret (zD_of zk_115 d_115_22 rfl rfl) rfl rfl rfl rfl rfl rfl
theorem e_115 {u0 : Int64} {o0 : Nat} : zCall 115 [.ref o0, .long u0] sh mi mj mr = zRun 115 0 [some (.ref o0), some (.long u0), none, none, none] [] sh mi mj mr := rfl
theorem d_116_0 : decode cL_up 0 = .ok (.iload_n 0, 1) := by decide +kernel
theorem d_116_1 : decode cL_up 1 = .ok (.ldc 8, 2) := by decide +kernel
theorem d_116_3 : decode cL_up 3 = .ok (.iand, 1) := by decide +kernel
theorem d_116_4 : decode cL_up 4 = .ok (.iload_n 1, 1) := by decide +kernel
theorem d_116_5 : decode cL_up 5 = .ok (.irem, 1) := by decide +kernel
theorem d_116_6 : decode cL_up 6 = .ok (.ireturn, 1) := by decide +kernel
theorem q_116_0 : zRun 116 0 [some (.int x), l1] S sh mi mj mr = zRun 116 1 [some (.int x), l1] (.int x :: S) sh mi mj mr := zr_l (zD_of zk_116 d_116_0 rfl rfl) rfl rfl rfl
theorem q_116_1  : zRun 116 1 L S sh mi mj mr = zRun 116 3 L (.int 2147483647 :: S) sh mi mj mr := zr_k32 (zD_of zk_116 d_116_1 rfl rfl) (by first | exact Or.inl rfl | exact Or.inr rfl) rfl
theorem q_116_3  : zRun 116 3 L (.int y :: .int x :: S) sh mi mj mr = zRun 116 4 L (.int (x &&& y) :: S) sh mi mj mr := zr_p (zD_of zk_116 d_116_3 rfl rfl) rfl
theorem q_116_4 : zRun 116 4 [l0, some (.int x)] S sh mi mj mr = zRun 116 5 [l0, some (.int x)] (.int x :: S) sh mi mj mr := zr_l (zD_of zk_116 d_116_4 rfl rfl) rfl rfl rfl
theorem q_116_5 (h : ¬ y = 0) : zRun 116 5 L (.int y :: .int x :: S) sh mi mj mr = zRun 116 6 L (.int (x - (x / y) * y) :: S) sh mi mj mr := zr_p (zD_of zk_116 d_116_5 rfl rfl) (if_neg h)
theorem q_116_6  : zRun 116 6 L ([.int x]) sh mi mj mr = some (some (.int x), sh, mi, mj, mr) := zr_ret (zD_of zk_116 d_116_6 rfl rfl) rfl rfl rfl rfl rfl (if_pos rfl)
theorem e_116 {x0 x1 : Int32} : zCall 116 [.int x0, .int x1] sh mi mj mr = zRun 116 0 [some (.int x0), some (.int x1)] [] sh mi mj mr := rfl
theorem d_117_0 : decode cL_text 0 = .ok (.iconst 0, 1) := by decide +kernel
theorem d_117_1 : decode cL_text 1 = .ok (.istore_n 3, 1) := by decide +kernel
theorem d_117_2 : decode cL_text 2 = .ok (.iconst 0, 1) := by decide +kernel
theorem d_117_3 : decode cL_text 3 = .ok (.istore 4, 2) := by decide +kernel
theorem d_117_5 : decode cL_text 5 = .ok (.iload 4, 2) := by decide +kernel
theorem d_117_7 : decode cL_text 7 = .ok (.iconst 2, 1) := by decide +kernel
theorem d_117_8 : decode cL_text 8 = .ok (.if_icmp .ge 404, 3) := by decide +kernel
theorem d_117_11 : decode cL_text 11 = .ok (.iload 4, 2) := by decide +kernel
theorem d_117_13 : decode cL_text 13 = .ok (.iconst 1, 1) := by decide +kernel
theorem d_117_14 : decode cL_text 14 = .ok (.if_icmp .ne 54, 3) := by decide +kernel
theorem d_117_17 : decode cL_text 17 = .ok (.aload_n 0, 1) := by decide +kernel
theorem d_117_18 : decode cL_text 18 = .ok (.iload_n 1, 1) := by decide +kernel
theorem d_117_19 : decode cL_text 19 = .ok (.bipush 6, 2) := by decide +kernel
theorem d_117_21 : decode cL_text 21 = .ok (.invokestatic 22, 3) := by decide +kernel
theorem d_117_24 : decode cL_text 24 = .ok (.ifCond .ne 8, 3) := by decide +kernel
theorem d_117_27 : decode cL_text 27 = .ok (.bipush 47, 2) := by decide +kernel
theorem d_117_29 : decode cL_text 29 = .ok (.goto 35, 3) := by decide +kernel
theorem d_117_32 : decode cL_text 32 = .ok (.iload_n 1, 1) := by decide +kernel
theorem d_117_33 : decode cL_text 33 = .ok (.bipush 6, 2) := by decide +kernel
theorem d_117_35 : decode cL_text 35 = .ok (.invokestatic 22, 3) := by decide +kernel
theorem d_117_38 : decode cL_text 38 = .ok (.iconst 1, 1) := by decide +kernel
theorem d_117_39 : decode cL_text 39 = .ok (.if_icmp .ne 8, 3) := by decide +kernel
theorem d_117_42 : decode cL_text 42 = .ok (.bipush 43, 2) := by decide +kernel
theorem d_117_44 : decode cL_text 44 = .ok (.goto 20, 3) := by decide +kernel
theorem d_117_47 : decode cL_text 47 = .ok (.iload_n 1, 1) := by decide +kernel
theorem d_117_48 : decode cL_text 48 = .ok (.bipush 6, 2) := by decide +kernel
theorem d_117_50 : decode cL_text 50 = .ok (.invokestatic 22, 3) := by decide +kernel
theorem d_117_53 : decode cL_text 53 = .ok (.iconst 2, 1) := by decide +kernel
theorem d_117_54 : decode cL_text 54 = .ok (.if_icmp .ne 8, 3) := by decide +kernel
theorem d_117_57 : decode cL_text 57 = .ok (.bipush 45, 2) := by decide +kernel
theorem d_117_59 : decode cL_text 59 = .ok (.goto 5, 3) := by decide +kernel
theorem d_117_62 : decode cL_text 62 = .ok (.bipush 42, 2) := by decide +kernel
theorem d_117_64 : decode cL_text 64 = .ok (.invokevirtual 72, 3) := by decide +kernel
theorem d_117_67 : decode cL_text 67 = .ok (.pop, 1) := by decide +kernel
theorem d_117_68 : decode cL_text 68 = .ok (.iload 4, 2) := by decide +kernel
theorem d_117_70 : decode cL_text 70 = .ok (.ifCond .ne 9, 3) := by decide +kernel
theorem d_117_73 : decode cL_text 73 = .ok (.iload_n 1, 1) := by decide +kernel
theorem d_117_74 : decode cL_text 74 = .ok (.iconst 3, 1) := by decide +kernel
theorem d_117_75 : decode cL_text 75 = .ok (.ishr, 1) := by decide +kernel
theorem d_117_76 : decode cL_text 76 = .ok (.goto 4, 3) := by decide +kernel
theorem d_117_79 : decode cL_text 79 = .ok (.iload_n 2, 1) := by decide +kernel
theorem d_117_80 : decode cL_text 80 = .ok (.istore 5, 2) := by decide +kernel
theorem d_117_82 : decode cL_text 82 = .ok (.iload 5, 2) := by decide +kernel
theorem d_117_84 : decode cL_text 84 = .ok (.bipush 6, 2) := by decide +kernel
theorem d_117_86 : decode cL_text 86 = .ok (.invokestatic 22, 3) := by decide +kernel
theorem d_117_89 : decode cL_text 89 = .ok (.istore 6, 2) := by decide +kernel
theorem d_117_91 : decode cL_text 91 = .ok (.iload 6, 2) := by decide +kernel
theorem d_117_93 : decode cL_text 93 = .ok (.ifCond .ne 10, 3) := by decide +kernel
theorem d_117_96 : decode cL_text 96 = .ok (.aload_n 0, 1) := by decide +kernel
theorem d_117_97 : decode cL_text 97 = .ok (.bipush 65, 2) := by decide +kernel
theorem d_117_99 : decode cL_text 99 = .ok (.invokevirtual 72, 3) := by decide +kernel
theorem d_117_102 : decode cL_text 102 = .ok (.pop, 1) := by decide +kernel
theorem d_117_103 : decode cL_text 103 = .ok (.iload 6, 2) := by decide +kernel
theorem d_117_105 : decode cL_text 105 = .ok (.iconst 1, 1) := by decide +kernel
theorem d_117_106 : decode cL_text 106 = .ok (.if_icmp .ne 10, 3) := by decide +kernel
theorem d_117_109 : decode cL_text 109 = .ok (.aload_n 0, 1) := by decide +kernel
theorem d_117_110 : decode cL_text 110 = .ok (.bipush 82, 2) := by decide +kernel
theorem d_117_112 : decode cL_text 112 = .ok (.invokevirtual 72, 3) := by decide +kernel
theorem d_117_115 : decode cL_text 115 = .ok (.pop, 1) := by decide +kernel
theorem d_117_116 : decode cL_text 116 = .ok (.aload_n 0, 1) := by decide +kernel
theorem d_117_117 : decode cL_text 117 = .ok (.bipush 40, 2) := by decide +kernel
theorem d_117_119 : decode cL_text 119 = .ok (.invokevirtual 72, 3) := by decide +kernel
theorem d_117_122 : decode cL_text 122 = .ok (.pop, 1) := by decide +kernel
theorem d_117_123 : decode cL_text 123 = .ok (.iload 5, 2) := by decide +kernel
theorem d_117_125 : decode cL_text 125 = .ok (.iconst 3, 1) := by decide +kernel
theorem d_117_126 : decode cL_text 126 = .ok (.ishr, 1) := by decide +kernel
theorem d_117_127 : decode cL_text 127 = .ok (.iconst 4, 1) := by decide +kernel
theorem d_117_128 : decode cL_text 128 = .ok (.invokestatic 22, 3) := by decide +kernel
theorem d_117_131 : decode cL_text 131 = .ok (.ifCond .ne 7, 3) := by decide +kernel
theorem d_117_134 : decode cL_text 134 = .ok (.iconst 1, 1) := by decide +kernel
theorem d_117_135 : decode cL_text 135 = .ok (.goto 4, 3) := by decide +kernel
theorem d_117_138 : decode cL_text 138 = .ok (.iconst 0, 1) := by decide +kernel
theorem d_117_139 : decode cL_text 139 = .ok (.istore 7, 2) := by decide +kernel
theorem d_117_141 : decode cL_text 141 = .ok (.iload 7, 2) := by decide +kernel
theorem d_117_143 : decode cL_text 143 = .ok (.ifCond .eq 10, 3) := by decide +kernel
theorem d_117_146 : decode cL_text 146 = .ok (.aload_n 0, 1) := by decide +kernel
theorem d_117_147 : decode cL_text 147 = .ok (.bipush 45, 2) := by decide +kernel
theorem d_117_149 : decode cL_text 149 = .ok (.invokevirtual 72, 3) := by decide +kernel
theorem d_117_152 : decode cL_text 152 = .ok (.pop, 1) := by decide +kernel
theorem d_117_153 : decode cL_text 153 = .ok (.iload_n 3, 1) := by decide +kernel
theorem d_117_154 : decode cL_text 154 = .ok (.iload 7, 2) := by decide +kernel
theorem d_117_156 : decode cL_text 156 = .ok (.ifCond .eq 7, 3) := by decide +kernel
theorem d_117_159 : decode cL_text 159 = .ok (.iconst 1, 1) := by decide +kernel
theorem d_117_160 : decode cL_text 160 = .ok (.goto 4, 3) := by decide +kernel
theorem d_117_163 : decode cL_text 163 = .ok (.iconst 0, 1) := by decide +kernel
theorem d_117_164 : decode cL_text 164 = .ok (.iadd, 1) := by decide +kernel
theorem d_117_165 : decode cL_text 165 = .ok (.istore_n 3, 1) := by decide +kernel
theorem d_117_166 : decode cL_text 166 = .ok (.iconst 0, 1) := by decide +kernel
theorem d_117_167 : decode cL_text 167 = .ok (.istore 8, 2) := by decide +kernel
theorem d_117_169 : decode cL_text 169 = .ok (.iload 8, 2) := by decide +kernel
theorem d_117_171 : decode cL_text 171 = .ok (.iconst 3, 1) := by decide +kernel
theorem d_117_172 : decode cL_text 172 = .ok (.if_icmp .ge 213, 3) := by decide +kernel
theorem d_117_175 : decode cL_text 175 = .ok (.iload 8, 2) := by decide +kernel
theorem d_117_177 : decode cL_text 177 = .ok (.ifCond .le 49, 3) := by decide +kernel
theorem d_117_180 : decode cL_text 180 = .ok (.aload_n 0, 1) := by decide +kernel
theorem d_117_181 : decode cL_text 181 = .ok (.iload 5, 2) := by decide +kernel
theorem d_117_183 : decode cL_text 183 = .ok (.iconst 5, 1) := by decide +kernel
theorem d_117_184 : decode cL_text 184 = .ok (.iload 8, 2) := by decide +kernel
theorem d_117_186 : decode cL_text 186 = .ok (.iadd, 1) := by decide +kernel
theorem d_117_187 : decode cL_text 187 = .ok (.ishr, 1) := by decide +kernel
theorem d_117_188 : decode cL_text 188 = .ok (.iconst 3, 1) := by decide +kernel
theorem d_117_189 : decode cL_text 189 = .ok (.invokestatic 22, 3) := by decide +kernel
theorem d_117_192 : decode cL_text 192 = .ok (.ifCond .ne 8, 3) := by decide +kernel
theorem d_117_195 : decode cL_text 195 = .ok (.bipush 42, 2) := by decide +kernel
theorem d_117_197 : decode cL_text 197 = .ok (.goto 25, 3) := by decide +kernel
theorem d_117_200 : decode cL_text 200 = .ok (.iload 5, 2) := by decide +kernel
theorem d_117_202 : decode cL_text 202 = .ok (.iconst 5, 1) := by decide +kernel
theorem d_117_203 : decode cL_text 203 = .ok (.iload 8, 2) := by decide +kernel
theorem d_117_205 : decode cL_text 205 = .ok (.iadd, 1) := by decide +kernel
theorem d_117_206 : decode cL_text 206 = .ok (.ishr, 1) := by decide +kernel
theorem d_117_207 : decode cL_text 207 = .ok (.iconst 3, 1) := by decide +kernel
theorem d_117_208 : decode cL_text 208 = .ok (.invokestatic 22, 3) := by decide +kernel
theorem d_117_211 : decode cL_text 211 = .ok (.iconst 1, 1) := by decide +kernel
theorem d_117_212 : decode cL_text 212 = .ok (.if_icmp .ne 8, 3) := by decide +kernel
theorem d_117_215 : decode cL_text 215 = .ok (.bipush 43, 2) := by decide +kernel
theorem d_117_217 : decode cL_text 217 = .ok (.goto 5, 3) := by decide +kernel
theorem d_117_220 : decode cL_text 220 = .ok (.bipush 45, 2) := by decide +kernel
theorem d_117_222 : decode cL_text 222 = .ok (.invokevirtual 72, 3) := by decide +kernel
theorem d_117_225 : decode cL_text 225 = .ok (.pop, 1) := by decide +kernel
theorem d_117_226 : decode cL_text 226 = .ok (.iload_n 3, 1) := by decide +kernel
theorem d_117_227 : decode cL_text 227 = .ok (.iload 8, 2) := by decide +kernel
theorem d_117_229 : decode cL_text 229 = .ok (.ifCond .le 7, 3) := by decide +kernel
theorem d_117_232 : decode cL_text 232 = .ok (.iconst 1, 1) := by decide +kernel
theorem d_117_233 : decode cL_text 233 = .ok (.goto 4, 3) := by decide +kernel
theorem d_117_236 : decode cL_text 236 = .ok (.iconst 0, 1) := by decide +kernel
theorem d_117_237 : decode cL_text 237 = .ok (.iadd, 1) := by decide +kernel
theorem d_117_238 : decode cL_text 238 = .ok (.istore_n 3, 1) := by decide +kernel
theorem d_117_239 : decode cL_text 239 = .ok (.iload 5, 2) := by decide +kernel
theorem d_117_241 : decode cL_text 241 = .ok (.bipush 8, 2) := by decide +kernel
theorem d_117_243 : decode cL_text 243 = .ok (.iconst 3, 1) := by decide +kernel
theorem d_117_244 : decode cL_text 244 = .ok (.iload 8, 2) := by decide +kernel
theorem d_117_246 : decode cL_text 246 = .ok (.imul, 1) := by decide +kernel
theorem d_117_247 : decode cL_text 247 = .ok (.iadd, 1) := by decide +kernel
theorem d_117_248 : decode cL_text 248 = .ok (.ishr, 1) := by decide +kernel
theorem d_117_249 : decode cL_text 249 = .ok (.bipush 6, 2) := by decide +kernel
theorem d_117_251 : decode cL_text 251 = .ok (.invokestatic 22, 3) := by decide +kernel
theorem d_117_254 : decode cL_text 254 = .ok (.istore 9, 2) := by decide +kernel
theorem d_117_256 : decode cL_text 256 = .ok (.iload 9, 2) := by decide +kernel
theorem d_117_258 : decode cL_text 258 = .ok (.iconst 4, 1) := by decide +kernel
theorem d_117_259 : decode cL_text 259 = .ok (.if_icmp .ge 16, 3) := by decide +kernel
theorem d_117_262 : decode cL_text 262 = .ok (.aload_n 0, 1) := by decide +kernel
theorem d_117_263 : decode cL_text 263 = .ok (.bipush 97, 2) := by decide +kernel
theorem d_117_265 : decode cL_text 265 = .ok (.iload 9, 2) := by decide +kernel
theorem d_117_267 : decode cL_text 267 = .ok (.iadd, 1) := by decide +kernel
theorem d_117_268 : decode cL_text 268 = .ok (.invokevirtual 72, 3) := by decide +kernel
theorem d_117_271 : decode cL_text 271 = .ok (.pop, 1) := by decide +kernel
theorem d_117_272 : decode cL_text 272 = .ok (.goto 21, 3) := by decide +kernel
theorem d_117_275 : decode cL_text 275 = .ok (.aload_n 0, 1) := by decide +kernel
theorem d_117_276 : decode cL_text 276 = .ok (.iload 9, 2) := by decide +kernel
theorem d_117_278 : decode cL_text 278 = .ok (.iconst 4, 1) := by decide +kernel
theorem d_117_279 : decode cL_text 279 = .ok (.if_icmp .ne 8, 3) := by decide +kernel
theorem d_117_282 : decode cL_text 282 = .ok (.bipush 51, 2) := by decide +kernel
theorem d_117_284 : decode cL_text 284 = .ok (.goto 5, 3) := by decide +kernel
theorem d_117_287 : decode cL_text 287 = .ok (.bipush 48, 2) := by decide +kernel
theorem d_117_289 : decode cL_text 289 = .ok (.invokevirtual 72, 3) := by decide +kernel
theorem d_117_292 : decode cL_text 292 = .ok (.pop, 1) := by decide +kernel
theorem d_117_293 : decode cL_text 293 = .ok (.iinc 3 1, 3) := by decide +kernel
theorem d_117_296 : decode cL_text 296 = .ok (.iload 5, 2) := by decide +kernel
theorem d_117_298 : decode cL_text 298 = .ok (.bipush 17, 2) := by decide +kernel
theorem d_117_300 : decode cL_text 300 = .ok (.iconst 2, 1) := by decide +kernel
theorem d_117_301 : decode cL_text 301 = .ok (.iload 8, 2) := by decide +kernel
theorem d_117_303 : decode cL_text 303 = .ok (.imul, 1) := by decide +kernel
theorem d_117_304 : decode cL_text 304 = .ok (.iadd, 1) := by decide +kernel
theorem d_117_305 : decode cL_text 305 = .ok (.ishr, 1) := by decide +kernel
theorem d_117_306 : decode cL_text 306 = .ok (.iconst 4, 1) := by decide +kernel
theorem d_117_307 : decode cL_text 307 = .ok (.invokestatic 22, 3) := by decide +kernel
theorem d_117_310 : decode cL_text 310 = .ok (.istore 10, 2) := by decide +kernel
theorem d_117_312 : decode cL_text 312 = .ok (.iload 10, 2) := by decide +kernel
theorem d_117_314 : decode cL_text 314 = .ok (.iconst 2, 1) := by decide +kernel
theorem d_117_315 : decode cL_text 315 = .ok (.if_icmp .ne 64, 3) := by decide +kernel
theorem d_117_318 : decode cL_text 318 = .ok (.aload_n 0, 1) := by decide +kernel
theorem d_117_319 : decode cL_text 319 = .ok (.bipush 94, 2) := by decide +kernel
theorem d_117_321 : decode cL_text 321 = .ok (.invokevirtual 72, 3) := by decide +kernel
theorem d_117_324 : decode cL_text 324 = .ok (.pop, 1) := by decide +kernel
theorem d_117_325 : decode cL_text 325 = .ok (.aload_n 0, 1) := by decide +kernel
theorem d_117_326 : decode cL_text 326 = .ok (.bipush 50, 2) := by decide +kernel
theorem d_117_328 : decode cL_text 328 = .ok (.iload 5, 2) := by decide +kernel
theorem d_117_330 : decode cL_text 330 = .ok (.bipush 9, 2) := by decide +kernel
theorem d_117_332 : decode cL_text 332 = .ok (.ishr, 1) := by decide +kernel
theorem d_117_333 : decode cL_text 333 = .ok (.iconst 3, 1) := by decide +kernel
theorem d_117_334 : decode cL_text 334 = .ok (.invokestatic 22, 3) := by decide +kernel
theorem d_117_337 : decode cL_text 337 = .ok (.iadd, 1) := by decide +kernel
theorem d_117_338 : decode cL_text 338 = .ok (.invokevirtual 72, 3) := by decide +kernel
theorem d_117_341 : decode cL_text 341 = .ok (.pop, 1) := by decide +kernel
theorem d_117_342 : decode cL_text 342 = .ok (.iload_n 3, 1) := by decide +kernel
theorem d_117_343 : decode cL_text 343 = .ok (.iload 5, 2) := by decide +kernel
theorem d_117_345 : decode cL_text 345 = .ok (.bipush 9, 2) := by decide +kernel
theorem d_117_347 : decode cL_text 347 = .ok (.ishr, 1) := by decide +kernel
theorem d_117_348 : decode cL_text 348 = .ok (.iconst 3, 1) := by decide +kernel
theorem d_117_349 : decode cL_text 349 = .ok (.invokestatic 22, 3) := by decide +kernel
theorem d_117_352 : decode cL_text 352 = .ok (.ifCond .ne 7, 3) := by decide +kernel
theorem d_117_355 : decode cL_text 355 = .ok (.iconst 1, 1) := by decide +kernel
theorem d_117_356 : decode cL_text 356 = .ok (.goto 21, 3) := by decide +kernel
theorem d_117_359 : decode cL_text 359 = .ok (.iload 5, 2) := by decide +kernel
theorem d_117_361 : decode cL_text 361 = .ok (.bipush 9, 2) := by decide +kernel
theorem d_117_363 : decode cL_text 363 = .ok (.ishr, 1) := by decide +kernel
theorem d_117_364 : decode cL_text 364 = .ok (.iconst 3, 1) := by decide +kernel
theorem d_117_365 : decode cL_text 365 = .ok (.invokestatic 22, 3) := by decide +kernel
theorem d_117_368 : decode cL_text 368 = .ok (.iconst 1, 1) := by decide +kernel
theorem d_117_369 : decode cL_text 369 = .ok (.if_icmp .ne 7, 3) := by decide +kernel
theorem d_117_372 : decode cL_text 372 = .ok (.iconst 3, 1) := by decide +kernel
theorem d_117_373 : decode cL_text 373 = .ok (.goto 4, 3) := by decide +kernel
theorem d_117_376 : decode cL_text 376 = .ok (.iconst 2, 1) := by decide +kernel
theorem d_117_377 : decode cL_text 377 = .ok (.iadd, 1) := by decide +kernel
theorem d_117_378 : decode cL_text 378 = .ok (.istore_n 3, 1) := by decide +kernel
theorem d_117_379 : decode cL_text 379 = .ok (.iinc 8 1, 3) := by decide +kernel
theorem d_117_382 : decode cL_text 382 = .ok (.goto (-213), 3) := by decide +kernel
theorem d_117_385 : decode cL_text 385 = .ok (.aload_n 0, 1) := by decide +kernel
theorem d_117_386 : decode cL_text 386 = .ok (.bipush 41, 2) := by decide +kernel
theorem d_117_388 : decode cL_text 388 = .ok (.invokevirtual 72, 3) := by decide +kernel
theorem d_117_391 : decode cL_text 391 = .ok (.pop, 1) := by decide +kernel
theorem d_117_392 : decode cL_text 392 = .ok (.iload_n 3, 1) := by decide +kernel
theorem d_117_393 : decode cL_text 393 = .ok (.iload 6, 2) := by decide +kernel
theorem d_117_395 : decode cL_text 395 = .ok (.iconst 2, 1) := by decide +kernel
theorem d_117_396 : decode cL_text 396 = .ok (.if_icmp .ge 7, 3) := by decide +kernel
theorem d_117_399 : decode cL_text 399 = .ok (.iconst 1, 1) := by decide +kernel
theorem d_117_400 : decode cL_text 400 = .ok (.goto 4, 3) := by decide +kernel
theorem d_117_403 : decode cL_text 403 = .ok (.iconst 0, 1) := by decide +kernel
theorem d_117_404 : decode cL_text 404 = .ok (.iadd, 1) := by decide +kernel
theorem d_117_405 : decode cL_text 405 = .ok (.istore_n 3, 1) := by decide +kernel
theorem d_117_406 : decode cL_text 406 = .ok (.iinc 4 1, 3) := by decide +kernel
theorem d_117_409 : decode cL_text 409 = .ok (.goto (-404), 3) := by decide +kernel
theorem d_117_412 : decode cL_text 412 = .ok (.iload_n 3, 1) := by decide +kernel
theorem d_117_413 : decode cL_text 413 = .ok (.iconst 1, 1) := by decide +kernel
theorem d_117_414 : decode cL_text 414 = .ok (.iadd, 1) := by decide +kernel
theorem d_117_415 : decode cL_text 415 = .ok (.ireturn, 1) := by decide +kernel
theorem q_117_0  : zRun 117 0 L S sh mi mj mr = zRun 117 1 L (.int 0 :: S) sh mi mj mr := zr_p (zD_of zk_117 d_117_0 rfl rfl) rfl
theorem q_117_1 : zRun 117 1 [l0, l1, l2, l3, l4, l5, l6, l7, l8, l9, l10] (.int x :: S) sh mi mj mr = zRun 117 2 [l0, l1, zk2 l2, some (.int x), l4, l5, l6, l7, l8, l9, l10] S sh mi mj mr := zr_s1 (i := 3) (v := .int x) (L := [l0, l1, l2, l3, l4, l5, l6, l7, l8, l9, l10]) (zD_of zk_117 d_117_1 rfl rfl) rfl rfl rfl rfl
theorem q_117_2  : zRun 117 2 L S sh mi mj mr = zRun 117 3 L (.int 0 :: S) sh mi mj mr := zr_p (zD_of zk_117 d_117_2 rfl rfl) rfl
theorem q_117_3 : zRun 117 3 [l0, l1, l2, l3, l4, l5, l6, l7, l8, l9, l10] (.int x :: S) sh mi mj mr = zRun 117 5 [l0, l1, l2, zk2 l3, some (.int x), l5, l6, l7, l8, l9, l10] S sh mi mj mr := zr_s1 (i := 4) (v := .int x) (L := [l0, l1, l2, l3, l4, l5, l6, l7, l8, l9, l10]) (zD_of zk_117 d_117_3 rfl rfl) rfl rfl rfl rfl
theorem q_117_5 : zRun 117 5 [l0, l1, l2, l3, some (.int x), l5, l6, l7, l8, l9, l10] S sh mi mj mr = zRun 117 7 [l0, l1, l2, l3, some (.int x), l5, l6, l7, l8, l9, l10] (.int x :: S) sh mi mj mr := zr_l (zD_of zk_117 d_117_5 rfl rfl) rfl rfl rfl
theorem q_117_7  : zRun 117 7 L S sh mi mj mr = zRun 117 8 L (.int 2 :: S) sh mi mj mr := zr_p (zD_of zk_117 d_117_7 rfl rfl) rfl
theorem q_117_8  : zRun 117 8 L (.int y :: .int x :: S) sh mi mj mr = if y ≤ x then zRun 117 412 L S sh mi mj mr else zRun 117 11 L S sh mi mj mr := zr_if (off := 404) (P := y ≤ x) (zD_of zk_117 d_117_8 rfl rfl) rfl rfl (by decide)
theorem q_117_11 : zRun 117 11 [l0, l1, l2, l3, some (.int x), l5, l6, l7, l8, l9, l10] S sh mi mj mr = zRun 117 13 [l0, l1, l2, l3, some (.int x), l5, l6, l7, l8, l9, l10] (.int x :: S) sh mi mj mr := zr_l (zD_of zk_117 d_117_11 rfl rfl) rfl rfl rfl
theorem q_117_13  : zRun 117 13 L S sh mi mj mr = zRun 117 14 L (.int 1 :: S) sh mi mj mr := zr_p (zD_of zk_117 d_117_13 rfl rfl) rfl
theorem q_117_14  : zRun 117 14 L (.int y :: .int x :: S) sh mi mj mr = if ¬ x = y then zRun 117 68 L S sh mi mj mr else zRun 117 17 L S sh mi mj mr := zr_if (off := 54) (P := ¬ x = y) (zD_of zk_117 d_117_14 rfl rfl) rfl rfl (by decide)
theorem q_117_17r : zRun 117 17 [some (.ref o), l1, l2, l3, l4, l5, l6, l7, l8, l9, l10] S sh mi mj mr = zRun 117 18 [some (.ref o), l1, l2, l3, l4, l5, l6, l7, l8, l9, l10] (.ref o :: S) sh mi mj mr := zr_l (zD_of zk_117 d_117_17 rfl rfl) rfl rfl rfl
theorem q_117_17n : zRun 117 17 [some (.null), l1, l2, l3, l4, l5, l6, l7, l8, l9, l10] S sh mi mj mr = zRun 117 18 [some (.null), l1, l2, l3, l4, l5, l6, l7, l8, l9, l10] (.null :: S) sh mi mj mr := zr_l (zD_of zk_117 d_117_17 rfl rfl) rfl rfl rfl
theorem q_117_18 : zRun 117 18 [l0, some (.int x), l2, l3, l4, l5, l6, l7, l8, l9, l10] S sh mi mj mr = zRun 117 19 [l0, some (.int x), l2, l3, l4, l5, l6, l7, l8, l9, l10] (.int x :: S) sh mi mj mr := zr_l (zD_of zk_117 d_117_18 rfl rfl) rfl rfl rfl
theorem q_117_19  : zRun 117 19 L S sh mi mj mr = zRun 117 21 L (.int 6 :: S) sh mi mj mr := zr_p (zD_of zk_117 d_117_19 rfl rfl) rfl
theorem q_117_21  {x0 x1 : Int32} (hS : zcat S ≤ 8) : zRun 117 21 L (.int x1 :: .int x0 :: S) sh mi mj mr = (zCall 116 [.int x0, .int x1] sh mi mj mr).bind fun r => zRun 117 24 L (r.1.toList ++ S) r.2.1 r.2.2.1 r.2.2.2.1 r.2.2.2.2 := zr_S (zD_of zk_117 d_117_21 rfl rfl) rfl zk_116 rfl rfl rfl hS
theorem q_117_24  : zRun 117 24 L (.int x :: S) sh mi mj mr = if ¬ x = 0 then zRun 117 32 L S sh mi mj mr else zRun 117 27 L S sh mi mj mr := zr_if (off := 8) (P := ¬ x = 0) (zD_of zk_117 d_117_24 rfl rfl) rfl rfl (by decide)
theorem q_117_27  : zRun 117 27 L S sh mi mj mr = zRun 117 29 L (.int 47 :: S) sh mi mj mr := zr_p (zD_of zk_117 d_117_27 rfl rfl) rfl
theorem q_117_29  : zRun 117 29 L S sh mi mj mr = zRun 117 64 L S sh mi mj mr := zr_go (off := 35) (zD_of zk_117 d_117_29 rfl rfl) rfl rfl (by decide)
theorem q_117_32 : zRun 117 32 [l0, some (.int x), l2, l3, l4, l5, l6, l7, l8, l9, l10] S sh mi mj mr = zRun 117 33 [l0, some (.int x), l2, l3, l4, l5, l6, l7, l8, l9, l10] (.int x :: S) sh mi mj mr := zr_l (zD_of zk_117 d_117_32 rfl rfl) rfl rfl rfl
theorem q_117_33  : zRun 117 33 L S sh mi mj mr = zRun 117 35 L (.int 6 :: S) sh mi mj mr := zr_p (zD_of zk_117 d_117_33 rfl rfl) rfl
theorem q_117_35  {x0 x1 : Int32} (hS : zcat S ≤ 8) : zRun 117 35 L (.int x1 :: .int x0 :: S) sh mi mj mr = (zCall 116 [.int x0, .int x1] sh mi mj mr).bind fun r => zRun 117 38 L (r.1.toList ++ S) r.2.1 r.2.2.1 r.2.2.2.1 r.2.2.2.2 := zr_S (zD_of zk_117 d_117_35 rfl rfl) rfl zk_116 rfl rfl rfl hS
theorem q_117_38  : zRun 117 38 L S sh mi mj mr = zRun 117 39 L (.int 1 :: S) sh mi mj mr := zr_p (zD_of zk_117 d_117_38 rfl rfl) rfl
theorem q_117_39  : zRun 117 39 L (.int y :: .int x :: S) sh mi mj mr = if ¬ x = y then zRun 117 47 L S sh mi mj mr else zRun 117 42 L S sh mi mj mr := zr_if (off := 8) (P := ¬ x = y) (zD_of zk_117 d_117_39 rfl rfl) rfl rfl (by decide)
theorem q_117_42  : zRun 117 42 L S sh mi mj mr = zRun 117 44 L (.int 43 :: S) sh mi mj mr := zr_p (zD_of zk_117 d_117_42 rfl rfl) rfl
theorem q_117_44  : zRun 117 44 L S sh mi mj mr = zRun 117 64 L S sh mi mj mr := zr_go (off := 20) (zD_of zk_117 d_117_44 rfl rfl) rfl rfl (by decide)
theorem q_117_47 : zRun 117 47 [l0, some (.int x), l2, l3, l4, l5, l6, l7, l8, l9, l10] S sh mi mj mr = zRun 117 48 [l0, some (.int x), l2, l3, l4, l5, l6, l7, l8, l9, l10] (.int x :: S) sh mi mj mr := zr_l (zD_of zk_117 d_117_47 rfl rfl) rfl rfl rfl
theorem q_117_48  : zRun 117 48 L S sh mi mj mr = zRun 117 50 L (.int 6 :: S) sh mi mj mr := zr_p (zD_of zk_117 d_117_48 rfl rfl) rfl
theorem q_117_50  {x0 x1 : Int32} (hS : zcat S ≤ 8) : zRun 117 50 L (.int x1 :: .int x0 :: S) sh mi mj mr = (zCall 116 [.int x0, .int x1] sh mi mj mr).bind fun r => zRun 117 53 L (r.1.toList ++ S) r.2.1 r.2.2.1 r.2.2.2.1 r.2.2.2.2 := zr_S (zD_of zk_117 d_117_50 rfl rfl) rfl zk_116 rfl rfl rfl hS
theorem q_117_53  : zRun 117 53 L S sh mi mj mr = zRun 117 54 L (.int 2 :: S) sh mi mj mr := zr_p (zD_of zk_117 d_117_53 rfl rfl) rfl
theorem q_117_54  : zRun 117 54 L (.int y :: .int x :: S) sh mi mj mr = if ¬ x = y then zRun 117 62 L S sh mi mj mr else zRun 117 57 L S sh mi mj mr := zr_if (off := 8) (P := ¬ x = y) (zD_of zk_117 d_117_54 rfl rfl) rfl rfl (by decide)
theorem q_117_57  : zRun 117 57 L S sh mi mj mr = zRun 117 59 L (.int 45 :: S) sh mi mj mr := zr_p (zD_of zk_117 d_117_57 rfl rfl) rfl
theorem q_117_59  : zRun 117 59 L S sh mi mj mr = zRun 117 64 L S sh mi mj mr := zr_go (off := 5) (zD_of zk_117 d_117_59 rfl rfl) rfl rfl (by decide)
theorem q_117_62  : zRun 117 62 L S sh mi mj mr = zRun 117 64 L (.int 42 :: S) sh mi mj mr := zr_p (zD_of zk_117 d_117_62 rfl rfl) rfl
theorem q_117_64  {x0 : Int32} (hS : zcat S ≤ 8) (h : zIs sh o 0 7) : zRun 117 64 L (.int x0 :: .ref o :: S) sh mi mj mr = (zCall 82 [.ref o, .int x0] sh mi mj mr).bind fun r => zRun 117 67 L (r.1.toList ++ S) r.2.1 r.2.2.1 r.2.2.2.1 r.2.2.2.2 := zr_V (zD_of zk_117 d_117_64 rfl rfl) rfl zk_82 rfl rfl rfl hS h
theorem q_117_67  : zRun 117 67 L (.int x :: S) sh mi mj mr = zRun 117 68 L S sh mi mj mr := zr_p (zD_of zk_117 d_117_67 rfl rfl) rfl
theorem q_117_68 : zRun 117 68 [l0, l1, l2, l3, some (.int x), l5, l6, l7, l8, l9, l10] S sh mi mj mr = zRun 117 70 [l0, l1, l2, l3, some (.int x), l5, l6, l7, l8, l9, l10] (.int x :: S) sh mi mj mr := zr_l (zD_of zk_117 d_117_68 rfl rfl) rfl rfl rfl
theorem q_117_70  : zRun 117 70 L (.int x :: S) sh mi mj mr = if ¬ x = 0 then zRun 117 79 L S sh mi mj mr else zRun 117 73 L S sh mi mj mr := zr_if (off := 9) (P := ¬ x = 0) (zD_of zk_117 d_117_70 rfl rfl) rfl rfl (by decide)
theorem q_117_73 : zRun 117 73 [l0, some (.int x), l2, l3, l4, l5, l6, l7, l8, l9, l10] S sh mi mj mr = zRun 117 74 [l0, some (.int x), l2, l3, l4, l5, l6, l7, l8, l9, l10] (.int x :: S) sh mi mj mr := zr_l (zD_of zk_117 d_117_73 rfl rfl) rfl rfl rfl
theorem q_117_74  : zRun 117 74 L S sh mi mj mr = zRun 117 75 L (.int 3 :: S) sh mi mj mr := zr_p (zD_of zk_117 d_117_74 rfl rfl) rfl
theorem q_117_75  : zRun 117 75 L (.int y :: .int x :: S) sh mi mj mr = zRun 117 76 L (.int (x >>> (y &&& 31)) :: S) sh mi mj mr := zr_p (zD_of zk_117 d_117_75 rfl rfl) rfl
theorem q_117_76  : zRun 117 76 L S sh mi mj mr = zRun 117 80 L S sh mi mj mr := zr_go (off := 4) (zD_of zk_117 d_117_76 rfl rfl) rfl rfl (by decide)
theorem q_117_79 : zRun 117 79 [l0, l1, some (.int x), l3, l4, l5, l6, l7, l8, l9, l10] S sh mi mj mr = zRun 117 80 [l0, l1, some (.int x), l3, l4, l5, l6, l7, l8, l9, l10] (.int x :: S) sh mi mj mr := zr_l (zD_of zk_117 d_117_79 rfl rfl) rfl rfl rfl
theorem q_117_80 : zRun 117 80 [l0, l1, l2, l3, l4, l5, l6, l7, l8, l9, l10] (.int x :: S) sh mi mj mr = zRun 117 82 [l0, l1, l2, l3, zk2 l4, some (.int x), l6, l7, l8, l9, l10] S sh mi mj mr := zr_s1 (i := 5) (v := .int x) (L := [l0, l1, l2, l3, l4, l5, l6, l7, l8, l9, l10]) (zD_of zk_117 d_117_80 rfl rfl) rfl rfl rfl rfl
theorem q_117_82 : zRun 117 82 [l0, l1, l2, l3, l4, some (.int x), l6, l7, l8, l9, l10] S sh mi mj mr = zRun 117 84 [l0, l1, l2, l3, l4, some (.int x), l6, l7, l8, l9, l10] (.int x :: S) sh mi mj mr := zr_l (zD_of zk_117 d_117_82 rfl rfl) rfl rfl rfl
theorem q_117_84  : zRun 117 84 L S sh mi mj mr = zRun 117 86 L (.int 6 :: S) sh mi mj mr := zr_p (zD_of zk_117 d_117_84 rfl rfl) rfl
theorem q_117_86  {x0 x1 : Int32} (hS : zcat S ≤ 8) : zRun 117 86 L (.int x1 :: .int x0 :: S) sh mi mj mr = (zCall 116 [.int x0, .int x1] sh mi mj mr).bind fun r => zRun 117 89 L (r.1.toList ++ S) r.2.1 r.2.2.1 r.2.2.2.1 r.2.2.2.2 := zr_S (zD_of zk_117 d_117_86 rfl rfl) rfl zk_116 rfl rfl rfl hS
theorem q_117_89 : zRun 117 89 [l0, l1, l2, l3, l4, l5, l6, l7, l8, l9, l10] (.int x :: S) sh mi mj mr = zRun 117 91 [l0, l1, l2, l3, l4, zk2 l5, some (.int x), l7, l8, l9, l10] S sh mi mj mr := zr_s1 (i := 6) (v := .int x) (L := [l0, l1, l2, l3, l4, l5, l6, l7, l8, l9, l10]) (zD_of zk_117 d_117_89 rfl rfl) rfl rfl rfl rfl
theorem q_117_91 : zRun 117 91 [l0, l1, l2, l3, l4, l5, some (.int x), l7, l8, l9, l10] S sh mi mj mr = zRun 117 93 [l0, l1, l2, l3, l4, l5, some (.int x), l7, l8, l9, l10] (.int x :: S) sh mi mj mr := zr_l (zD_of zk_117 d_117_91 rfl rfl) rfl rfl rfl
theorem q_117_93  : zRun 117 93 L (.int x :: S) sh mi mj mr = if ¬ x = 0 then zRun 117 103 L S sh mi mj mr else zRun 117 96 L S sh mi mj mr := zr_if (off := 10) (P := ¬ x = 0) (zD_of zk_117 d_117_93 rfl rfl) rfl rfl (by decide)
theorem q_117_96r : zRun 117 96 [some (.ref o), l1, l2, l3, l4, l5, l6, l7, l8, l9, l10] S sh mi mj mr = zRun 117 97 [some (.ref o), l1, l2, l3, l4, l5, l6, l7, l8, l9, l10] (.ref o :: S) sh mi mj mr := zr_l (zD_of zk_117 d_117_96 rfl rfl) rfl rfl rfl
theorem q_117_96n : zRun 117 96 [some (.null), l1, l2, l3, l4, l5, l6, l7, l8, l9, l10] S sh mi mj mr = zRun 117 97 [some (.null), l1, l2, l3, l4, l5, l6, l7, l8, l9, l10] (.null :: S) sh mi mj mr := zr_l (zD_of zk_117 d_117_96 rfl rfl) rfl rfl rfl
theorem q_117_97  : zRun 117 97 L S sh mi mj mr = zRun 117 99 L (.int 65 :: S) sh mi mj mr := zr_p (zD_of zk_117 d_117_97 rfl rfl) rfl
theorem q_117_99  {x0 : Int32} (hS : zcat S ≤ 8) (h : zIs sh o 0 7) : zRun 117 99 L (.int x0 :: .ref o :: S) sh mi mj mr = (zCall 82 [.ref o, .int x0] sh mi mj mr).bind fun r => zRun 117 102 L (r.1.toList ++ S) r.2.1 r.2.2.1 r.2.2.2.1 r.2.2.2.2 := zr_V (zD_of zk_117 d_117_99 rfl rfl) rfl zk_82 rfl rfl rfl hS h
theorem q_117_102  : zRun 117 102 L (.int x :: S) sh mi mj mr = zRun 117 103 L S sh mi mj mr := zr_p (zD_of zk_117 d_117_102 rfl rfl) rfl
theorem q_117_103 : zRun 117 103 [l0, l1, l2, l3, l4, l5, some (.int x), l7, l8, l9, l10] S sh mi mj mr = zRun 117 105 [l0, l1, l2, l3, l4, l5, some (.int x), l7, l8, l9, l10] (.int x :: S) sh mi mj mr := zr_l (zD_of zk_117 d_117_103 rfl rfl) rfl rfl rfl
theorem q_117_105  : zRun 117 105 L S sh mi mj mr = zRun 117 106 L (.int 1 :: S) sh mi mj mr := zr_p (zD_of zk_117 d_117_105 rfl rfl) rfl
theorem q_117_106  : zRun 117 106 L (.int y :: .int x :: S) sh mi mj mr = if ¬ x = y then zRun 117 116 L S sh mi mj mr else zRun 117 109 L S sh mi mj mr := zr_if (off := 10) (P := ¬ x = y) (zD_of zk_117 d_117_106 rfl rfl) rfl rfl (by decide)
theorem q_117_109r : zRun 117 109 [some (.ref o), l1, l2, l3, l4, l5, l6, l7, l8, l9, l10] S sh mi mj mr = zRun 117 110 [some (.ref o), l1, l2, l3, l4, l5, l6, l7, l8, l9, l10] (.ref o :: S) sh mi mj mr := zr_l (zD_of zk_117 d_117_109 rfl rfl) rfl rfl rfl
theorem q_117_109n : zRun 117 109 [some (.null), l1, l2, l3, l4, l5, l6, l7, l8, l9, l10] S sh mi mj mr = zRun 117 110 [some (.null), l1, l2, l3, l4, l5, l6, l7, l8, l9, l10] (.null :: S) sh mi mj mr := zr_l (zD_of zk_117 d_117_109 rfl rfl) rfl rfl rfl
theorem q_117_110  : zRun 117 110 L S sh mi mj mr = zRun 117 112 L (.int 82 :: S) sh mi mj mr := zr_p (zD_of zk_117 d_117_110 rfl rfl) rfl
theorem q_117_112  {x0 : Int32} (hS : zcat S ≤ 8) (h : zIs sh o 0 7) : zRun 117 112 L (.int x0 :: .ref o :: S) sh mi mj mr = (zCall 82 [.ref o, .int x0] sh mi mj mr).bind fun r => zRun 117 115 L (r.1.toList ++ S) r.2.1 r.2.2.1 r.2.2.2.1 r.2.2.2.2 := zr_V (zD_of zk_117 d_117_112 rfl rfl) rfl zk_82 rfl rfl rfl hS h
theorem q_117_115  : zRun 117 115 L (.int x :: S) sh mi mj mr = zRun 117 116 L S sh mi mj mr := zr_p (zD_of zk_117 d_117_115 rfl rfl) rfl
theorem q_117_116r : zRun 117 116 [some (.ref o), l1, l2, l3, l4, l5, l6, l7, l8, l9, l10] S sh mi mj mr = zRun 117 117 [some (.ref o), l1, l2, l3, l4, l5, l6, l7, l8, l9, l10] (.ref o :: S) sh mi mj mr := zr_l (zD_of zk_117 d_117_116 rfl rfl) rfl rfl rfl
theorem q_117_116n : zRun 117 116 [some (.null), l1, l2, l3, l4, l5, l6, l7, l8, l9, l10] S sh mi mj mr = zRun 117 117 [some (.null), l1, l2, l3, l4, l5, l6, l7, l8, l9, l10] (.null :: S) sh mi mj mr := zr_l (zD_of zk_117 d_117_116 rfl rfl) rfl rfl rfl
theorem q_117_117  : zRun 117 117 L S sh mi mj mr = zRun 117 119 L (.int 40 :: S) sh mi mj mr := zr_p (zD_of zk_117 d_117_117 rfl rfl) rfl
theorem q_117_119  {x0 : Int32} (hS : zcat S ≤ 8) (h : zIs sh o 0 7) : zRun 117 119 L (.int x0 :: .ref o :: S) sh mi mj mr = (zCall 82 [.ref o, .int x0] sh mi mj mr).bind fun r => zRun 117 122 L (r.1.toList ++ S) r.2.1 r.2.2.1 r.2.2.2.1 r.2.2.2.2 := zr_V (zD_of zk_117 d_117_119 rfl rfl) rfl zk_82 rfl rfl rfl hS h
theorem q_117_122  : zRun 117 122 L (.int x :: S) sh mi mj mr = zRun 117 123 L S sh mi mj mr := zr_p (zD_of zk_117 d_117_122 rfl rfl) rfl
theorem q_117_123 : zRun 117 123 [l0, l1, l2, l3, l4, some (.int x), l6, l7, l8, l9, l10] S sh mi mj mr = zRun 117 125 [l0, l1, l2, l3, l4, some (.int x), l6, l7, l8, l9, l10] (.int x :: S) sh mi mj mr := zr_l (zD_of zk_117 d_117_123 rfl rfl) rfl rfl rfl
theorem q_117_125  : zRun 117 125 L S sh mi mj mr = zRun 117 126 L (.int 3 :: S) sh mi mj mr := zr_p (zD_of zk_117 d_117_125 rfl rfl) rfl
theorem q_117_126  : zRun 117 126 L (.int y :: .int x :: S) sh mi mj mr = zRun 117 127 L (.int (x >>> (y &&& 31)) :: S) sh mi mj mr := zr_p (zD_of zk_117 d_117_126 rfl rfl) rfl
theorem q_117_127  : zRun 117 127 L S sh mi mj mr = zRun 117 128 L (.int 4 :: S) sh mi mj mr := zr_p (zD_of zk_117 d_117_127 rfl rfl) rfl
theorem q_117_128  {x0 x1 : Int32} (hS : zcat S ≤ 8) : zRun 117 128 L (.int x1 :: .int x0 :: S) sh mi mj mr = (zCall 116 [.int x0, .int x1] sh mi mj mr).bind fun r => zRun 117 131 L (r.1.toList ++ S) r.2.1 r.2.2.1 r.2.2.2.1 r.2.2.2.2 := zr_S (zD_of zk_117 d_117_128 rfl rfl) rfl zk_116 rfl rfl rfl hS
theorem q_117_131  : zRun 117 131 L (.int x :: S) sh mi mj mr = if ¬ x = 0 then zRun 117 138 L S sh mi mj mr else zRun 117 134 L S sh mi mj mr := zr_if (off := 7) (P := ¬ x = 0) (zD_of zk_117 d_117_131 rfl rfl) rfl rfl (by decide)
theorem q_117_134  : zRun 117 134 L S sh mi mj mr = zRun 117 135 L (.int 1 :: S) sh mi mj mr := zr_p (zD_of zk_117 d_117_134 rfl rfl) rfl
theorem q_117_135  : zRun 117 135 L S sh mi mj mr = zRun 117 139 L S sh mi mj mr := zr_go (off := 4) (zD_of zk_117 d_117_135 rfl rfl) rfl rfl (by decide)
theorem q_117_138  : zRun 117 138 L S sh mi mj mr = zRun 117 139 L (.int 0 :: S) sh mi mj mr := zr_p (zD_of zk_117 d_117_138 rfl rfl) rfl
theorem q_117_139 : zRun 117 139 [l0, l1, l2, l3, l4, l5, l6, l7, l8, l9, l10] (.int x :: S) sh mi mj mr = zRun 117 141 [l0, l1, l2, l3, l4, l5, zk2 l6, some (.int x), l8, l9, l10] S sh mi mj mr := zr_s1 (i := 7) (v := .int x) (L := [l0, l1, l2, l3, l4, l5, l6, l7, l8, l9, l10]) (zD_of zk_117 d_117_139 rfl rfl) rfl rfl rfl rfl
theorem q_117_141 : zRun 117 141 [l0, l1, l2, l3, l4, l5, l6, some (.int x), l8, l9, l10] S sh mi mj mr = zRun 117 143 [l0, l1, l2, l3, l4, l5, l6, some (.int x), l8, l9, l10] (.int x :: S) sh mi mj mr := zr_l (zD_of zk_117 d_117_141 rfl rfl) rfl rfl rfl
theorem q_117_143  : zRun 117 143 L (.int x :: S) sh mi mj mr = if x = 0 then zRun 117 153 L S sh mi mj mr else zRun 117 146 L S sh mi mj mr := zr_if (off := 10) (P := x = 0) (zD_of zk_117 d_117_143 rfl rfl) rfl rfl (by decide)
theorem q_117_146r : zRun 117 146 [some (.ref o), l1, l2, l3, l4, l5, l6, l7, l8, l9, l10] S sh mi mj mr = zRun 117 147 [some (.ref o), l1, l2, l3, l4, l5, l6, l7, l8, l9, l10] (.ref o :: S) sh mi mj mr := zr_l (zD_of zk_117 d_117_146 rfl rfl) rfl rfl rfl
theorem q_117_146n : zRun 117 146 [some (.null), l1, l2, l3, l4, l5, l6, l7, l8, l9, l10] S sh mi mj mr = zRun 117 147 [some (.null), l1, l2, l3, l4, l5, l6, l7, l8, l9, l10] (.null :: S) sh mi mj mr := zr_l (zD_of zk_117 d_117_146 rfl rfl) rfl rfl rfl
theorem q_117_147  : zRun 117 147 L S sh mi mj mr = zRun 117 149 L (.int 45 :: S) sh mi mj mr := zr_p (zD_of zk_117 d_117_147 rfl rfl) rfl
theorem q_117_149  {x0 : Int32} (hS : zcat S ≤ 8) (h : zIs sh o 0 7) : zRun 117 149 L (.int x0 :: .ref o :: S) sh mi mj mr = (zCall 82 [.ref o, .int x0] sh mi mj mr).bind fun r => zRun 117 152 L (r.1.toList ++ S) r.2.1 r.2.2.1 r.2.2.2.1 r.2.2.2.2 := zr_V (zD_of zk_117 d_117_149 rfl rfl) rfl zk_82 rfl rfl rfl hS h
theorem q_117_152  : zRun 117 152 L (.int x :: S) sh mi mj mr = zRun 117 153 L S sh mi mj mr := zr_p (zD_of zk_117 d_117_152 rfl rfl) rfl
theorem q_117_153 : zRun 117 153 [l0, l1, l2, some (.int x), l4, l5, l6, l7, l8, l9, l10] S sh mi mj mr = zRun 117 154 [l0, l1, l2, some (.int x), l4, l5, l6, l7, l8, l9, l10] (.int x :: S) sh mi mj mr := zr_l (zD_of zk_117 d_117_153 rfl rfl) rfl rfl rfl
theorem q_117_154 : zRun 117 154 [l0, l1, l2, l3, l4, l5, l6, some (.int x), l8, l9, l10] S sh mi mj mr = zRun 117 156 [l0, l1, l2, l3, l4, l5, l6, some (.int x), l8, l9, l10] (.int x :: S) sh mi mj mr := zr_l (zD_of zk_117 d_117_154 rfl rfl) rfl rfl rfl
theorem q_117_156  : zRun 117 156 L (.int x :: S) sh mi mj mr = if x = 0 then zRun 117 163 L S sh mi mj mr else zRun 117 159 L S sh mi mj mr := zr_if (off := 7) (P := x = 0) (zD_of zk_117 d_117_156 rfl rfl) rfl rfl (by decide)
theorem q_117_159  : zRun 117 159 L S sh mi mj mr = zRun 117 160 L (.int 1 :: S) sh mi mj mr := zr_p (zD_of zk_117 d_117_159 rfl rfl) rfl
theorem q_117_160  : zRun 117 160 L S sh mi mj mr = zRun 117 164 L S sh mi mj mr := zr_go (off := 4) (zD_of zk_117 d_117_160 rfl rfl) rfl rfl (by decide)
theorem q_117_163  : zRun 117 163 L S sh mi mj mr = zRun 117 164 L (.int 0 :: S) sh mi mj mr := zr_p (zD_of zk_117 d_117_163 rfl rfl) rfl
theorem q_117_164  : zRun 117 164 L (.int y :: .int x :: S) sh mi mj mr = zRun 117 165 L (.int (x + y) :: S) sh mi mj mr := zr_p (zD_of zk_117 d_117_164 rfl rfl) rfl
theorem q_117_165 : zRun 117 165 [l0, l1, l2, l3, l4, l5, l6, l7, l8, l9, l10] (.int x :: S) sh mi mj mr = zRun 117 166 [l0, l1, zk2 l2, some (.int x), l4, l5, l6, l7, l8, l9, l10] S sh mi mj mr := zr_s1 (i := 3) (v := .int x) (L := [l0, l1, l2, l3, l4, l5, l6, l7, l8, l9, l10]) (zD_of zk_117 d_117_165 rfl rfl) rfl rfl rfl rfl
theorem q_117_166  : zRun 117 166 L S sh mi mj mr = zRun 117 167 L (.int 0 :: S) sh mi mj mr := zr_p (zD_of zk_117 d_117_166 rfl rfl) rfl
theorem q_117_167 : zRun 117 167 [l0, l1, l2, l3, l4, l5, l6, l7, l8, l9, l10] (.int x :: S) sh mi mj mr = zRun 117 169 [l0, l1, l2, l3, l4, l5, l6, zk2 l7, some (.int x), l9, l10] S sh mi mj mr := zr_s1 (i := 8) (v := .int x) (L := [l0, l1, l2, l3, l4, l5, l6, l7, l8, l9, l10]) (zD_of zk_117 d_117_167 rfl rfl) rfl rfl rfl rfl
theorem q_117_169 : zRun 117 169 [l0, l1, l2, l3, l4, l5, l6, l7, some (.int x), l9, l10] S sh mi mj mr = zRun 117 171 [l0, l1, l2, l3, l4, l5, l6, l7, some (.int x), l9, l10] (.int x :: S) sh mi mj mr := zr_l (zD_of zk_117 d_117_169 rfl rfl) rfl rfl rfl
theorem q_117_171  : zRun 117 171 L S sh mi mj mr = zRun 117 172 L (.int 3 :: S) sh mi mj mr := zr_p (zD_of zk_117 d_117_171 rfl rfl) rfl
theorem q_117_172  : zRun 117 172 L (.int y :: .int x :: S) sh mi mj mr = if y ≤ x then zRun 117 385 L S sh mi mj mr else zRun 117 175 L S sh mi mj mr := zr_if (off := 213) (P := y ≤ x) (zD_of zk_117 d_117_172 rfl rfl) rfl rfl (by decide)
theorem q_117_175 : zRun 117 175 [l0, l1, l2, l3, l4, l5, l6, l7, some (.int x), l9, l10] S sh mi mj mr = zRun 117 177 [l0, l1, l2, l3, l4, l5, l6, l7, some (.int x), l9, l10] (.int x :: S) sh mi mj mr := zr_l (zD_of zk_117 d_117_175 rfl rfl) rfl rfl rfl
theorem q_117_177  : zRun 117 177 L (.int x :: S) sh mi mj mr = if x ≤ 0 then zRun 117 226 L S sh mi mj mr else zRun 117 180 L S sh mi mj mr := zr_if (off := 49) (P := x ≤ 0) (zD_of zk_117 d_117_177 rfl rfl) rfl rfl (by decide)
theorem q_117_180r : zRun 117 180 [some (.ref o), l1, l2, l3, l4, l5, l6, l7, l8, l9, l10] S sh mi mj mr = zRun 117 181 [some (.ref o), l1, l2, l3, l4, l5, l6, l7, l8, l9, l10] (.ref o :: S) sh mi mj mr := zr_l (zD_of zk_117 d_117_180 rfl rfl) rfl rfl rfl
theorem q_117_180n : zRun 117 180 [some (.null), l1, l2, l3, l4, l5, l6, l7, l8, l9, l10] S sh mi mj mr = zRun 117 181 [some (.null), l1, l2, l3, l4, l5, l6, l7, l8, l9, l10] (.null :: S) sh mi mj mr := zr_l (zD_of zk_117 d_117_180 rfl rfl) rfl rfl rfl
theorem q_117_181 : zRun 117 181 [l0, l1, l2, l3, l4, some (.int x), l6, l7, l8, l9, l10] S sh mi mj mr = zRun 117 183 [l0, l1, l2, l3, l4, some (.int x), l6, l7, l8, l9, l10] (.int x :: S) sh mi mj mr := zr_l (zD_of zk_117 d_117_181 rfl rfl) rfl rfl rfl
theorem q_117_183  : zRun 117 183 L S sh mi mj mr = zRun 117 184 L (.int 5 :: S) sh mi mj mr := zr_p (zD_of zk_117 d_117_183 rfl rfl) rfl
theorem q_117_184 : zRun 117 184 [l0, l1, l2, l3, l4, l5, l6, l7, some (.int x), l9, l10] S sh mi mj mr = zRun 117 186 [l0, l1, l2, l3, l4, l5, l6, l7, some (.int x), l9, l10] (.int x :: S) sh mi mj mr := zr_l (zD_of zk_117 d_117_184 rfl rfl) rfl rfl rfl
theorem q_117_186  : zRun 117 186 L (.int y :: .int x :: S) sh mi mj mr = zRun 117 187 L (.int (x + y) :: S) sh mi mj mr := zr_p (zD_of zk_117 d_117_186 rfl rfl) rfl
theorem q_117_187  : zRun 117 187 L (.int y :: .int x :: S) sh mi mj mr = zRun 117 188 L (.int (x >>> (y &&& 31)) :: S) sh mi mj mr := zr_p (zD_of zk_117 d_117_187 rfl rfl) rfl
theorem q_117_188  : zRun 117 188 L S sh mi mj mr = zRun 117 189 L (.int 3 :: S) sh mi mj mr := zr_p (zD_of zk_117 d_117_188 rfl rfl) rfl
theorem q_117_189  {x0 x1 : Int32} (hS : zcat S ≤ 8) : zRun 117 189 L (.int x1 :: .int x0 :: S) sh mi mj mr = (zCall 116 [.int x0, .int x1] sh mi mj mr).bind fun r => zRun 117 192 L (r.1.toList ++ S) r.2.1 r.2.2.1 r.2.2.2.1 r.2.2.2.2 := zr_S (zD_of zk_117 d_117_189 rfl rfl) rfl zk_116 rfl rfl rfl hS
theorem q_117_192  : zRun 117 192 L (.int x :: S) sh mi mj mr = if ¬ x = 0 then zRun 117 200 L S sh mi mj mr else zRun 117 195 L S sh mi mj mr := zr_if (off := 8) (P := ¬ x = 0) (zD_of zk_117 d_117_192 rfl rfl) rfl rfl (by decide)
theorem q_117_195  : zRun 117 195 L S sh mi mj mr = zRun 117 197 L (.int 42 :: S) sh mi mj mr := zr_p (zD_of zk_117 d_117_195 rfl rfl) rfl
theorem q_117_197  : zRun 117 197 L S sh mi mj mr = zRun 117 222 L S sh mi mj mr := zr_go (off := 25) (zD_of zk_117 d_117_197 rfl rfl) rfl rfl (by decide)
theorem q_117_200 : zRun 117 200 [l0, l1, l2, l3, l4, some (.int x), l6, l7, l8, l9, l10] S sh mi mj mr = zRun 117 202 [l0, l1, l2, l3, l4, some (.int x), l6, l7, l8, l9, l10] (.int x :: S) sh mi mj mr := zr_l (zD_of zk_117 d_117_200 rfl rfl) rfl rfl rfl
theorem q_117_202  : zRun 117 202 L S sh mi mj mr = zRun 117 203 L (.int 5 :: S) sh mi mj mr := zr_p (zD_of zk_117 d_117_202 rfl rfl) rfl
theorem q_117_203 : zRun 117 203 [l0, l1, l2, l3, l4, l5, l6, l7, some (.int x), l9, l10] S sh mi mj mr = zRun 117 205 [l0, l1, l2, l3, l4, l5, l6, l7, some (.int x), l9, l10] (.int x :: S) sh mi mj mr := zr_l (zD_of zk_117 d_117_203 rfl rfl) rfl rfl rfl
theorem q_117_205  : zRun 117 205 L (.int y :: .int x :: S) sh mi mj mr = zRun 117 206 L (.int (x + y) :: S) sh mi mj mr := zr_p (zD_of zk_117 d_117_205 rfl rfl) rfl
theorem q_117_206  : zRun 117 206 L (.int y :: .int x :: S) sh mi mj mr = zRun 117 207 L (.int (x >>> (y &&& 31)) :: S) sh mi mj mr := zr_p (zD_of zk_117 d_117_206 rfl rfl) rfl
theorem q_117_207  : zRun 117 207 L S sh mi mj mr = zRun 117 208 L (.int 3 :: S) sh mi mj mr := zr_p (zD_of zk_117 d_117_207 rfl rfl) rfl
theorem q_117_208  {x0 x1 : Int32} (hS : zcat S ≤ 8) : zRun 117 208 L (.int x1 :: .int x0 :: S) sh mi mj mr = (zCall 116 [.int x0, .int x1] sh mi mj mr).bind fun r => zRun 117 211 L (r.1.toList ++ S) r.2.1 r.2.2.1 r.2.2.2.1 r.2.2.2.2 := zr_S (zD_of zk_117 d_117_208 rfl rfl) rfl zk_116 rfl rfl rfl hS
theorem q_117_211  : zRun 117 211 L S sh mi mj mr = zRun 117 212 L (.int 1 :: S) sh mi mj mr := zr_p (zD_of zk_117 d_117_211 rfl rfl) rfl
theorem q_117_212  : zRun 117 212 L (.int y :: .int x :: S) sh mi mj mr = if ¬ x = y then zRun 117 220 L S sh mi mj mr else zRun 117 215 L S sh mi mj mr := zr_if (off := 8) (P := ¬ x = y) (zD_of zk_117 d_117_212 rfl rfl) rfl rfl (by decide)
theorem q_117_215  : zRun 117 215 L S sh mi mj mr = zRun 117 217 L (.int 43 :: S) sh mi mj mr := zr_p (zD_of zk_117 d_117_215 rfl rfl) rfl
theorem q_117_217  : zRun 117 217 L S sh mi mj mr = zRun 117 222 L S sh mi mj mr := zr_go (off := 5) (zD_of zk_117 d_117_217 rfl rfl) rfl rfl (by decide)
theorem q_117_220  : zRun 117 220 L S sh mi mj mr = zRun 117 222 L (.int 45 :: S) sh mi mj mr := zr_p (zD_of zk_117 d_117_220 rfl rfl) rfl
theorem q_117_222  {x0 : Int32} (hS : zcat S ≤ 8) (h : zIs sh o 0 7) : zRun 117 222 L (.int x0 :: .ref o :: S) sh mi mj mr = (zCall 82 [.ref o, .int x0] sh mi mj mr).bind fun r => zRun 117 225 L (r.1.toList ++ S) r.2.1 r.2.2.1 r.2.2.2.1 r.2.2.2.2 := zr_V (zD_of zk_117 d_117_222 rfl rfl) rfl zk_82 rfl rfl rfl hS h
theorem q_117_225  : zRun 117 225 L (.int x :: S) sh mi mj mr = zRun 117 226 L S sh mi mj mr := zr_p (zD_of zk_117 d_117_225 rfl rfl) rfl
theorem q_117_226 : zRun 117 226 [l0, l1, l2, some (.int x), l4, l5, l6, l7, l8, l9, l10] S sh mi mj mr = zRun 117 227 [l0, l1, l2, some (.int x), l4, l5, l6, l7, l8, l9, l10] (.int x :: S) sh mi mj mr := zr_l (zD_of zk_117 d_117_226 rfl rfl) rfl rfl rfl
theorem q_117_227 : zRun 117 227 [l0, l1, l2, l3, l4, l5, l6, l7, some (.int x), l9, l10] S sh mi mj mr = zRun 117 229 [l0, l1, l2, l3, l4, l5, l6, l7, some (.int x), l9, l10] (.int x :: S) sh mi mj mr := zr_l (zD_of zk_117 d_117_227 rfl rfl) rfl rfl rfl
theorem q_117_229  : zRun 117 229 L (.int x :: S) sh mi mj mr = if x ≤ 0 then zRun 117 236 L S sh mi mj mr else zRun 117 232 L S sh mi mj mr := zr_if (off := 7) (P := x ≤ 0) (zD_of zk_117 d_117_229 rfl rfl) rfl rfl (by decide)
theorem q_117_232  : zRun 117 232 L S sh mi mj mr = zRun 117 233 L (.int 1 :: S) sh mi mj mr := zr_p (zD_of zk_117 d_117_232 rfl rfl) rfl
theorem q_117_233  : zRun 117 233 L S sh mi mj mr = zRun 117 237 L S sh mi mj mr := zr_go (off := 4) (zD_of zk_117 d_117_233 rfl rfl) rfl rfl (by decide)
theorem q_117_236  : zRun 117 236 L S sh mi mj mr = zRun 117 237 L (.int 0 :: S) sh mi mj mr := zr_p (zD_of zk_117 d_117_236 rfl rfl) rfl
theorem q_117_237  : zRun 117 237 L (.int y :: .int x :: S) sh mi mj mr = zRun 117 238 L (.int (x + y) :: S) sh mi mj mr := zr_p (zD_of zk_117 d_117_237 rfl rfl) rfl
theorem q_117_238 : zRun 117 238 [l0, l1, l2, l3, l4, l5, l6, l7, l8, l9, l10] (.int x :: S) sh mi mj mr = zRun 117 239 [l0, l1, zk2 l2, some (.int x), l4, l5, l6, l7, l8, l9, l10] S sh mi mj mr := zr_s1 (i := 3) (v := .int x) (L := [l0, l1, l2, l3, l4, l5, l6, l7, l8, l9, l10]) (zD_of zk_117 d_117_238 rfl rfl) rfl rfl rfl rfl
theorem q_117_239 : zRun 117 239 [l0, l1, l2, l3, l4, some (.int x), l6, l7, l8, l9, l10] S sh mi mj mr = zRun 117 241 [l0, l1, l2, l3, l4, some (.int x), l6, l7, l8, l9, l10] (.int x :: S) sh mi mj mr := zr_l (zD_of zk_117 d_117_239 rfl rfl) rfl rfl rfl
theorem q_117_241  : zRun 117 241 L S sh mi mj mr = zRun 117 243 L (.int 8 :: S) sh mi mj mr := zr_p (zD_of zk_117 d_117_241 rfl rfl) rfl
theorem q_117_243  : zRun 117 243 L S sh mi mj mr = zRun 117 244 L (.int 3 :: S) sh mi mj mr := zr_p (zD_of zk_117 d_117_243 rfl rfl) rfl
theorem q_117_244 : zRun 117 244 [l0, l1, l2, l3, l4, l5, l6, l7, some (.int x), l9, l10] S sh mi mj mr = zRun 117 246 [l0, l1, l2, l3, l4, l5, l6, l7, some (.int x), l9, l10] (.int x :: S) sh mi mj mr := zr_l (zD_of zk_117 d_117_244 rfl rfl) rfl rfl rfl
theorem q_117_246  : zRun 117 246 L (.int y :: .int x :: S) sh mi mj mr = zRun 117 247 L (.int (x * y) :: S) sh mi mj mr := zr_p (zD_of zk_117 d_117_246 rfl rfl) rfl
theorem q_117_247  : zRun 117 247 L (.int y :: .int x :: S) sh mi mj mr = zRun 117 248 L (.int (x + y) :: S) sh mi mj mr := zr_p (zD_of zk_117 d_117_247 rfl rfl) rfl
theorem q_117_248  : zRun 117 248 L (.int y :: .int x :: S) sh mi mj mr = zRun 117 249 L (.int (x >>> (y &&& 31)) :: S) sh mi mj mr := zr_p (zD_of zk_117 d_117_248 rfl rfl) rfl
theorem q_117_249  : zRun 117 249 L S sh mi mj mr = zRun 117 251 L (.int 6 :: S) sh mi mj mr := zr_p (zD_of zk_117 d_117_249 rfl rfl) rfl
theorem q_117_251  {x0 x1 : Int32} (hS : zcat S ≤ 8) : zRun 117 251 L (.int x1 :: .int x0 :: S) sh mi mj mr = (zCall 116 [.int x0, .int x1] sh mi mj mr).bind fun r => zRun 117 254 L (r.1.toList ++ S) r.2.1 r.2.2.1 r.2.2.2.1 r.2.2.2.2 := zr_S (zD_of zk_117 d_117_251 rfl rfl) rfl zk_116 rfl rfl rfl hS
theorem q_117_254 : zRun 117 254 [l0, l1, l2, l3, l4, l5, l6, l7, l8, l9, l10] (.int x :: S) sh mi mj mr = zRun 117 256 [l0, l1, l2, l3, l4, l5, l6, l7, zk2 l8, some (.int x), l10] S sh mi mj mr := zr_s1 (i := 9) (v := .int x) (L := [l0, l1, l2, l3, l4, l5, l6, l7, l8, l9, l10]) (zD_of zk_117 d_117_254 rfl rfl) rfl rfl rfl rfl
theorem q_117_256 : zRun 117 256 [l0, l1, l2, l3, l4, l5, l6, l7, l8, some (.int x), l10] S sh mi mj mr = zRun 117 258 [l0, l1, l2, l3, l4, l5, l6, l7, l8, some (.int x), l10] (.int x :: S) sh mi mj mr := zr_l (zD_of zk_117 d_117_256 rfl rfl) rfl rfl rfl
theorem q_117_258  : zRun 117 258 L S sh mi mj mr = zRun 117 259 L (.int 4 :: S) sh mi mj mr := zr_p (zD_of zk_117 d_117_258 rfl rfl) rfl
theorem q_117_259  : zRun 117 259 L (.int y :: .int x :: S) sh mi mj mr = if y ≤ x then zRun 117 275 L S sh mi mj mr else zRun 117 262 L S sh mi mj mr := zr_if (off := 16) (P := y ≤ x) (zD_of zk_117 d_117_259 rfl rfl) rfl rfl (by decide)
theorem q_117_262r : zRun 117 262 [some (.ref o), l1, l2, l3, l4, l5, l6, l7, l8, l9, l10] S sh mi mj mr = zRun 117 263 [some (.ref o), l1, l2, l3, l4, l5, l6, l7, l8, l9, l10] (.ref o :: S) sh mi mj mr := zr_l (zD_of zk_117 d_117_262 rfl rfl) rfl rfl rfl
theorem q_117_262n : zRun 117 262 [some (.null), l1, l2, l3, l4, l5, l6, l7, l8, l9, l10] S sh mi mj mr = zRun 117 263 [some (.null), l1, l2, l3, l4, l5, l6, l7, l8, l9, l10] (.null :: S) sh mi mj mr := zr_l (zD_of zk_117 d_117_262 rfl rfl) rfl rfl rfl
theorem q_117_263  : zRun 117 263 L S sh mi mj mr = zRun 117 265 L (.int 97 :: S) sh mi mj mr := zr_p (zD_of zk_117 d_117_263 rfl rfl) rfl
theorem q_117_265 : zRun 117 265 [l0, l1, l2, l3, l4, l5, l6, l7, l8, some (.int x), l10] S sh mi mj mr = zRun 117 267 [l0, l1, l2, l3, l4, l5, l6, l7, l8, some (.int x), l10] (.int x :: S) sh mi mj mr := zr_l (zD_of zk_117 d_117_265 rfl rfl) rfl rfl rfl
theorem q_117_267  : zRun 117 267 L (.int y :: .int x :: S) sh mi mj mr = zRun 117 268 L (.int (x + y) :: S) sh mi mj mr := zr_p (zD_of zk_117 d_117_267 rfl rfl) rfl
theorem q_117_268  {x0 : Int32} (hS : zcat S ≤ 8) (h : zIs sh o 0 7) : zRun 117 268 L (.int x0 :: .ref o :: S) sh mi mj mr = (zCall 82 [.ref o, .int x0] sh mi mj mr).bind fun r => zRun 117 271 L (r.1.toList ++ S) r.2.1 r.2.2.1 r.2.2.2.1 r.2.2.2.2 := zr_V (zD_of zk_117 d_117_268 rfl rfl) rfl zk_82 rfl rfl rfl hS h
theorem q_117_271  : zRun 117 271 L (.int x :: S) sh mi mj mr = zRun 117 272 L S sh mi mj mr := zr_p (zD_of zk_117 d_117_271 rfl rfl) rfl
theorem q_117_272  : zRun 117 272 L S sh mi mj mr = zRun 117 293 L S sh mi mj mr := zr_go (off := 21) (zD_of zk_117 d_117_272 rfl rfl) rfl rfl (by decide)
theorem q_117_275r : zRun 117 275 [some (.ref o), l1, l2, l3, l4, l5, l6, l7, l8, l9, l10] S sh mi mj mr = zRun 117 276 [some (.ref o), l1, l2, l3, l4, l5, l6, l7, l8, l9, l10] (.ref o :: S) sh mi mj mr := zr_l (zD_of zk_117 d_117_275 rfl rfl) rfl rfl rfl
theorem q_117_275n : zRun 117 275 [some (.null), l1, l2, l3, l4, l5, l6, l7, l8, l9, l10] S sh mi mj mr = zRun 117 276 [some (.null), l1, l2, l3, l4, l5, l6, l7, l8, l9, l10] (.null :: S) sh mi mj mr := zr_l (zD_of zk_117 d_117_275 rfl rfl) rfl rfl rfl
theorem q_117_276 : zRun 117 276 [l0, l1, l2, l3, l4, l5, l6, l7, l8, some (.int x), l10] S sh mi mj mr = zRun 117 278 [l0, l1, l2, l3, l4, l5, l6, l7, l8, some (.int x), l10] (.int x :: S) sh mi mj mr := zr_l (zD_of zk_117 d_117_276 rfl rfl) rfl rfl rfl
theorem q_117_278  : zRun 117 278 L S sh mi mj mr = zRun 117 279 L (.int 4 :: S) sh mi mj mr := zr_p (zD_of zk_117 d_117_278 rfl rfl) rfl
theorem q_117_279  : zRun 117 279 L (.int y :: .int x :: S) sh mi mj mr = if ¬ x = y then zRun 117 287 L S sh mi mj mr else zRun 117 282 L S sh mi mj mr := zr_if (off := 8) (P := ¬ x = y) (zD_of zk_117 d_117_279 rfl rfl) rfl rfl (by decide)
theorem q_117_282  : zRun 117 282 L S sh mi mj mr = zRun 117 284 L (.int 51 :: S) sh mi mj mr := zr_p (zD_of zk_117 d_117_282 rfl rfl) rfl
theorem q_117_284  : zRun 117 284 L S sh mi mj mr = zRun 117 289 L S sh mi mj mr := zr_go (off := 5) (zD_of zk_117 d_117_284 rfl rfl) rfl rfl (by decide)
theorem q_117_287  : zRun 117 287 L S sh mi mj mr = zRun 117 289 L (.int 48 :: S) sh mi mj mr := zr_p (zD_of zk_117 d_117_287 rfl rfl) rfl
theorem q_117_289  {x0 : Int32} (hS : zcat S ≤ 8) (h : zIs sh o 0 7) : zRun 117 289 L (.int x0 :: .ref o :: S) sh mi mj mr = (zCall 82 [.ref o, .int x0] sh mi mj mr).bind fun r => zRun 117 292 L (r.1.toList ++ S) r.2.1 r.2.2.1 r.2.2.2.1 r.2.2.2.2 := zr_V (zD_of zk_117 d_117_289 rfl rfl) rfl zk_82 rfl rfl rfl hS h
theorem q_117_292  : zRun 117 292 L (.int x :: S) sh mi mj mr = zRun 117 293 L S sh mi mj mr := zr_p (zD_of zk_117 d_117_292 rfl rfl) rfl
theorem q_117_293  : zRun 117 293 [l0, l1, l2, some (.int x), l4, l5, l6, l7, l8, l9, l10] S sh mi mj mr = zRun 117 296 [l0, l1, zk2 l2, some (.int (x + 1)), l4, l5, l6, l7, l8, l9, l10] S sh mi mj mr := zr_s1 (i := 3) (v := .int (x + 1)) (L := [l0, l1, l2, some (.int x), l4, l5, l6, l7, l8, l9, l10]) (zD_of zk_117 d_117_293 rfl rfl) rfl rfl rfl rfl
theorem q_117_296 : zRun 117 296 [l0, l1, l2, l3, l4, some (.int x), l6, l7, l8, l9, l10] S sh mi mj mr = zRun 117 298 [l0, l1, l2, l3, l4, some (.int x), l6, l7, l8, l9, l10] (.int x :: S) sh mi mj mr := zr_l (zD_of zk_117 d_117_296 rfl rfl) rfl rfl rfl
theorem q_117_298  : zRun 117 298 L S sh mi mj mr = zRun 117 300 L (.int 17 :: S) sh mi mj mr := zr_p (zD_of zk_117 d_117_298 rfl rfl) rfl
theorem q_117_300  : zRun 117 300 L S sh mi mj mr = zRun 117 301 L (.int 2 :: S) sh mi mj mr := zr_p (zD_of zk_117 d_117_300 rfl rfl) rfl
theorem q_117_301 : zRun 117 301 [l0, l1, l2, l3, l4, l5, l6, l7, some (.int x), l9, l10] S sh mi mj mr = zRun 117 303 [l0, l1, l2, l3, l4, l5, l6, l7, some (.int x), l9, l10] (.int x :: S) sh mi mj mr := zr_l (zD_of zk_117 d_117_301 rfl rfl) rfl rfl rfl
theorem q_117_303  : zRun 117 303 L (.int y :: .int x :: S) sh mi mj mr = zRun 117 304 L (.int (x * y) :: S) sh mi mj mr := zr_p (zD_of zk_117 d_117_303 rfl rfl) rfl
theorem q_117_304  : zRun 117 304 L (.int y :: .int x :: S) sh mi mj mr = zRun 117 305 L (.int (x + y) :: S) sh mi mj mr := zr_p (zD_of zk_117 d_117_304 rfl rfl) rfl
theorem q_117_305  : zRun 117 305 L (.int y :: .int x :: S) sh mi mj mr = zRun 117 306 L (.int (x >>> (y &&& 31)) :: S) sh mi mj mr := zr_p (zD_of zk_117 d_117_305 rfl rfl) rfl
theorem q_117_306  : zRun 117 306 L S sh mi mj mr = zRun 117 307 L (.int 4 :: S) sh mi mj mr := zr_p (zD_of zk_117 d_117_306 rfl rfl) rfl
theorem q_117_307  {x0 x1 : Int32} (hS : zcat S ≤ 8) : zRun 117 307 L (.int x1 :: .int x0 :: S) sh mi mj mr = (zCall 116 [.int x0, .int x1] sh mi mj mr).bind fun r => zRun 117 310 L (r.1.toList ++ S) r.2.1 r.2.2.1 r.2.2.2.1 r.2.2.2.2 := zr_S (zD_of zk_117 d_117_307 rfl rfl) rfl zk_116 rfl rfl rfl hS
theorem q_117_310 : zRun 117 310 [l0, l1, l2, l3, l4, l5, l6, l7, l8, l9, l10] (.int x :: S) sh mi mj mr = zRun 117 312 [l0, l1, l2, l3, l4, l5, l6, l7, l8, zk2 l9, some (.int x)] S sh mi mj mr := zr_s1 (i := 10) (v := .int x) (L := [l0, l1, l2, l3, l4, l5, l6, l7, l8, l9, l10]) (zD_of zk_117 d_117_310 rfl rfl) rfl rfl rfl rfl
theorem q_117_312 : zRun 117 312 [l0, l1, l2, l3, l4, l5, l6, l7, l8, l9, some (.int x)] S sh mi mj mr = zRun 117 314 [l0, l1, l2, l3, l4, l5, l6, l7, l8, l9, some (.int x)] (.int x :: S) sh mi mj mr := zr_l (zD_of zk_117 d_117_312 rfl rfl) rfl rfl rfl
theorem q_117_314  : zRun 117 314 L S sh mi mj mr = zRun 117 315 L (.int 2 :: S) sh mi mj mr := zr_p (zD_of zk_117 d_117_314 rfl rfl) rfl
theorem q_117_315  : zRun 117 315 L (.int y :: .int x :: S) sh mi mj mr = if ¬ x = y then zRun 117 379 L S sh mi mj mr else zRun 117 318 L S sh mi mj mr := zr_if (off := 64) (P := ¬ x = y) (zD_of zk_117 d_117_315 rfl rfl) rfl rfl (by decide)
theorem q_117_318r : zRun 117 318 [some (.ref o), l1, l2, l3, l4, l5, l6, l7, l8, l9, l10] S sh mi mj mr = zRun 117 319 [some (.ref o), l1, l2, l3, l4, l5, l6, l7, l8, l9, l10] (.ref o :: S) sh mi mj mr := zr_l (zD_of zk_117 d_117_318 rfl rfl) rfl rfl rfl
theorem q_117_318n : zRun 117 318 [some (.null), l1, l2, l3, l4, l5, l6, l7, l8, l9, l10] S sh mi mj mr = zRun 117 319 [some (.null), l1, l2, l3, l4, l5, l6, l7, l8, l9, l10] (.null :: S) sh mi mj mr := zr_l (zD_of zk_117 d_117_318 rfl rfl) rfl rfl rfl
theorem q_117_319  : zRun 117 319 L S sh mi mj mr = zRun 117 321 L (.int 94 :: S) sh mi mj mr := zr_p (zD_of zk_117 d_117_319 rfl rfl) rfl
theorem q_117_321  {x0 : Int32} (hS : zcat S ≤ 8) (h : zIs sh o 0 7) : zRun 117 321 L (.int x0 :: .ref o :: S) sh mi mj mr = (zCall 82 [.ref o, .int x0] sh mi mj mr).bind fun r => zRun 117 324 L (r.1.toList ++ S) r.2.1 r.2.2.1 r.2.2.2.1 r.2.2.2.2 := zr_V (zD_of zk_117 d_117_321 rfl rfl) rfl zk_82 rfl rfl rfl hS h
theorem q_117_324  : zRun 117 324 L (.int x :: S) sh mi mj mr = zRun 117 325 L S sh mi mj mr := zr_p (zD_of zk_117 d_117_324 rfl rfl) rfl
theorem q_117_325r : zRun 117 325 [some (.ref o), l1, l2, l3, l4, l5, l6, l7, l8, l9, l10] S sh mi mj mr = zRun 117 326 [some (.ref o), l1, l2, l3, l4, l5, l6, l7, l8, l9, l10] (.ref o :: S) sh mi mj mr := zr_l (zD_of zk_117 d_117_325 rfl rfl) rfl rfl rfl
theorem q_117_325n : zRun 117 325 [some (.null), l1, l2, l3, l4, l5, l6, l7, l8, l9, l10] S sh mi mj mr = zRun 117 326 [some (.null), l1, l2, l3, l4, l5, l6, l7, l8, l9, l10] (.null :: S) sh mi mj mr := zr_l (zD_of zk_117 d_117_325 rfl rfl) rfl rfl rfl
theorem q_117_326  : zRun 117 326 L S sh mi mj mr = zRun 117 328 L (.int 50 :: S) sh mi mj mr := zr_p (zD_of zk_117 d_117_326 rfl rfl) rfl
theorem q_117_328 : zRun 117 328 [l0, l1, l2, l3, l4, some (.int x), l6, l7, l8, l9, l10] S sh mi mj mr = zRun 117 330 [l0, l1, l2, l3, l4, some (.int x), l6, l7, l8, l9, l10] (.int x :: S) sh mi mj mr := zr_l (zD_of zk_117 d_117_328 rfl rfl) rfl rfl rfl
theorem q_117_330  : zRun 117 330 L S sh mi mj mr = zRun 117 332 L (.int 9 :: S) sh mi mj mr := zr_p (zD_of zk_117 d_117_330 rfl rfl) rfl
theorem q_117_332  : zRun 117 332 L (.int y :: .int x :: S) sh mi mj mr = zRun 117 333 L (.int (x >>> (y &&& 31)) :: S) sh mi mj mr := zr_p (zD_of zk_117 d_117_332 rfl rfl) rfl
theorem q_117_333  : zRun 117 333 L S sh mi mj mr = zRun 117 334 L (.int 3 :: S) sh mi mj mr := zr_p (zD_of zk_117 d_117_333 rfl rfl) rfl
theorem q_117_334  {x0 x1 : Int32} (hS : zcat S ≤ 8) : zRun 117 334 L (.int x1 :: .int x0 :: S) sh mi mj mr = (zCall 116 [.int x0, .int x1] sh mi mj mr).bind fun r => zRun 117 337 L (r.1.toList ++ S) r.2.1 r.2.2.1 r.2.2.2.1 r.2.2.2.2 := zr_S (zD_of zk_117 d_117_334 rfl rfl) rfl zk_116 rfl rfl rfl hS
theorem q_117_337  : zRun 117 337 L (.int y :: .int x :: S) sh mi mj mr = zRun 117 338 L (.int (x + y) :: S) sh mi mj mr := zr_p (zD_of zk_117 d_117_337 rfl rfl) rfl
theorem q_117_338  {x0 : Int32} (hS : zcat S ≤ 8) (h : zIs sh o 0 7) : zRun 117 338 L (.int x0 :: .ref o :: S) sh mi mj mr = (zCall 82 [.ref o, .int x0] sh mi mj mr).bind fun r => zRun 117 341 L (r.1.toList ++ S) r.2.1 r.2.2.1 r.2.2.2.1 r.2.2.2.2 := zr_V (zD_of zk_117 d_117_338 rfl rfl) rfl zk_82 rfl rfl rfl hS h
theorem q_117_341  : zRun 117 341 L (.int x :: S) sh mi mj mr = zRun 117 342 L S sh mi mj mr := zr_p (zD_of zk_117 d_117_341 rfl rfl) rfl
theorem q_117_342 : zRun 117 342 [l0, l1, l2, some (.int x), l4, l5, l6, l7, l8, l9, l10] S sh mi mj mr = zRun 117 343 [l0, l1, l2, some (.int x), l4, l5, l6, l7, l8, l9, l10] (.int x :: S) sh mi mj mr := zr_l (zD_of zk_117 d_117_342 rfl rfl) rfl rfl rfl
theorem q_117_343 : zRun 117 343 [l0, l1, l2, l3, l4, some (.int x), l6, l7, l8, l9, l10] S sh mi mj mr = zRun 117 345 [l0, l1, l2, l3, l4, some (.int x), l6, l7, l8, l9, l10] (.int x :: S) sh mi mj mr := zr_l (zD_of zk_117 d_117_343 rfl rfl) rfl rfl rfl
theorem q_117_345  : zRun 117 345 L S sh mi mj mr = zRun 117 347 L (.int 9 :: S) sh mi mj mr := zr_p (zD_of zk_117 d_117_345 rfl rfl) rfl
theorem q_117_347  : zRun 117 347 L (.int y :: .int x :: S) sh mi mj mr = zRun 117 348 L (.int (x >>> (y &&& 31)) :: S) sh mi mj mr := zr_p (zD_of zk_117 d_117_347 rfl rfl) rfl
theorem q_117_348  : zRun 117 348 L S sh mi mj mr = zRun 117 349 L (.int 3 :: S) sh mi mj mr := zr_p (zD_of zk_117 d_117_348 rfl rfl) rfl
theorem q_117_349  {x0 x1 : Int32} (hS : zcat S ≤ 8) : zRun 117 349 L (.int x1 :: .int x0 :: S) sh mi mj mr = (zCall 116 [.int x0, .int x1] sh mi mj mr).bind fun r => zRun 117 352 L (r.1.toList ++ S) r.2.1 r.2.2.1 r.2.2.2.1 r.2.2.2.2 := zr_S (zD_of zk_117 d_117_349 rfl rfl) rfl zk_116 rfl rfl rfl hS
theorem q_117_352  : zRun 117 352 L (.int x :: S) sh mi mj mr = if ¬ x = 0 then zRun 117 359 L S sh mi mj mr else zRun 117 355 L S sh mi mj mr := zr_if (off := 7) (P := ¬ x = 0) (zD_of zk_117 d_117_352 rfl rfl) rfl rfl (by decide)
theorem q_117_355  : zRun 117 355 L S sh mi mj mr = zRun 117 356 L (.int 1 :: S) sh mi mj mr := zr_p (zD_of zk_117 d_117_355 rfl rfl) rfl
theorem q_117_356  : zRun 117 356 L S sh mi mj mr = zRun 117 377 L S sh mi mj mr := zr_go (off := 21) (zD_of zk_117 d_117_356 rfl rfl) rfl rfl (by decide)
theorem q_117_359 : zRun 117 359 [l0, l1, l2, l3, l4, some (.int x), l6, l7, l8, l9, l10] S sh mi mj mr = zRun 117 361 [l0, l1, l2, l3, l4, some (.int x), l6, l7, l8, l9, l10] (.int x :: S) sh mi mj mr := zr_l (zD_of zk_117 d_117_359 rfl rfl) rfl rfl rfl
theorem q_117_361  : zRun 117 361 L S sh mi mj mr = zRun 117 363 L (.int 9 :: S) sh mi mj mr := zr_p (zD_of zk_117 d_117_361 rfl rfl) rfl
theorem q_117_363  : zRun 117 363 L (.int y :: .int x :: S) sh mi mj mr = zRun 117 364 L (.int (x >>> (y &&& 31)) :: S) sh mi mj mr := zr_p (zD_of zk_117 d_117_363 rfl rfl) rfl
theorem q_117_364  : zRun 117 364 L S sh mi mj mr = zRun 117 365 L (.int 3 :: S) sh mi mj mr := zr_p (zD_of zk_117 d_117_364 rfl rfl) rfl
theorem q_117_365  {x0 x1 : Int32} (hS : zcat S ≤ 8) : zRun 117 365 L (.int x1 :: .int x0 :: S) sh mi mj mr = (zCall 116 [.int x0, .int x1] sh mi mj mr).bind fun r => zRun 117 368 L (r.1.toList ++ S) r.2.1 r.2.2.1 r.2.2.2.1 r.2.2.2.2 := zr_S (zD_of zk_117 d_117_365 rfl rfl) rfl zk_116 rfl rfl rfl hS
theorem q_117_368  : zRun 117 368 L S sh mi mj mr = zRun 117 369 L (.int 1 :: S) sh mi mj mr := zr_p (zD_of zk_117 d_117_368 rfl rfl) rfl
theorem q_117_369  : zRun 117 369 L (.int y :: .int x :: S) sh mi mj mr = if ¬ x = y then zRun 117 376 L S sh mi mj mr else zRun 117 372 L S sh mi mj mr := zr_if (off := 7) (P := ¬ x = y) (zD_of zk_117 d_117_369 rfl rfl) rfl rfl (by decide)
theorem q_117_372  : zRun 117 372 L S sh mi mj mr = zRun 117 373 L (.int 3 :: S) sh mi mj mr := zr_p (zD_of zk_117 d_117_372 rfl rfl) rfl
theorem q_117_373  : zRun 117 373 L S sh mi mj mr = zRun 117 377 L S sh mi mj mr := zr_go (off := 4) (zD_of zk_117 d_117_373 rfl rfl) rfl rfl (by decide)
theorem q_117_376  : zRun 117 376 L S sh mi mj mr = zRun 117 377 L (.int 2 :: S) sh mi mj mr := zr_p (zD_of zk_117 d_117_376 rfl rfl) rfl
theorem q_117_377  : zRun 117 377 L (.int y :: .int x :: S) sh mi mj mr = zRun 117 378 L (.int (x + y) :: S) sh mi mj mr := zr_p (zD_of zk_117 d_117_377 rfl rfl) rfl
theorem q_117_378 : zRun 117 378 [l0, l1, l2, l3, l4, l5, l6, l7, l8, l9, l10] (.int x :: S) sh mi mj mr = zRun 117 379 [l0, l1, zk2 l2, some (.int x), l4, l5, l6, l7, l8, l9, l10] S sh mi mj mr := zr_s1 (i := 3) (v := .int x) (L := [l0, l1, l2, l3, l4, l5, l6, l7, l8, l9, l10]) (zD_of zk_117 d_117_378 rfl rfl) rfl rfl rfl rfl
theorem q_117_379  : zRun 117 379 [l0, l1, l2, l3, l4, l5, l6, l7, some (.int x), l9, l10] S sh mi mj mr = zRun 117 382 [l0, l1, l2, l3, l4, l5, l6, zk2 l7, some (.int (x + 1)), l9, l10] S sh mi mj mr := zr_s1 (i := 8) (v := .int (x + 1)) (L := [l0, l1, l2, l3, l4, l5, l6, l7, some (.int x), l9, l10]) (zD_of zk_117 d_117_379 rfl rfl) rfl rfl rfl rfl
theorem q_117_382  : zRun 117 382 L S sh mi mj mr = zRun 117 169 L S sh mi mj mr := zr_go (off := (-213)) (zD_of zk_117 d_117_382 rfl rfl) rfl rfl (by decide)
theorem q_117_385r : zRun 117 385 [some (.ref o), l1, l2, l3, l4, l5, l6, l7, l8, l9, l10] S sh mi mj mr = zRun 117 386 [some (.ref o), l1, l2, l3, l4, l5, l6, l7, l8, l9, l10] (.ref o :: S) sh mi mj mr := zr_l (zD_of zk_117 d_117_385 rfl rfl) rfl rfl rfl
theorem q_117_385n : zRun 117 385 [some (.null), l1, l2, l3, l4, l5, l6, l7, l8, l9, l10] S sh mi mj mr = zRun 117 386 [some (.null), l1, l2, l3, l4, l5, l6, l7, l8, l9, l10] (.null :: S) sh mi mj mr := zr_l (zD_of zk_117 d_117_385 rfl rfl) rfl rfl rfl
theorem q_117_386  : zRun 117 386 L S sh mi mj mr = zRun 117 388 L (.int 41 :: S) sh mi mj mr := zr_p (zD_of zk_117 d_117_386 rfl rfl) rfl
theorem q_117_388  {x0 : Int32} (hS : zcat S ≤ 8) (h : zIs sh o 0 7) : zRun 117 388 L (.int x0 :: .ref o :: S) sh mi mj mr = (zCall 82 [.ref o, .int x0] sh mi mj mr).bind fun r => zRun 117 391 L (r.1.toList ++ S) r.2.1 r.2.2.1 r.2.2.2.1 r.2.2.2.2 := zr_V (zD_of zk_117 d_117_388 rfl rfl) rfl zk_82 rfl rfl rfl hS h
theorem q_117_391  : zRun 117 391 L (.int x :: S) sh mi mj mr = zRun 117 392 L S sh mi mj mr := zr_p (zD_of zk_117 d_117_391 rfl rfl) rfl
theorem q_117_392 : zRun 117 392 [l0, l1, l2, some (.int x), l4, l5, l6, l7, l8, l9, l10] S sh mi mj mr = zRun 117 393 [l0, l1, l2, some (.int x), l4, l5, l6, l7, l8, l9, l10] (.int x :: S) sh mi mj mr := zr_l (zD_of zk_117 d_117_392 rfl rfl) rfl rfl rfl
theorem q_117_393 : zRun 117 393 [l0, l1, l2, l3, l4, l5, some (.int x), l7, l8, l9, l10] S sh mi mj mr = zRun 117 395 [l0, l1, l2, l3, l4, l5, some (.int x), l7, l8, l9, l10] (.int x :: S) sh mi mj mr := zr_l (zD_of zk_117 d_117_393 rfl rfl) rfl rfl rfl
theorem q_117_395  : zRun 117 395 L S sh mi mj mr = zRun 117 396 L (.int 2 :: S) sh mi mj mr := zr_p (zD_of zk_117 d_117_395 rfl rfl) rfl
theorem q_117_396  : zRun 117 396 L (.int y :: .int x :: S) sh mi mj mr = if y ≤ x then zRun 117 403 L S sh mi mj mr else zRun 117 399 L S sh mi mj mr := zr_if (off := 7) (P := y ≤ x) (zD_of zk_117 d_117_396 rfl rfl) rfl rfl (by decide)
theorem q_117_399  : zRun 117 399 L S sh mi mj mr = zRun 117 400 L (.int 1 :: S) sh mi mj mr := zr_p (zD_of zk_117 d_117_399 rfl rfl) rfl
theorem q_117_400  : zRun 117 400 L S sh mi mj mr = zRun 117 404 L S sh mi mj mr := zr_go (off := 4) (zD_of zk_117 d_117_400 rfl rfl) rfl rfl (by decide)
theorem q_117_403  : zRun 117 403 L S sh mi mj mr = zRun 117 404 L (.int 0 :: S) sh mi mj mr := zr_p (zD_of zk_117 d_117_403 rfl rfl) rfl
theorem q_117_404  : zRun 117 404 L (.int y :: .int x :: S) sh mi mj mr = zRun 117 405 L (.int (x + y) :: S) sh mi mj mr := zr_p (zD_of zk_117 d_117_404 rfl rfl) rfl
theorem q_117_405 : zRun 117 405 [l0, l1, l2, l3, l4, l5, l6, l7, l8, l9, l10] (.int x :: S) sh mi mj mr = zRun 117 406 [l0, l1, zk2 l2, some (.int x), l4, l5, l6, l7, l8, l9, l10] S sh mi mj mr := zr_s1 (i := 3) (v := .int x) (L := [l0, l1, l2, l3, l4, l5, l6, l7, l8, l9, l10]) (zD_of zk_117 d_117_405 rfl rfl) rfl rfl rfl rfl
theorem q_117_406  : zRun 117 406 [l0, l1, l2, l3, some (.int x), l5, l6, l7, l8, l9, l10] S sh mi mj mr = zRun 117 409 [l0, l1, l2, zk2 l3, some (.int (x + 1)), l5, l6, l7, l8, l9, l10] S sh mi mj mr := zr_s1 (i := 4) (v := .int (x + 1)) (L := [l0, l1, l2, l3, some (.int x), l5, l6, l7, l8, l9, l10]) (zD_of zk_117 d_117_406 rfl rfl) rfl rfl rfl rfl
theorem q_117_409  : zRun 117 409 L S sh mi mj mr = zRun 117 5 L S sh mi mj mr := zr_go (off := (-404)) (zD_of zk_117 d_117_409 rfl rfl) rfl rfl (by decide)
theorem q_117_412 : zRun 117 412 [l0, l1, l2, some (.int x), l4, l5, l6, l7, l8, l9, l10] S sh mi mj mr = zRun 117 413 [l0, l1, l2, some (.int x), l4, l5, l6, l7, l8, l9, l10] (.int x :: S) sh mi mj mr := zr_l (zD_of zk_117 d_117_412 rfl rfl) rfl rfl rfl
theorem q_117_413  : zRun 117 413 L S sh mi mj mr = zRun 117 414 L (.int 1 :: S) sh mi mj mr := zr_p (zD_of zk_117 d_117_413 rfl rfl) rfl
theorem q_117_414  : zRun 117 414 L (.int y :: .int x :: S) sh mi mj mr = zRun 117 415 L (.int (x + y) :: S) sh mi mj mr := zr_p (zD_of zk_117 d_117_414 rfl rfl) rfl
theorem q_117_415  : zRun 117 415 L ([.int x]) sh mi mj mr = some (some (.int x), sh, mi, mj, mr) := zr_ret (zD_of zk_117 d_117_415 rfl rfl) rfl rfl rfl rfl rfl (if_pos rfl)
theorem e_117 {x0 x1 : Int32} {o0 : Nat} : zCall 117 [.ref o0, .int x0, .int x1] sh mi mj mr = zRun 117 0 [some (.ref o0), some (.int x0), some (.int x1), none, none, none, none, none, none, none, none] [] sh mi mj mr := rfl
theorem d_118_0 : decode cL_abs 0 = .ok (.lload_n 0, 1) := by decide +kernel
theorem d_118_1 : decode cL_abs 1 = .ok (.lconst 0, 1) := by decide +kernel
theorem d_118_2 : decode cL_abs 2 = .ok (.lcmp, 1) := by decide +kernel
theorem d_118_3 : decode cL_abs 3 = .ok (.ifCond .ge 8, 3) := by decide +kernel
theorem d_118_6 : decode cL_abs 6 = .ok (.lload_n 0, 1) := by decide +kernel
theorem d_118_7 : decode cL_abs 7 = .ok (.lneg, 1) := by decide +kernel
theorem d_118_8 : decode cL_abs 8 = .ok (.goto 4, 3) := by decide +kernel
theorem d_118_11 : decode cL_abs 11 = .ok (.lload_n 0, 1) := by decide +kernel
theorem d_118_12 : decode cL_abs 12 = .ok (.lreturn, 1) := by decide +kernel
theorem q_118_0 : zRun 118 0 [some (.long u), l1] S sh mi mj mr = zRun 118 1 [some (.long u), l1] (.long u :: S) sh mi mj mr := zr_l (zD_of zk_118 d_118_0 rfl rfl) rfl rfl rfl
theorem q_118_1  : zRun 118 1 L S sh mi mj mr = zRun 118 2 L (.long 0 :: S) sh mi mj mr := zr_p (zD_of zk_118 d_118_1 rfl rfl) rfl
theorem q_118_2  : zRun 118 2 L (.long v :: .long u :: S) sh mi mj mr = if v ≤ u then zRun 118 11 L S sh mi mj mr else zRun 118 6 L S sh mi mj mr := zr_cmp (off := 8) (zD_of zk_118 d_118_2 rfl rfl) (zD_of zk_118 d_118_3 rfl rfl) rfl rfl (by decide) (lg_cmp_ge u v)
theorem q_118_3  : zRun 118 3 L (.int x :: S) sh mi mj mr = if 0 ≤ x then zRun 118 11 L S sh mi mj mr else zRun 118 6 L S sh mi mj mr := zr_if (off := 8) (P := 0 ≤ x) (zD_of zk_118 d_118_3 rfl rfl) rfl rfl (by decide)
theorem q_118_6 : zRun 118 6 [some (.long u), l1] S sh mi mj mr = zRun 118 7 [some (.long u), l1] (.long u :: S) sh mi mj mr := zr_l (zD_of zk_118 d_118_6 rfl rfl) rfl rfl rfl
theorem q_118_7  : zRun 118 7 L (.long u :: S) sh mi mj mr = zRun 118 8 L (.long (-u) :: S) sh mi mj mr := zr_p (zD_of zk_118 d_118_7 rfl rfl) rfl
theorem q_118_8  : zRun 118 8 L S sh mi mj mr = zRun 118 12 L S sh mi mj mr := zr_go (off := 4) (zD_of zk_118 d_118_8 rfl rfl) rfl rfl (by decide)
theorem q_118_11 : zRun 118 11 [some (.long u), l1] S sh mi mj mr = zRun 118 12 [some (.long u), l1] (.long u :: S) sh mi mj mr := zr_l (zD_of zk_118 d_118_11 rfl rfl) rfl rfl rfl
theorem q_118_12  : zRun 118 12 L ([.long u]) sh mi mj mr = some (some (.long u), sh, mi, mj, mr) := zr_ret (zD_of zk_118 d_118_12 rfl rfl) rfl rfl rfl rfl rfl rfl
theorem e_118 {u0 : Int64} : zCall 118 [.long u0] sh mi mj mr = zRun 118 0 [some (.long u0), none] [] sh mi mj mr := rfl
theorem d_119_0 : decode cL_parts 0 = .ok (.aload_n 0, 1) := by decide +kernel
theorem d_119_1 : decode cL_parts 1 = .ok (.iload_n 1, 1) := by decide +kernel
theorem d_119_2 : decode cL_parts 2 = .ok (.iconst (-1), 1) := by decide +kernel
theorem d_119_3 : decode cL_parts 3 = .ok (.iconst 0, 1) := by decide +kernel
theorem d_119_4 : decode cL_parts 4 = .ok (.invokevirtual 75, 3) := by decide +kernel
theorem d_119_7 : decode cL_parts 7 = .ok (.istore_n 2, 1) := by decide +kernel
theorem d_119_8 : decode cL_parts 8 = .ok (.iconst 0, 1) := by decide +kernel
theorem d_119_9 : decode cL_parts 9 = .ok (.istore_n 3, 1) := by decide +kernel
theorem d_119_10 : decode cL_parts 10 = .ok (.iconst 0, 1) := by decide +kernel
theorem d_119_11 : decode cL_parts 11 = .ok (.istore 4, 2) := by decide +kernel
theorem d_119_13 : decode cL_parts 13 = .ok (.iload 4, 2) := by decide +kernel
theorem d_119_15 : decode cL_parts 15 = .ok (.iload_n 2, 1) := by decide +kernel
theorem d_119_16 : decode cL_parts 16 = .ok (.if_icmp .ge 223, 3) := by decide +kernel
theorem d_119_19 : decode cL_parts 19 = .ok (.aload_n 0, 1) := by decide +kernel
theorem d_119_20 : decode cL_parts 20 = .ok (.iload_n 1, 1) := by decide +kernel
theorem d_119_21 : decode cL_parts 21 = .ok (.iload 4, 2) := by decide +kernel
theorem d_119_23 : decode cL_parts 23 = .ok (.iconst 0, 1) := by decide +kernel
theorem d_119_24 : decode cL_parts 24 = .ok (.invokevirtual 75, 3) := by decide +kernel
theorem d_119_27 : decode cL_parts 27 = .ok (.istore 5, 2) := by decide +kernel
theorem d_119_29 : decode cL_parts 29 = .ok (.iload 5, 2) := by decide +kernel
theorem d_119_31 : decode cL_parts 31 = .ok (.ifCond .le 18, 3) := by decide +kernel
theorem d_119_34 : decode cL_parts 34 = .ok (.iload 5, 2) := by decide +kernel
theorem d_119_36 : decode cL_parts 36 = .ok (.iconst 5, 1) := by decide +kernel
theorem d_119_37 : decode cL_parts 37 = .ok (.if_icmp .ge 12, 3) := by decide +kernel
theorem d_119_40 : decode cL_parts 40 = .ok (.iload_n 3, 1) := by decide +kernel
theorem d_119_41 : decode cL_parts 41 = .ok (.iconst 1, 1) := by decide +kernel
theorem d_119_42 : decode cL_parts 42 = .ok (.iload 5, 2) := by decide +kernel
theorem d_119_44 : decode cL_parts 44 = .ok (.iconst 1, 1) := by decide +kernel
theorem d_119_45 : decode cL_parts 45 = .ok (.isub, 1) := by decide +kernel
theorem d_119_46 : decode cL_parts 46 = .ok (.ishl, 1) := by decide +kernel
theorem d_119_47 : decode cL_parts 47 = .ok (.ior, 1) := by decide +kernel
theorem d_119_48 : decode cL_parts 48 = .ok (.istore_n 3, 1) := by decide +kernel
theorem d_119_49 : decode cL_parts 49 = .ok (.aload_n 0, 1) := by decide +kernel
theorem d_119_50 : decode cL_parts 50 = .ok (.iload_n 1, 1) := by decide +kernel
theorem d_119_51 : decode cL_parts 51 = .ok (.iload 4, 2) := by decide +kernel
theorem d_119_53 : decode cL_parts 53 = .ok (.iconst 1, 1) := by decide +kernel
theorem d_119_54 : decode cL_parts 54 = .ok (.invokevirtual 75, 3) := by decide +kernel
theorem d_119_57 : decode cL_parts 57 = .ok (.bipush (-6), 2) := by decide +kernel
theorem d_119_59 : decode cL_parts 59 = .ok (.if_icmp .ne 7, 3) := by decide +kernel
theorem d_119_62 : decode cL_parts 62 = .ok (.iconst 1, 1) := by decide +kernel
theorem d_119_63 : decode cL_parts 63 = .ok (.goto 4, 3) := by decide +kernel
theorem d_119_66 : decode cL_parts 66 = .ok (.iconst 0, 1) := by decide +kernel
theorem d_119_67 : decode cL_parts 67 = .ok (.iload 5, 2) := by decide +kernel
theorem d_119_69 : decode cL_parts 69 = .ok (.ifCond .eq 7, 3) := by decide +kernel
theorem d_119_72 : decode cL_parts 72 = .ok (.iconst 1, 1) := by decide +kernel
theorem d_119_73 : decode cL_parts 73 = .ok (.goto 4, 3) := by decide +kernel
theorem d_119_76 : decode cL_parts 76 = .ok (.iconst 0, 1) := by decide +kernel
theorem d_119_77 : decode cL_parts 77 = .ok (.if_icmp .eq 5, 3) := by decide +kernel
theorem d_119_80 : decode cL_parts 80 = .ok (.iconst 0, 1) := by decide +kernel
theorem d_119_81 : decode cL_parts 81 = .ok (.ireturn, 1) := by decide +kernel
theorem d_119_82 : decode cL_parts 82 = .ok (.aload_n 0, 1) := by decide +kernel
theorem d_119_83 : decode cL_parts 83 = .ok (.iload_n 1, 1) := by decide +kernel
theorem d_119_84 : decode cL_parts 84 = .ok (.iload 4, 2) := by decide +kernel
theorem d_119_86 : decode cL_parts 86 = .ok (.iconst 0, 1) := by decide +kernel
theorem d_119_87 : decode cL_parts 87 = .ok (.invokevirtual 78, 3) := by decide +kernel
theorem d_119_90 : decode cL_parts 90 = .ok (.lstore 6, 2) := by decide +kernel
theorem d_119_92 : decode cL_parts 92 = .ok (.iload 5, 2) := by decide +kernel
theorem d_119_94 : decode cL_parts 94 = .ok (.ifCond .le 55, 3) := by decide +kernel
theorem d_119_97 : decode cL_parts 97 = .ok (.iload 5, 2) := by decide +kernel
theorem d_119_99 : decode cL_parts 99 = .ok (.iconst 5, 1) := by decide +kernel
theorem d_119_100 : decode cL_parts 100 = .ok (.if_icmp .ge 49, 3) := by decide +kernel
theorem d_119_103 : decode cL_parts 103 = .ok (.lload 6, 2) := by decide +kernel
theorem d_119_105 : decode cL_parts 105 = .ok (.aload_n 0, 1) := by decide +kernel
theorem d_119_106 : decode cL_parts 106 = .ok (.iload 5, 2) := by decide +kernel
theorem d_119_108 : decode cL_parts 108 = .ok (.iconst 1, 1) := by decide +kernel
theorem d_119_109 : decode cL_parts 109 = .ok (.isub, 1) := by decide +kernel
theorem d_119_110 : decode cL_parts 110 = .ok (.iconst 0, 1) := by decide +kernel
theorem d_119_111 : decode cL_parts 111 = .ok (.invokevirtual 82, 3) := by decide +kernel
theorem d_119_114 : decode cL_parts 114 = .ok (.ldc 85, 2) := by decide +kernel
theorem d_119_116 : decode cL_parts 116 = .ok (.isub, 1) := by decide +kernel
theorem d_119_117 : decode cL_parts 117 = .ok (.i2l, 1) := by decide +kernel
theorem d_119_118 : decode cL_parts 118 = .ok (.lcmp, 1) := by decide +kernel
theorem d_119_119 : decode cL_parts 119 = .ok (.ifCond .ne 28, 3) := by decide +kernel
theorem d_119_122 : decode cL_parts 122 = .ok (.aload_n 0, 1) := by decide +kernel
theorem d_119_123 : decode cL_parts 123 = .ok (.iload_n 1, 1) := by decide +kernel
theorem d_119_124 : decode cL_parts 124 = .ok (.iload 4, 2) := by decide +kernel
theorem d_119_126 : decode cL_parts 126 = .ok (.iconst 1, 1) := by decide +kernel
theorem d_119_127 : decode cL_parts 127 = .ok (.invokevirtual 78, 3) := by decide +kernel
theorem d_119_130 : decode cL_parts 130 = .ok (.aload_n 0, 1) := by decide +kernel
theorem d_119_131 : decode cL_parts 131 = .ok (.iload 5, 2) := by decide +kernel
theorem d_119_133 : decode cL_parts 133 = .ok (.iconst 1, 1) := by decide +kernel
theorem d_119_134 : decode cL_parts 134 = .ok (.isub, 1) := by decide +kernel
theorem d_119_135 : decode cL_parts 135 = .ok (.iconst 1, 1) := by decide +kernel
theorem d_119_136 : decode cL_parts 136 = .ok (.invokevirtual 82, 3) := by decide +kernel
theorem d_119_139 : decode cL_parts 139 = .ok (.ldc 85, 2) := by decide +kernel
theorem d_119_141 : decode cL_parts 141 = .ok (.isub, 1) := by decide +kernel
theorem d_119_142 : decode cL_parts 142 = .ok (.i2l, 1) := by decide +kernel
theorem d_119_143 : decode cL_parts 143 = .ok (.lcmp, 1) := by decide +kernel
theorem d_119_144 : decode cL_parts 144 = .ok (.ifCond .eq 5, 3) := by decide +kernel
theorem d_119_147 : decode cL_parts 147 = .ok (.iconst 0, 1) := by decide +kernel
theorem d_119_148 : decode cL_parts 148 = .ok (.ireturn, 1) := by decide +kernel
theorem d_119_149 : decode cL_parts 149 = .ok (.iload 5, 2) := by decide +kernel
theorem d_119_151 : decode cL_parts 151 = .ok (.ifCond .ne 57, 3) := by decide +kernel
theorem d_119_154 : decode cL_parts 154 = .ok (.lload 6, 2) := by decide +kernel
theorem d_119_156 : decode cL_parts 156 = .ok (.ldc2_w 86, 3) := by decide +kernel
theorem d_119_159 : decode cL_parts 159 = .ok (.lmul, 1) := by decide +kernel
theorem d_119_160 : decode cL_parts 160 = .ok (.ldc2_w 88, 3) := by decide +kernel
theorem d_119_163 : decode cL_parts 163 = .ok (.aload_n 0, 1) := by decide +kernel
theorem d_119_164 : decode cL_parts 164 = .ok (.iload_n 1, 1) := by decide +kernel
theorem d_119_165 : decode cL_parts 165 = .ok (.iload 4, 2) := by decide +kernel
theorem d_119_167 : decode cL_parts 167 = .ok (.iconst 1, 1) := by decide +kernel
theorem d_119_168 : decode cL_parts 168 = .ok (.invokevirtual 75, 3) := by decide +kernel
theorem d_119_171 : decode cL_parts 171 = .ok (.i2l, 1) := by decide +kernel
theorem d_119_172 : decode cL_parts 172 = .ok (.lmul, 1) := by decide +kernel
theorem d_119_173 : decode cL_parts 173 = .ok (.lcmp, 1) := by decide +kernel
theorem d_119_174 : decode cL_parts 174 = .ok (.ifCond .gt 32, 3) := by decide +kernel
theorem d_119_177 : decode cL_parts 177 = .ok (.aload_n 0, 1) := by decide +kernel
theorem d_119_178 : decode cL_parts 178 = .ok (.iload_n 1, 1) := by decide +kernel
theorem d_119_179 : decode cL_parts 179 = .ok (.iload 4, 2) := by decide +kernel
theorem d_119_181 : decode cL_parts 181 = .ok (.iconst 1, 1) := by decide +kernel
theorem d_119_182 : decode cL_parts 182 = .ok (.invokevirtual 78, 3) := by decide +kernel
theorem d_119_185 : decode cL_parts 185 = .ok (.ldc2_w 86, 3) := by decide +kernel
theorem d_119_188 : decode cL_parts 188 = .ok (.lmul, 1) := by decide +kernel
theorem d_119_189 : decode cL_parts 189 = .ok (.ldc2_w 88, 3) := by decide +kernel
theorem d_119_192 : decode cL_parts 192 = .ok (.aload_n 0, 1) := by decide +kernel
theorem d_119_193 : decode cL_parts 193 = .ok (.iload_n 1, 1) := by decide +kernel
theorem d_119_194 : decode cL_parts 194 = .ok (.iload 4, 2) := by decide +kernel
theorem d_119_196 : decode cL_parts 196 = .ok (.iconst 1, 1) := by decide +kernel
theorem d_119_197 : decode cL_parts 197 = .ok (.invokevirtual 75, 3) := by decide +kernel
theorem d_119_200 : decode cL_parts 200 = .ok (.i2l, 1) := by decide +kernel
theorem d_119_201 : decode cL_parts 201 = .ok (.lmul, 1) := by decide +kernel
theorem d_119_202 : decode cL_parts 202 = .ok (.lcmp, 1) := by decide +kernel
theorem d_119_203 : decode cL_parts 203 = .ok (.ifCond .ge 5, 3) := by decide +kernel
theorem d_119_206 : decode cL_parts 206 = .ok (.iconst 0, 1) := by decide +kernel
theorem d_119_207 : decode cL_parts 207 = .ok (.ireturn, 1) := by decide +kernel
theorem d_119_208 : decode cL_parts 208 = .ok (.lload 6, 2) := by decide +kernel
theorem d_119_210 : decode cL_parts 210 = .ok (.ldc2_w 90, 3) := by decide +kernel
theorem d_119_213 : decode cL_parts 213 = .ok (.lcmp, 1) := by decide +kernel
theorem d_119_214 : decode cL_parts 214 = .ok (.ifCond .eq 19, 3) := by decide +kernel
theorem d_119_217 : decode cL_parts 217 = .ok (.lload 6, 2) := by decide +kernel
theorem d_119_219 : decode cL_parts 219 = .ok (.aload_n 0, 1) := by decide +kernel
theorem d_119_220 : decode cL_parts 220 = .ok (.iload_n 1, 1) := by decide +kernel
theorem d_119_221 : decode cL_parts 221 = .ok (.iload 4, 2) := by decide +kernel
theorem d_119_223 : decode cL_parts 223 = .ok (.iconst 1, 1) := by decide +kernel
theorem d_119_224 : decode cL_parts 224 = .ok (.invokevirtual 78, 3) := by decide +kernel
theorem d_119_227 : decode cL_parts 227 = .ok (.lcmp, 1) := by decide +kernel
theorem d_119_228 : decode cL_parts 228 = .ok (.ifCond .le 5, 3) := by decide +kernel
theorem d_119_231 : decode cL_parts 231 = .ok (.iconst 0, 1) := by decide +kernel
theorem d_119_232 : decode cL_parts 232 = .ok (.ireturn, 1) := by decide +kernel
theorem d_119_233 : decode cL_parts 233 = .ok (.iinc 4 1, 3) := by decide +kernel
theorem d_119_236 : decode cL_parts 236 = .ok (.goto (-223), 3) := by decide +kernel
theorem d_119_239 : decode cL_parts 239 = .ok (.iload_n 3, 1) := by decide +kernel
theorem d_119_240 : decode cL_parts 240 = .ok (.aload_n 0, 1) := by decide +kernel
theorem d_119_241 : decode cL_parts 241 = .ok (.iload_n 1, 1) := by decide +kernel
theorem d_119_242 : decode cL_parts 242 = .ok (.invokevirtual 92, 3) := by decide +kernel
theorem d_119_245 : decode cL_parts 245 = .ok (.if_icmp .eq 5, 3) := by decide +kernel
theorem d_119_248 : decode cL_parts 248 = .ok (.iconst 0, 1) := by decide +kernel
theorem d_119_249 : decode cL_parts 249 = .ok (.ireturn, 1) := by decide +kernel
theorem d_119_250 : decode cL_parts 250 = .ok (.aload_n 0, 1) := by decide +kernel
theorem d_119_251 : decode cL_parts 251 = .ok (.iload_n 1, 1) := by decide +kernel
theorem d_119_252 : decode cL_parts 252 = .ok (.invokevirtual 95, 3) := by decide +kernel
theorem d_119_255 : decode cL_parts 255 = .ok (.ifCond .le 50, 3) := by decide +kernel
theorem d_119_258 : decode cL_parts 258 = .ok (.aload_n 0, 1) := by decide +kernel
theorem d_119_259 : decode cL_parts 259 = .ok (.iload_n 1, 1) := by decide +kernel
theorem d_119_260 : decode cL_parts 260 = .ok (.iconst 0, 1) := by decide +kernel
theorem d_119_261 : decode cL_parts 261 = .ok (.iconst 0, 1) := by decide +kernel
theorem d_119_262 : decode cL_parts 262 = .ok (.invokevirtual 98, 3) := by decide +kernel
theorem d_119_265 : decode cL_parts 265 = .ok (.ldc2_w 90, 3) := by decide +kernel
theorem d_119_268 : decode cL_parts 268 = .ok (.lcmp, 1) := by decide +kernel
theorem d_119_269 : decode cL_parts 269 = .ok (.ifCond .ne 34, 3) := by decide +kernel
theorem d_119_272 : decode cL_parts 272 = .ok (.aload_n 0, 1) := by decide +kernel
theorem d_119_273 : decode cL_parts 273 = .ok (.iload_n 1, 1) := by decide +kernel
theorem d_119_274 : decode cL_parts 274 = .ok (.iload_n 2, 1) := by decide +kernel
theorem d_119_275 : decode cL_parts 275 = .ok (.iconst 1, 1) := by decide +kernel
theorem d_119_276 : decode cL_parts 276 = .ok (.isub, 1) := by decide +kernel
theorem d_119_277 : decode cL_parts 277 = .ok (.iconst 0, 1) := by decide +kernel
theorem d_119_278 : decode cL_parts 278 = .ok (.invokevirtual 78, 3) := by decide +kernel
theorem d_119_281 : decode cL_parts 281 = .ok (.ldc2_w 90, 3) := by decide +kernel
theorem d_119_284 : decode cL_parts 284 = .ok (.lcmp, 1) := by decide +kernel
theorem d_119_285 : decode cL_parts 285 = .ok (.ifCond .ne 18, 3) := by decide +kernel
theorem d_119_288 : decode cL_parts 288 = .ok (.aload_n 0, 1) := by decide +kernel
theorem d_119_289 : decode cL_parts 289 = .ok (.iload_n 1, 1) := by decide +kernel
theorem d_119_290 : decode cL_parts 290 = .ok (.iload_n 1, 1) := by decide +kernel
theorem d_119_291 : decode cL_parts 291 = .ok (.invokevirtual 101, 3) := by decide +kernel
theorem d_119_294 : decode cL_parts 294 = .ok (.bipush (-5), 2) := by decide +kernel
theorem d_119_296 : decode cL_parts 296 = .ok (.if_icmp .ne 7, 3) := by decide +kernel
theorem d_119_299 : decode cL_parts 299 = .ok (.iconst 1, 1) := by decide +kernel
theorem d_119_300 : decode cL_parts 300 = .ok (.goto 4, 3) := by decide +kernel
theorem d_119_303 : decode cL_parts 303 = .ok (.iconst 0, 1) := by decide +kernel
theorem d_119_304 : decode cL_parts 304 = .ok (.ireturn, 1) := by decide +kernel
theorem d_119_305 : decode cL_parts 305 = .ok (.aload_n 0, 1) := by decide +kernel
theorem d_119_306 : decode cL_parts 306 = .ok (.iload_n 1, 1) := by decide +kernel
theorem d_119_307 : decode cL_parts 307 = .ok (.bipush 13, 2) := by decide +kernel
theorem d_119_309 : decode cL_parts 309 = .ok (.invokevirtual 104, 3) := by decide +kernel
theorem d_119_312 : decode cL_parts 312 = .ok (.lstore 4, 2) := by decide +kernel
theorem d_119_314 : decode cL_parts 314 = .ok (.iconst 0, 1) := by decide +kernel
theorem d_119_315 : decode cL_parts 315 = .ok (.istore 6, 2) := by decide +kernel
theorem d_119_317 : decode cL_parts 317 = .ok (.iload 6, 2) := by decide +kernel
theorem d_119_319 : decode cL_parts 319 = .ok (.bipush 12, 2) := by decide +kernel
theorem d_119_321 : decode cL_parts 321 = .ok (.if_icmp .ge 77, 3) := by decide +kernel
theorem d_119_324 : decode cL_parts 324 = .ok (.lload 4, 2) := by decide +kernel
theorem d_119_326 : decode cL_parts 326 = .ok (.aload_n 0, 1) := by decide +kernel
theorem d_119_327 : decode cL_parts 327 = .ok (.iload_n 1, 1) := by decide +kernel
theorem d_119_328 : decode cL_parts 328 = .ok (.iload 6, 2) := by decide +kernel
theorem d_119_330 : decode cL_parts 330 = .ok (.invokevirtual 104, 3) := by decide +kernel
theorem d_119_333 : decode cL_parts 333 = .ok (.invokestatic 108, 3) := by decide +kernel
theorem d_119_336 : decode cL_parts 336 = .ok (.ladd, 1) := by decide +kernel
theorem d_119_337 : decode cL_parts 337 = .ok (.lstore 4, 2) := by decide +kernel
theorem d_119_339 : decode cL_parts 339 = .ok (.iload 6, 2) := by decide +kernel
theorem d_119_341 : decode cL_parts 341 = .ok (.iconst 3, 1) := by decide +kernel
theorem d_119_342 : decode cL_parts 342 = .ok (.aload_n 0, 1) := by decide +kernel
theorem d_119_343 : decode cL_parts 343 = .ok (.iconst 2, 1) := by decide +kernel
theorem d_119_344 : decode cL_parts 344 = .ok (.invokevirtual 39, 3) := by decide +kernel
theorem d_119_347 : decode cL_parts 347 = .ok (.iadd, 1) := by decide +kernel
theorem d_119_348 : decode cL_parts 348 = .ok (.if_icmp .le 15, 3) := by decide +kernel
theorem d_119_351 : decode cL_parts 351 = .ok (.aload_n 0, 1) := by decide +kernel
theorem d_119_352 : decode cL_parts 352 = .ok (.iload_n 1, 1) := by decide +kernel
theorem d_119_353 : decode cL_parts 353 = .ok (.iload 6, 2) := by decide +kernel
theorem d_119_355 : decode cL_parts 355 = .ok (.invokevirtual 104, 3) := by decide +kernel
theorem d_119_358 : decode cL_parts 358 = .ok (.lconst 0, 1) := by decide +kernel
theorem d_119_359 : decode cL_parts 359 = .ok (.lcmp, 1) := by decide +kernel
theorem d_119_360 : decode cL_parts 360 = .ok (.ifCond .ne 30, 3) := by decide +kernel
theorem d_119_363 : decode cL_parts 363 = .ok (.iload 6, 2) := by decide +kernel
theorem d_119_365 : decode cL_parts 365 = .ok (.iconst 4, 1) := by decide +kernel
theorem d_119_366 : decode cL_parts 366 = .ok (.if_icmp .ge 26, 3) := by decide +kernel
theorem d_119_369 : decode cL_parts 369 = .ok (.iload_n 3, 1) := by decide +kernel
theorem d_119_370 : decode cL_parts 370 = .ok (.iload 6, 2) := by decide +kernel
theorem d_119_372 : decode cL_parts 372 = .ok (.ishr, 1) := by decide +kernel
theorem d_119_373 : decode cL_parts 373 = .ok (.iconst 1, 1) := by decide +kernel
theorem d_119_374 : decode cL_parts 374 = .ok (.iand, 1) := by decide +kernel
theorem d_119_375 : decode cL_parts 375 = .ok (.ifCond .ne 17, 3) := by decide +kernel
theorem d_119_378 : decode cL_parts 378 = .ok (.aload_n 0, 1) := by decide +kernel
theorem d_119_379 : decode cL_parts 379 = .ok (.iload_n 1, 1) := by decide +kernel
theorem d_119_380 : decode cL_parts 380 = .ok (.iload 6, 2) := by decide +kernel
theorem d_119_382 : decode cL_parts 382 = .ok (.invokevirtual 104, 3) := by decide +kernel
theorem d_119_385 : decode cL_parts 385 = .ok (.lconst 0, 1) := by decide +kernel
theorem d_119_386 : decode cL_parts 386 = .ok (.lcmp, 1) := by decide +kernel
theorem d_119_387 : decode cL_parts 387 = .ok (.ifCond .eq 5, 3) := by decide +kernel
theorem d_119_390 : decode cL_parts 390 = .ok (.iconst 0, 1) := by decide +kernel
theorem d_119_391 : decode cL_parts 391 = .ok (.ireturn, 1) := by decide +kernel
theorem d_119_392 : decode cL_parts 392 = .ok (.iinc 6 1, 3) := by decide +kernel
theorem d_119_395 : decode cL_parts 395 = .ok (.goto (-78), 3) := by decide +kernel
theorem d_119_398 : decode cL_parts 398 = .ok (.aload_n 0, 1) := by decide +kernel
theorem d_119_399 : decode cL_parts 399 = .ok (.iload_n 1, 1) := by decide +kernel
theorem d_119_400 : decode cL_parts 400 = .ok (.bipush 12, 2) := by decide +kernel
theorem d_119_402 : decode cL_parts 402 = .ok (.invokevirtual 104, 3) := by decide +kernel
theorem d_119_405 : decode cL_parts 405 = .ok (.lload 4, 2) := by decide +kernel
theorem d_119_407 : decode cL_parts 407 = .ok (.lsub, 1) := by decide +kernel
theorem d_119_408 : decode cL_parts 408 = .ok (.lstore 6, 2) := by decide +kernel
theorem d_119_410 : decode cL_parts 410 = .ok (.aload_n 0, 1) := by decide +kernel
theorem d_119_411 : decode cL_parts 411 = .ok (.iload_n 1, 1) := by decide +kernel
theorem d_119_412 : decode cL_parts 412 = .ok (.bipush 12, 2) := by decide +kernel
theorem d_119_414 : decode cL_parts 414 = .ok (.invokevirtual 104, 3) := by decide +kernel
theorem d_119_417 : decode cL_parts 417 = .ok (.lload 4, 2) := by decide +kernel
theorem d_119_419 : decode cL_parts 419 = .ok (.ladd, 1) := by decide +kernel
theorem d_119_420 : decode cL_parts 420 = .ok (.lstore 8, 2) := by decide +kernel
theorem d_119_422 : decode cL_parts 422 = .ok (.aload_n 0, 1) := by decide +kernel
theorem d_119_423 : decode cL_parts 423 = .ok (.iload_n 1, 1) := by decide +kernel
theorem d_119_424 : decode cL_parts 424 = .ok (.iconst 1, 1) := by decide +kernel
theorem d_119_425 : decode cL_parts 425 = .ok (.iconst 0, 1) := by decide +kernel
theorem d_119_426 : decode cL_parts 426 = .ok (.invokevirtual 98, 3) := by decide +kernel
theorem d_119_429 : decode cL_parts 429 = .ok (.lstore 10, 2) := by decide +kernel
theorem d_119_431 : decode cL_parts 431 = .ok (.aload_n 0, 1) := by decide +kernel
theorem d_119_432 : decode cL_parts 432 = .ok (.iload_n 1, 1) := by decide +kernel
theorem d_119_433 : decode cL_parts 433 = .ok (.iconst 1, 1) := by decide +kernel
theorem d_119_434 : decode cL_parts 434 = .ok (.iconst 1, 1) := by decide +kernel
theorem d_119_435 : decode cL_parts 435 = .ok (.invokevirtual 98, 3) := by decide +kernel
theorem d_119_438 : decode cL_parts 438 = .ok (.lstore 12, 2) := by decide +kernel
theorem d_119_440 : decode cL_parts 440 = .ok (.aload_n 0, 1) := by decide +kernel
theorem d_119_441 : decode cL_parts 441 = .ok (.iload_n 1, 1) := by decide +kernel
theorem d_119_442 : decode cL_parts 442 = .ok (.bipush 14, 2) := by decide +kernel
theorem d_119_444 : decode cL_parts 444 = .ok (.invokevirtual 104, 3) := by decide +kernel
theorem d_119_447 : decode cL_parts 447 = .ok (.lload 4, 2) := by decide +kernel
theorem d_119_449 : decode cL_parts 449 = .ok (.lcmp, 1) := by decide +kernel
theorem d_119_450 : decode cL_parts 450 = .ok (.ifCond .ne 119, 3) := by decide +kernel
theorem d_119_453 : decode cL_parts 453 = .ok (.aload_n 0, 1) := by decide +kernel
theorem d_119_454 : decode cL_parts 454 = .ok (.iload_n 1, 1) := by decide +kernel
theorem d_119_455 : decode cL_parts 455 = .ok (.iconst 0, 1) := by decide +kernel
theorem d_119_456 : decode cL_parts 456 = .ok (.iconst 0, 1) := by decide +kernel
theorem d_119_457 : decode cL_parts 457 = .ok (.invokevirtual 98, 3) := by decide +kernel
theorem d_119_460 : decode cL_parts 460 = .ok (.lload 6, 2) := by decide +kernel
theorem d_119_462 : decode cL_parts 462 = .ok (.lcmp, 1) := by decide +kernel
theorem d_119_463 : decode cL_parts 463 = .ok (.ifCond .ne 106, 3) := by decide +kernel
theorem d_119_466 : decode cL_parts 466 = .ok (.aload_n 0, 1) := by decide +kernel
theorem d_119_467 : decode cL_parts 467 = .ok (.iload_n 1, 1) := by decide +kernel
theorem d_119_468 : decode cL_parts 468 = .ok (.iconst 0, 1) := by decide +kernel
theorem d_119_469 : decode cL_parts 469 = .ok (.iconst 1, 1) := by decide +kernel
theorem d_119_470 : decode cL_parts 470 = .ok (.invokevirtual 98, 3) := by decide +kernel
theorem d_119_473 : decode cL_parts 473 = .ok (.lload 8, 2) := by decide +kernel
theorem d_119_475 : decode cL_parts 475 = .ok (.lcmp, 1) := by decide +kernel
theorem d_119_476 : decode cL_parts 476 = .ok (.ifCond .ne 93, 3) := by decide +kernel
theorem d_119_479 : decode cL_parts 479 = .ok (.aload_n 0, 1) := by decide +kernel
theorem d_119_480 : decode cL_parts 480 = .ok (.iload_n 1, 1) := by decide +kernel
theorem d_119_481 : decode cL_parts 481 = .ok (.iconst 2, 1) := by decide +kernel
theorem d_119_482 : decode cL_parts 482 = .ok (.iconst 0, 1) := by decide +kernel
theorem d_119_483 : decode cL_parts 483 = .ok (.invokevirtual 98, 3) := by decide +kernel
theorem d_119_486 : decode cL_parts 486 = .ok (.lload 6, 2) := by decide +kernel
theorem d_119_488 : decode cL_parts 488 = .ok (.lload 10, 2) := by decide +kernel
theorem d_119_490 : decode cL_parts 490 = .ok (.lcmp, 1) := by decide +kernel
theorem d_119_491 : decode cL_parts 491 = .ok (.ifCond .le 8, 3) := by decide +kernel
theorem d_119_494 : decode cL_parts 494 = .ok (.lload 6, 2) := by decide +kernel
theorem d_119_496 : decode cL_parts 496 = .ok (.goto 5, 3) := by decide +kernel
theorem d_119_499 : decode cL_parts 499 = .ok (.lload 10, 2) := by decide +kernel
theorem d_119_501 : decode cL_parts 501 = .ok (.lcmp, 1) := by decide +kernel
theorem d_119_502 : decode cL_parts 502 = .ok (.ifCond .ne 67, 3) := by decide +kernel
theorem d_119_505 : decode cL_parts 505 = .ok (.aload_n 0, 1) := by decide +kernel
theorem d_119_506 : decode cL_parts 506 = .ok (.iload_n 1, 1) := by decide +kernel
theorem d_119_507 : decode cL_parts 507 = .ok (.iconst 2, 1) := by decide +kernel
theorem d_119_508 : decode cL_parts 508 = .ok (.iconst 1, 1) := by decide +kernel
theorem d_119_509 : decode cL_parts 509 = .ok (.invokevirtual 98, 3) := by decide +kernel
theorem d_119_512 : decode cL_parts 512 = .ok (.lload 8, 2) := by decide +kernel
theorem d_119_514 : decode cL_parts 514 = .ok (.lload 12, 2) := by decide +kernel
theorem d_119_516 : decode cL_parts 516 = .ok (.lcmp, 1) := by decide +kernel
theorem d_119_517 : decode cL_parts 517 = .ok (.ifCond .ge 8, 3) := by decide +kernel
theorem d_119_520 : decode cL_parts 520 = .ok (.lload 8, 2) := by decide +kernel
theorem d_119_522 : decode cL_parts 522 = .ok (.goto 5, 3) := by decide +kernel
theorem d_119_525 : decode cL_parts 525 = .ok (.lload 12, 2) := by decide +kernel
theorem d_119_527 : decode cL_parts 527 = .ok (.lcmp, 1) := by decide +kernel
theorem d_119_528 : decode cL_parts 528 = .ok (.ifCond .ne 41, 3) := by decide +kernel
theorem d_119_531 : decode cL_parts 531 = .ok (.aload_n 0, 1) := by decide +kernel
theorem d_119_532 : decode cL_parts 532 = .ok (.iload_n 1, 1) := by decide +kernel
theorem d_119_533 : decode cL_parts 533 = .ok (.invokevirtual 112, 3) := by decide +kernel
theorem d_119_536 : decode cL_parts 536 = .ok (.lload 12, 2) := by decide +kernel
theorem d_119_538 : decode cL_parts 538 = .ok (.lload 10, 2) := by decide +kernel
theorem d_119_540 : decode cL_parts 540 = .ok (.lsub, 1) := by decide +kernel
theorem d_119_541 : decode cL_parts 541 = .ok (.lload 8, 2) := by decide +kernel
theorem d_119_543 : decode cL_parts 543 = .ok (.lsub, 1) := by decide +kernel
theorem d_119_544 : decode cL_parts 544 = .ok (.lload 6, 2) := by decide +kernel
theorem d_119_546 : decode cL_parts 546 = .ok (.ladd, 1) := by decide +kernel
theorem d_119_547 : decode cL_parts 547 = .ok (.lcmp, 1) := by decide +kernel
theorem d_119_548 : decode cL_parts 548 = .ok (.ifCond .ne 21, 3) := by decide +kernel
theorem d_119_551 : decode cL_parts 551 = .ok (.aload_n 0, 1) := by decide +kernel
theorem d_119_552 : decode cL_parts 552 = .ok (.iload_n 1, 1) := by decide +kernel
theorem d_119_553 : decode cL_parts 553 = .ok (.iconst 2, 1) := by decide +kernel
theorem d_119_554 : decode cL_parts 554 = .ok (.iconst 0, 1) := by decide +kernel
theorem d_119_555 : decode cL_parts 555 = .ok (.invokevirtual 98, 3) := by decide +kernel
theorem d_119_558 : decode cL_parts 558 = .ok (.aload_n 0, 1) := by decide +kernel
theorem d_119_559 : decode cL_parts 559 = .ok (.iload_n 1, 1) := by decide +kernel
theorem d_119_560 : decode cL_parts 560 = .ok (.iconst 2, 1) := by decide +kernel
theorem d_119_561 : decode cL_parts 561 = .ok (.iconst 1, 1) := by decide +kernel
theorem d_119_562 : decode cL_parts 562 = .ok (.invokevirtual 98, 3) := by decide +kernel
theorem d_119_565 : decode cL_parts 565 = .ok (.lcmp, 1) := by decide +kernel
theorem d_119_566 : decode cL_parts 566 = .ok (.ifCond .le 5, 3) := by decide +kernel
theorem d_119_569 : decode cL_parts 569 = .ok (.iconst 0, 1) := by decide +kernel
theorem d_119_570 : decode cL_parts 570 = .ok (.ireturn, 1) := by decide +kernel
theorem d_119_571 : decode cL_parts 571 = .ok (.aload_n 0, 1) := by decide +kernel
theorem d_119_572 : decode cL_parts 572 = .ok (.iload_n 1, 1) := by decide +kernel
theorem d_119_573 : decode cL_parts 573 = .ok (.invokevirtual 116, 3) := by decide +kernel
theorem d_119_576 : decode cL_parts 576 = .ok (.istore 14, 2) := by decide +kernel
theorem d_119_578 : decode cL_parts 578 = .ok (.iconst 0, 1) := by decide +kernel
theorem d_119_579 : decode cL_parts 579 = .ok (.istore 15, 2) := by decide +kernel
theorem d_119_581 : decode cL_parts 581 = .ok (.iload 15, 2) := by decide +kernel
theorem d_119_583 : decode cL_parts 583 = .ok (.iconst 4, 1) := by decide +kernel
theorem d_119_584 : decode cL_parts 584 = .ok (.if_icmp .ge 55, 3) := by decide +kernel
theorem d_119_587 : decode cL_parts 587 = .ok (.iload 14, 2) := by decide +kernel
theorem d_119_589 : decode cL_parts 589 = .ok (.ifCond .ge 18, 3) := by decide +kernel
theorem d_119_592 : decode cL_parts 592 = .ok (.aload_n 0, 1) := by decide +kernel
theorem d_119_593 : decode cL_parts 593 = .ok (.iload_n 1, 1) := by decide +kernel
theorem d_119_594 : decode cL_parts 594 = .ok (.iload 15, 2) := by decide +kernel
theorem d_119_596 : decode cL_parts 596 = .ok (.invokevirtual 104, 3) := by decide +kernel
theorem d_119_599 : decode cL_parts 599 = .ok (.lconst 0, 1) := by decide +kernel
theorem d_119_600 : decode cL_parts 600 = .ok (.lcmp, 1) := by decide +kernel
theorem d_119_601 : decode cL_parts 601 = .ok (.ifCond .eq 32, 3) := by decide +kernel
theorem d_119_604 : decode cL_parts 604 = .ok (.goto 27, 3) := by decide +kernel
theorem d_119_607 : decode cL_parts 607 = .ok (.aload_n 0, 1) := by decide +kernel
theorem d_119_608 : decode cL_parts 608 = .ok (.iload_n 1, 1) := by decide +kernel
theorem d_119_609 : decode cL_parts 609 = .ok (.iload 15, 2) := by decide +kernel
theorem d_119_611 : decode cL_parts 611 = .ok (.invokevirtual 104, 3) := by decide +kernel
theorem d_119_614 : decode cL_parts 614 = .ok (.invokestatic 108, 3) := by decide +kernel
theorem d_119_617 : decode cL_parts 617 = .ok (.aload_n 0, 1) := by decide +kernel
theorem d_119_618 : decode cL_parts 618 = .ok (.iload_n 1, 1) := by decide +kernel
theorem d_119_619 : decode cL_parts 619 = .ok (.iload 14, 2) := by decide +kernel
theorem d_119_621 : decode cL_parts 621 = .ok (.invokevirtual 104, 3) := by decide +kernel
theorem d_119_624 : decode cL_parts 624 = .ok (.invokestatic 108, 3) := by decide +kernel
theorem d_119_627 : decode cL_parts 627 = .ok (.lcmp, 1) := by decide +kernel
theorem d_119_628 : decode cL_parts 628 = .ok (.ifCond .le 5, 3) := by decide +kernel
theorem d_119_631 : decode cL_parts 631 = .ok (.iconst 0, 1) := by decide +kernel
theorem d_119_632 : decode cL_parts 632 = .ok (.ireturn, 1) := by decide +kernel
theorem d_119_633 : decode cL_parts 633 = .ok (.iinc 15 1, 3) := by decide +kernel
theorem d_119_636 : decode cL_parts 636 = .ok (.goto (-55), 3) := by decide +kernel
theorem d_119_639 : decode cL_parts 639 = .ok (.aload_n 0, 1) := by decide +kernel
theorem d_119_640 : decode cL_parts 640 = .ok (.iload_n 1, 1) := by decide +kernel
theorem d_119_641 : decode cL_parts 641 = .ok (.iload_n 2, 1) := by decide +kernel
theorem d_119_642 : decode cL_parts 642 = .ok (.iconst 1, 1) := by decide +kernel
theorem d_119_643 : decode cL_parts 643 = .ok (.isub, 1) := by decide +kernel
theorem d_119_644 : decode cL_parts 644 = .ok (.iconst 0, 1) := by decide +kernel
theorem d_119_645 : decode cL_parts 645 = .ok (.invokevirtual 78, 3) := by decide +kernel
theorem d_119_648 : decode cL_parts 648 = .ok (.aload_n 0, 1) := by decide +kernel
theorem d_119_649 : decode cL_parts 649 = .ok (.iload_n 1, 1) := by decide +kernel
theorem d_119_650 : decode cL_parts 650 = .ok (.iconst 2, 1) := by decide +kernel
theorem d_119_651 : decode cL_parts 651 = .ok (.iconst 0, 1) := by decide +kernel
theorem d_119_652 : decode cL_parts 652 = .ok (.invokevirtual 98, 3) := by decide +kernel
theorem d_119_655 : decode cL_parts 655 = .ok (.lcmp, 1) := by decide +kernel
theorem d_119_656 : decode cL_parts 656 = .ok (.ifCond .ne 7, 3) := by decide +kernel
theorem d_119_659 : decode cL_parts 659 = .ok (.iconst 1, 1) := by decide +kernel
theorem d_119_660 : decode cL_parts 660 = .ok (.goto 4, 3) := by decide +kernel
theorem d_119_663 : decode cL_parts 663 = .ok (.iconst 0, 1) := by decide +kernel
theorem d_119_664 : decode cL_parts 664 = .ok (.ireturn, 1) := by decide +kernel
theorem q_119_0r : zRun 119 0 [some (.ref o), l1, l2, l3, l4, l5, l6, l7, l8, l9, l10, l11, l12, l13, l14, l15] S sh mi mj mr = zRun 119 1 [some (.ref o), l1, l2, l3, l4, l5, l6, l7, l8, l9, l10, l11, l12, l13, l14, l15] (.ref o :: S) sh mi mj mr := zr_l (zD_of zk_119 d_119_0 rfl rfl) rfl rfl rfl
theorem q_119_0n : zRun 119 0 [some (.null), l1, l2, l3, l4, l5, l6, l7, l8, l9, l10, l11, l12, l13, l14, l15] S sh mi mj mr = zRun 119 1 [some (.null), l1, l2, l3, l4, l5, l6, l7, l8, l9, l10, l11, l12, l13, l14, l15] (.null :: S) sh mi mj mr := zr_l (zD_of zk_119 d_119_0 rfl rfl) rfl rfl rfl
theorem q_119_1 : zRun 119 1 [l0, some (.int x), l2, l3, l4, l5, l6, l7, l8, l9, l10, l11, l12, l13, l14, l15] S sh mi mj mr = zRun 119 2 [l0, some (.int x), l2, l3, l4, l5, l6, l7, l8, l9, l10, l11, l12, l13, l14, l15] (.int x :: S) sh mi mj mr := zr_l (zD_of zk_119 d_119_1 rfl rfl) rfl rfl rfl
theorem q_119_2  : zRun 119 2 L S sh mi mj mr = zRun 119 3 L (.int (-1) :: S) sh mi mj mr := zr_p (zD_of zk_119 d_119_2 rfl rfl) rfl
theorem q_119_3  : zRun 119 3 L S sh mi mj mr = zRun 119 4 L (.int 0 :: S) sh mi mj mr := zr_p (zD_of zk_119 d_119_3 rfl rfl) rfl
theorem q_119_4  {x0 x1 x2 : Int32} (hS : zcat S ≤ 8) (h : zIs sh o 0 7) : zRun 119 4 L (.int x2 :: .int x1 :: .int x0 :: .ref o :: S) sh mi mj mr = (zCall 86 [.ref o, .int x0, .int x1, .int x2] sh mi mj mr).bind fun r => zRun 119 7 L (r.1.toList ++ S) r.2.1 r.2.2.1 r.2.2.2.1 r.2.2.2.2 := zr_V (zD_of zk_119 d_119_4 rfl rfl) rfl zk_86 rfl rfl rfl hS h
theorem q_119_7 : zRun 119 7 [l0, l1, l2, l3, l4, l5, l6, l7, l8, l9, l10, l11, l12, l13, l14, l15] (.int x :: S) sh mi mj mr = zRun 119 8 [l0, zk2 l1, some (.int x), l3, l4, l5, l6, l7, l8, l9, l10, l11, l12, l13, l14, l15] S sh mi mj mr := zr_s1 (i := 2) (v := .int x) (L := [l0, l1, l2, l3, l4, l5, l6, l7, l8, l9, l10, l11, l12, l13, l14, l15]) (zD_of zk_119 d_119_7 rfl rfl) rfl rfl rfl rfl
theorem q_119_8  : zRun 119 8 L S sh mi mj mr = zRun 119 9 L (.int 0 :: S) sh mi mj mr := zr_p (zD_of zk_119 d_119_8 rfl rfl) rfl
theorem q_119_9 : zRun 119 9 [l0, l1, l2, l3, l4, l5, l6, l7, l8, l9, l10, l11, l12, l13, l14, l15] (.int x :: S) sh mi mj mr = zRun 119 10 [l0, l1, zk2 l2, some (.int x), l4, l5, l6, l7, l8, l9, l10, l11, l12, l13, l14, l15] S sh mi mj mr := zr_s1 (i := 3) (v := .int x) (L := [l0, l1, l2, l3, l4, l5, l6, l7, l8, l9, l10, l11, l12, l13, l14, l15]) (zD_of zk_119 d_119_9 rfl rfl) rfl rfl rfl rfl
theorem q_119_10  : zRun 119 10 L S sh mi mj mr = zRun 119 11 L (.int 0 :: S) sh mi mj mr := zr_p (zD_of zk_119 d_119_10 rfl rfl) rfl
theorem q_119_11 : zRun 119 11 [l0, l1, l2, l3, l4, l5, l6, l7, l8, l9, l10, l11, l12, l13, l14, l15] (.int x :: S) sh mi mj mr = zRun 119 13 [l0, l1, l2, zk2 l3, some (.int x), l5, l6, l7, l8, l9, l10, l11, l12, l13, l14, l15] S sh mi mj mr := zr_s1 (i := 4) (v := .int x) (L := [l0, l1, l2, l3, l4, l5, l6, l7, l8, l9, l10, l11, l12, l13, l14, l15]) (zD_of zk_119 d_119_11 rfl rfl) rfl rfl rfl rfl
theorem q_119_13 : zRun 119 13 [l0, l1, l2, l3, some (.int x), l5, l6, l7, l8, l9, l10, l11, l12, l13, l14, l15] S sh mi mj mr = zRun 119 15 [l0, l1, l2, l3, some (.int x), l5, l6, l7, l8, l9, l10, l11, l12, l13, l14, l15] (.int x :: S) sh mi mj mr := zr_l (zD_of zk_119 d_119_13 rfl rfl) rfl rfl rfl
theorem q_119_15 : zRun 119 15 [l0, l1, some (.int x), l3, l4, l5, l6, l7, l8, l9, l10, l11, l12, l13, l14, l15] S sh mi mj mr = zRun 119 16 [l0, l1, some (.int x), l3, l4, l5, l6, l7, l8, l9, l10, l11, l12, l13, l14, l15] (.int x :: S) sh mi mj mr := zr_l (zD_of zk_119 d_119_15 rfl rfl) rfl rfl rfl
theorem q_119_16  : zRun 119 16 L (.int y :: .int x :: S) sh mi mj mr = if y ≤ x then zRun 119 239 L S sh mi mj mr else zRun 119 19 L S sh mi mj mr := zr_if (off := 223) (P := y ≤ x) (zD_of zk_119 d_119_16 rfl rfl) rfl rfl (by decide)
theorem q_119_19r : zRun 119 19 [some (.ref o), l1, l2, l3, l4, l5, l6, l7, l8, l9, l10, l11, l12, l13, l14, l15] S sh mi mj mr = zRun 119 20 [some (.ref o), l1, l2, l3, l4, l5, l6, l7, l8, l9, l10, l11, l12, l13, l14, l15] (.ref o :: S) sh mi mj mr := zr_l (zD_of zk_119 d_119_19 rfl rfl) rfl rfl rfl
theorem q_119_19n : zRun 119 19 [some (.null), l1, l2, l3, l4, l5, l6, l7, l8, l9, l10, l11, l12, l13, l14, l15] S sh mi mj mr = zRun 119 20 [some (.null), l1, l2, l3, l4, l5, l6, l7, l8, l9, l10, l11, l12, l13, l14, l15] (.null :: S) sh mi mj mr := zr_l (zD_of zk_119 d_119_19 rfl rfl) rfl rfl rfl
theorem q_119_20 : zRun 119 20 [l0, some (.int x), l2, l3, l4, l5, l6, l7, l8, l9, l10, l11, l12, l13, l14, l15] S sh mi mj mr = zRun 119 21 [l0, some (.int x), l2, l3, l4, l5, l6, l7, l8, l9, l10, l11, l12, l13, l14, l15] (.int x :: S) sh mi mj mr := zr_l (zD_of zk_119 d_119_20 rfl rfl) rfl rfl rfl
theorem q_119_21 : zRun 119 21 [l0, l1, l2, l3, some (.int x), l5, l6, l7, l8, l9, l10, l11, l12, l13, l14, l15] S sh mi mj mr = zRun 119 23 [l0, l1, l2, l3, some (.int x), l5, l6, l7, l8, l9, l10, l11, l12, l13, l14, l15] (.int x :: S) sh mi mj mr := zr_l (zD_of zk_119 d_119_21 rfl rfl) rfl rfl rfl
theorem q_119_23  : zRun 119 23 L S sh mi mj mr = zRun 119 24 L (.int 0 :: S) sh mi mj mr := zr_p (zD_of zk_119 d_119_23 rfl rfl) rfl
theorem q_119_24  {x0 x1 x2 : Int32} (hS : zcat S ≤ 8) (h : zIs sh o 0 7) : zRun 119 24 L (.int x2 :: .int x1 :: .int x0 :: .ref o :: S) sh mi mj mr = (zCall 86 [.ref o, .int x0, .int x1, .int x2] sh mi mj mr).bind fun r => zRun 119 27 L (r.1.toList ++ S) r.2.1 r.2.2.1 r.2.2.2.1 r.2.2.2.2 := zr_V (zD_of zk_119 d_119_24 rfl rfl) rfl zk_86 rfl rfl rfl hS h
theorem q_119_27 : zRun 119 27 [l0, l1, l2, l3, l4, l5, l6, l7, l8, l9, l10, l11, l12, l13, l14, l15] (.int x :: S) sh mi mj mr = zRun 119 29 [l0, l1, l2, l3, zk2 l4, some (.int x), l6, l7, l8, l9, l10, l11, l12, l13, l14, l15] S sh mi mj mr := zr_s1 (i := 5) (v := .int x) (L := [l0, l1, l2, l3, l4, l5, l6, l7, l8, l9, l10, l11, l12, l13, l14, l15]) (zD_of zk_119 d_119_27 rfl rfl) rfl rfl rfl rfl
theorem q_119_29 : zRun 119 29 [l0, l1, l2, l3, l4, some (.int x), l6, l7, l8, l9, l10, l11, l12, l13, l14, l15] S sh mi mj mr = zRun 119 31 [l0, l1, l2, l3, l4, some (.int x), l6, l7, l8, l9, l10, l11, l12, l13, l14, l15] (.int x :: S) sh mi mj mr := zr_l (zD_of zk_119 d_119_29 rfl rfl) rfl rfl rfl
theorem q_119_31  : zRun 119 31 L (.int x :: S) sh mi mj mr = if x ≤ 0 then zRun 119 49 L S sh mi mj mr else zRun 119 34 L S sh mi mj mr := zr_if (off := 18) (P := x ≤ 0) (zD_of zk_119 d_119_31 rfl rfl) rfl rfl (by decide)
theorem q_119_34 : zRun 119 34 [l0, l1, l2, l3, l4, some (.int x), l6, l7, l8, l9, l10, l11, l12, l13, l14, l15] S sh mi mj mr = zRun 119 36 [l0, l1, l2, l3, l4, some (.int x), l6, l7, l8, l9, l10, l11, l12, l13, l14, l15] (.int x :: S) sh mi mj mr := zr_l (zD_of zk_119 d_119_34 rfl rfl) rfl rfl rfl
theorem q_119_36  : zRun 119 36 L S sh mi mj mr = zRun 119 37 L (.int 5 :: S) sh mi mj mr := zr_p (zD_of zk_119 d_119_36 rfl rfl) rfl
theorem q_119_37  : zRun 119 37 L (.int y :: .int x :: S) sh mi mj mr = if y ≤ x then zRun 119 49 L S sh mi mj mr else zRun 119 40 L S sh mi mj mr := zr_if (off := 12) (P := y ≤ x) (zD_of zk_119 d_119_37 rfl rfl) rfl rfl (by decide)
theorem q_119_40 : zRun 119 40 [l0, l1, l2, some (.int x), l4, l5, l6, l7, l8, l9, l10, l11, l12, l13, l14, l15] S sh mi mj mr = zRun 119 41 [l0, l1, l2, some (.int x), l4, l5, l6, l7, l8, l9, l10, l11, l12, l13, l14, l15] (.int x :: S) sh mi mj mr := zr_l (zD_of zk_119 d_119_40 rfl rfl) rfl rfl rfl
theorem q_119_41  : zRun 119 41 L S sh mi mj mr = zRun 119 42 L (.int 1 :: S) sh mi mj mr := zr_p (zD_of zk_119 d_119_41 rfl rfl) rfl
theorem q_119_42 : zRun 119 42 [l0, l1, l2, l3, l4, some (.int x), l6, l7, l8, l9, l10, l11, l12, l13, l14, l15] S sh mi mj mr = zRun 119 44 [l0, l1, l2, l3, l4, some (.int x), l6, l7, l8, l9, l10, l11, l12, l13, l14, l15] (.int x :: S) sh mi mj mr := zr_l (zD_of zk_119 d_119_42 rfl rfl) rfl rfl rfl
theorem q_119_44  : zRun 119 44 L S sh mi mj mr = zRun 119 45 L (.int 1 :: S) sh mi mj mr := zr_p (zD_of zk_119 d_119_44 rfl rfl) rfl
theorem q_119_45  : zRun 119 45 L (.int y :: .int x :: S) sh mi mj mr = zRun 119 46 L (.int (x - y) :: S) sh mi mj mr := zr_p (zD_of zk_119 d_119_45 rfl rfl) rfl
theorem q_119_46  : zRun 119 46 L (.int y :: .int x :: S) sh mi mj mr = zRun 119 47 L (.int (x <<< (y &&& 31)) :: S) sh mi mj mr := zr_p (zD_of zk_119 d_119_46 rfl rfl) rfl
theorem q_119_47  : zRun 119 47 L (.int y :: .int x :: S) sh mi mj mr = zRun 119 48 L (.int (x ||| y) :: S) sh mi mj mr := zr_p (zD_of zk_119 d_119_47 rfl rfl) rfl
theorem q_119_48 : zRun 119 48 [l0, l1, l2, l3, l4, l5, l6, l7, l8, l9, l10, l11, l12, l13, l14, l15] (.int x :: S) sh mi mj mr = zRun 119 49 [l0, l1, zk2 l2, some (.int x), l4, l5, l6, l7, l8, l9, l10, l11, l12, l13, l14, l15] S sh mi mj mr := zr_s1 (i := 3) (v := .int x) (L := [l0, l1, l2, l3, l4, l5, l6, l7, l8, l9, l10, l11, l12, l13, l14, l15]) (zD_of zk_119 d_119_48 rfl rfl) rfl rfl rfl rfl
theorem q_119_49r : zRun 119 49 [some (.ref o), l1, l2, l3, l4, l5, l6, l7, l8, l9, l10, l11, l12, l13, l14, l15] S sh mi mj mr = zRun 119 50 [some (.ref o), l1, l2, l3, l4, l5, l6, l7, l8, l9, l10, l11, l12, l13, l14, l15] (.ref o :: S) sh mi mj mr := zr_l (zD_of zk_119 d_119_49 rfl rfl) rfl rfl rfl
theorem q_119_49n : zRun 119 49 [some (.null), l1, l2, l3, l4, l5, l6, l7, l8, l9, l10, l11, l12, l13, l14, l15] S sh mi mj mr = zRun 119 50 [some (.null), l1, l2, l3, l4, l5, l6, l7, l8, l9, l10, l11, l12, l13, l14, l15] (.null :: S) sh mi mj mr := zr_l (zD_of zk_119 d_119_49 rfl rfl) rfl rfl rfl
theorem q_119_50 : zRun 119 50 [l0, some (.int x), l2, l3, l4, l5, l6, l7, l8, l9, l10, l11, l12, l13, l14, l15] S sh mi mj mr = zRun 119 51 [l0, some (.int x), l2, l3, l4, l5, l6, l7, l8, l9, l10, l11, l12, l13, l14, l15] (.int x :: S) sh mi mj mr := zr_l (zD_of zk_119 d_119_50 rfl rfl) rfl rfl rfl
theorem q_119_51 : zRun 119 51 [l0, l1, l2, l3, some (.int x), l5, l6, l7, l8, l9, l10, l11, l12, l13, l14, l15] S sh mi mj mr = zRun 119 53 [l0, l1, l2, l3, some (.int x), l5, l6, l7, l8, l9, l10, l11, l12, l13, l14, l15] (.int x :: S) sh mi mj mr := zr_l (zD_of zk_119 d_119_51 rfl rfl) rfl rfl rfl
theorem q_119_53  : zRun 119 53 L S sh mi mj mr = zRun 119 54 L (.int 1 :: S) sh mi mj mr := zr_p (zD_of zk_119 d_119_53 rfl rfl) rfl
theorem q_119_54  {x0 x1 x2 : Int32} (hS : zcat S ≤ 8) (h : zIs sh o 0 7) : zRun 119 54 L (.int x2 :: .int x1 :: .int x0 :: .ref o :: S) sh mi mj mr = (zCall 86 [.ref o, .int x0, .int x1, .int x2] sh mi mj mr).bind fun r => zRun 119 57 L (r.1.toList ++ S) r.2.1 r.2.2.1 r.2.2.2.1 r.2.2.2.2 := zr_V (zD_of zk_119 d_119_54 rfl rfl) rfl zk_86 rfl rfl rfl hS h
theorem q_119_57  : zRun 119 57 L S sh mi mj mr = zRun 119 59 L (.int (-6) :: S) sh mi mj mr := zr_p (zD_of zk_119 d_119_57 rfl rfl) rfl
theorem q_119_59  : zRun 119 59 L (.int y :: .int x :: S) sh mi mj mr = if ¬ x = y then zRun 119 66 L S sh mi mj mr else zRun 119 62 L S sh mi mj mr := zr_if (off := 7) (P := ¬ x = y) (zD_of zk_119 d_119_59 rfl rfl) rfl rfl (by decide)
theorem q_119_62  : zRun 119 62 L S sh mi mj mr = zRun 119 63 L (.int 1 :: S) sh mi mj mr := zr_p (zD_of zk_119 d_119_62 rfl rfl) rfl
theorem q_119_63  : zRun 119 63 L S sh mi mj mr = zRun 119 67 L S sh mi mj mr := zr_go (off := 4) (zD_of zk_119 d_119_63 rfl rfl) rfl rfl (by decide)
theorem q_119_66  : zRun 119 66 L S sh mi mj mr = zRun 119 67 L (.int 0 :: S) sh mi mj mr := zr_p (zD_of zk_119 d_119_66 rfl rfl) rfl
theorem q_119_67 : zRun 119 67 [l0, l1, l2, l3, l4, some (.int x), l6, l7, l8, l9, l10, l11, l12, l13, l14, l15] S sh mi mj mr = zRun 119 69 [l0, l1, l2, l3, l4, some (.int x), l6, l7, l8, l9, l10, l11, l12, l13, l14, l15] (.int x :: S) sh mi mj mr := zr_l (zD_of zk_119 d_119_67 rfl rfl) rfl rfl rfl
theorem q_119_69  : zRun 119 69 L (.int x :: S) sh mi mj mr = if x = 0 then zRun 119 76 L S sh mi mj mr else zRun 119 72 L S sh mi mj mr := zr_if (off := 7) (P := x = 0) (zD_of zk_119 d_119_69 rfl rfl) rfl rfl (by decide)
theorem q_119_72  : zRun 119 72 L S sh mi mj mr = zRun 119 73 L (.int 1 :: S) sh mi mj mr := zr_p (zD_of zk_119 d_119_72 rfl rfl) rfl
theorem q_119_73  : zRun 119 73 L S sh mi mj mr = zRun 119 77 L S sh mi mj mr := zr_go (off := 4) (zD_of zk_119 d_119_73 rfl rfl) rfl rfl (by decide)
theorem q_119_76  : zRun 119 76 L S sh mi mj mr = zRun 119 77 L (.int 0 :: S) sh mi mj mr := zr_p (zD_of zk_119 d_119_76 rfl rfl) rfl
theorem q_119_77  : zRun 119 77 L (.int y :: .int x :: S) sh mi mj mr = if x = y then zRun 119 82 L S sh mi mj mr else zRun 119 80 L S sh mi mj mr := zr_if (off := 5) (P := x = y) (zD_of zk_119 d_119_77 rfl rfl) rfl rfl (by decide)
theorem q_119_80  : zRun 119 80 L S sh mi mj mr = zRun 119 81 L (.int 0 :: S) sh mi mj mr := zr_p (zD_of zk_119 d_119_80 rfl rfl) rfl
theorem q_119_81 (h : x = 0 ∨ x = 1) : zRun 119 81 L ([.int x]) sh mi mj mr = some (some (.int x), sh, mi, mj, mr) := zr_ret (zD_of zk_119 d_119_81 rfl rfl) rfl rfl rfl rfl rfl (if_pos (zna_b h))
theorem q_119_82r : zRun 119 82 [some (.ref o), l1, l2, l3, l4, l5, l6, l7, l8, l9, l10, l11, l12, l13, l14, l15] S sh mi mj mr = zRun 119 83 [some (.ref o), l1, l2, l3, l4, l5, l6, l7, l8, l9, l10, l11, l12, l13, l14, l15] (.ref o :: S) sh mi mj mr := zr_l (zD_of zk_119 d_119_82 rfl rfl) rfl rfl rfl
theorem q_119_82n : zRun 119 82 [some (.null), l1, l2, l3, l4, l5, l6, l7, l8, l9, l10, l11, l12, l13, l14, l15] S sh mi mj mr = zRun 119 83 [some (.null), l1, l2, l3, l4, l5, l6, l7, l8, l9, l10, l11, l12, l13, l14, l15] (.null :: S) sh mi mj mr := zr_l (zD_of zk_119 d_119_82 rfl rfl) rfl rfl rfl
theorem q_119_83 : zRun 119 83 [l0, some (.int x), l2, l3, l4, l5, l6, l7, l8, l9, l10, l11, l12, l13, l14, l15] S sh mi mj mr = zRun 119 84 [l0, some (.int x), l2, l3, l4, l5, l6, l7, l8, l9, l10, l11, l12, l13, l14, l15] (.int x :: S) sh mi mj mr := zr_l (zD_of zk_119 d_119_83 rfl rfl) rfl rfl rfl
theorem q_119_84 : zRun 119 84 [l0, l1, l2, l3, some (.int x), l5, l6, l7, l8, l9, l10, l11, l12, l13, l14, l15] S sh mi mj mr = zRun 119 86 [l0, l1, l2, l3, some (.int x), l5, l6, l7, l8, l9, l10, l11, l12, l13, l14, l15] (.int x :: S) sh mi mj mr := zr_l (zD_of zk_119 d_119_84 rfl rfl) rfl rfl rfl
theorem q_119_86  : zRun 119 86 L S sh mi mj mr = zRun 119 87 L (.int 0 :: S) sh mi mj mr := zr_p (zD_of zk_119 d_119_86 rfl rfl) rfl
theorem q_119_87  {x0 x1 x2 : Int32} (hS : zcat S ≤ 8) (h : zIs sh o 0 7) : zRun 119 87 L (.int x2 :: .int x1 :: .int x0 :: .ref o :: S) sh mi mj mr = (zCall 91 [.ref o, .int x0, .int x1, .int x2] sh mi mj mr).bind fun r => zRun 119 90 L (r.1.toList ++ S) r.2.1 r.2.2.1 r.2.2.2.1 r.2.2.2.2 := zr_V (zD_of zk_119 d_119_87 rfl rfl) rfl zk_91 rfl rfl rfl hS h
theorem q_119_90 : zRun 119 90 [l0, l1, l2, l3, l4, l5, l6, l7, l8, l9, l10, l11, l12, l13, l14, l15] (.long u :: S) sh mi mj mr = zRun 119 92 [l0, l1, l2, l3, l4, zk2 l5, some (.long u), none, l8, l9, l10, l11, l12, l13, l14, l15] S sh mi mj mr := zr_s2 (i := 6) (v := .long u) (L := [l0, l1, l2, l3, l4, l5, l6, l7, l8, l9, l10, l11, l12, l13, l14, l15]) (zD_of zk_119 d_119_90 rfl rfl) rfl rfl rfl rfl
theorem q_119_92 : zRun 119 92 [l0, l1, l2, l3, l4, some (.int x), l6, l7, l8, l9, l10, l11, l12, l13, l14, l15] S sh mi mj mr = zRun 119 94 [l0, l1, l2, l3, l4, some (.int x), l6, l7, l8, l9, l10, l11, l12, l13, l14, l15] (.int x :: S) sh mi mj mr := zr_l (zD_of zk_119 d_119_92 rfl rfl) rfl rfl rfl
theorem q_119_94  : zRun 119 94 L (.int x :: S) sh mi mj mr = if x ≤ 0 then zRun 119 149 L S sh mi mj mr else zRun 119 97 L S sh mi mj mr := zr_if (off := 55) (P := x ≤ 0) (zD_of zk_119 d_119_94 rfl rfl) rfl rfl (by decide)
theorem q_119_97 : zRun 119 97 [l0, l1, l2, l3, l4, some (.int x), l6, l7, l8, l9, l10, l11, l12, l13, l14, l15] S sh mi mj mr = zRun 119 99 [l0, l1, l2, l3, l4, some (.int x), l6, l7, l8, l9, l10, l11, l12, l13, l14, l15] (.int x :: S) sh mi mj mr := zr_l (zD_of zk_119 d_119_97 rfl rfl) rfl rfl rfl
theorem q_119_99  : zRun 119 99 L S sh mi mj mr = zRun 119 100 L (.int 5 :: S) sh mi mj mr := zr_p (zD_of zk_119 d_119_99 rfl rfl) rfl
theorem q_119_100  : zRun 119 100 L (.int y :: .int x :: S) sh mi mj mr = if y ≤ x then zRun 119 149 L S sh mi mj mr else zRun 119 103 L S sh mi mj mr := zr_if (off := 49) (P := y ≤ x) (zD_of zk_119 d_119_100 rfl rfl) rfl rfl (by decide)
theorem q_119_103 : zRun 119 103 [l0, l1, l2, l3, l4, l5, some (.long u), l7, l8, l9, l10, l11, l12, l13, l14, l15] S sh mi mj mr = zRun 119 105 [l0, l1, l2, l3, l4, l5, some (.long u), l7, l8, l9, l10, l11, l12, l13, l14, l15] (.long u :: S) sh mi mj mr := zr_l (zD_of zk_119 d_119_103 rfl rfl) rfl rfl rfl
theorem q_119_105r : zRun 119 105 [some (.ref o), l1, l2, l3, l4, l5, l6, l7, l8, l9, l10, l11, l12, l13, l14, l15] S sh mi mj mr = zRun 119 106 [some (.ref o), l1, l2, l3, l4, l5, l6, l7, l8, l9, l10, l11, l12, l13, l14, l15] (.ref o :: S) sh mi mj mr := zr_l (zD_of zk_119 d_119_105 rfl rfl) rfl rfl rfl
theorem q_119_105n : zRun 119 105 [some (.null), l1, l2, l3, l4, l5, l6, l7, l8, l9, l10, l11, l12, l13, l14, l15] S sh mi mj mr = zRun 119 106 [some (.null), l1, l2, l3, l4, l5, l6, l7, l8, l9, l10, l11, l12, l13, l14, l15] (.null :: S) sh mi mj mr := zr_l (zD_of zk_119 d_119_105 rfl rfl) rfl rfl rfl
theorem q_119_106 : zRun 119 106 [l0, l1, l2, l3, l4, some (.int x), l6, l7, l8, l9, l10, l11, l12, l13, l14, l15] S sh mi mj mr = zRun 119 108 [l0, l1, l2, l3, l4, some (.int x), l6, l7, l8, l9, l10, l11, l12, l13, l14, l15] (.int x :: S) sh mi mj mr := zr_l (zD_of zk_119 d_119_106 rfl rfl) rfl rfl rfl
theorem q_119_108  : zRun 119 108 L S sh mi mj mr = zRun 119 109 L (.int 1 :: S) sh mi mj mr := zr_p (zD_of zk_119 d_119_108 rfl rfl) rfl
theorem q_119_109  : zRun 119 109 L (.int y :: .int x :: S) sh mi mj mr = zRun 119 110 L (.int (x - y) :: S) sh mi mj mr := zr_p (zD_of zk_119 d_119_109 rfl rfl) rfl
theorem q_119_110  : zRun 119 110 L S sh mi mj mr = zRun 119 111 L (.int 0 :: S) sh mi mj mr := zr_p (zD_of zk_119 d_119_110 rfl rfl) rfl
theorem q_119_111  {x0 x1 : Int32} (hS : zcat S ≤ 8) (h : zIs sh o 0 7) : zRun 119 111 L (.int x1 :: .int x0 :: .ref o :: S) sh mi mj mr = (zCall 80 [.ref o, .int x0, .int x1] sh mi mj mr).bind fun r => zRun 119 114 L (r.1.toList ++ S) r.2.1 r.2.2.1 r.2.2.2.1 r.2.2.2.2 := zr_V (zD_of zk_119 d_119_111 rfl rfl) rfl zk_80 rfl rfl rfl hS h
theorem q_119_114  : zRun 119 114 L S sh mi mj mr = zRun 119 116 L (.int 1000000 :: S) sh mi mj mr := zr_k32 (zD_of zk_119 d_119_114 rfl rfl) (by first | exact Or.inl rfl | exact Or.inr rfl) rfl
theorem q_119_116  : zRun 119 116 L (.int y :: .int x :: S) sh mi mj mr = zRun 119 117 L (.int (x - y) :: S) sh mi mj mr := zr_p (zD_of zk_119 d_119_116 rfl rfl) rfl
theorem q_119_117  : zRun 119 117 L (.int x :: S) sh mi mj mr = zRun 119 118 L (.long x.toInt64 :: S) sh mi mj mr := zr_p (zD_of zk_119 d_119_117 rfl rfl) rfl
theorem q_119_118  : zRun 119 118 L (.long v :: .long u :: S) sh mi mj mr = if ¬ u = v then zRun 119 147 L S sh mi mj mr else zRun 119 122 L S sh mi mj mr := zr_cmp (off := 28) (zD_of zk_119 d_119_118 rfl rfl) (zD_of zk_119 d_119_119 rfl rfl) rfl rfl (by decide) (not_congr (lg_cmp_eq u v))
theorem q_119_119  : zRun 119 119 L (.int x :: S) sh mi mj mr = if ¬ x = 0 then zRun 119 147 L S sh mi mj mr else zRun 119 122 L S sh mi mj mr := zr_if (off := 28) (P := ¬ x = 0) (zD_of zk_119 d_119_119 rfl rfl) rfl rfl (by decide)
theorem q_119_122r : zRun 119 122 [some (.ref o), l1, l2, l3, l4, l5, l6, l7, l8, l9, l10, l11, l12, l13, l14, l15] S sh mi mj mr = zRun 119 123 [some (.ref o), l1, l2, l3, l4, l5, l6, l7, l8, l9, l10, l11, l12, l13, l14, l15] (.ref o :: S) sh mi mj mr := zr_l (zD_of zk_119 d_119_122 rfl rfl) rfl rfl rfl
theorem q_119_122n : zRun 119 122 [some (.null), l1, l2, l3, l4, l5, l6, l7, l8, l9, l10, l11, l12, l13, l14, l15] S sh mi mj mr = zRun 119 123 [some (.null), l1, l2, l3, l4, l5, l6, l7, l8, l9, l10, l11, l12, l13, l14, l15] (.null :: S) sh mi mj mr := zr_l (zD_of zk_119 d_119_122 rfl rfl) rfl rfl rfl
theorem q_119_123 : zRun 119 123 [l0, some (.int x), l2, l3, l4, l5, l6, l7, l8, l9, l10, l11, l12, l13, l14, l15] S sh mi mj mr = zRun 119 124 [l0, some (.int x), l2, l3, l4, l5, l6, l7, l8, l9, l10, l11, l12, l13, l14, l15] (.int x :: S) sh mi mj mr := zr_l (zD_of zk_119 d_119_123 rfl rfl) rfl rfl rfl
theorem q_119_124 : zRun 119 124 [l0, l1, l2, l3, some (.int x), l5, l6, l7, l8, l9, l10, l11, l12, l13, l14, l15] S sh mi mj mr = zRun 119 126 [l0, l1, l2, l3, some (.int x), l5, l6, l7, l8, l9, l10, l11, l12, l13, l14, l15] (.int x :: S) sh mi mj mr := zr_l (zD_of zk_119 d_119_124 rfl rfl) rfl rfl rfl
theorem q_119_126  : zRun 119 126 L S sh mi mj mr = zRun 119 127 L (.int 1 :: S) sh mi mj mr := zr_p (zD_of zk_119 d_119_126 rfl rfl) rfl
theorem q_119_127  {x0 x1 x2 : Int32} (hS : zcat S ≤ 8) (h : zIs sh o 0 7) : zRun 119 127 L (.int x2 :: .int x1 :: .int x0 :: .ref o :: S) sh mi mj mr = (zCall 91 [.ref o, .int x0, .int x1, .int x2] sh mi mj mr).bind fun r => zRun 119 130 L (r.1.toList ++ S) r.2.1 r.2.2.1 r.2.2.2.1 r.2.2.2.2 := zr_V (zD_of zk_119 d_119_127 rfl rfl) rfl zk_91 rfl rfl rfl hS h
theorem q_119_130r : zRun 119 130 [some (.ref o), l1, l2, l3, l4, l5, l6, l7, l8, l9, l10, l11, l12, l13, l14, l15] S sh mi mj mr = zRun 119 131 [some (.ref o), l1, l2, l3, l4, l5, l6, l7, l8, l9, l10, l11, l12, l13, l14, l15] (.ref o :: S) sh mi mj mr := zr_l (zD_of zk_119 d_119_130 rfl rfl) rfl rfl rfl
theorem q_119_130n : zRun 119 130 [some (.null), l1, l2, l3, l4, l5, l6, l7, l8, l9, l10, l11, l12, l13, l14, l15] S sh mi mj mr = zRun 119 131 [some (.null), l1, l2, l3, l4, l5, l6, l7, l8, l9, l10, l11, l12, l13, l14, l15] (.null :: S) sh mi mj mr := zr_l (zD_of zk_119 d_119_130 rfl rfl) rfl rfl rfl
theorem q_119_131 : zRun 119 131 [l0, l1, l2, l3, l4, some (.int x), l6, l7, l8, l9, l10, l11, l12, l13, l14, l15] S sh mi mj mr = zRun 119 133 [l0, l1, l2, l3, l4, some (.int x), l6, l7, l8, l9, l10, l11, l12, l13, l14, l15] (.int x :: S) sh mi mj mr := zr_l (zD_of zk_119 d_119_131 rfl rfl) rfl rfl rfl
theorem q_119_133  : zRun 119 133 L S sh mi mj mr = zRun 119 134 L (.int 1 :: S) sh mi mj mr := zr_p (zD_of zk_119 d_119_133 rfl rfl) rfl
theorem q_119_134  : zRun 119 134 L (.int y :: .int x :: S) sh mi mj mr = zRun 119 135 L (.int (x - y) :: S) sh mi mj mr := zr_p (zD_of zk_119 d_119_134 rfl rfl) rfl
theorem q_119_135  : zRun 119 135 L S sh mi mj mr = zRun 119 136 L (.int 1 :: S) sh mi mj mr := zr_p (zD_of zk_119 d_119_135 rfl rfl) rfl
theorem q_119_136  {x0 x1 : Int32} (hS : zcat S ≤ 8) (h : zIs sh o 0 7) : zRun 119 136 L (.int x1 :: .int x0 :: .ref o :: S) sh mi mj mr = (zCall 80 [.ref o, .int x0, .int x1] sh mi mj mr).bind fun r => zRun 119 139 L (r.1.toList ++ S) r.2.1 r.2.2.1 r.2.2.2.1 r.2.2.2.2 := zr_V (zD_of zk_119 d_119_136 rfl rfl) rfl zk_80 rfl rfl rfl hS h
theorem q_119_139  : zRun 119 139 L S sh mi mj mr = zRun 119 141 L (.int 1000000 :: S) sh mi mj mr := zr_k32 (zD_of zk_119 d_119_139 rfl rfl) (by first | exact Or.inl rfl | exact Or.inr rfl) rfl
theorem q_119_141  : zRun 119 141 L (.int y :: .int x :: S) sh mi mj mr = zRun 119 142 L (.int (x - y) :: S) sh mi mj mr := zr_p (zD_of zk_119 d_119_141 rfl rfl) rfl
theorem q_119_142  : zRun 119 142 L (.int x :: S) sh mi mj mr = zRun 119 143 L (.long x.toInt64 :: S) sh mi mj mr := zr_p (zD_of zk_119 d_119_142 rfl rfl) rfl
theorem q_119_143  : zRun 119 143 L (.long v :: .long u :: S) sh mi mj mr = if u = v then zRun 119 149 L S sh mi mj mr else zRun 119 147 L S sh mi mj mr := zr_cmp (off := 5) (zD_of zk_119 d_119_143 rfl rfl) (zD_of zk_119 d_119_144 rfl rfl) rfl rfl (by decide) (lg_cmp_eq u v)
theorem q_119_144  : zRun 119 144 L (.int x :: S) sh mi mj mr = if x = 0 then zRun 119 149 L S sh mi mj mr else zRun 119 147 L S sh mi mj mr := zr_if (off := 5) (P := x = 0) (zD_of zk_119 d_119_144 rfl rfl) rfl rfl (by decide)
theorem q_119_147  : zRun 119 147 L S sh mi mj mr = zRun 119 148 L (.int 0 :: S) sh mi mj mr := zr_p (zD_of zk_119 d_119_147 rfl rfl) rfl
theorem q_119_148 (h : x = 0 ∨ x = 1) : zRun 119 148 L ([.int x]) sh mi mj mr = some (some (.int x), sh, mi, mj, mr) := zr_ret (zD_of zk_119 d_119_148 rfl rfl) rfl rfl rfl rfl rfl (if_pos (zna_b h))
theorem q_119_149 : zRun 119 149 [l0, l1, l2, l3, l4, some (.int x), l6, l7, l8, l9, l10, l11, l12, l13, l14, l15] S sh mi mj mr = zRun 119 151 [l0, l1, l2, l3, l4, some (.int x), l6, l7, l8, l9, l10, l11, l12, l13, l14, l15] (.int x :: S) sh mi mj mr := zr_l (zD_of zk_119 d_119_149 rfl rfl) rfl rfl rfl
theorem q_119_151  : zRun 119 151 L (.int x :: S) sh mi mj mr = if ¬ x = 0 then zRun 119 208 L S sh mi mj mr else zRun 119 154 L S sh mi mj mr := zr_if (off := 57) (P := ¬ x = 0) (zD_of zk_119 d_119_151 rfl rfl) rfl rfl (by decide)
theorem q_119_154 : zRun 119 154 [l0, l1, l2, l3, l4, l5, some (.long u), l7, l8, l9, l10, l11, l12, l13, l14, l15] S sh mi mj mr = zRun 119 156 [l0, l1, l2, l3, l4, l5, some (.long u), l7, l8, l9, l10, l11, l12, l13, l14, l15] (.long u :: S) sh mi mj mr := zr_l (zD_of zk_119 d_119_154 rfl rfl) rfl rfl rfl
theorem q_119_156  : zRun 119 156 L S sh mi mj mr = zRun 119 159 L (.long 100 :: S) sh mi mj mr := zr_k64 (zD_of zk_119 d_119_156 rfl rfl) rfl
theorem q_119_159  : zRun 119 159 L (.long v :: .long u :: S) sh mi mj mr = zRun 119 160 L (.long (u * v) :: S) sh mi mj mr := zr_p (zD_of zk_119 d_119_159 rfl rfl) rfl
theorem q_119_160  : zRun 119 160 L S sh mi mj mr = zRun 119 163 L (.long 256 :: S) sh mi mj mr := zr_k64 (zD_of zk_119 d_119_160 rfl rfl) rfl
theorem q_119_163r : zRun 119 163 [some (.ref o), l1, l2, l3, l4, l5, l6, l7, l8, l9, l10, l11, l12, l13, l14, l15] S sh mi mj mr = zRun 119 164 [some (.ref o), l1, l2, l3, l4, l5, l6, l7, l8, l9, l10, l11, l12, l13, l14, l15] (.ref o :: S) sh mi mj mr := zr_l (zD_of zk_119 d_119_163 rfl rfl) rfl rfl rfl
theorem q_119_163n : zRun 119 163 [some (.null), l1, l2, l3, l4, l5, l6, l7, l8, l9, l10, l11, l12, l13, l14, l15] S sh mi mj mr = zRun 119 164 [some (.null), l1, l2, l3, l4, l5, l6, l7, l8, l9, l10, l11, l12, l13, l14, l15] (.null :: S) sh mi mj mr := zr_l (zD_of zk_119 d_119_163 rfl rfl) rfl rfl rfl
theorem q_119_164 : zRun 119 164 [l0, some (.int x), l2, l3, l4, l5, l6, l7, l8, l9, l10, l11, l12, l13, l14, l15] S sh mi mj mr = zRun 119 165 [l0, some (.int x), l2, l3, l4, l5, l6, l7, l8, l9, l10, l11, l12, l13, l14, l15] (.int x :: S) sh mi mj mr := zr_l (zD_of zk_119 d_119_164 rfl rfl) rfl rfl rfl
theorem q_119_165 : zRun 119 165 [l0, l1, l2, l3, some (.int x), l5, l6, l7, l8, l9, l10, l11, l12, l13, l14, l15] S sh mi mj mr = zRun 119 167 [l0, l1, l2, l3, some (.int x), l5, l6, l7, l8, l9, l10, l11, l12, l13, l14, l15] (.int x :: S) sh mi mj mr := zr_l (zD_of zk_119 d_119_165 rfl rfl) rfl rfl rfl
theorem q_119_167  : zRun 119 167 L S sh mi mj mr = zRun 119 168 L (.int 1 :: S) sh mi mj mr := zr_p (zD_of zk_119 d_119_167 rfl rfl) rfl
theorem q_119_168  {x0 x1 x2 : Int32} (hS : zcat S ≤ 8) (h : zIs sh o 0 7) : zRun 119 168 L (.int x2 :: .int x1 :: .int x0 :: .ref o :: S) sh mi mj mr = (zCall 86 [.ref o, .int x0, .int x1, .int x2] sh mi mj mr).bind fun r => zRun 119 171 L (r.1.toList ++ S) r.2.1 r.2.2.1 r.2.2.2.1 r.2.2.2.2 := zr_V (zD_of zk_119 d_119_168 rfl rfl) rfl zk_86 rfl rfl rfl hS h
theorem q_119_171  : zRun 119 171 L (.int x :: S) sh mi mj mr = zRun 119 172 L (.long x.toInt64 :: S) sh mi mj mr := zr_p (zD_of zk_119 d_119_171 rfl rfl) rfl
theorem q_119_172  : zRun 119 172 L (.long v :: .long u :: S) sh mi mj mr = zRun 119 173 L (.long (u * v) :: S) sh mi mj mr := zr_p (zD_of zk_119 d_119_172 rfl rfl) rfl
theorem q_119_173  : zRun 119 173 L (.long v :: .long u :: S) sh mi mj mr = if v < u then zRun 119 206 L S sh mi mj mr else zRun 119 177 L S sh mi mj mr := zr_cmp (off := 32) (zD_of zk_119 d_119_173 rfl rfl) (zD_of zk_119 d_119_174 rfl rfl) rfl rfl (by decide) (lg_cmp_gt u v)
theorem q_119_174  : zRun 119 174 L (.int x :: S) sh mi mj mr = if 0 < x then zRun 119 206 L S sh mi mj mr else zRun 119 177 L S sh mi mj mr := zr_if (off := 32) (P := 0 < x) (zD_of zk_119 d_119_174 rfl rfl) rfl rfl (by decide)
theorem q_119_177r : zRun 119 177 [some (.ref o), l1, l2, l3, l4, l5, l6, l7, l8, l9, l10, l11, l12, l13, l14, l15] S sh mi mj mr = zRun 119 178 [some (.ref o), l1, l2, l3, l4, l5, l6, l7, l8, l9, l10, l11, l12, l13, l14, l15] (.ref o :: S) sh mi mj mr := zr_l (zD_of zk_119 d_119_177 rfl rfl) rfl rfl rfl
theorem q_119_177n : zRun 119 177 [some (.null), l1, l2, l3, l4, l5, l6, l7, l8, l9, l10, l11, l12, l13, l14, l15] S sh mi mj mr = zRun 119 178 [some (.null), l1, l2, l3, l4, l5, l6, l7, l8, l9, l10, l11, l12, l13, l14, l15] (.null :: S) sh mi mj mr := zr_l (zD_of zk_119 d_119_177 rfl rfl) rfl rfl rfl
theorem q_119_178 : zRun 119 178 [l0, some (.int x), l2, l3, l4, l5, l6, l7, l8, l9, l10, l11, l12, l13, l14, l15] S sh mi mj mr = zRun 119 179 [l0, some (.int x), l2, l3, l4, l5, l6, l7, l8, l9, l10, l11, l12, l13, l14, l15] (.int x :: S) sh mi mj mr := zr_l (zD_of zk_119 d_119_178 rfl rfl) rfl rfl rfl
theorem q_119_179 : zRun 119 179 [l0, l1, l2, l3, some (.int x), l5, l6, l7, l8, l9, l10, l11, l12, l13, l14, l15] S sh mi mj mr = zRun 119 181 [l0, l1, l2, l3, some (.int x), l5, l6, l7, l8, l9, l10, l11, l12, l13, l14, l15] (.int x :: S) sh mi mj mr := zr_l (zD_of zk_119 d_119_179 rfl rfl) rfl rfl rfl
theorem q_119_181  : zRun 119 181 L S sh mi mj mr = zRun 119 182 L (.int 1 :: S) sh mi mj mr := zr_p (zD_of zk_119 d_119_181 rfl rfl) rfl
theorem q_119_182  {x0 x1 x2 : Int32} (hS : zcat S ≤ 8) (h : zIs sh o 0 7) : zRun 119 182 L (.int x2 :: .int x1 :: .int x0 :: .ref o :: S) sh mi mj mr = (zCall 91 [.ref o, .int x0, .int x1, .int x2] sh mi mj mr).bind fun r => zRun 119 185 L (r.1.toList ++ S) r.2.1 r.2.2.1 r.2.2.2.1 r.2.2.2.2 := zr_V (zD_of zk_119 d_119_182 rfl rfl) rfl zk_91 rfl rfl rfl hS h
theorem q_119_185  : zRun 119 185 L S sh mi mj mr = zRun 119 188 L (.long 100 :: S) sh mi mj mr := zr_k64 (zD_of zk_119 d_119_185 rfl rfl) rfl
theorem q_119_188  : zRun 119 188 L (.long v :: .long u :: S) sh mi mj mr = zRun 119 189 L (.long (u * v) :: S) sh mi mj mr := zr_p (zD_of zk_119 d_119_188 rfl rfl) rfl
theorem q_119_189  : zRun 119 189 L S sh mi mj mr = zRun 119 192 L (.long 256 :: S) sh mi mj mr := zr_k64 (zD_of zk_119 d_119_189 rfl rfl) rfl
theorem q_119_192r : zRun 119 192 [some (.ref o), l1, l2, l3, l4, l5, l6, l7, l8, l9, l10, l11, l12, l13, l14, l15] S sh mi mj mr = zRun 119 193 [some (.ref o), l1, l2, l3, l4, l5, l6, l7, l8, l9, l10, l11, l12, l13, l14, l15] (.ref o :: S) sh mi mj mr := zr_l (zD_of zk_119 d_119_192 rfl rfl) rfl rfl rfl
theorem q_119_192n : zRun 119 192 [some (.null), l1, l2, l3, l4, l5, l6, l7, l8, l9, l10, l11, l12, l13, l14, l15] S sh mi mj mr = zRun 119 193 [some (.null), l1, l2, l3, l4, l5, l6, l7, l8, l9, l10, l11, l12, l13, l14, l15] (.null :: S) sh mi mj mr := zr_l (zD_of zk_119 d_119_192 rfl rfl) rfl rfl rfl
theorem q_119_193 : zRun 119 193 [l0, some (.int x), l2, l3, l4, l5, l6, l7, l8, l9, l10, l11, l12, l13, l14, l15] S sh mi mj mr = zRun 119 194 [l0, some (.int x), l2, l3, l4, l5, l6, l7, l8, l9, l10, l11, l12, l13, l14, l15] (.int x :: S) sh mi mj mr := zr_l (zD_of zk_119 d_119_193 rfl rfl) rfl rfl rfl
theorem q_119_194 : zRun 119 194 [l0, l1, l2, l3, some (.int x), l5, l6, l7, l8, l9, l10, l11, l12, l13, l14, l15] S sh mi mj mr = zRun 119 196 [l0, l1, l2, l3, some (.int x), l5, l6, l7, l8, l9, l10, l11, l12, l13, l14, l15] (.int x :: S) sh mi mj mr := zr_l (zD_of zk_119 d_119_194 rfl rfl) rfl rfl rfl
theorem q_119_196  : zRun 119 196 L S sh mi mj mr = zRun 119 197 L (.int 1 :: S) sh mi mj mr := zr_p (zD_of zk_119 d_119_196 rfl rfl) rfl
theorem q_119_197  {x0 x1 x2 : Int32} (hS : zcat S ≤ 8) (h : zIs sh o 0 7) : zRun 119 197 L (.int x2 :: .int x1 :: .int x0 :: .ref o :: S) sh mi mj mr = (zCall 86 [.ref o, .int x0, .int x1, .int x2] sh mi mj mr).bind fun r => zRun 119 200 L (r.1.toList ++ S) r.2.1 r.2.2.1 r.2.2.2.1 r.2.2.2.2 := zr_V (zD_of zk_119 d_119_197 rfl rfl) rfl zk_86 rfl rfl rfl hS h
theorem q_119_200  : zRun 119 200 L (.int x :: S) sh mi mj mr = zRun 119 201 L (.long x.toInt64 :: S) sh mi mj mr := zr_p (zD_of zk_119 d_119_200 rfl rfl) rfl
theorem q_119_201  : zRun 119 201 L (.long v :: .long u :: S) sh mi mj mr = zRun 119 202 L (.long (u * v) :: S) sh mi mj mr := zr_p (zD_of zk_119 d_119_201 rfl rfl) rfl
theorem q_119_202  : zRun 119 202 L (.long v :: .long u :: S) sh mi mj mr = if v ≤ u then zRun 119 208 L S sh mi mj mr else zRun 119 206 L S sh mi mj mr := zr_cmp (off := 5) (zD_of zk_119 d_119_202 rfl rfl) (zD_of zk_119 d_119_203 rfl rfl) rfl rfl (by decide) (lg_cmp_ge u v)
theorem q_119_203  : zRun 119 203 L (.int x :: S) sh mi mj mr = if 0 ≤ x then zRun 119 208 L S sh mi mj mr else zRun 119 206 L S sh mi mj mr := zr_if (off := 5) (P := 0 ≤ x) (zD_of zk_119 d_119_203 rfl rfl) rfl rfl (by decide)
theorem q_119_206  : zRun 119 206 L S sh mi mj mr = zRun 119 207 L (.int 0 :: S) sh mi mj mr := zr_p (zD_of zk_119 d_119_206 rfl rfl) rfl
theorem q_119_207 (h : x = 0 ∨ x = 1) : zRun 119 207 L ([.int x]) sh mi mj mr = some (some (.int x), sh, mi, mj, mr) := zr_ret (zD_of zk_119 d_119_207 rfl rfl) rfl rfl rfl rfl rfl (if_pos (zna_b h))
theorem q_119_208 : zRun 119 208 [l0, l1, l2, l3, l4, l5, some (.long u), l7, l8, l9, l10, l11, l12, l13, l14, l15] S sh mi mj mr = zRun 119 210 [l0, l1, l2, l3, l4, l5, some (.long u), l7, l8, l9, l10, l11, l12, l13, l14, l15] (.long u :: S) sh mi mj mr := zr_l (zD_of zk_119 d_119_208 rfl rfl) rfl rfl rfl
theorem q_119_210  : zRun 119 210 L S sh mi mj mr = zRun 119 213 L (.long (-1000000000000000005) :: S) sh mi mj mr := zr_k64 (zD_of zk_119 d_119_210 rfl rfl) rfl
theorem q_119_213  : zRun 119 213 L (.long v :: .long u :: S) sh mi mj mr = if u = v then zRun 119 233 L S sh mi mj mr else zRun 119 217 L S sh mi mj mr := zr_cmp (off := 19) (zD_of zk_119 d_119_213 rfl rfl) (zD_of zk_119 d_119_214 rfl rfl) rfl rfl (by decide) (lg_cmp_eq u v)
theorem q_119_214  : zRun 119 214 L (.int x :: S) sh mi mj mr = if x = 0 then zRun 119 233 L S sh mi mj mr else zRun 119 217 L S sh mi mj mr := zr_if (off := 19) (P := x = 0) (zD_of zk_119 d_119_214 rfl rfl) rfl rfl (by decide)
theorem q_119_217 : zRun 119 217 [l0, l1, l2, l3, l4, l5, some (.long u), l7, l8, l9, l10, l11, l12, l13, l14, l15] S sh mi mj mr = zRun 119 219 [l0, l1, l2, l3, l4, l5, some (.long u), l7, l8, l9, l10, l11, l12, l13, l14, l15] (.long u :: S) sh mi mj mr := zr_l (zD_of zk_119 d_119_217 rfl rfl) rfl rfl rfl
theorem q_119_219r : zRun 119 219 [some (.ref o), l1, l2, l3, l4, l5, l6, l7, l8, l9, l10, l11, l12, l13, l14, l15] S sh mi mj mr = zRun 119 220 [some (.ref o), l1, l2, l3, l4, l5, l6, l7, l8, l9, l10, l11, l12, l13, l14, l15] (.ref o :: S) sh mi mj mr := zr_l (zD_of zk_119 d_119_219 rfl rfl) rfl rfl rfl
theorem q_119_219n : zRun 119 219 [some (.null), l1, l2, l3, l4, l5, l6, l7, l8, l9, l10, l11, l12, l13, l14, l15] S sh mi mj mr = zRun 119 220 [some (.null), l1, l2, l3, l4, l5, l6, l7, l8, l9, l10, l11, l12, l13, l14, l15] (.null :: S) sh mi mj mr := zr_l (zD_of zk_119 d_119_219 rfl rfl) rfl rfl rfl
theorem q_119_220 : zRun 119 220 [l0, some (.int x), l2, l3, l4, l5, l6, l7, l8, l9, l10, l11, l12, l13, l14, l15] S sh mi mj mr = zRun 119 221 [l0, some (.int x), l2, l3, l4, l5, l6, l7, l8, l9, l10, l11, l12, l13, l14, l15] (.int x :: S) sh mi mj mr := zr_l (zD_of zk_119 d_119_220 rfl rfl) rfl rfl rfl
theorem q_119_221 : zRun 119 221 [l0, l1, l2, l3, some (.int x), l5, l6, l7, l8, l9, l10, l11, l12, l13, l14, l15] S sh mi mj mr = zRun 119 223 [l0, l1, l2, l3, some (.int x), l5, l6, l7, l8, l9, l10, l11, l12, l13, l14, l15] (.int x :: S) sh mi mj mr := zr_l (zD_of zk_119 d_119_221 rfl rfl) rfl rfl rfl
theorem q_119_223  : zRun 119 223 L S sh mi mj mr = zRun 119 224 L (.int 1 :: S) sh mi mj mr := zr_p (zD_of zk_119 d_119_223 rfl rfl) rfl
theorem q_119_224  {x0 x1 x2 : Int32} (hS : zcat S ≤ 8) (h : zIs sh o 0 7) : zRun 119 224 L (.int x2 :: .int x1 :: .int x0 :: .ref o :: S) sh mi mj mr = (zCall 91 [.ref o, .int x0, .int x1, .int x2] sh mi mj mr).bind fun r => zRun 119 227 L (r.1.toList ++ S) r.2.1 r.2.2.1 r.2.2.2.1 r.2.2.2.2 := zr_V (zD_of zk_119 d_119_224 rfl rfl) rfl zk_91 rfl rfl rfl hS h
theorem q_119_227  : zRun 119 227 L (.long v :: .long u :: S) sh mi mj mr = if u ≤ v then zRun 119 233 L S sh mi mj mr else zRun 119 231 L S sh mi mj mr := zr_cmp (off := 5) (zD_of zk_119 d_119_227 rfl rfl) (zD_of zk_119 d_119_228 rfl rfl) rfl rfl (by decide) (lg_cmp_le u v)
theorem q_119_228  : zRun 119 228 L (.int x :: S) sh mi mj mr = if x ≤ 0 then zRun 119 233 L S sh mi mj mr else zRun 119 231 L S sh mi mj mr := zr_if (off := 5) (P := x ≤ 0) (zD_of zk_119 d_119_228 rfl rfl) rfl rfl (by decide)
theorem q_119_231  : zRun 119 231 L S sh mi mj mr = zRun 119 232 L (.int 0 :: S) sh mi mj mr := zr_p (zD_of zk_119 d_119_231 rfl rfl) rfl
theorem q_119_232 (h : x = 0 ∨ x = 1) : zRun 119 232 L ([.int x]) sh mi mj mr = some (some (.int x), sh, mi, mj, mr) := zr_ret (zD_of zk_119 d_119_232 rfl rfl) rfl rfl rfl rfl rfl (if_pos (zna_b h))
theorem q_119_233  : zRun 119 233 [l0, l1, l2, l3, some (.int x), l5, l6, l7, l8, l9, l10, l11, l12, l13, l14, l15] S sh mi mj mr = zRun 119 236 [l0, l1, l2, zk2 l3, some (.int (x + 1)), l5, l6, l7, l8, l9, l10, l11, l12, l13, l14, l15] S sh mi mj mr := zr_s1 (i := 4) (v := .int (x + 1)) (L := [l0, l1, l2, l3, some (.int x), l5, l6, l7, l8, l9, l10, l11, l12, l13, l14, l15]) (zD_of zk_119 d_119_233 rfl rfl) rfl rfl rfl rfl
theorem q_119_236  : zRun 119 236 L S sh mi mj mr = zRun 119 13 L S sh mi mj mr := zr_go (off := (-223)) (zD_of zk_119 d_119_236 rfl rfl) rfl rfl (by decide)
theorem q_119_239 : zRun 119 239 [l0, l1, l2, some (.int x), l4, l5, l6, l7, l8, l9, l10, l11, l12, l13, l14, l15] S sh mi mj mr = zRun 119 240 [l0, l1, l2, some (.int x), l4, l5, l6, l7, l8, l9, l10, l11, l12, l13, l14, l15] (.int x :: S) sh mi mj mr := zr_l (zD_of zk_119 d_119_239 rfl rfl) rfl rfl rfl
theorem q_119_240r : zRun 119 240 [some (.ref o), l1, l2, l3, l4, l5, l6, l7, l8, l9, l10, l11, l12, l13, l14, l15] S sh mi mj mr = zRun 119 241 [some (.ref o), l1, l2, l3, l4, l5, l6, l7, l8, l9, l10, l11, l12, l13, l14, l15] (.ref o :: S) sh mi mj mr := zr_l (zD_of zk_119 d_119_240 rfl rfl) rfl rfl rfl
theorem q_119_240n : zRun 119 240 [some (.null), l1, l2, l3, l4, l5, l6, l7, l8, l9, l10, l11, l12, l13, l14, l15] S sh mi mj mr = zRun 119 241 [some (.null), l1, l2, l3, l4, l5, l6, l7, l8, l9, l10, l11, l12, l13, l14, l15] (.null :: S) sh mi mj mr := zr_l (zD_of zk_119 d_119_240 rfl rfl) rfl rfl rfl
theorem q_119_241 : zRun 119 241 [l0, some (.int x), l2, l3, l4, l5, l6, l7, l8, l9, l10, l11, l12, l13, l14, l15] S sh mi mj mr = zRun 119 242 [l0, some (.int x), l2, l3, l4, l5, l6, l7, l8, l9, l10, l11, l12, l13, l14, l15] (.int x :: S) sh mi mj mr := zr_l (zD_of zk_119 d_119_241 rfl rfl) rfl rfl rfl
theorem q_119_242  {x0 : Int32} (hS : zcat S ≤ 8) (h : zIs sh o 0 7) : zRun 119 242 L (.int x0 :: .ref o :: S) sh mi mj mr = (zCall 87 [.ref o, .int x0] sh mi mj mr).bind fun r => zRun 119 245 L (r.1.toList ++ S) r.2.1 r.2.2.1 r.2.2.2.1 r.2.2.2.2 := zr_V (zD_of zk_119 d_119_242 rfl rfl) rfl zk_87 rfl rfl rfl hS h
theorem q_119_245  : zRun 119 245 L (.int y :: .int x :: S) sh mi mj mr = if x = y then zRun 119 250 L S sh mi mj mr else zRun 119 248 L S sh mi mj mr := zr_if (off := 5) (P := x = y) (zD_of zk_119 d_119_245 rfl rfl) rfl rfl (by decide)
theorem q_119_248  : zRun 119 248 L S sh mi mj mr = zRun 119 249 L (.int 0 :: S) sh mi mj mr := zr_p (zD_of zk_119 d_119_248 rfl rfl) rfl
theorem q_119_249 (h : x = 0 ∨ x = 1) : zRun 119 249 L ([.int x]) sh mi mj mr = some (some (.int x), sh, mi, mj, mr) := zr_ret (zD_of zk_119 d_119_249 rfl rfl) rfl rfl rfl rfl rfl (if_pos (zna_b h))
theorem q_119_250r : zRun 119 250 [some (.ref o), l1, l2, l3, l4, l5, l6, l7, l8, l9, l10, l11, l12, l13, l14, l15] S sh mi mj mr = zRun 119 251 [some (.ref o), l1, l2, l3, l4, l5, l6, l7, l8, l9, l10, l11, l12, l13, l14, l15] (.ref o :: S) sh mi mj mr := zr_l (zD_of zk_119 d_119_250 rfl rfl) rfl rfl rfl
theorem q_119_250n : zRun 119 250 [some (.null), l1, l2, l3, l4, l5, l6, l7, l8, l9, l10, l11, l12, l13, l14, l15] S sh mi mj mr = zRun 119 251 [some (.null), l1, l2, l3, l4, l5, l6, l7, l8, l9, l10, l11, l12, l13, l14, l15] (.null :: S) sh mi mj mr := zr_l (zD_of zk_119 d_119_250 rfl rfl) rfl rfl rfl
theorem q_119_251 : zRun 119 251 [l0, some (.int x), l2, l3, l4, l5, l6, l7, l8, l9, l10, l11, l12, l13, l14, l15] S sh mi mj mr = zRun 119 252 [l0, some (.int x), l2, l3, l4, l5, l6, l7, l8, l9, l10, l11, l12, l13, l14, l15] (.int x :: S) sh mi mj mr := zr_l (zD_of zk_119 d_119_251 rfl rfl) rfl rfl rfl
theorem q_119_252  {x0 : Int32} (hS : zcat S ≤ 8) (h : zIs sh o 0 7) : zRun 119 252 L (.int x0 :: .ref o :: S) sh mi mj mr = (zCall 88 [.ref o, .int x0] sh mi mj mr).bind fun r => zRun 119 255 L (r.1.toList ++ S) r.2.1 r.2.2.1 r.2.2.2.1 r.2.2.2.2 := zr_V (zD_of zk_119 d_119_252 rfl rfl) rfl zk_88 rfl rfl rfl hS h
theorem q_119_255  : zRun 119 255 L (.int x :: S) sh mi mj mr = if x ≤ 0 then zRun 119 305 L S sh mi mj mr else zRun 119 258 L S sh mi mj mr := zr_if (off := 50) (P := x ≤ 0) (zD_of zk_119 d_119_255 rfl rfl) rfl rfl (by decide)
theorem q_119_258r : zRun 119 258 [some (.ref o), l1, l2, l3, l4, l5, l6, l7, l8, l9, l10, l11, l12, l13, l14, l15] S sh mi mj mr = zRun 119 259 [some (.ref o), l1, l2, l3, l4, l5, l6, l7, l8, l9, l10, l11, l12, l13, l14, l15] (.ref o :: S) sh mi mj mr := zr_l (zD_of zk_119 d_119_258 rfl rfl) rfl rfl rfl
theorem q_119_258n : zRun 119 258 [some (.null), l1, l2, l3, l4, l5, l6, l7, l8, l9, l10, l11, l12, l13, l14, l15] S sh mi mj mr = zRun 119 259 [some (.null), l1, l2, l3, l4, l5, l6, l7, l8, l9, l10, l11, l12, l13, l14, l15] (.null :: S) sh mi mj mr := zr_l (zD_of zk_119 d_119_258 rfl rfl) rfl rfl rfl
theorem q_119_259 : zRun 119 259 [l0, some (.int x), l2, l3, l4, l5, l6, l7, l8, l9, l10, l11, l12, l13, l14, l15] S sh mi mj mr = zRun 119 260 [l0, some (.int x), l2, l3, l4, l5, l6, l7, l8, l9, l10, l11, l12, l13, l14, l15] (.int x :: S) sh mi mj mr := zr_l (zD_of zk_119 d_119_259 rfl rfl) rfl rfl rfl
theorem q_119_260  : zRun 119 260 L S sh mi mj mr = zRun 119 261 L (.int 0 :: S) sh mi mj mr := zr_p (zD_of zk_119 d_119_260 rfl rfl) rfl
theorem q_119_261  : zRun 119 261 L S sh mi mj mr = zRun 119 262 L (.int 0 :: S) sh mi mj mr := zr_p (zD_of zk_119 d_119_261 rfl rfl) rfl
theorem q_119_262  {x0 x1 x2 : Int32} (hS : zcat S ≤ 8) (h : zIs sh o 0 7) : zRun 119 262 L (.int x2 :: .int x1 :: .int x0 :: .ref o :: S) sh mi mj mr = (zCall 89 [.ref o, .int x0, .int x1, .int x2] sh mi mj mr).bind fun r => zRun 119 265 L (r.1.toList ++ S) r.2.1 r.2.2.1 r.2.2.2.1 r.2.2.2.2 := zr_V (zD_of zk_119 d_119_262 rfl rfl) rfl zk_89 rfl rfl rfl hS h
theorem q_119_265  : zRun 119 265 L S sh mi mj mr = zRun 119 268 L (.long (-1000000000000000005) :: S) sh mi mj mr := zr_k64 (zD_of zk_119 d_119_265 rfl rfl) rfl
theorem q_119_268  : zRun 119 268 L (.long v :: .long u :: S) sh mi mj mr = if ¬ u = v then zRun 119 303 L S sh mi mj mr else zRun 119 272 L S sh mi mj mr := zr_cmp (off := 34) (zD_of zk_119 d_119_268 rfl rfl) (zD_of zk_119 d_119_269 rfl rfl) rfl rfl (by decide) (not_congr (lg_cmp_eq u v))
theorem q_119_269  : zRun 119 269 L (.int x :: S) sh mi mj mr = if ¬ x = 0 then zRun 119 303 L S sh mi mj mr else zRun 119 272 L S sh mi mj mr := zr_if (off := 34) (P := ¬ x = 0) (zD_of zk_119 d_119_269 rfl rfl) rfl rfl (by decide)
theorem q_119_272r : zRun 119 272 [some (.ref o), l1, l2, l3, l4, l5, l6, l7, l8, l9, l10, l11, l12, l13, l14, l15] S sh mi mj mr = zRun 119 273 [some (.ref o), l1, l2, l3, l4, l5, l6, l7, l8, l9, l10, l11, l12, l13, l14, l15] (.ref o :: S) sh mi mj mr := zr_l (zD_of zk_119 d_119_272 rfl rfl) rfl rfl rfl
theorem q_119_272n : zRun 119 272 [some (.null), l1, l2, l3, l4, l5, l6, l7, l8, l9, l10, l11, l12, l13, l14, l15] S sh mi mj mr = zRun 119 273 [some (.null), l1, l2, l3, l4, l5, l6, l7, l8, l9, l10, l11, l12, l13, l14, l15] (.null :: S) sh mi mj mr := zr_l (zD_of zk_119 d_119_272 rfl rfl) rfl rfl rfl
theorem q_119_273 : zRun 119 273 [l0, some (.int x), l2, l3, l4, l5, l6, l7, l8, l9, l10, l11, l12, l13, l14, l15] S sh mi mj mr = zRun 119 274 [l0, some (.int x), l2, l3, l4, l5, l6, l7, l8, l9, l10, l11, l12, l13, l14, l15] (.int x :: S) sh mi mj mr := zr_l (zD_of zk_119 d_119_273 rfl rfl) rfl rfl rfl
theorem q_119_274 : zRun 119 274 [l0, l1, some (.int x), l3, l4, l5, l6, l7, l8, l9, l10, l11, l12, l13, l14, l15] S sh mi mj mr = zRun 119 275 [l0, l1, some (.int x), l3, l4, l5, l6, l7, l8, l9, l10, l11, l12, l13, l14, l15] (.int x :: S) sh mi mj mr := zr_l (zD_of zk_119 d_119_274 rfl rfl) rfl rfl rfl
theorem q_119_275  : zRun 119 275 L S sh mi mj mr = zRun 119 276 L (.int 1 :: S) sh mi mj mr := zr_p (zD_of zk_119 d_119_275 rfl rfl) rfl
theorem q_119_276  : zRun 119 276 L (.int y :: .int x :: S) sh mi mj mr = zRun 119 277 L (.int (x - y) :: S) sh mi mj mr := zr_p (zD_of zk_119 d_119_276 rfl rfl) rfl
theorem q_119_277  : zRun 119 277 L S sh mi mj mr = zRun 119 278 L (.int 0 :: S) sh mi mj mr := zr_p (zD_of zk_119 d_119_277 rfl rfl) rfl
theorem q_119_278  {x0 x1 x2 : Int32} (hS : zcat S ≤ 8) (h : zIs sh o 0 7) : zRun 119 278 L (.int x2 :: .int x1 :: .int x0 :: .ref o :: S) sh mi mj mr = (zCall 91 [.ref o, .int x0, .int x1, .int x2] sh mi mj mr).bind fun r => zRun 119 281 L (r.1.toList ++ S) r.2.1 r.2.2.1 r.2.2.2.1 r.2.2.2.2 := zr_V (zD_of zk_119 d_119_278 rfl rfl) rfl zk_91 rfl rfl rfl hS h
theorem q_119_281  : zRun 119 281 L S sh mi mj mr = zRun 119 284 L (.long (-1000000000000000005) :: S) sh mi mj mr := zr_k64 (zD_of zk_119 d_119_281 rfl rfl) rfl
theorem q_119_284  : zRun 119 284 L (.long v :: .long u :: S) sh mi mj mr = if ¬ u = v then zRun 119 303 L S sh mi mj mr else zRun 119 288 L S sh mi mj mr := zr_cmp (off := 18) (zD_of zk_119 d_119_284 rfl rfl) (zD_of zk_119 d_119_285 rfl rfl) rfl rfl (by decide) (not_congr (lg_cmp_eq u v))
theorem q_119_285  : zRun 119 285 L (.int x :: S) sh mi mj mr = if ¬ x = 0 then zRun 119 303 L S sh mi mj mr else zRun 119 288 L S sh mi mj mr := zr_if (off := 18) (P := ¬ x = 0) (zD_of zk_119 d_119_285 rfl rfl) rfl rfl (by decide)
theorem q_119_288r : zRun 119 288 [some (.ref o), l1, l2, l3, l4, l5, l6, l7, l8, l9, l10, l11, l12, l13, l14, l15] S sh mi mj mr = zRun 119 289 [some (.ref o), l1, l2, l3, l4, l5, l6, l7, l8, l9, l10, l11, l12, l13, l14, l15] (.ref o :: S) sh mi mj mr := zr_l (zD_of zk_119 d_119_288 rfl rfl) rfl rfl rfl
theorem q_119_288n : zRun 119 288 [some (.null), l1, l2, l3, l4, l5, l6, l7, l8, l9, l10, l11, l12, l13, l14, l15] S sh mi mj mr = zRun 119 289 [some (.null), l1, l2, l3, l4, l5, l6, l7, l8, l9, l10, l11, l12, l13, l14, l15] (.null :: S) sh mi mj mr := zr_l (zD_of zk_119 d_119_288 rfl rfl) rfl rfl rfl
theorem q_119_289 : zRun 119 289 [l0, some (.int x), l2, l3, l4, l5, l6, l7, l8, l9, l10, l11, l12, l13, l14, l15] S sh mi mj mr = zRun 119 290 [l0, some (.int x), l2, l3, l4, l5, l6, l7, l8, l9, l10, l11, l12, l13, l14, l15] (.int x :: S) sh mi mj mr := zr_l (zD_of zk_119 d_119_289 rfl rfl) rfl rfl rfl
theorem q_119_290 : zRun 119 290 [l0, some (.int x), l2, l3, l4, l5, l6, l7, l8, l9, l10, l11, l12, l13, l14, l15] S sh mi mj mr = zRun 119 291 [l0, some (.int x), l2, l3, l4, l5, l6, l7, l8, l9, l10, l11, l12, l13, l14, l15] (.int x :: S) sh mi mj mr := zr_l (zD_of zk_119 d_119_290 rfl rfl) rfl rfl rfl
theorem q_119_291  {x0 x1 : Int32} (hS : zcat S ≤ 8) (h : zIs sh o 0 7) : zRun 119 291 L (.int x1 :: .int x0 :: .ref o :: S) sh mi mj mr = (zCall 95 [.ref o, .int x0, .int x1] sh mi mj mr).bind fun r => zRun 119 294 L (r.1.toList ++ S) r.2.1 r.2.2.1 r.2.2.2.1 r.2.2.2.2 := zr_V (zD_of zk_119 d_119_291 rfl rfl) rfl zk_95 rfl rfl rfl hS h
theorem q_119_294  : zRun 119 294 L S sh mi mj mr = zRun 119 296 L (.int (-5) :: S) sh mi mj mr := zr_p (zD_of zk_119 d_119_294 rfl rfl) rfl
theorem q_119_296  : zRun 119 296 L (.int y :: .int x :: S) sh mi mj mr = if ¬ x = y then zRun 119 303 L S sh mi mj mr else zRun 119 299 L S sh mi mj mr := zr_if (off := 7) (P := ¬ x = y) (zD_of zk_119 d_119_296 rfl rfl) rfl rfl (by decide)
theorem q_119_299  : zRun 119 299 L S sh mi mj mr = zRun 119 300 L (.int 1 :: S) sh mi mj mr := zr_p (zD_of zk_119 d_119_299 rfl rfl) rfl
theorem q_119_300  : zRun 119 300 L S sh mi mj mr = zRun 119 304 L S sh mi mj mr := zr_go (off := 4) (zD_of zk_119 d_119_300 rfl rfl) rfl rfl (by decide)
theorem q_119_303  : zRun 119 303 L S sh mi mj mr = zRun 119 304 L (.int 0 :: S) sh mi mj mr := zr_p (zD_of zk_119 d_119_303 rfl rfl) rfl
theorem q_119_304 (h : x = 0 ∨ x = 1) : zRun 119 304 L ([.int x]) sh mi mj mr = some (some (.int x), sh, mi, mj, mr) := zr_ret (zD_of zk_119 d_119_304 rfl rfl) rfl rfl rfl rfl rfl (if_pos (zna_b h))
theorem q_119_305r : zRun 119 305 [some (.ref o), l1, l2, l3, l4, l5, l6, l7, l8, l9, l10, l11, l12, l13, l14, l15] S sh mi mj mr = zRun 119 306 [some (.ref o), l1, l2, l3, l4, l5, l6, l7, l8, l9, l10, l11, l12, l13, l14, l15] (.ref o :: S) sh mi mj mr := zr_l (zD_of zk_119 d_119_305 rfl rfl) rfl rfl rfl
theorem q_119_305n : zRun 119 305 [some (.null), l1, l2, l3, l4, l5, l6, l7, l8, l9, l10, l11, l12, l13, l14, l15] S sh mi mj mr = zRun 119 306 [some (.null), l1, l2, l3, l4, l5, l6, l7, l8, l9, l10, l11, l12, l13, l14, l15] (.null :: S) sh mi mj mr := zr_l (zD_of zk_119 d_119_305 rfl rfl) rfl rfl rfl
theorem q_119_306 : zRun 119 306 [l0, some (.int x), l2, l3, l4, l5, l6, l7, l8, l9, l10, l11, l12, l13, l14, l15] S sh mi mj mr = zRun 119 307 [l0, some (.int x), l2, l3, l4, l5, l6, l7, l8, l9, l10, l11, l12, l13, l14, l15] (.int x :: S) sh mi mj mr := zr_l (zD_of zk_119 d_119_306 rfl rfl) rfl rfl rfl
theorem q_119_307  : zRun 119 307 L S sh mi mj mr = zRun 119 309 L (.int 13 :: S) sh mi mj mr := zr_p (zD_of zk_119 d_119_307 rfl rfl) rfl
theorem q_119_309  {x0 x1 : Int32} (hS : zcat S ≤ 8) (h : zIs sh o 0 7) : zRun 119 309 L (.int x1 :: .int x0 :: .ref o :: S) sh mi mj mr = (zCall 90 [.ref o, .int x0, .int x1] sh mi mj mr).bind fun r => zRun 119 312 L (r.1.toList ++ S) r.2.1 r.2.2.1 r.2.2.2.1 r.2.2.2.2 := zr_V (zD_of zk_119 d_119_309 rfl rfl) rfl zk_90 rfl rfl rfl hS h
theorem q_119_312 : zRun 119 312 [l0, l1, l2, l3, l4, l5, l6, l7, l8, l9, l10, l11, l12, l13, l14, l15] (.long u :: S) sh mi mj mr = zRun 119 314 [l0, l1, l2, zk2 l3, some (.long u), none, l6, l7, l8, l9, l10, l11, l12, l13, l14, l15] S sh mi mj mr := zr_s2 (i := 4) (v := .long u) (L := [l0, l1, l2, l3, l4, l5, l6, l7, l8, l9, l10, l11, l12, l13, l14, l15]) (zD_of zk_119 d_119_312 rfl rfl) rfl rfl rfl rfl
theorem q_119_314  : zRun 119 314 L S sh mi mj mr = zRun 119 315 L (.int 0 :: S) sh mi mj mr := zr_p (zD_of zk_119 d_119_314 rfl rfl) rfl
theorem q_119_315 : zRun 119 315 [l0, l1, l2, l3, l4, l5, l6, l7, l8, l9, l10, l11, l12, l13, l14, l15] (.int x :: S) sh mi mj mr = zRun 119 317 [l0, l1, l2, l3, l4, zk2 l5, some (.int x), l7, l8, l9, l10, l11, l12, l13, l14, l15] S sh mi mj mr := zr_s1 (i := 6) (v := .int x) (L := [l0, l1, l2, l3, l4, l5, l6, l7, l8, l9, l10, l11, l12, l13, l14, l15]) (zD_of zk_119 d_119_315 rfl rfl) rfl rfl rfl rfl
theorem q_119_317 : zRun 119 317 [l0, l1, l2, l3, l4, l5, some (.int x), l7, l8, l9, l10, l11, l12, l13, l14, l15] S sh mi mj mr = zRun 119 319 [l0, l1, l2, l3, l4, l5, some (.int x), l7, l8, l9, l10, l11, l12, l13, l14, l15] (.int x :: S) sh mi mj mr := zr_l (zD_of zk_119 d_119_317 rfl rfl) rfl rfl rfl
theorem q_119_319  : zRun 119 319 L S sh mi mj mr = zRun 119 321 L (.int 12 :: S) sh mi mj mr := zr_p (zD_of zk_119 d_119_319 rfl rfl) rfl
theorem q_119_321  : zRun 119 321 L (.int y :: .int x :: S) sh mi mj mr = if y ≤ x then zRun 119 398 L S sh mi mj mr else zRun 119 324 L S sh mi mj mr := zr_if (off := 77) (P := y ≤ x) (zD_of zk_119 d_119_321 rfl rfl) rfl rfl (by decide)
theorem q_119_324 : zRun 119 324 [l0, l1, l2, l3, some (.long u), l5, l6, l7, l8, l9, l10, l11, l12, l13, l14, l15] S sh mi mj mr = zRun 119 326 [l0, l1, l2, l3, some (.long u), l5, l6, l7, l8, l9, l10, l11, l12, l13, l14, l15] (.long u :: S) sh mi mj mr := zr_l (zD_of zk_119 d_119_324 rfl rfl) rfl rfl rfl
theorem q_119_326r : zRun 119 326 [some (.ref o), l1, l2, l3, l4, l5, l6, l7, l8, l9, l10, l11, l12, l13, l14, l15] S sh mi mj mr = zRun 119 327 [some (.ref o), l1, l2, l3, l4, l5, l6, l7, l8, l9, l10, l11, l12, l13, l14, l15] (.ref o :: S) sh mi mj mr := zr_l (zD_of zk_119 d_119_326 rfl rfl) rfl rfl rfl
theorem q_119_326n : zRun 119 326 [some (.null), l1, l2, l3, l4, l5, l6, l7, l8, l9, l10, l11, l12, l13, l14, l15] S sh mi mj mr = zRun 119 327 [some (.null), l1, l2, l3, l4, l5, l6, l7, l8, l9, l10, l11, l12, l13, l14, l15] (.null :: S) sh mi mj mr := zr_l (zD_of zk_119 d_119_326 rfl rfl) rfl rfl rfl
theorem q_119_327 : zRun 119 327 [l0, some (.int x), l2, l3, l4, l5, l6, l7, l8, l9, l10, l11, l12, l13, l14, l15] S sh mi mj mr = zRun 119 328 [l0, some (.int x), l2, l3, l4, l5, l6, l7, l8, l9, l10, l11, l12, l13, l14, l15] (.int x :: S) sh mi mj mr := zr_l (zD_of zk_119 d_119_327 rfl rfl) rfl rfl rfl
theorem q_119_328 : zRun 119 328 [l0, l1, l2, l3, l4, l5, some (.int x), l7, l8, l9, l10, l11, l12, l13, l14, l15] S sh mi mj mr = zRun 119 330 [l0, l1, l2, l3, l4, l5, some (.int x), l7, l8, l9, l10, l11, l12, l13, l14, l15] (.int x :: S) sh mi mj mr := zr_l (zD_of zk_119 d_119_328 rfl rfl) rfl rfl rfl
theorem q_119_330  {x0 x1 : Int32} (hS : zcat S ≤ 8) (h : zIs sh o 0 7) : zRun 119 330 L (.int x1 :: .int x0 :: .ref o :: S) sh mi mj mr = (zCall 90 [.ref o, .int x0, .int x1] sh mi mj mr).bind fun r => zRun 119 333 L (r.1.toList ++ S) r.2.1 r.2.2.1 r.2.2.2.1 r.2.2.2.2 := zr_V (zD_of zk_119 d_119_330 rfl rfl) rfl zk_90 rfl rfl rfl hS h
theorem q_119_333  {u0 : Int64} (hS : zcat S ≤ 8) : zRun 119 333 L (.long u0 :: S) sh mi mj mr = (zCall 118 [.long u0] sh mi mj mr).bind fun r => zRun 119 336 L (r.1.toList ++ S) r.2.1 r.2.2.1 r.2.2.2.1 r.2.2.2.2 := zr_S (zD_of zk_119 d_119_333 rfl rfl) rfl zk_118 rfl rfl rfl hS
theorem q_119_336  : zRun 119 336 L (.long v :: .long u :: S) sh mi mj mr = zRun 119 337 L (.long (u + v) :: S) sh mi mj mr := zr_p (zD_of zk_119 d_119_336 rfl rfl) rfl
theorem q_119_337 : zRun 119 337 [l0, l1, l2, l3, l4, l5, l6, l7, l8, l9, l10, l11, l12, l13, l14, l15] (.long u :: S) sh mi mj mr = zRun 119 339 [l0, l1, l2, zk2 l3, some (.long u), none, l6, l7, l8, l9, l10, l11, l12, l13, l14, l15] S sh mi mj mr := zr_s2 (i := 4) (v := .long u) (L := [l0, l1, l2, l3, l4, l5, l6, l7, l8, l9, l10, l11, l12, l13, l14, l15]) (zD_of zk_119 d_119_337 rfl rfl) rfl rfl rfl rfl
theorem q_119_339 : zRun 119 339 [l0, l1, l2, l3, l4, l5, some (.int x), l7, l8, l9, l10, l11, l12, l13, l14, l15] S sh mi mj mr = zRun 119 341 [l0, l1, l2, l3, l4, l5, some (.int x), l7, l8, l9, l10, l11, l12, l13, l14, l15] (.int x :: S) sh mi mj mr := zr_l (zD_of zk_119 d_119_339 rfl rfl) rfl rfl rfl
theorem q_119_341  : zRun 119 341 L S sh mi mj mr = zRun 119 342 L (.int 3 :: S) sh mi mj mr := zr_p (zD_of zk_119 d_119_341 rfl rfl) rfl
theorem q_119_342r : zRun 119 342 [some (.ref o), l1, l2, l3, l4, l5, l6, l7, l8, l9, l10, l11, l12, l13, l14, l15] S sh mi mj mr = zRun 119 343 [some (.ref o), l1, l2, l3, l4, l5, l6, l7, l8, l9, l10, l11, l12, l13, l14, l15] (.ref o :: S) sh mi mj mr := zr_l (zD_of zk_119 d_119_342 rfl rfl) rfl rfl rfl
theorem q_119_342n : zRun 119 342 [some (.null), l1, l2, l3, l4, l5, l6, l7, l8, l9, l10, l11, l12, l13, l14, l15] S sh mi mj mr = zRun 119 343 [some (.null), l1, l2, l3, l4, l5, l6, l7, l8, l9, l10, l11, l12, l13, l14, l15] (.null :: S) sh mi mj mr := zr_l (zD_of zk_119 d_119_342 rfl rfl) rfl rfl rfl
theorem q_119_343  : zRun 119 343 L S sh mi mj mr = zRun 119 344 L (.int 2 :: S) sh mi mj mr := zr_p (zD_of zk_119 d_119_343 rfl rfl) rfl
theorem q_119_344  {x0 : Int32} (hS : zcat S ≤ 8) (h : zIs sh o 0 7) : zRun 119 344 L (.int x0 :: .ref o :: S) sh mi mj mr = (zCall 100 [.ref o, .int x0] sh mi mj mr).bind fun r => zRun 119 347 L (r.1.toList ++ S) r.2.1 r.2.2.1 r.2.2.2.1 r.2.2.2.2 := zr_V (zD_of zk_119 d_119_344 rfl rfl) rfl zk_100 rfl rfl rfl hS h
theorem q_119_347  : zRun 119 347 L (.int y :: .int x :: S) sh mi mj mr = zRun 119 348 L (.int (x + y) :: S) sh mi mj mr := zr_p (zD_of zk_119 d_119_347 rfl rfl) rfl
theorem q_119_348  : zRun 119 348 L (.int y :: .int x :: S) sh mi mj mr = if x ≤ y then zRun 119 363 L S sh mi mj mr else zRun 119 351 L S sh mi mj mr := zr_if (off := 15) (P := x ≤ y) (zD_of zk_119 d_119_348 rfl rfl) rfl rfl (by decide)
theorem q_119_351r : zRun 119 351 [some (.ref o), l1, l2, l3, l4, l5, l6, l7, l8, l9, l10, l11, l12, l13, l14, l15] S sh mi mj mr = zRun 119 352 [some (.ref o), l1, l2, l3, l4, l5, l6, l7, l8, l9, l10, l11, l12, l13, l14, l15] (.ref o :: S) sh mi mj mr := zr_l (zD_of zk_119 d_119_351 rfl rfl) rfl rfl rfl
theorem q_119_351n : zRun 119 351 [some (.null), l1, l2, l3, l4, l5, l6, l7, l8, l9, l10, l11, l12, l13, l14, l15] S sh mi mj mr = zRun 119 352 [some (.null), l1, l2, l3, l4, l5, l6, l7, l8, l9, l10, l11, l12, l13, l14, l15] (.null :: S) sh mi mj mr := zr_l (zD_of zk_119 d_119_351 rfl rfl) rfl rfl rfl
theorem q_119_352 : zRun 119 352 [l0, some (.int x), l2, l3, l4, l5, l6, l7, l8, l9, l10, l11, l12, l13, l14, l15] S sh mi mj mr = zRun 119 353 [l0, some (.int x), l2, l3, l4, l5, l6, l7, l8, l9, l10, l11, l12, l13, l14, l15] (.int x :: S) sh mi mj mr := zr_l (zD_of zk_119 d_119_352 rfl rfl) rfl rfl rfl
theorem q_119_353 : zRun 119 353 [l0, l1, l2, l3, l4, l5, some (.int x), l7, l8, l9, l10, l11, l12, l13, l14, l15] S sh mi mj mr = zRun 119 355 [l0, l1, l2, l3, l4, l5, some (.int x), l7, l8, l9, l10, l11, l12, l13, l14, l15] (.int x :: S) sh mi mj mr := zr_l (zD_of zk_119 d_119_353 rfl rfl) rfl rfl rfl
theorem q_119_355  {x0 x1 : Int32} (hS : zcat S ≤ 8) (h : zIs sh o 0 7) : zRun 119 355 L (.int x1 :: .int x0 :: .ref o :: S) sh mi mj mr = (zCall 90 [.ref o, .int x0, .int x1] sh mi mj mr).bind fun r => zRun 119 358 L (r.1.toList ++ S) r.2.1 r.2.2.1 r.2.2.2.1 r.2.2.2.2 := zr_V (zD_of zk_119 d_119_355 rfl rfl) rfl zk_90 rfl rfl rfl hS h
theorem q_119_358  : zRun 119 358 L S sh mi mj mr = zRun 119 359 L (.long 0 :: S) sh mi mj mr := zr_p (zD_of zk_119 d_119_358 rfl rfl) rfl
theorem q_119_359  : zRun 119 359 L (.long v :: .long u :: S) sh mi mj mr = if ¬ u = v then zRun 119 390 L S sh mi mj mr else zRun 119 363 L S sh mi mj mr := zr_cmp (off := 30) (zD_of zk_119 d_119_359 rfl rfl) (zD_of zk_119 d_119_360 rfl rfl) rfl rfl (by decide) (not_congr (lg_cmp_eq u v))
theorem q_119_360  : zRun 119 360 L (.int x :: S) sh mi mj mr = if ¬ x = 0 then zRun 119 390 L S sh mi mj mr else zRun 119 363 L S sh mi mj mr := zr_if (off := 30) (P := ¬ x = 0) (zD_of zk_119 d_119_360 rfl rfl) rfl rfl (by decide)
theorem q_119_363 : zRun 119 363 [l0, l1, l2, l3, l4, l5, some (.int x), l7, l8, l9, l10, l11, l12, l13, l14, l15] S sh mi mj mr = zRun 119 365 [l0, l1, l2, l3, l4, l5, some (.int x), l7, l8, l9, l10, l11, l12, l13, l14, l15] (.int x :: S) sh mi mj mr := zr_l (zD_of zk_119 d_119_363 rfl rfl) rfl rfl rfl
theorem q_119_365  : zRun 119 365 L S sh mi mj mr = zRun 119 366 L (.int 4 :: S) sh mi mj mr := zr_p (zD_of zk_119 d_119_365 rfl rfl) rfl
theorem q_119_366  : zRun 119 366 L (.int y :: .int x :: S) sh mi mj mr = if y ≤ x then zRun 119 392 L S sh mi mj mr else zRun 119 369 L S sh mi mj mr := zr_if (off := 26) (P := y ≤ x) (zD_of zk_119 d_119_366 rfl rfl) rfl rfl (by decide)
theorem q_119_369 : zRun 119 369 [l0, l1, l2, some (.int x), l4, l5, l6, l7, l8, l9, l10, l11, l12, l13, l14, l15] S sh mi mj mr = zRun 119 370 [l0, l1, l2, some (.int x), l4, l5, l6, l7, l8, l9, l10, l11, l12, l13, l14, l15] (.int x :: S) sh mi mj mr := zr_l (zD_of zk_119 d_119_369 rfl rfl) rfl rfl rfl
theorem q_119_370 : zRun 119 370 [l0, l1, l2, l3, l4, l5, some (.int x), l7, l8, l9, l10, l11, l12, l13, l14, l15] S sh mi mj mr = zRun 119 372 [l0, l1, l2, l3, l4, l5, some (.int x), l7, l8, l9, l10, l11, l12, l13, l14, l15] (.int x :: S) sh mi mj mr := zr_l (zD_of zk_119 d_119_370 rfl rfl) rfl rfl rfl
theorem q_119_372  : zRun 119 372 L (.int y :: .int x :: S) sh mi mj mr = zRun 119 373 L (.int (x >>> (y &&& 31)) :: S) sh mi mj mr := zr_p (zD_of zk_119 d_119_372 rfl rfl) rfl
theorem q_119_373  : zRun 119 373 L S sh mi mj mr = zRun 119 374 L (.int 1 :: S) sh mi mj mr := zr_p (zD_of zk_119 d_119_373 rfl rfl) rfl
theorem q_119_374  : zRun 119 374 L (.int y :: .int x :: S) sh mi mj mr = zRun 119 375 L (.int (x &&& y) :: S) sh mi mj mr := zr_p (zD_of zk_119 d_119_374 rfl rfl) rfl
theorem q_119_375  : zRun 119 375 L (.int x :: S) sh mi mj mr = if ¬ x = 0 then zRun 119 392 L S sh mi mj mr else zRun 119 378 L S sh mi mj mr := zr_if (off := 17) (P := ¬ x = 0) (zD_of zk_119 d_119_375 rfl rfl) rfl rfl (by decide)
theorem q_119_378r : zRun 119 378 [some (.ref o), l1, l2, l3, l4, l5, l6, l7, l8, l9, l10, l11, l12, l13, l14, l15] S sh mi mj mr = zRun 119 379 [some (.ref o), l1, l2, l3, l4, l5, l6, l7, l8, l9, l10, l11, l12, l13, l14, l15] (.ref o :: S) sh mi mj mr := zr_l (zD_of zk_119 d_119_378 rfl rfl) rfl rfl rfl
theorem q_119_378n : zRun 119 378 [some (.null), l1, l2, l3, l4, l5, l6, l7, l8, l9, l10, l11, l12, l13, l14, l15] S sh mi mj mr = zRun 119 379 [some (.null), l1, l2, l3, l4, l5, l6, l7, l8, l9, l10, l11, l12, l13, l14, l15] (.null :: S) sh mi mj mr := zr_l (zD_of zk_119 d_119_378 rfl rfl) rfl rfl rfl
theorem q_119_379 : zRun 119 379 [l0, some (.int x), l2, l3, l4, l5, l6, l7, l8, l9, l10, l11, l12, l13, l14, l15] S sh mi mj mr = zRun 119 380 [l0, some (.int x), l2, l3, l4, l5, l6, l7, l8, l9, l10, l11, l12, l13, l14, l15] (.int x :: S) sh mi mj mr := zr_l (zD_of zk_119 d_119_379 rfl rfl) rfl rfl rfl
theorem q_119_380 : zRun 119 380 [l0, l1, l2, l3, l4, l5, some (.int x), l7, l8, l9, l10, l11, l12, l13, l14, l15] S sh mi mj mr = zRun 119 382 [l0, l1, l2, l3, l4, l5, some (.int x), l7, l8, l9, l10, l11, l12, l13, l14, l15] (.int x :: S) sh mi mj mr := zr_l (zD_of zk_119 d_119_380 rfl rfl) rfl rfl rfl
theorem q_119_382  {x0 x1 : Int32} (hS : zcat S ≤ 8) (h : zIs sh o 0 7) : zRun 119 382 L (.int x1 :: .int x0 :: .ref o :: S) sh mi mj mr = (zCall 90 [.ref o, .int x0, .int x1] sh mi mj mr).bind fun r => zRun 119 385 L (r.1.toList ++ S) r.2.1 r.2.2.1 r.2.2.2.1 r.2.2.2.2 := zr_V (zD_of zk_119 d_119_382 rfl rfl) rfl zk_90 rfl rfl rfl hS h
theorem q_119_385  : zRun 119 385 L S sh mi mj mr = zRun 119 386 L (.long 0 :: S) sh mi mj mr := zr_p (zD_of zk_119 d_119_385 rfl rfl) rfl
theorem q_119_386  : zRun 119 386 L (.long v :: .long u :: S) sh mi mj mr = if u = v then zRun 119 392 L S sh mi mj mr else zRun 119 390 L S sh mi mj mr := zr_cmp (off := 5) (zD_of zk_119 d_119_386 rfl rfl) (zD_of zk_119 d_119_387 rfl rfl) rfl rfl (by decide) (lg_cmp_eq u v)
theorem q_119_387  : zRun 119 387 L (.int x :: S) sh mi mj mr = if x = 0 then zRun 119 392 L S sh mi mj mr else zRun 119 390 L S sh mi mj mr := zr_if (off := 5) (P := x = 0) (zD_of zk_119 d_119_387 rfl rfl) rfl rfl (by decide)
theorem q_119_390  : zRun 119 390 L S sh mi mj mr = zRun 119 391 L (.int 0 :: S) sh mi mj mr := zr_p (zD_of zk_119 d_119_390 rfl rfl) rfl
theorem q_119_391 (h : x = 0 ∨ x = 1) : zRun 119 391 L ([.int x]) sh mi mj mr = some (some (.int x), sh, mi, mj, mr) := zr_ret (zD_of zk_119 d_119_391 rfl rfl) rfl rfl rfl rfl rfl (if_pos (zna_b h))
theorem q_119_392  : zRun 119 392 [l0, l1, l2, l3, l4, l5, some (.int x), l7, l8, l9, l10, l11, l12, l13, l14, l15] S sh mi mj mr = zRun 119 395 [l0, l1, l2, l3, l4, zk2 l5, some (.int (x + 1)), l7, l8, l9, l10, l11, l12, l13, l14, l15] S sh mi mj mr := zr_s1 (i := 6) (v := .int (x + 1)) (L := [l0, l1, l2, l3, l4, l5, some (.int x), l7, l8, l9, l10, l11, l12, l13, l14, l15]) (zD_of zk_119 d_119_392 rfl rfl) rfl rfl rfl rfl
theorem q_119_395  : zRun 119 395 L S sh mi mj mr = zRun 119 317 L S sh mi mj mr := zr_go (off := (-78)) (zD_of zk_119 d_119_395 rfl rfl) rfl rfl (by decide)
theorem q_119_398r : zRun 119 398 [some (.ref o), l1, l2, l3, l4, l5, l6, l7, l8, l9, l10, l11, l12, l13, l14, l15] S sh mi mj mr = zRun 119 399 [some (.ref o), l1, l2, l3, l4, l5, l6, l7, l8, l9, l10, l11, l12, l13, l14, l15] (.ref o :: S) sh mi mj mr := zr_l (zD_of zk_119 d_119_398 rfl rfl) rfl rfl rfl
theorem q_119_398n : zRun 119 398 [some (.null), l1, l2, l3, l4, l5, l6, l7, l8, l9, l10, l11, l12, l13, l14, l15] S sh mi mj mr = zRun 119 399 [some (.null), l1, l2, l3, l4, l5, l6, l7, l8, l9, l10, l11, l12, l13, l14, l15] (.null :: S) sh mi mj mr := zr_l (zD_of zk_119 d_119_398 rfl rfl) rfl rfl rfl
theorem q_119_399 : zRun 119 399 [l0, some (.int x), l2, l3, l4, l5, l6, l7, l8, l9, l10, l11, l12, l13, l14, l15] S sh mi mj mr = zRun 119 400 [l0, some (.int x), l2, l3, l4, l5, l6, l7, l8, l9, l10, l11, l12, l13, l14, l15] (.int x :: S) sh mi mj mr := zr_l (zD_of zk_119 d_119_399 rfl rfl) rfl rfl rfl
theorem q_119_400  : zRun 119 400 L S sh mi mj mr = zRun 119 402 L (.int 12 :: S) sh mi mj mr := zr_p (zD_of zk_119 d_119_400 rfl rfl) rfl
theorem q_119_402  {x0 x1 : Int32} (hS : zcat S ≤ 8) (h : zIs sh o 0 7) : zRun 119 402 L (.int x1 :: .int x0 :: .ref o :: S) sh mi mj mr = (zCall 90 [.ref o, .int x0, .int x1] sh mi mj mr).bind fun r => zRun 119 405 L (r.1.toList ++ S) r.2.1 r.2.2.1 r.2.2.2.1 r.2.2.2.2 := zr_V (zD_of zk_119 d_119_402 rfl rfl) rfl zk_90 rfl rfl rfl hS h
theorem q_119_405 : zRun 119 405 [l0, l1, l2, l3, some (.long u), l5, l6, l7, l8, l9, l10, l11, l12, l13, l14, l15] S sh mi mj mr = zRun 119 407 [l0, l1, l2, l3, some (.long u), l5, l6, l7, l8, l9, l10, l11, l12, l13, l14, l15] (.long u :: S) sh mi mj mr := zr_l (zD_of zk_119 d_119_405 rfl rfl) rfl rfl rfl
theorem q_119_407  : zRun 119 407 L (.long v :: .long u :: S) sh mi mj mr = zRun 119 408 L (.long (u - v) :: S) sh mi mj mr := zr_p (zD_of zk_119 d_119_407 rfl rfl) rfl
theorem q_119_408 : zRun 119 408 [l0, l1, l2, l3, l4, l5, l6, l7, l8, l9, l10, l11, l12, l13, l14, l15] (.long u :: S) sh mi mj mr = zRun 119 410 [l0, l1, l2, l3, l4, zk2 l5, some (.long u), none, l8, l9, l10, l11, l12, l13, l14, l15] S sh mi mj mr := zr_s2 (i := 6) (v := .long u) (L := [l0, l1, l2, l3, l4, l5, l6, l7, l8, l9, l10, l11, l12, l13, l14, l15]) (zD_of zk_119 d_119_408 rfl rfl) rfl rfl rfl rfl
theorem q_119_410r : zRun 119 410 [some (.ref o), l1, l2, l3, l4, l5, l6, l7, l8, l9, l10, l11, l12, l13, l14, l15] S sh mi mj mr = zRun 119 411 [some (.ref o), l1, l2, l3, l4, l5, l6, l7, l8, l9, l10, l11, l12, l13, l14, l15] (.ref o :: S) sh mi mj mr := zr_l (zD_of zk_119 d_119_410 rfl rfl) rfl rfl rfl
theorem q_119_410n : zRun 119 410 [some (.null), l1, l2, l3, l4, l5, l6, l7, l8, l9, l10, l11, l12, l13, l14, l15] S sh mi mj mr = zRun 119 411 [some (.null), l1, l2, l3, l4, l5, l6, l7, l8, l9, l10, l11, l12, l13, l14, l15] (.null :: S) sh mi mj mr := zr_l (zD_of zk_119 d_119_410 rfl rfl) rfl rfl rfl
theorem q_119_411 : zRun 119 411 [l0, some (.int x), l2, l3, l4, l5, l6, l7, l8, l9, l10, l11, l12, l13, l14, l15] S sh mi mj mr = zRun 119 412 [l0, some (.int x), l2, l3, l4, l5, l6, l7, l8, l9, l10, l11, l12, l13, l14, l15] (.int x :: S) sh mi mj mr := zr_l (zD_of zk_119 d_119_411 rfl rfl) rfl rfl rfl
theorem q_119_412  : zRun 119 412 L S sh mi mj mr = zRun 119 414 L (.int 12 :: S) sh mi mj mr := zr_p (zD_of zk_119 d_119_412 rfl rfl) rfl
theorem q_119_414  {x0 x1 : Int32} (hS : zcat S ≤ 8) (h : zIs sh o 0 7) : zRun 119 414 L (.int x1 :: .int x0 :: .ref o :: S) sh mi mj mr = (zCall 90 [.ref o, .int x0, .int x1] sh mi mj mr).bind fun r => zRun 119 417 L (r.1.toList ++ S) r.2.1 r.2.2.1 r.2.2.2.1 r.2.2.2.2 := zr_V (zD_of zk_119 d_119_414 rfl rfl) rfl zk_90 rfl rfl rfl hS h
theorem q_119_417 : zRun 119 417 [l0, l1, l2, l3, some (.long u), l5, l6, l7, l8, l9, l10, l11, l12, l13, l14, l15] S sh mi mj mr = zRun 119 419 [l0, l1, l2, l3, some (.long u), l5, l6, l7, l8, l9, l10, l11, l12, l13, l14, l15] (.long u :: S) sh mi mj mr := zr_l (zD_of zk_119 d_119_417 rfl rfl) rfl rfl rfl
theorem q_119_419  : zRun 119 419 L (.long v :: .long u :: S) sh mi mj mr = zRun 119 420 L (.long (u + v) :: S) sh mi mj mr := zr_p (zD_of zk_119 d_119_419 rfl rfl) rfl
theorem q_119_420 : zRun 119 420 [l0, l1, l2, l3, l4, l5, l6, l7, l8, l9, l10, l11, l12, l13, l14, l15] (.long u :: S) sh mi mj mr = zRun 119 422 [l0, l1, l2, l3, l4, l5, l6, zk2 l7, some (.long u), none, l10, l11, l12, l13, l14, l15] S sh mi mj mr := zr_s2 (i := 8) (v := .long u) (L := [l0, l1, l2, l3, l4, l5, l6, l7, l8, l9, l10, l11, l12, l13, l14, l15]) (zD_of zk_119 d_119_420 rfl rfl) rfl rfl rfl rfl
theorem q_119_422r : zRun 119 422 [some (.ref o), l1, l2, l3, l4, l5, l6, l7, l8, l9, l10, l11, l12, l13, l14, l15] S sh mi mj mr = zRun 119 423 [some (.ref o), l1, l2, l3, l4, l5, l6, l7, l8, l9, l10, l11, l12, l13, l14, l15] (.ref o :: S) sh mi mj mr := zr_l (zD_of zk_119 d_119_422 rfl rfl) rfl rfl rfl
theorem q_119_422n : zRun 119 422 [some (.null), l1, l2, l3, l4, l5, l6, l7, l8, l9, l10, l11, l12, l13, l14, l15] S sh mi mj mr = zRun 119 423 [some (.null), l1, l2, l3, l4, l5, l6, l7, l8, l9, l10, l11, l12, l13, l14, l15] (.null :: S) sh mi mj mr := zr_l (zD_of zk_119 d_119_422 rfl rfl) rfl rfl rfl
theorem q_119_423 : zRun 119 423 [l0, some (.int x), l2, l3, l4, l5, l6, l7, l8, l9, l10, l11, l12, l13, l14, l15] S sh mi mj mr = zRun 119 424 [l0, some (.int x), l2, l3, l4, l5, l6, l7, l8, l9, l10, l11, l12, l13, l14, l15] (.int x :: S) sh mi mj mr := zr_l (zD_of zk_119 d_119_423 rfl rfl) rfl rfl rfl
theorem q_119_424  : zRun 119 424 L S sh mi mj mr = zRun 119 425 L (.int 1 :: S) sh mi mj mr := zr_p (zD_of zk_119 d_119_424 rfl rfl) rfl
theorem q_119_425  : zRun 119 425 L S sh mi mj mr = zRun 119 426 L (.int 0 :: S) sh mi mj mr := zr_p (zD_of zk_119 d_119_425 rfl rfl) rfl
theorem q_119_426  {x0 x1 x2 : Int32} (hS : zcat S ≤ 8) (h : zIs sh o 0 7) : zRun 119 426 L (.int x2 :: .int x1 :: .int x0 :: .ref o :: S) sh mi mj mr = (zCall 89 [.ref o, .int x0, .int x1, .int x2] sh mi mj mr).bind fun r => zRun 119 429 L (r.1.toList ++ S) r.2.1 r.2.2.1 r.2.2.2.1 r.2.2.2.2 := zr_V (zD_of zk_119 d_119_426 rfl rfl) rfl zk_89 rfl rfl rfl hS h
theorem q_119_429 : zRun 119 429 [l0, l1, l2, l3, l4, l5, l6, l7, l8, l9, l10, l11, l12, l13, l14, l15] (.long u :: S) sh mi mj mr = zRun 119 431 [l0, l1, l2, l3, l4, l5, l6, l7, l8, zk2 l9, some (.long u), none, l12, l13, l14, l15] S sh mi mj mr := zr_s2 (i := 10) (v := .long u) (L := [l0, l1, l2, l3, l4, l5, l6, l7, l8, l9, l10, l11, l12, l13, l14, l15]) (zD_of zk_119 d_119_429 rfl rfl) rfl rfl rfl rfl
theorem q_119_431r : zRun 119 431 [some (.ref o), l1, l2, l3, l4, l5, l6, l7, l8, l9, l10, l11, l12, l13, l14, l15] S sh mi mj mr = zRun 119 432 [some (.ref o), l1, l2, l3, l4, l5, l6, l7, l8, l9, l10, l11, l12, l13, l14, l15] (.ref o :: S) sh mi mj mr := zr_l (zD_of zk_119 d_119_431 rfl rfl) rfl rfl rfl
theorem q_119_431n : zRun 119 431 [some (.null), l1, l2, l3, l4, l5, l6, l7, l8, l9, l10, l11, l12, l13, l14, l15] S sh mi mj mr = zRun 119 432 [some (.null), l1, l2, l3, l4, l5, l6, l7, l8, l9, l10, l11, l12, l13, l14, l15] (.null :: S) sh mi mj mr := zr_l (zD_of zk_119 d_119_431 rfl rfl) rfl rfl rfl
theorem q_119_432 : zRun 119 432 [l0, some (.int x), l2, l3, l4, l5, l6, l7, l8, l9, l10, l11, l12, l13, l14, l15] S sh mi mj mr = zRun 119 433 [l0, some (.int x), l2, l3, l4, l5, l6, l7, l8, l9, l10, l11, l12, l13, l14, l15] (.int x :: S) sh mi mj mr := zr_l (zD_of zk_119 d_119_432 rfl rfl) rfl rfl rfl
theorem q_119_433  : zRun 119 433 L S sh mi mj mr = zRun 119 434 L (.int 1 :: S) sh mi mj mr := zr_p (zD_of zk_119 d_119_433 rfl rfl) rfl
theorem q_119_434  : zRun 119 434 L S sh mi mj mr = zRun 119 435 L (.int 1 :: S) sh mi mj mr := zr_p (zD_of zk_119 d_119_434 rfl rfl) rfl
theorem q_119_435  {x0 x1 x2 : Int32} (hS : zcat S ≤ 8) (h : zIs sh o 0 7) : zRun 119 435 L (.int x2 :: .int x1 :: .int x0 :: .ref o :: S) sh mi mj mr = (zCall 89 [.ref o, .int x0, .int x1, .int x2] sh mi mj mr).bind fun r => zRun 119 438 L (r.1.toList ++ S) r.2.1 r.2.2.1 r.2.2.2.1 r.2.2.2.2 := zr_V (zD_of zk_119 d_119_435 rfl rfl) rfl zk_89 rfl rfl rfl hS h
theorem q_119_438 : zRun 119 438 [l0, l1, l2, l3, l4, l5, l6, l7, l8, l9, l10, l11, l12, l13, l14, l15] (.long u :: S) sh mi mj mr = zRun 119 440 [l0, l1, l2, l3, l4, l5, l6, l7, l8, l9, l10, zk2 l11, some (.long u), none, l14, l15] S sh mi mj mr := zr_s2 (i := 12) (v := .long u) (L := [l0, l1, l2, l3, l4, l5, l6, l7, l8, l9, l10, l11, l12, l13, l14, l15]) (zD_of zk_119 d_119_438 rfl rfl) rfl rfl rfl rfl
theorem q_119_440r : zRun 119 440 [some (.ref o), l1, l2, l3, l4, l5, l6, l7, l8, l9, l10, l11, l12, l13, l14, l15] S sh mi mj mr = zRun 119 441 [some (.ref o), l1, l2, l3, l4, l5, l6, l7, l8, l9, l10, l11, l12, l13, l14, l15] (.ref o :: S) sh mi mj mr := zr_l (zD_of zk_119 d_119_440 rfl rfl) rfl rfl rfl
theorem q_119_440n : zRun 119 440 [some (.null), l1, l2, l3, l4, l5, l6, l7, l8, l9, l10, l11, l12, l13, l14, l15] S sh mi mj mr = zRun 119 441 [some (.null), l1, l2, l3, l4, l5, l6, l7, l8, l9, l10, l11, l12, l13, l14, l15] (.null :: S) sh mi mj mr := zr_l (zD_of zk_119 d_119_440 rfl rfl) rfl rfl rfl
theorem q_119_441 : zRun 119 441 [l0, some (.int x), l2, l3, l4, l5, l6, l7, l8, l9, l10, l11, l12, l13, l14, l15] S sh mi mj mr = zRun 119 442 [l0, some (.int x), l2, l3, l4, l5, l6, l7, l8, l9, l10, l11, l12, l13, l14, l15] (.int x :: S) sh mi mj mr := zr_l (zD_of zk_119 d_119_441 rfl rfl) rfl rfl rfl
theorem q_119_442  : zRun 119 442 L S sh mi mj mr = zRun 119 444 L (.int 14 :: S) sh mi mj mr := zr_p (zD_of zk_119 d_119_442 rfl rfl) rfl
theorem q_119_444  {x0 x1 : Int32} (hS : zcat S ≤ 8) (h : zIs sh o 0 7) : zRun 119 444 L (.int x1 :: .int x0 :: .ref o :: S) sh mi mj mr = (zCall 90 [.ref o, .int x0, .int x1] sh mi mj mr).bind fun r => zRun 119 447 L (r.1.toList ++ S) r.2.1 r.2.2.1 r.2.2.2.1 r.2.2.2.2 := zr_V (zD_of zk_119 d_119_444 rfl rfl) rfl zk_90 rfl rfl rfl hS h
theorem q_119_447 : zRun 119 447 [l0, l1, l2, l3, some (.long u), l5, l6, l7, l8, l9, l10, l11, l12, l13, l14, l15] S sh mi mj mr = zRun 119 449 [l0, l1, l2, l3, some (.long u), l5, l6, l7, l8, l9, l10, l11, l12, l13, l14, l15] (.long u :: S) sh mi mj mr := zr_l (zD_of zk_119 d_119_447 rfl rfl) rfl rfl rfl
theorem q_119_449  : zRun 119 449 L (.long v :: .long u :: S) sh mi mj mr = if ¬ u = v then zRun 119 569 L S sh mi mj mr else zRun 119 453 L S sh mi mj mr := zr_cmp (off := 119) (zD_of zk_119 d_119_449 rfl rfl) (zD_of zk_119 d_119_450 rfl rfl) rfl rfl (by decide) (not_congr (lg_cmp_eq u v))
theorem q_119_450  : zRun 119 450 L (.int x :: S) sh mi mj mr = if ¬ x = 0 then zRun 119 569 L S sh mi mj mr else zRun 119 453 L S sh mi mj mr := zr_if (off := 119) (P := ¬ x = 0) (zD_of zk_119 d_119_450 rfl rfl) rfl rfl (by decide)
theorem q_119_453r : zRun 119 453 [some (.ref o), l1, l2, l3, l4, l5, l6, l7, l8, l9, l10, l11, l12, l13, l14, l15] S sh mi mj mr = zRun 119 454 [some (.ref o), l1, l2, l3, l4, l5, l6, l7, l8, l9, l10, l11, l12, l13, l14, l15] (.ref o :: S) sh mi mj mr := zr_l (zD_of zk_119 d_119_453 rfl rfl) rfl rfl rfl
theorem q_119_453n : zRun 119 453 [some (.null), l1, l2, l3, l4, l5, l6, l7, l8, l9, l10, l11, l12, l13, l14, l15] S sh mi mj mr = zRun 119 454 [some (.null), l1, l2, l3, l4, l5, l6, l7, l8, l9, l10, l11, l12, l13, l14, l15] (.null :: S) sh mi mj mr := zr_l (zD_of zk_119 d_119_453 rfl rfl) rfl rfl rfl
theorem q_119_454 : zRun 119 454 [l0, some (.int x), l2, l3, l4, l5, l6, l7, l8, l9, l10, l11, l12, l13, l14, l15] S sh mi mj mr = zRun 119 455 [l0, some (.int x), l2, l3, l4, l5, l6, l7, l8, l9, l10, l11, l12, l13, l14, l15] (.int x :: S) sh mi mj mr := zr_l (zD_of zk_119 d_119_454 rfl rfl) rfl rfl rfl
theorem q_119_455  : zRun 119 455 L S sh mi mj mr = zRun 119 456 L (.int 0 :: S) sh mi mj mr := zr_p (zD_of zk_119 d_119_455 rfl rfl) rfl
theorem q_119_456  : zRun 119 456 L S sh mi mj mr = zRun 119 457 L (.int 0 :: S) sh mi mj mr := zr_p (zD_of zk_119 d_119_456 rfl rfl) rfl
theorem q_119_457  {x0 x1 x2 : Int32} (hS : zcat S ≤ 8) (h : zIs sh o 0 7) : zRun 119 457 L (.int x2 :: .int x1 :: .int x0 :: .ref o :: S) sh mi mj mr = (zCall 89 [.ref o, .int x0, .int x1, .int x2] sh mi mj mr).bind fun r => zRun 119 460 L (r.1.toList ++ S) r.2.1 r.2.2.1 r.2.2.2.1 r.2.2.2.2 := zr_V (zD_of zk_119 d_119_457 rfl rfl) rfl zk_89 rfl rfl rfl hS h
theorem q_119_460 : zRun 119 460 [l0, l1, l2, l3, l4, l5, some (.long u), l7, l8, l9, l10, l11, l12, l13, l14, l15] S sh mi mj mr = zRun 119 462 [l0, l1, l2, l3, l4, l5, some (.long u), l7, l8, l9, l10, l11, l12, l13, l14, l15] (.long u :: S) sh mi mj mr := zr_l (zD_of zk_119 d_119_460 rfl rfl) rfl rfl rfl
theorem q_119_462  : zRun 119 462 L (.long v :: .long u :: S) sh mi mj mr = if ¬ u = v then zRun 119 569 L S sh mi mj mr else zRun 119 466 L S sh mi mj mr := zr_cmp (off := 106) (zD_of zk_119 d_119_462 rfl rfl) (zD_of zk_119 d_119_463 rfl rfl) rfl rfl (by decide) (not_congr (lg_cmp_eq u v))
theorem q_119_463  : zRun 119 463 L (.int x :: S) sh mi mj mr = if ¬ x = 0 then zRun 119 569 L S sh mi mj mr else zRun 119 466 L S sh mi mj mr := zr_if (off := 106) (P := ¬ x = 0) (zD_of zk_119 d_119_463 rfl rfl) rfl rfl (by decide)
theorem q_119_466r : zRun 119 466 [some (.ref o), l1, l2, l3, l4, l5, l6, l7, l8, l9, l10, l11, l12, l13, l14, l15] S sh mi mj mr = zRun 119 467 [some (.ref o), l1, l2, l3, l4, l5, l6, l7, l8, l9, l10, l11, l12, l13, l14, l15] (.ref o :: S) sh mi mj mr := zr_l (zD_of zk_119 d_119_466 rfl rfl) rfl rfl rfl
theorem q_119_466n : zRun 119 466 [some (.null), l1, l2, l3, l4, l5, l6, l7, l8, l9, l10, l11, l12, l13, l14, l15] S sh mi mj mr = zRun 119 467 [some (.null), l1, l2, l3, l4, l5, l6, l7, l8, l9, l10, l11, l12, l13, l14, l15] (.null :: S) sh mi mj mr := zr_l (zD_of zk_119 d_119_466 rfl rfl) rfl rfl rfl
theorem q_119_467 : zRun 119 467 [l0, some (.int x), l2, l3, l4, l5, l6, l7, l8, l9, l10, l11, l12, l13, l14, l15] S sh mi mj mr = zRun 119 468 [l0, some (.int x), l2, l3, l4, l5, l6, l7, l8, l9, l10, l11, l12, l13, l14, l15] (.int x :: S) sh mi mj mr := zr_l (zD_of zk_119 d_119_467 rfl rfl) rfl rfl rfl
theorem q_119_468  : zRun 119 468 L S sh mi mj mr = zRun 119 469 L (.int 0 :: S) sh mi mj mr := zr_p (zD_of zk_119 d_119_468 rfl rfl) rfl
theorem q_119_469  : zRun 119 469 L S sh mi mj mr = zRun 119 470 L (.int 1 :: S) sh mi mj mr := zr_p (zD_of zk_119 d_119_469 rfl rfl) rfl
theorem q_119_470  {x0 x1 x2 : Int32} (hS : zcat S ≤ 8) (h : zIs sh o 0 7) : zRun 119 470 L (.int x2 :: .int x1 :: .int x0 :: .ref o :: S) sh mi mj mr = (zCall 89 [.ref o, .int x0, .int x1, .int x2] sh mi mj mr).bind fun r => zRun 119 473 L (r.1.toList ++ S) r.2.1 r.2.2.1 r.2.2.2.1 r.2.2.2.2 := zr_V (zD_of zk_119 d_119_470 rfl rfl) rfl zk_89 rfl rfl rfl hS h
theorem q_119_473 : zRun 119 473 [l0, l1, l2, l3, l4, l5, l6, l7, some (.long u), l9, l10, l11, l12, l13, l14, l15] S sh mi mj mr = zRun 119 475 [l0, l1, l2, l3, l4, l5, l6, l7, some (.long u), l9, l10, l11, l12, l13, l14, l15] (.long u :: S) sh mi mj mr := zr_l (zD_of zk_119 d_119_473 rfl rfl) rfl rfl rfl
theorem q_119_475  : zRun 119 475 L (.long v :: .long u :: S) sh mi mj mr = if ¬ u = v then zRun 119 569 L S sh mi mj mr else zRun 119 479 L S sh mi mj mr := zr_cmp (off := 93) (zD_of zk_119 d_119_475 rfl rfl) (zD_of zk_119 d_119_476 rfl rfl) rfl rfl (by decide) (not_congr (lg_cmp_eq u v))
theorem q_119_476  : zRun 119 476 L (.int x :: S) sh mi mj mr = if ¬ x = 0 then zRun 119 569 L S sh mi mj mr else zRun 119 479 L S sh mi mj mr := zr_if (off := 93) (P := ¬ x = 0) (zD_of zk_119 d_119_476 rfl rfl) rfl rfl (by decide)
theorem q_119_479r : zRun 119 479 [some (.ref o), l1, l2, l3, l4, l5, l6, l7, l8, l9, l10, l11, l12, l13, l14, l15] S sh mi mj mr = zRun 119 480 [some (.ref o), l1, l2, l3, l4, l5, l6, l7, l8, l9, l10, l11, l12, l13, l14, l15] (.ref o :: S) sh mi mj mr := zr_l (zD_of zk_119 d_119_479 rfl rfl) rfl rfl rfl
theorem q_119_479n : zRun 119 479 [some (.null), l1, l2, l3, l4, l5, l6, l7, l8, l9, l10, l11, l12, l13, l14, l15] S sh mi mj mr = zRun 119 480 [some (.null), l1, l2, l3, l4, l5, l6, l7, l8, l9, l10, l11, l12, l13, l14, l15] (.null :: S) sh mi mj mr := zr_l (zD_of zk_119 d_119_479 rfl rfl) rfl rfl rfl
theorem q_119_480 : zRun 119 480 [l0, some (.int x), l2, l3, l4, l5, l6, l7, l8, l9, l10, l11, l12, l13, l14, l15] S sh mi mj mr = zRun 119 481 [l0, some (.int x), l2, l3, l4, l5, l6, l7, l8, l9, l10, l11, l12, l13, l14, l15] (.int x :: S) sh mi mj mr := zr_l (zD_of zk_119 d_119_480 rfl rfl) rfl rfl rfl
theorem q_119_481  : zRun 119 481 L S sh mi mj mr = zRun 119 482 L (.int 2 :: S) sh mi mj mr := zr_p (zD_of zk_119 d_119_481 rfl rfl) rfl
theorem q_119_482  : zRun 119 482 L S sh mi mj mr = zRun 119 483 L (.int 0 :: S) sh mi mj mr := zr_p (zD_of zk_119 d_119_482 rfl rfl) rfl
theorem q_119_483  {x0 x1 x2 : Int32} (hS : zcat S ≤ 8) (h : zIs sh o 0 7) : zRun 119 483 L (.int x2 :: .int x1 :: .int x0 :: .ref o :: S) sh mi mj mr = (zCall 89 [.ref o, .int x0, .int x1, .int x2] sh mi mj mr).bind fun r => zRun 119 486 L (r.1.toList ++ S) r.2.1 r.2.2.1 r.2.2.2.1 r.2.2.2.2 := zr_V (zD_of zk_119 d_119_483 rfl rfl) rfl zk_89 rfl rfl rfl hS h
theorem q_119_486 : zRun 119 486 [l0, l1, l2, l3, l4, l5, some (.long u), l7, l8, l9, l10, l11, l12, l13, l14, l15] S sh mi mj mr = zRun 119 488 [l0, l1, l2, l3, l4, l5, some (.long u), l7, l8, l9, l10, l11, l12, l13, l14, l15] (.long u :: S) sh mi mj mr := zr_l (zD_of zk_119 d_119_486 rfl rfl) rfl rfl rfl
theorem q_119_488 : zRun 119 488 [l0, l1, l2, l3, l4, l5, l6, l7, l8, l9, some (.long u), l11, l12, l13, l14, l15] S sh mi mj mr = zRun 119 490 [l0, l1, l2, l3, l4, l5, l6, l7, l8, l9, some (.long u), l11, l12, l13, l14, l15] (.long u :: S) sh mi mj mr := zr_l (zD_of zk_119 d_119_488 rfl rfl) rfl rfl rfl
theorem q_119_490  : zRun 119 490 L (.long v :: .long u :: S) sh mi mj mr = if u ≤ v then zRun 119 499 L S sh mi mj mr else zRun 119 494 L S sh mi mj mr := zr_cmp (off := 8) (zD_of zk_119 d_119_490 rfl rfl) (zD_of zk_119 d_119_491 rfl rfl) rfl rfl (by decide) (lg_cmp_le u v)
theorem q_119_491  : zRun 119 491 L (.int x :: S) sh mi mj mr = if x ≤ 0 then zRun 119 499 L S sh mi mj mr else zRun 119 494 L S sh mi mj mr := zr_if (off := 8) (P := x ≤ 0) (zD_of zk_119 d_119_491 rfl rfl) rfl rfl (by decide)
theorem q_119_494 : zRun 119 494 [l0, l1, l2, l3, l4, l5, some (.long u), l7, l8, l9, l10, l11, l12, l13, l14, l15] S sh mi mj mr = zRun 119 496 [l0, l1, l2, l3, l4, l5, some (.long u), l7, l8, l9, l10, l11, l12, l13, l14, l15] (.long u :: S) sh mi mj mr := zr_l (zD_of zk_119 d_119_494 rfl rfl) rfl rfl rfl
theorem q_119_496  : zRun 119 496 L S sh mi mj mr = zRun 119 501 L S sh mi mj mr := zr_go (off := 5) (zD_of zk_119 d_119_496 rfl rfl) rfl rfl (by decide)
theorem q_119_499 : zRun 119 499 [l0, l1, l2, l3, l4, l5, l6, l7, l8, l9, some (.long u), l11, l12, l13, l14, l15] S sh mi mj mr = zRun 119 501 [l0, l1, l2, l3, l4, l5, l6, l7, l8, l9, some (.long u), l11, l12, l13, l14, l15] (.long u :: S) sh mi mj mr := zr_l (zD_of zk_119 d_119_499 rfl rfl) rfl rfl rfl
theorem q_119_501  : zRun 119 501 L (.long v :: .long u :: S) sh mi mj mr = if ¬ u = v then zRun 119 569 L S sh mi mj mr else zRun 119 505 L S sh mi mj mr := zr_cmp (off := 67) (zD_of zk_119 d_119_501 rfl rfl) (zD_of zk_119 d_119_502 rfl rfl) rfl rfl (by decide) (not_congr (lg_cmp_eq u v))
theorem q_119_502  : zRun 119 502 L (.int x :: S) sh mi mj mr = if ¬ x = 0 then zRun 119 569 L S sh mi mj mr else zRun 119 505 L S sh mi mj mr := zr_if (off := 67) (P := ¬ x = 0) (zD_of zk_119 d_119_502 rfl rfl) rfl rfl (by decide)
theorem q_119_505r : zRun 119 505 [some (.ref o), l1, l2, l3, l4, l5, l6, l7, l8, l9, l10, l11, l12, l13, l14, l15] S sh mi mj mr = zRun 119 506 [some (.ref o), l1, l2, l3, l4, l5, l6, l7, l8, l9, l10, l11, l12, l13, l14, l15] (.ref o :: S) sh mi mj mr := zr_l (zD_of zk_119 d_119_505 rfl rfl) rfl rfl rfl
theorem q_119_505n : zRun 119 505 [some (.null), l1, l2, l3, l4, l5, l6, l7, l8, l9, l10, l11, l12, l13, l14, l15] S sh mi mj mr = zRun 119 506 [some (.null), l1, l2, l3, l4, l5, l6, l7, l8, l9, l10, l11, l12, l13, l14, l15] (.null :: S) sh mi mj mr := zr_l (zD_of zk_119 d_119_505 rfl rfl) rfl rfl rfl
theorem q_119_506 : zRun 119 506 [l0, some (.int x), l2, l3, l4, l5, l6, l7, l8, l9, l10, l11, l12, l13, l14, l15] S sh mi mj mr = zRun 119 507 [l0, some (.int x), l2, l3, l4, l5, l6, l7, l8, l9, l10, l11, l12, l13, l14, l15] (.int x :: S) sh mi mj mr := zr_l (zD_of zk_119 d_119_506 rfl rfl) rfl rfl rfl
theorem q_119_507  : zRun 119 507 L S sh mi mj mr = zRun 119 508 L (.int 2 :: S) sh mi mj mr := zr_p (zD_of zk_119 d_119_507 rfl rfl) rfl
theorem q_119_508  : zRun 119 508 L S sh mi mj mr = zRun 119 509 L (.int 1 :: S) sh mi mj mr := zr_p (zD_of zk_119 d_119_508 rfl rfl) rfl
theorem q_119_509  {x0 x1 x2 : Int32} (hS : zcat S ≤ 8) (h : zIs sh o 0 7) : zRun 119 509 L (.int x2 :: .int x1 :: .int x0 :: .ref o :: S) sh mi mj mr = (zCall 89 [.ref o, .int x0, .int x1, .int x2] sh mi mj mr).bind fun r => zRun 119 512 L (r.1.toList ++ S) r.2.1 r.2.2.1 r.2.2.2.1 r.2.2.2.2 := zr_V (zD_of zk_119 d_119_509 rfl rfl) rfl zk_89 rfl rfl rfl hS h
theorem q_119_512 : zRun 119 512 [l0, l1, l2, l3, l4, l5, l6, l7, some (.long u), l9, l10, l11, l12, l13, l14, l15] S sh mi mj mr = zRun 119 514 [l0, l1, l2, l3, l4, l5, l6, l7, some (.long u), l9, l10, l11, l12, l13, l14, l15] (.long u :: S) sh mi mj mr := zr_l (zD_of zk_119 d_119_512 rfl rfl) rfl rfl rfl
theorem q_119_514 : zRun 119 514 [l0, l1, l2, l3, l4, l5, l6, l7, l8, l9, l10, l11, some (.long u), l13, l14, l15] S sh mi mj mr = zRun 119 516 [l0, l1, l2, l3, l4, l5, l6, l7, l8, l9, l10, l11, some (.long u), l13, l14, l15] (.long u :: S) sh mi mj mr := zr_l (zD_of zk_119 d_119_514 rfl rfl) rfl rfl rfl
theorem q_119_516  : zRun 119 516 L (.long v :: .long u :: S) sh mi mj mr = if v ≤ u then zRun 119 525 L S sh mi mj mr else zRun 119 520 L S sh mi mj mr := zr_cmp (off := 8) (zD_of zk_119 d_119_516 rfl rfl) (zD_of zk_119 d_119_517 rfl rfl) rfl rfl (by decide) (lg_cmp_ge u v)
theorem q_119_517  : zRun 119 517 L (.int x :: S) sh mi mj mr = if 0 ≤ x then zRun 119 525 L S sh mi mj mr else zRun 119 520 L S sh mi mj mr := zr_if (off := 8) (P := 0 ≤ x) (zD_of zk_119 d_119_517 rfl rfl) rfl rfl (by decide)
theorem q_119_520 : zRun 119 520 [l0, l1, l2, l3, l4, l5, l6, l7, some (.long u), l9, l10, l11, l12, l13, l14, l15] S sh mi mj mr = zRun 119 522 [l0, l1, l2, l3, l4, l5, l6, l7, some (.long u), l9, l10, l11, l12, l13, l14, l15] (.long u :: S) sh mi mj mr := zr_l (zD_of zk_119 d_119_520 rfl rfl) rfl rfl rfl
theorem q_119_522  : zRun 119 522 L S sh mi mj mr = zRun 119 527 L S sh mi mj mr := zr_go (off := 5) (zD_of zk_119 d_119_522 rfl rfl) rfl rfl (by decide)
theorem q_119_525 : zRun 119 525 [l0, l1, l2, l3, l4, l5, l6, l7, l8, l9, l10, l11, some (.long u), l13, l14, l15] S sh mi mj mr = zRun 119 527 [l0, l1, l2, l3, l4, l5, l6, l7, l8, l9, l10, l11, some (.long u), l13, l14, l15] (.long u :: S) sh mi mj mr := zr_l (zD_of zk_119 d_119_525 rfl rfl) rfl rfl rfl
theorem q_119_527  : zRun 119 527 L (.long v :: .long u :: S) sh mi mj mr = if ¬ u = v then zRun 119 569 L S sh mi mj mr else zRun 119 531 L S sh mi mj mr := zr_cmp (off := 41) (zD_of zk_119 d_119_527 rfl rfl) (zD_of zk_119 d_119_528 rfl rfl) rfl rfl (by decide) (not_congr (lg_cmp_eq u v))
theorem q_119_528  : zRun 119 528 L (.int x :: S) sh mi mj mr = if ¬ x = 0 then zRun 119 569 L S sh mi mj mr else zRun 119 531 L S sh mi mj mr := zr_if (off := 41) (P := ¬ x = 0) (zD_of zk_119 d_119_528 rfl rfl) rfl rfl (by decide)
theorem q_119_531r : zRun 119 531 [some (.ref o), l1, l2, l3, l4, l5, l6, l7, l8, l9, l10, l11, l12, l13, l14, l15] S sh mi mj mr = zRun 119 532 [some (.ref o), l1, l2, l3, l4, l5, l6, l7, l8, l9, l10, l11, l12, l13, l14, l15] (.ref o :: S) sh mi mj mr := zr_l (zD_of zk_119 d_119_531 rfl rfl) rfl rfl rfl
theorem q_119_531n : zRun 119 531 [some (.null), l1, l2, l3, l4, l5, l6, l7, l8, l9, l10, l11, l12, l13, l14, l15] S sh mi mj mr = zRun 119 532 [some (.null), l1, l2, l3, l4, l5, l6, l7, l8, l9, l10, l11, l12, l13, l14, l15] (.null :: S) sh mi mj mr := zr_l (zD_of zk_119 d_119_531 rfl rfl) rfl rfl rfl
theorem q_119_532 : zRun 119 532 [l0, some (.int x), l2, l3, l4, l5, l6, l7, l8, l9, l10, l11, l12, l13, l14, l15] S sh mi mj mr = zRun 119 533 [l0, some (.int x), l2, l3, l4, l5, l6, l7, l8, l9, l10, l11, l12, l13, l14, l15] (.int x :: S) sh mi mj mr := zr_l (zD_of zk_119 d_119_532 rfl rfl) rfl rfl rfl
theorem q_119_533  {x0 : Int32} (hS : zcat S ≤ 8) (h : zIs sh o 0 7) : zRun 119 533 L (.int x0 :: .ref o :: S) sh mi mj mr = (zCall 93 [.ref o, .int x0] sh mi mj mr).bind fun r => zRun 119 536 L (r.1.toList ++ S) r.2.1 r.2.2.1 r.2.2.2.1 r.2.2.2.2 := zr_V (zD_of zk_119 d_119_533 rfl rfl) rfl zk_93 rfl rfl rfl hS h
theorem q_119_536 : zRun 119 536 [l0, l1, l2, l3, l4, l5, l6, l7, l8, l9, l10, l11, some (.long u), l13, l14, l15] S sh mi mj mr = zRun 119 538 [l0, l1, l2, l3, l4, l5, l6, l7, l8, l9, l10, l11, some (.long u), l13, l14, l15] (.long u :: S) sh mi mj mr := zr_l (zD_of zk_119 d_119_536 rfl rfl) rfl rfl rfl
theorem q_119_538 : zRun 119 538 [l0, l1, l2, l3, l4, l5, l6, l7, l8, l9, some (.long u), l11, l12, l13, l14, l15] S sh mi mj mr = zRun 119 540 [l0, l1, l2, l3, l4, l5, l6, l7, l8, l9, some (.long u), l11, l12, l13, l14, l15] (.long u :: S) sh mi mj mr := zr_l (zD_of zk_119 d_119_538 rfl rfl) rfl rfl rfl
theorem q_119_540  : zRun 119 540 L (.long v :: .long u :: S) sh mi mj mr = zRun 119 541 L (.long (u - v) :: S) sh mi mj mr := zr_p (zD_of zk_119 d_119_540 rfl rfl) rfl
theorem q_119_541 : zRun 119 541 [l0, l1, l2, l3, l4, l5, l6, l7, some (.long u), l9, l10, l11, l12, l13, l14, l15] S sh mi mj mr = zRun 119 543 [l0, l1, l2, l3, l4, l5, l6, l7, some (.long u), l9, l10, l11, l12, l13, l14, l15] (.long u :: S) sh mi mj mr := zr_l (zD_of zk_119 d_119_541 rfl rfl) rfl rfl rfl
theorem q_119_543  : zRun 119 543 L (.long v :: .long u :: S) sh mi mj mr = zRun 119 544 L (.long (u - v) :: S) sh mi mj mr := zr_p (zD_of zk_119 d_119_543 rfl rfl) rfl
theorem q_119_544 : zRun 119 544 [l0, l1, l2, l3, l4, l5, some (.long u), l7, l8, l9, l10, l11, l12, l13, l14, l15] S sh mi mj mr = zRun 119 546 [l0, l1, l2, l3, l4, l5, some (.long u), l7, l8, l9, l10, l11, l12, l13, l14, l15] (.long u :: S) sh mi mj mr := zr_l (zD_of zk_119 d_119_544 rfl rfl) rfl rfl rfl
theorem q_119_546  : zRun 119 546 L (.long v :: .long u :: S) sh mi mj mr = zRun 119 547 L (.long (u + v) :: S) sh mi mj mr := zr_p (zD_of zk_119 d_119_546 rfl rfl) rfl
theorem q_119_547  : zRun 119 547 L (.long v :: .long u :: S) sh mi mj mr = if ¬ u = v then zRun 119 569 L S sh mi mj mr else zRun 119 551 L S sh mi mj mr := zr_cmp (off := 21) (zD_of zk_119 d_119_547 rfl rfl) (zD_of zk_119 d_119_548 rfl rfl) rfl rfl (by decide) (not_congr (lg_cmp_eq u v))
theorem q_119_548  : zRun 119 548 L (.int x :: S) sh mi mj mr = if ¬ x = 0 then zRun 119 569 L S sh mi mj mr else zRun 119 551 L S sh mi mj mr := zr_if (off := 21) (P := ¬ x = 0) (zD_of zk_119 d_119_548 rfl rfl) rfl rfl (by decide)
theorem q_119_551r : zRun 119 551 [some (.ref o), l1, l2, l3, l4, l5, l6, l7, l8, l9, l10, l11, l12, l13, l14, l15] S sh mi mj mr = zRun 119 552 [some (.ref o), l1, l2, l3, l4, l5, l6, l7, l8, l9, l10, l11, l12, l13, l14, l15] (.ref o :: S) sh mi mj mr := zr_l (zD_of zk_119 d_119_551 rfl rfl) rfl rfl rfl
theorem q_119_551n : zRun 119 551 [some (.null), l1, l2, l3, l4, l5, l6, l7, l8, l9, l10, l11, l12, l13, l14, l15] S sh mi mj mr = zRun 119 552 [some (.null), l1, l2, l3, l4, l5, l6, l7, l8, l9, l10, l11, l12, l13, l14, l15] (.null :: S) sh mi mj mr := zr_l (zD_of zk_119 d_119_551 rfl rfl) rfl rfl rfl
theorem q_119_552 : zRun 119 552 [l0, some (.int x), l2, l3, l4, l5, l6, l7, l8, l9, l10, l11, l12, l13, l14, l15] S sh mi mj mr = zRun 119 553 [l0, some (.int x), l2, l3, l4, l5, l6, l7, l8, l9, l10, l11, l12, l13, l14, l15] (.int x :: S) sh mi mj mr := zr_l (zD_of zk_119 d_119_552 rfl rfl) rfl rfl rfl
theorem q_119_553  : zRun 119 553 L S sh mi mj mr = zRun 119 554 L (.int 2 :: S) sh mi mj mr := zr_p (zD_of zk_119 d_119_553 rfl rfl) rfl
theorem q_119_554  : zRun 119 554 L S sh mi mj mr = zRun 119 555 L (.int 0 :: S) sh mi mj mr := zr_p (zD_of zk_119 d_119_554 rfl rfl) rfl
theorem q_119_555  {x0 x1 x2 : Int32} (hS : zcat S ≤ 8) (h : zIs sh o 0 7) : zRun 119 555 L (.int x2 :: .int x1 :: .int x0 :: .ref o :: S) sh mi mj mr = (zCall 89 [.ref o, .int x0, .int x1, .int x2] sh mi mj mr).bind fun r => zRun 119 558 L (r.1.toList ++ S) r.2.1 r.2.2.1 r.2.2.2.1 r.2.2.2.2 := zr_V (zD_of zk_119 d_119_555 rfl rfl) rfl zk_89 rfl rfl rfl hS h
theorem q_119_558r : zRun 119 558 [some (.ref o), l1, l2, l3, l4, l5, l6, l7, l8, l9, l10, l11, l12, l13, l14, l15] S sh mi mj mr = zRun 119 559 [some (.ref o), l1, l2, l3, l4, l5, l6, l7, l8, l9, l10, l11, l12, l13, l14, l15] (.ref o :: S) sh mi mj mr := zr_l (zD_of zk_119 d_119_558 rfl rfl) rfl rfl rfl
theorem q_119_558n : zRun 119 558 [some (.null), l1, l2, l3, l4, l5, l6, l7, l8, l9, l10, l11, l12, l13, l14, l15] S sh mi mj mr = zRun 119 559 [some (.null), l1, l2, l3, l4, l5, l6, l7, l8, l9, l10, l11, l12, l13, l14, l15] (.null :: S) sh mi mj mr := zr_l (zD_of zk_119 d_119_558 rfl rfl) rfl rfl rfl
theorem q_119_559 : zRun 119 559 [l0, some (.int x), l2, l3, l4, l5, l6, l7, l8, l9, l10, l11, l12, l13, l14, l15] S sh mi mj mr = zRun 119 560 [l0, some (.int x), l2, l3, l4, l5, l6, l7, l8, l9, l10, l11, l12, l13, l14, l15] (.int x :: S) sh mi mj mr := zr_l (zD_of zk_119 d_119_559 rfl rfl) rfl rfl rfl
theorem q_119_560  : zRun 119 560 L S sh mi mj mr = zRun 119 561 L (.int 2 :: S) sh mi mj mr := zr_p (zD_of zk_119 d_119_560 rfl rfl) rfl
theorem q_119_561  : zRun 119 561 L S sh mi mj mr = zRun 119 562 L (.int 1 :: S) sh mi mj mr := zr_p (zD_of zk_119 d_119_561 rfl rfl) rfl
theorem q_119_562  {x0 x1 x2 : Int32} (hS : zcat S ≤ 8) (h : zIs sh o 0 7) : zRun 119 562 L (.int x2 :: .int x1 :: .int x0 :: .ref o :: S) sh mi mj mr = (zCall 89 [.ref o, .int x0, .int x1, .int x2] sh mi mj mr).bind fun r => zRun 119 565 L (r.1.toList ++ S) r.2.1 r.2.2.1 r.2.2.2.1 r.2.2.2.2 := zr_V (zD_of zk_119 d_119_562 rfl rfl) rfl zk_89 rfl rfl rfl hS h
theorem q_119_565  : zRun 119 565 L (.long v :: .long u :: S) sh mi mj mr = if u ≤ v then zRun 119 571 L S sh mi mj mr else zRun 119 569 L S sh mi mj mr := zr_cmp (off := 5) (zD_of zk_119 d_119_565 rfl rfl) (zD_of zk_119 d_119_566 rfl rfl) rfl rfl (by decide) (lg_cmp_le u v)
theorem q_119_566  : zRun 119 566 L (.int x :: S) sh mi mj mr = if x ≤ 0 then zRun 119 571 L S sh mi mj mr else zRun 119 569 L S sh mi mj mr := zr_if (off := 5) (P := x ≤ 0) (zD_of zk_119 d_119_566 rfl rfl) rfl rfl (by decide)
theorem q_119_569  : zRun 119 569 L S sh mi mj mr = zRun 119 570 L (.int 0 :: S) sh mi mj mr := zr_p (zD_of zk_119 d_119_569 rfl rfl) rfl
theorem q_119_570 (h : x = 0 ∨ x = 1) : zRun 119 570 L ([.int x]) sh mi mj mr = some (some (.int x), sh, mi, mj, mr) := zr_ret (zD_of zk_119 d_119_570 rfl rfl) rfl rfl rfl rfl rfl (if_pos (zna_b h))
theorem q_119_571r : zRun 119 571 [some (.ref o), l1, l2, l3, l4, l5, l6, l7, l8, l9, l10, l11, l12, l13, l14, l15] S sh mi mj mr = zRun 119 572 [some (.ref o), l1, l2, l3, l4, l5, l6, l7, l8, l9, l10, l11, l12, l13, l14, l15] (.ref o :: S) sh mi mj mr := zr_l (zD_of zk_119 d_119_571 rfl rfl) rfl rfl rfl
theorem q_119_571n : zRun 119 571 [some (.null), l1, l2, l3, l4, l5, l6, l7, l8, l9, l10, l11, l12, l13, l14, l15] S sh mi mj mr = zRun 119 572 [some (.null), l1, l2, l3, l4, l5, l6, l7, l8, l9, l10, l11, l12, l13, l14, l15] (.null :: S) sh mi mj mr := zr_l (zD_of zk_119 d_119_571 rfl rfl) rfl rfl rfl
theorem q_119_572 : zRun 119 572 [l0, some (.int x), l2, l3, l4, l5, l6, l7, l8, l9, l10, l11, l12, l13, l14, l15] S sh mi mj mr = zRun 119 573 [l0, some (.int x), l2, l3, l4, l5, l6, l7, l8, l9, l10, l11, l12, l13, l14, l15] (.int x :: S) sh mi mj mr := zr_l (zD_of zk_119 d_119_572 rfl rfl) rfl rfl rfl
theorem q_119_573  {x0 : Int32} (hS : zcat S ≤ 8) (h : zIs sh o 0 7) : zRun 119 573 L (.int x0 :: .ref o :: S) sh mi mj mr = (zCall 92 [.ref o, .int x0] sh mi mj mr).bind fun r => zRun 119 576 L (r.1.toList ++ S) r.2.1 r.2.2.1 r.2.2.2.1 r.2.2.2.2 := zr_V (zD_of zk_119 d_119_573 rfl rfl) rfl zk_92 rfl rfl rfl hS h
theorem q_119_576 : zRun 119 576 [l0, l1, l2, l3, l4, l5, l6, l7, l8, l9, l10, l11, l12, l13, l14, l15] (.int x :: S) sh mi mj mr = zRun 119 578 [l0, l1, l2, l3, l4, l5, l6, l7, l8, l9, l10, l11, l12, zk2 l13, some (.int x), l15] S sh mi mj mr := zr_s1 (i := 14) (v := .int x) (L := [l0, l1, l2, l3, l4, l5, l6, l7, l8, l9, l10, l11, l12, l13, l14, l15]) (zD_of zk_119 d_119_576 rfl rfl) rfl rfl rfl rfl
theorem q_119_578  : zRun 119 578 L S sh mi mj mr = zRun 119 579 L (.int 0 :: S) sh mi mj mr := zr_p (zD_of zk_119 d_119_578 rfl rfl) rfl
theorem q_119_579 : zRun 119 579 [l0, l1, l2, l3, l4, l5, l6, l7, l8, l9, l10, l11, l12, l13, l14, l15] (.int x :: S) sh mi mj mr = zRun 119 581 [l0, l1, l2, l3, l4, l5, l6, l7, l8, l9, l10, l11, l12, l13, zk2 l14, some (.int x)] S sh mi mj mr := zr_s1 (i := 15) (v := .int x) (L := [l0, l1, l2, l3, l4, l5, l6, l7, l8, l9, l10, l11, l12, l13, l14, l15]) (zD_of zk_119 d_119_579 rfl rfl) rfl rfl rfl rfl
theorem q_119_581 : zRun 119 581 [l0, l1, l2, l3, l4, l5, l6, l7, l8, l9, l10, l11, l12, l13, l14, some (.int x)] S sh mi mj mr = zRun 119 583 [l0, l1, l2, l3, l4, l5, l6, l7, l8, l9, l10, l11, l12, l13, l14, some (.int x)] (.int x :: S) sh mi mj mr := zr_l (zD_of zk_119 d_119_581 rfl rfl) rfl rfl rfl
theorem q_119_583  : zRun 119 583 L S sh mi mj mr = zRun 119 584 L (.int 4 :: S) sh mi mj mr := zr_p (zD_of zk_119 d_119_583 rfl rfl) rfl
theorem q_119_584  : zRun 119 584 L (.int y :: .int x :: S) sh mi mj mr = if y ≤ x then zRun 119 639 L S sh mi mj mr else zRun 119 587 L S sh mi mj mr := zr_if (off := 55) (P := y ≤ x) (zD_of zk_119 d_119_584 rfl rfl) rfl rfl (by decide)
theorem q_119_587 : zRun 119 587 [l0, l1, l2, l3, l4, l5, l6, l7, l8, l9, l10, l11, l12, l13, some (.int x), l15] S sh mi mj mr = zRun 119 589 [l0, l1, l2, l3, l4, l5, l6, l7, l8, l9, l10, l11, l12, l13, some (.int x), l15] (.int x :: S) sh mi mj mr := zr_l (zD_of zk_119 d_119_587 rfl rfl) rfl rfl rfl
theorem q_119_589  : zRun 119 589 L (.int x :: S) sh mi mj mr = if 0 ≤ x then zRun 119 607 L S sh mi mj mr else zRun 119 592 L S sh mi mj mr := zr_if (off := 18) (P := 0 ≤ x) (zD_of zk_119 d_119_589 rfl rfl) rfl rfl (by decide)
theorem q_119_592r : zRun 119 592 [some (.ref o), l1, l2, l3, l4, l5, l6, l7, l8, l9, l10, l11, l12, l13, l14, l15] S sh mi mj mr = zRun 119 593 [some (.ref o), l1, l2, l3, l4, l5, l6, l7, l8, l9, l10, l11, l12, l13, l14, l15] (.ref o :: S) sh mi mj mr := zr_l (zD_of zk_119 d_119_592 rfl rfl) rfl rfl rfl
theorem q_119_592n : zRun 119 592 [some (.null), l1, l2, l3, l4, l5, l6, l7, l8, l9, l10, l11, l12, l13, l14, l15] S sh mi mj mr = zRun 119 593 [some (.null), l1, l2, l3, l4, l5, l6, l7, l8, l9, l10, l11, l12, l13, l14, l15] (.null :: S) sh mi mj mr := zr_l (zD_of zk_119 d_119_592 rfl rfl) rfl rfl rfl
theorem q_119_593 : zRun 119 593 [l0, some (.int x), l2, l3, l4, l5, l6, l7, l8, l9, l10, l11, l12, l13, l14, l15] S sh mi mj mr = zRun 119 594 [l0, some (.int x), l2, l3, l4, l5, l6, l7, l8, l9, l10, l11, l12, l13, l14, l15] (.int x :: S) sh mi mj mr := zr_l (zD_of zk_119 d_119_593 rfl rfl) rfl rfl rfl
theorem q_119_594 : zRun 119 594 [l0, l1, l2, l3, l4, l5, l6, l7, l8, l9, l10, l11, l12, l13, l14, some (.int x)] S sh mi mj mr = zRun 119 596 [l0, l1, l2, l3, l4, l5, l6, l7, l8, l9, l10, l11, l12, l13, l14, some (.int x)] (.int x :: S) sh mi mj mr := zr_l (zD_of zk_119 d_119_594 rfl rfl) rfl rfl rfl
theorem q_119_596  {x0 x1 : Int32} (hS : zcat S ≤ 8) (h : zIs sh o 0 7) : zRun 119 596 L (.int x1 :: .int x0 :: .ref o :: S) sh mi mj mr = (zCall 90 [.ref o, .int x0, .int x1] sh mi mj mr).bind fun r => zRun 119 599 L (r.1.toList ++ S) r.2.1 r.2.2.1 r.2.2.2.1 r.2.2.2.2 := zr_V (zD_of zk_119 d_119_596 rfl rfl) rfl zk_90 rfl rfl rfl hS h
theorem q_119_599  : zRun 119 599 L S sh mi mj mr = zRun 119 600 L (.long 0 :: S) sh mi mj mr := zr_p (zD_of zk_119 d_119_599 rfl rfl) rfl
theorem q_119_600  : zRun 119 600 L (.long v :: .long u :: S) sh mi mj mr = if u = v then zRun 119 633 L S sh mi mj mr else zRun 119 604 L S sh mi mj mr := zr_cmp (off := 32) (zD_of zk_119 d_119_600 rfl rfl) (zD_of zk_119 d_119_601 rfl rfl) rfl rfl (by decide) (lg_cmp_eq u v)
theorem q_119_601  : zRun 119 601 L (.int x :: S) sh mi mj mr = if x = 0 then zRun 119 633 L S sh mi mj mr else zRun 119 604 L S sh mi mj mr := zr_if (off := 32) (P := x = 0) (zD_of zk_119 d_119_601 rfl rfl) rfl rfl (by decide)
theorem q_119_604  : zRun 119 604 L S sh mi mj mr = zRun 119 631 L S sh mi mj mr := zr_go (off := 27) (zD_of zk_119 d_119_604 rfl rfl) rfl rfl (by decide)
theorem q_119_607r : zRun 119 607 [some (.ref o), l1, l2, l3, l4, l5, l6, l7, l8, l9, l10, l11, l12, l13, l14, l15] S sh mi mj mr = zRun 119 608 [some (.ref o), l1, l2, l3, l4, l5, l6, l7, l8, l9, l10, l11, l12, l13, l14, l15] (.ref o :: S) sh mi mj mr := zr_l (zD_of zk_119 d_119_607 rfl rfl) rfl rfl rfl
theorem q_119_607n : zRun 119 607 [some (.null), l1, l2, l3, l4, l5, l6, l7, l8, l9, l10, l11, l12, l13, l14, l15] S sh mi mj mr = zRun 119 608 [some (.null), l1, l2, l3, l4, l5, l6, l7, l8, l9, l10, l11, l12, l13, l14, l15] (.null :: S) sh mi mj mr := zr_l (zD_of zk_119 d_119_607 rfl rfl) rfl rfl rfl
theorem q_119_608 : zRun 119 608 [l0, some (.int x), l2, l3, l4, l5, l6, l7, l8, l9, l10, l11, l12, l13, l14, l15] S sh mi mj mr = zRun 119 609 [l0, some (.int x), l2, l3, l4, l5, l6, l7, l8, l9, l10, l11, l12, l13, l14, l15] (.int x :: S) sh mi mj mr := zr_l (zD_of zk_119 d_119_608 rfl rfl) rfl rfl rfl
theorem q_119_609 : zRun 119 609 [l0, l1, l2, l3, l4, l5, l6, l7, l8, l9, l10, l11, l12, l13, l14, some (.int x)] S sh mi mj mr = zRun 119 611 [l0, l1, l2, l3, l4, l5, l6, l7, l8, l9, l10, l11, l12, l13, l14, some (.int x)] (.int x :: S) sh mi mj mr := zr_l (zD_of zk_119 d_119_609 rfl rfl) rfl rfl rfl
theorem q_119_611  {x0 x1 : Int32} (hS : zcat S ≤ 8) (h : zIs sh o 0 7) : zRun 119 611 L (.int x1 :: .int x0 :: .ref o :: S) sh mi mj mr = (zCall 90 [.ref o, .int x0, .int x1] sh mi mj mr).bind fun r => zRun 119 614 L (r.1.toList ++ S) r.2.1 r.2.2.1 r.2.2.2.1 r.2.2.2.2 := zr_V (zD_of zk_119 d_119_611 rfl rfl) rfl zk_90 rfl rfl rfl hS h
theorem q_119_614  {u0 : Int64} (hS : zcat S ≤ 8) : zRun 119 614 L (.long u0 :: S) sh mi mj mr = (zCall 118 [.long u0] sh mi mj mr).bind fun r => zRun 119 617 L (r.1.toList ++ S) r.2.1 r.2.2.1 r.2.2.2.1 r.2.2.2.2 := zr_S (zD_of zk_119 d_119_614 rfl rfl) rfl zk_118 rfl rfl rfl hS
theorem q_119_617r : zRun 119 617 [some (.ref o), l1, l2, l3, l4, l5, l6, l7, l8, l9, l10, l11, l12, l13, l14, l15] S sh mi mj mr = zRun 119 618 [some (.ref o), l1, l2, l3, l4, l5, l6, l7, l8, l9, l10, l11, l12, l13, l14, l15] (.ref o :: S) sh mi mj mr := zr_l (zD_of zk_119 d_119_617 rfl rfl) rfl rfl rfl
theorem q_119_617n : zRun 119 617 [some (.null), l1, l2, l3, l4, l5, l6, l7, l8, l9, l10, l11, l12, l13, l14, l15] S sh mi mj mr = zRun 119 618 [some (.null), l1, l2, l3, l4, l5, l6, l7, l8, l9, l10, l11, l12, l13, l14, l15] (.null :: S) sh mi mj mr := zr_l (zD_of zk_119 d_119_617 rfl rfl) rfl rfl rfl
theorem q_119_618 : zRun 119 618 [l0, some (.int x), l2, l3, l4, l5, l6, l7, l8, l9, l10, l11, l12, l13, l14, l15] S sh mi mj mr = zRun 119 619 [l0, some (.int x), l2, l3, l4, l5, l6, l7, l8, l9, l10, l11, l12, l13, l14, l15] (.int x :: S) sh mi mj mr := zr_l (zD_of zk_119 d_119_618 rfl rfl) rfl rfl rfl
theorem q_119_619 : zRun 119 619 [l0, l1, l2, l3, l4, l5, l6, l7, l8, l9, l10, l11, l12, l13, some (.int x), l15] S sh mi mj mr = zRun 119 621 [l0, l1, l2, l3, l4, l5, l6, l7, l8, l9, l10, l11, l12, l13, some (.int x), l15] (.int x :: S) sh mi mj mr := zr_l (zD_of zk_119 d_119_619 rfl rfl) rfl rfl rfl
theorem q_119_621  {x0 x1 : Int32} (hS : zcat S ≤ 8) (h : zIs sh o 0 7) : zRun 119 621 L (.int x1 :: .int x0 :: .ref o :: S) sh mi mj mr = (zCall 90 [.ref o, .int x0, .int x1] sh mi mj mr).bind fun r => zRun 119 624 L (r.1.toList ++ S) r.2.1 r.2.2.1 r.2.2.2.1 r.2.2.2.2 := zr_V (zD_of zk_119 d_119_621 rfl rfl) rfl zk_90 rfl rfl rfl hS h
theorem q_119_624  {u0 : Int64} (hS : zcat S ≤ 8) : zRun 119 624 L (.long u0 :: S) sh mi mj mr = (zCall 118 [.long u0] sh mi mj mr).bind fun r => zRun 119 627 L (r.1.toList ++ S) r.2.1 r.2.2.1 r.2.2.2.1 r.2.2.2.2 := zr_S (zD_of zk_119 d_119_624 rfl rfl) rfl zk_118 rfl rfl rfl hS
theorem q_119_627  : zRun 119 627 L (.long v :: .long u :: S) sh mi mj mr = if u ≤ v then zRun 119 633 L S sh mi mj mr else zRun 119 631 L S sh mi mj mr := zr_cmp (off := 5) (zD_of zk_119 d_119_627 rfl rfl) (zD_of zk_119 d_119_628 rfl rfl) rfl rfl (by decide) (lg_cmp_le u v)
theorem q_119_628  : zRun 119 628 L (.int x :: S) sh mi mj mr = if x ≤ 0 then zRun 119 633 L S sh mi mj mr else zRun 119 631 L S sh mi mj mr := zr_if (off := 5) (P := x ≤ 0) (zD_of zk_119 d_119_628 rfl rfl) rfl rfl (by decide)
theorem q_119_631  : zRun 119 631 L S sh mi mj mr = zRun 119 632 L (.int 0 :: S) sh mi mj mr := zr_p (zD_of zk_119 d_119_631 rfl rfl) rfl
theorem q_119_632 (h : x = 0 ∨ x = 1) : zRun 119 632 L ([.int x]) sh mi mj mr = some (some (.int x), sh, mi, mj, mr) := zr_ret (zD_of zk_119 d_119_632 rfl rfl) rfl rfl rfl rfl rfl (if_pos (zna_b h))
theorem q_119_633  : zRun 119 633 [l0, l1, l2, l3, l4, l5, l6, l7, l8, l9, l10, l11, l12, l13, l14, some (.int x)] S sh mi mj mr = zRun 119 636 [l0, l1, l2, l3, l4, l5, l6, l7, l8, l9, l10, l11, l12, l13, zk2 l14, some (.int (x + 1))] S sh mi mj mr := zr_s1 (i := 15) (v := .int (x + 1)) (L := [l0, l1, l2, l3, l4, l5, l6, l7, l8, l9, l10, l11, l12, l13, l14, some (.int x)]) (zD_of zk_119 d_119_633 rfl rfl) rfl rfl rfl rfl
theorem q_119_636  : zRun 119 636 L S sh mi mj mr = zRun 119 581 L S sh mi mj mr := zr_go (off := (-55)) (zD_of zk_119 d_119_636 rfl rfl) rfl rfl (by decide)
theorem q_119_639r : zRun 119 639 [some (.ref o), l1, l2, l3, l4, l5, l6, l7, l8, l9, l10, l11, l12, l13, l14, l15] S sh mi mj mr = zRun 119 640 [some (.ref o), l1, l2, l3, l4, l5, l6, l7, l8, l9, l10, l11, l12, l13, l14, l15] (.ref o :: S) sh mi mj mr := zr_l (zD_of zk_119 d_119_639 rfl rfl) rfl rfl rfl
theorem q_119_639n : zRun 119 639 [some (.null), l1, l2, l3, l4, l5, l6, l7, l8, l9, l10, l11, l12, l13, l14, l15] S sh mi mj mr = zRun 119 640 [some (.null), l1, l2, l3, l4, l5, l6, l7, l8, l9, l10, l11, l12, l13, l14, l15] (.null :: S) sh mi mj mr := zr_l (zD_of zk_119 d_119_639 rfl rfl) rfl rfl rfl
theorem q_119_640 : zRun 119 640 [l0, some (.int x), l2, l3, l4, l5, l6, l7, l8, l9, l10, l11, l12, l13, l14, l15] S sh mi mj mr = zRun 119 641 [l0, some (.int x), l2, l3, l4, l5, l6, l7, l8, l9, l10, l11, l12, l13, l14, l15] (.int x :: S) sh mi mj mr := zr_l (zD_of zk_119 d_119_640 rfl rfl) rfl rfl rfl
theorem q_119_641 : zRun 119 641 [l0, l1, some (.int x), l3, l4, l5, l6, l7, l8, l9, l10, l11, l12, l13, l14, l15] S sh mi mj mr = zRun 119 642 [l0, l1, some (.int x), l3, l4, l5, l6, l7, l8, l9, l10, l11, l12, l13, l14, l15] (.int x :: S) sh mi mj mr := zr_l (zD_of zk_119 d_119_641 rfl rfl) rfl rfl rfl
theorem q_119_642  : zRun 119 642 L S sh mi mj mr = zRun 119 643 L (.int 1 :: S) sh mi mj mr := zr_p (zD_of zk_119 d_119_642 rfl rfl) rfl
theorem q_119_643  : zRun 119 643 L (.int y :: .int x :: S) sh mi mj mr = zRun 119 644 L (.int (x - y) :: S) sh mi mj mr := zr_p (zD_of zk_119 d_119_643 rfl rfl) rfl
theorem q_119_644  : zRun 119 644 L S sh mi mj mr = zRun 119 645 L (.int 0 :: S) sh mi mj mr := zr_p (zD_of zk_119 d_119_644 rfl rfl) rfl
theorem q_119_645  {x0 x1 x2 : Int32} (hS : zcat S ≤ 8) (h : zIs sh o 0 7) : zRun 119 645 L (.int x2 :: .int x1 :: .int x0 :: .ref o :: S) sh mi mj mr = (zCall 91 [.ref o, .int x0, .int x1, .int x2] sh mi mj mr).bind fun r => zRun 119 648 L (r.1.toList ++ S) r.2.1 r.2.2.1 r.2.2.2.1 r.2.2.2.2 := zr_V (zD_of zk_119 d_119_645 rfl rfl) rfl zk_91 rfl rfl rfl hS h
theorem q_119_648r : zRun 119 648 [some (.ref o), l1, l2, l3, l4, l5, l6, l7, l8, l9, l10, l11, l12, l13, l14, l15] S sh mi mj mr = zRun 119 649 [some (.ref o), l1, l2, l3, l4, l5, l6, l7, l8, l9, l10, l11, l12, l13, l14, l15] (.ref o :: S) sh mi mj mr := zr_l (zD_of zk_119 d_119_648 rfl rfl) rfl rfl rfl
theorem q_119_648n : zRun 119 648 [some (.null), l1, l2, l3, l4, l5, l6, l7, l8, l9, l10, l11, l12, l13, l14, l15] S sh mi mj mr = zRun 119 649 [some (.null), l1, l2, l3, l4, l5, l6, l7, l8, l9, l10, l11, l12, l13, l14, l15] (.null :: S) sh mi mj mr := zr_l (zD_of zk_119 d_119_648 rfl rfl) rfl rfl rfl
theorem q_119_649 : zRun 119 649 [l0, some (.int x), l2, l3, l4, l5, l6, l7, l8, l9, l10, l11, l12, l13, l14, l15] S sh mi mj mr = zRun 119 650 [l0, some (.int x), l2, l3, l4, l5, l6, l7, l8, l9, l10, l11, l12, l13, l14, l15] (.int x :: S) sh mi mj mr := zr_l (zD_of zk_119 d_119_649 rfl rfl) rfl rfl rfl
theorem q_119_650  : zRun 119 650 L S sh mi mj mr = zRun 119 651 L (.int 2 :: S) sh mi mj mr := zr_p (zD_of zk_119 d_119_650 rfl rfl) rfl
theorem q_119_651  : zRun 119 651 L S sh mi mj mr = zRun 119 652 L (.int 0 :: S) sh mi mj mr := zr_p (zD_of zk_119 d_119_651 rfl rfl) rfl
theorem q_119_652  {x0 x1 x2 : Int32} (hS : zcat S ≤ 8) (h : zIs sh o 0 7) : zRun 119 652 L (.int x2 :: .int x1 :: .int x0 :: .ref o :: S) sh mi mj mr = (zCall 89 [.ref o, .int x0, .int x1, .int x2] sh mi mj mr).bind fun r => zRun 119 655 L (r.1.toList ++ S) r.2.1 r.2.2.1 r.2.2.2.1 r.2.2.2.2 := zr_V (zD_of zk_119 d_119_652 rfl rfl) rfl zk_89 rfl rfl rfl hS h
theorem q_119_655  : zRun 119 655 L (.long v :: .long u :: S) sh mi mj mr = if ¬ u = v then zRun 119 663 L S sh mi mj mr else zRun 119 659 L S sh mi mj mr := zr_cmp (off := 7) (zD_of zk_119 d_119_655 rfl rfl) (zD_of zk_119 d_119_656 rfl rfl) rfl rfl (by decide) (not_congr (lg_cmp_eq u v))
theorem q_119_656  : zRun 119 656 L (.int x :: S) sh mi mj mr = if ¬ x = 0 then zRun 119 663 L S sh mi mj mr else zRun 119 659 L S sh mi mj mr := zr_if (off := 7) (P := ¬ x = 0) (zD_of zk_119 d_119_656 rfl rfl) rfl rfl (by decide)
theorem q_119_659  : zRun 119 659 L S sh mi mj mr = zRun 119 660 L (.int 1 :: S) sh mi mj mr := zr_p (zD_of zk_119 d_119_659 rfl rfl) rfl
theorem q_119_660  : zRun 119 660 L S sh mi mj mr = zRun 119 664 L S sh mi mj mr := zr_go (off := 4) (zD_of zk_119 d_119_660 rfl rfl) rfl rfl (by decide)
theorem q_119_663  : zRun 119 663 L S sh mi mj mr = zRun 119 664 L (.int 0 :: S) sh mi mj mr := zr_p (zD_of zk_119 d_119_663 rfl rfl) rfl
theorem q_119_664 (h : x = 0 ∨ x = 1) : zRun 119 664 L ([.int x]) sh mi mj mr = some (some (.int x), sh, mi, mj, mr) := zr_ret (zD_of zk_119 d_119_664 rfl rfl) rfl rfl rfl rfl rfl (if_pos (zna_b h))
theorem e_119 {x0 : Int32} {o0 : Nat} : zCall 119 [.ref o0, .int x0] sh mi mj mr = zRun 119 0 [some (.ref o0), some (.int x0), none, none, none, none, none, none, none, none, none, none, none, none, none, none] [] sh mi mj mr := rfl
end
