/-! ===== one rule for each instruction of the library and the law ===== -/
section
variable {L : zLS} {S : List Value} {sh : zSh} {mi : zI} {mj : zJ} {mr : zR} {x y z : Int32} {u v : Int64} {o o2 : Nat} {l0 l1 l2 l3 l4 l5 l6 l7 l8 l9 l10 l11 l12 l13 l14 l15 l16 l17 l18 : Option Value}
theorem d_199_0 : decode cJ9_floorDiv_f86c9 0 = .ok (.lload_n 0, 1) := by decide +kernel
theorem d_199_1 : decode cJ9_floorDiv_f86c9 1 = .ok (.lload_n 2, 1) := by decide +kernel
theorem d_199_2 : decode cJ9_floorDiv_f86c9 2 = .ok (.ldiv, 1) := by decide +kernel
theorem d_199_3 : decode cJ9_floorDiv_f86c9 3 = .ok (.lstore 4, 2) := by decide +kernel
theorem d_199_5 : decode cJ9_floorDiv_f86c9 5 = .ok (.lload_n 0, 1) := by decide +kernel
theorem d_199_6 : decode cJ9_floorDiv_f86c9 6 = .ok (.lload_n 2, 1) := by decide +kernel
theorem d_199_7 : decode cJ9_floorDiv_f86c9 7 = .ok (.lxor, 1) := by decide +kernel
theorem d_199_8 : decode cJ9_floorDiv_f86c9 8 = .ok (.lconst 0, 1) := by decide +kernel
theorem d_199_9 : decode cJ9_floorDiv_f86c9 9 = .ok (.lcmp, 1) := by decide +kernel
theorem d_199_10 : decode cJ9_floorDiv_f86c9 10 = .ok (.ifCond .ge 17, 3) := by decide +kernel
theorem d_199_13 : decode cJ9_floorDiv_f86c9 13 = .ok (.lload 4, 2) := by decide +kernel
theorem d_199_15 : decode cJ9_floorDiv_f86c9 15 = .ok (.lload_n 2, 1) := by decide +kernel
theorem d_199_16 : decode cJ9_floorDiv_f86c9 16 = .ok (.lmul, 1) := by decide +kernel
theorem d_199_17 : decode cJ9_floorDiv_f86c9 17 = .ok (.lload_n 0, 1) := by decide +kernel
theorem d_199_18 : decode cJ9_floorDiv_f86c9 18 = .ok (.lcmp, 1) := by decide +kernel
theorem d_199_19 : decode cJ9_floorDiv_f86c9 19 = .ok (.ifCond .eq 8, 3) := by decide +kernel
theorem d_199_22 : decode cJ9_floorDiv_f86c9 22 = .ok (.lload 4, 2) := by decide +kernel
theorem d_199_24 : decode cJ9_floorDiv_f86c9 24 = .ok (.lconst 1, 1) := by decide +kernel
theorem d_199_25 : decode cJ9_floorDiv_f86c9 25 = .ok (.lsub, 1) := by decide +kernel
theorem d_199_26 : decode cJ9_floorDiv_f86c9 26 = .ok (.lreturn, 1) := by decide +kernel
theorem d_199_27 : decode cJ9_floorDiv_f86c9 27 = .ok (.lload 4, 2) := by decide +kernel
theorem d_199_29 : decode cJ9_floorDiv_f86c9 29 = .ok (.lreturn, 1) := by decide +kernel
theorem q_199_0 : zRun 199 0 [some (.long u), l1, l2, l3, l4, l5] S sh mi mj mr = zRun 199 1 [some (.long u), l1, l2, l3, l4, l5] (.long u :: S) sh mi mj mr := zr_l (zD_of zk_199 d_199_0 rfl rfl) rfl rfl rfl
theorem q_199_1 : zRun 199 1 [l0, l1, some (.long u), l3, l4, l5] S sh mi mj mr = zRun 199 2 [l0, l1, some (.long u), l3, l4, l5] (.long u :: S) sh mi mj mr := zr_l (zD_of zk_199 d_199_1 rfl rfl) rfl rfl rfl
theorem q_199_2 (h : ¬ v = 0) : zRun 199 2 L (.long v :: .long u :: S) sh mi mj mr = zRun 199 3 L (.long (u / v) :: S) sh mi mj mr := zr_p (zD_of zk_199 d_199_2 rfl rfl) (if_neg h)
theorem q_199_3 : zRun 199 3 [l0, l1, l2, l3, l4, l5] (.long u :: S) sh mi mj mr = zRun 199 5 [l0, l1, l2, zk2 l3, some (.long u), none] S sh mi mj mr := zr_s2 (i := 4) (v := .long u) (L := [l0, l1, l2, l3, l4, l5]) (zD_of zk_199 d_199_3 rfl rfl) rfl rfl rfl rfl
theorem q_199_5 : zRun 199 5 [some (.long u), l1, l2, l3, l4, l5] S sh mi mj mr = zRun 199 6 [some (.long u), l1, l2, l3, l4, l5] (.long u :: S) sh mi mj mr := zr_l (zD_of zk_199 d_199_5 rfl rfl) rfl rfl rfl
theorem q_199_6 : zRun 199 6 [l0, l1, some (.long u), l3, l4, l5] S sh mi mj mr = zRun 199 7 [l0, l1, some (.long u), l3, l4, l5] (.long u :: S) sh mi mj mr := zr_l (zD_of zk_199 d_199_6 rfl rfl) rfl rfl rfl
theorem q_199_7  : zRun 199 7 L (.long v :: .long u :: S) sh mi mj mr = zRun 199 8 L (.long (u ^^^ v) :: S) sh mi mj mr := zr_p (zD_of zk_199 d_199_7 rfl rfl) rfl
theorem q_199_8  : zRun 199 8 L S sh mi mj mr = zRun 199 9 L (.long 0 :: S) sh mi mj mr := zr_p (zD_of zk_199 d_199_8 rfl rfl) rfl
theorem q_199_9  : zRun 199 9 L (.long v :: .long u :: S) sh mi mj mr = if v ≤ u then zRun 199 27 L S sh mi mj mr else zRun 199 13 L S sh mi mj mr := zr_cmp (off := 17) (zD_of zk_199 d_199_9 rfl rfl) (zD_of zk_199 d_199_10 rfl rfl) rfl rfl (by decide) (lg_cmp_ge u v)
theorem q_199_10  : zRun 199 10 L (.int x :: S) sh mi mj mr = if 0 ≤ x then zRun 199 27 L S sh mi mj mr else zRun 199 13 L S sh mi mj mr := zr_if (off := 17) (P := 0 ≤ x) (zD_of zk_199 d_199_10 rfl rfl) rfl rfl (by decide)
theorem q_199_13 : zRun 199 13 [l0, l1, l2, l3, some (.long u), l5] S sh mi mj mr = zRun 199 15 [l0, l1, l2, l3, some (.long u), l5] (.long u :: S) sh mi mj mr := zr_l (zD_of zk_199 d_199_13 rfl rfl) rfl rfl rfl
theorem q_199_15 : zRun 199 15 [l0, l1, some (.long u), l3, l4, l5] S sh mi mj mr = zRun 199 16 [l0, l1, some (.long u), l3, l4, l5] (.long u :: S) sh mi mj mr := zr_l (zD_of zk_199 d_199_15 rfl rfl) rfl rfl rfl
theorem q_199_16  : zRun 199 16 L (.long v :: .long u :: S) sh mi mj mr = zRun 199 17 L (.long (u * v) :: S) sh mi mj mr := zr_p (zD_of zk_199 d_199_16 rfl rfl) rfl
theorem q_199_17 : zRun 199 17 [some (.long u), l1, l2, l3, l4, l5] S sh mi mj mr = zRun 199 18 [some (.long u), l1, l2, l3, l4, l5] (.long u :: S) sh mi mj mr := zr_l (zD_of zk_199 d_199_17 rfl rfl) rfl rfl rfl
theorem q_199_18  : zRun 199 18 L (.long v :: .long u :: S) sh mi mj mr = if u = v then zRun 199 27 L S sh mi mj mr else zRun 199 22 L S sh mi mj mr := zr_cmp (off := 8) (zD_of zk_199 d_199_18 rfl rfl) (zD_of zk_199 d_199_19 rfl rfl) rfl rfl (by decide) (lg_cmp_eq u v)
theorem q_199_19  : zRun 199 19 L (.int x :: S) sh mi mj mr = if x = 0 then zRun 199 27 L S sh mi mj mr else zRun 199 22 L S sh mi mj mr := zr_if (off := 8) (P := x = 0) (zD_of zk_199 d_199_19 rfl rfl) rfl rfl (by decide)
theorem q_199_22 : zRun 199 22 [l0, l1, l2, l3, some (.long u), l5] S sh mi mj mr = zRun 199 24 [l0, l1, l2, l3, some (.long u), l5] (.long u :: S) sh mi mj mr := zr_l (zD_of zk_199 d_199_22 rfl rfl) rfl rfl rfl
theorem q_199_24  : zRun 199 24 L S sh mi mj mr = zRun 199 25 L (.long 1 :: S) sh mi mj mr := zr_p (zD_of zk_199 d_199_24 rfl rfl) rfl
theorem q_199_25  : zRun 199 25 L (.long v :: .long u :: S) sh mi mj mr = zRun 199 26 L (.long (u - v) :: S) sh mi mj mr := zr_p (zD_of zk_199 d_199_25 rfl rfl) rfl
theorem q_199_26  : zRun 199 26 L ([.long u]) sh mi mj mr = some (some (.long u), sh, mi, mj, mr) := zr_ret (zD_of zk_199 d_199_26 rfl rfl) rfl rfl rfl rfl rfl rfl
theorem q_199_27 : zRun 199 27 [l0, l1, l2, l3, some (.long u), l5] S sh mi mj mr = zRun 199 29 [l0, l1, l2, l3, some (.long u), l5] (.long u :: S) sh mi mj mr := zr_l (zD_of zk_199 d_199_27 rfl rfl) rfl rfl rfl
theorem q_199_29  : zRun 199 29 L ([.long u]) sh mi mj mr = some (some (.long u), sh, mi, mj, mr) := zr_ret (zD_of zk_199 d_199_29 rfl rfl) rfl rfl rfl rfl rfl rfl
theorem e_199 {u0 u1 : Int64} : zCall 199 [.long u0, .long u1] sh mi mj mr = zRun 199 0 [some (.long u0), none, some (.long u1), none, none, none] [] sh mi mj mr := rfl
theorem d_200_0 : decode cJ9_abs_067f4 0 = .ok (.lload_n 0, 1) := by decide +kernel
theorem d_200_1 : decode cJ9_abs_067f4 1 = .ok (.lconst 0, 1) := by decide +kernel
theorem d_200_2 : decode cJ9_abs_067f4 2 = .ok (.lcmp, 1) := by decide +kernel
theorem d_200_3 : decode cJ9_abs_067f4 3 = .ok (.ifCond .ge 8, 3) := by decide +kernel
theorem d_200_6 : decode cJ9_abs_067f4 6 = .ok (.lload_n 0, 1) := by decide +kernel
theorem d_200_7 : decode cJ9_abs_067f4 7 = .ok (.lneg, 1) := by decide +kernel
theorem d_200_8 : decode cJ9_abs_067f4 8 = .ok (.goto 4, 3) := by decide +kernel
theorem d_200_11 : decode cJ9_abs_067f4 11 = .ok (.lload_n 0, 1) := by decide +kernel
theorem d_200_12 : decode cJ9_abs_067f4 12 = .ok (.lreturn, 1) := by decide +kernel
theorem q_200_0 : zRun 200 0 [some (.long u), l1] S sh mi mj mr = zRun 200 1 [some (.long u), l1] (.long u :: S) sh mi mj mr := zr_l (zD_of zk_200 d_200_0 rfl rfl) rfl rfl rfl
theorem q_200_1  : zRun 200 1 L S sh mi mj mr = zRun 200 2 L (.long 0 :: S) sh mi mj mr := zr_p (zD_of zk_200 d_200_1 rfl rfl) rfl
theorem q_200_2  : zRun 200 2 L (.long v :: .long u :: S) sh mi mj mr = if v ≤ u then zRun 200 11 L S sh mi mj mr else zRun 200 6 L S sh mi mj mr := zr_cmp (off := 8) (zD_of zk_200 d_200_2 rfl rfl) (zD_of zk_200 d_200_3 rfl rfl) rfl rfl (by decide) (lg_cmp_ge u v)
theorem q_200_3  : zRun 200 3 L (.int x :: S) sh mi mj mr = if 0 ≤ x then zRun 200 11 L S sh mi mj mr else zRun 200 6 L S sh mi mj mr := zr_if (off := 8) (P := 0 ≤ x) (zD_of zk_200 d_200_3 rfl rfl) rfl rfl (by decide)
theorem q_200_6 : zRun 200 6 [some (.long u), l1] S sh mi mj mr = zRun 200 7 [some (.long u), l1] (.long u :: S) sh mi mj mr := zr_l (zD_of zk_200 d_200_6 rfl rfl) rfl rfl rfl
theorem q_200_7  : zRun 200 7 L (.long u :: S) sh mi mj mr = zRun 200 8 L (.long (-u) :: S) sh mi mj mr := zr_p (zD_of zk_200 d_200_7 rfl rfl) rfl
theorem q_200_8  : zRun 200 8 L S sh mi mj mr = zRun 200 12 L S sh mi mj mr := zr_go (off := 4) (zD_of zk_200 d_200_8 rfl rfl) rfl rfl (by decide)
theorem q_200_11 : zRun 200 11 [some (.long u), l1] S sh mi mj mr = zRun 200 12 [some (.long u), l1] (.long u :: S) sh mi mj mr := zr_l (zD_of zk_200 d_200_11 rfl rfl) rfl rfl rfl
theorem q_200_12  : zRun 200 12 L ([.long u]) sh mi mj mr = some (some (.long u), sh, mi, mj, mr) := zr_ret (zD_of zk_200 d_200_12 rfl rfl) rfl rfl rfl rfl rfl rfl
theorem e_200 {u0 : Int64} : zCall 200 [.long u0] sh mi mj mr = zRun 200 0 [some (.long u0), none] [] sh mi mj mr := rfl
theorem d_201_0 : decode cJ9_max_f86c9 0 = .ok (.lload_n 0, 1) := by decide +kernel
theorem d_201_1 : decode cJ9_max_f86c9 1 = .ok (.lload_n 2, 1) := by decide +kernel
theorem d_201_2 : decode cJ9_max_f86c9 2 = .ok (.lcmp, 1) := by decide +kernel
theorem d_201_3 : decode cJ9_max_f86c9 3 = .ok (.ifCond .lt 7, 3) := by decide +kernel
theorem d_201_6 : decode cJ9_max_f86c9 6 = .ok (.lload_n 0, 1) := by decide +kernel
theorem d_201_7 : decode cJ9_max_f86c9 7 = .ok (.goto 4, 3) := by decide +kernel
theorem d_201_10 : decode cJ9_max_f86c9 10 = .ok (.lload_n 2, 1) := by decide +kernel
theorem d_201_11 : decode cJ9_max_f86c9 11 = .ok (.lreturn, 1) := by decide +kernel
theorem q_201_0 : zRun 201 0 [some (.long u), l1, l2, l3] S sh mi mj mr = zRun 201 1 [some (.long u), l1, l2, l3] (.long u :: S) sh mi mj mr := zr_l (zD_of zk_201 d_201_0 rfl rfl) rfl rfl rfl
theorem q_201_1 : zRun 201 1 [l0, l1, some (.long u), l3] S sh mi mj mr = zRun 201 2 [l0, l1, some (.long u), l3] (.long u :: S) sh mi mj mr := zr_l (zD_of zk_201 d_201_1 rfl rfl) rfl rfl rfl
theorem q_201_2  : zRun 201 2 L (.long v :: .long u :: S) sh mi mj mr = if u < v then zRun 201 10 L S sh mi mj mr else zRun 201 6 L S sh mi mj mr := zr_cmp (off := 7) (zD_of zk_201 d_201_2 rfl rfl) (zD_of zk_201 d_201_3 rfl rfl) rfl rfl (by decide) (lg_cmp_lt u v)
theorem q_201_3  : zRun 201 3 L (.int x :: S) sh mi mj mr = if x < 0 then zRun 201 10 L S sh mi mj mr else zRun 201 6 L S sh mi mj mr := zr_if (off := 7) (P := x < 0) (zD_of zk_201 d_201_3 rfl rfl) rfl rfl (by decide)
theorem q_201_6 : zRun 201 6 [some (.long u), l1, l2, l3] S sh mi mj mr = zRun 201 7 [some (.long u), l1, l2, l3] (.long u :: S) sh mi mj mr := zr_l (zD_of zk_201 d_201_6 rfl rfl) rfl rfl rfl
theorem q_201_7  : zRun 201 7 L S sh mi mj mr = zRun 201 11 L S sh mi mj mr := zr_go (off := 4) (zD_of zk_201 d_201_7 rfl rfl) rfl rfl (by decide)
theorem q_201_10 : zRun 201 10 [l0, l1, some (.long u), l3] S sh mi mj mr = zRun 201 11 [l0, l1, some (.long u), l3] (.long u :: S) sh mi mj mr := zr_l (zD_of zk_201 d_201_10 rfl rfl) rfl rfl rfl
theorem q_201_11  : zRun 201 11 L ([.long u]) sh mi mj mr = some (some (.long u), sh, mi, mj, mr) := zr_ret (zD_of zk_201 d_201_11 rfl rfl) rfl rfl rfl rfl rfl rfl
theorem e_201 {u0 u1 : Int64} : zCall 201 [.long u0, .long u1] sh mi mj mr = zRun 201 0 [some (.long u0), none, some (.long u1), none] [] sh mi mj mr := rfl
theorem d_202_0 : decode cJ9_min_7cf53 0 = .ok (.iload_n 0, 1) := by decide +kernel
theorem d_202_1 : decode cJ9_min_7cf53 1 = .ok (.iload_n 1, 1) := by decide +kernel
theorem d_202_2 : decode cJ9_min_7cf53 2 = .ok (.if_icmp .gt 7, 3) := by decide +kernel
theorem d_202_5 : decode cJ9_min_7cf53 5 = .ok (.iload_n 0, 1) := by decide +kernel
theorem d_202_6 : decode cJ9_min_7cf53 6 = .ok (.goto 4, 3) := by decide +kernel
theorem d_202_9 : decode cJ9_min_7cf53 9 = .ok (.iload_n 1, 1) := by decide +kernel
theorem d_202_10 : decode cJ9_min_7cf53 10 = .ok (.ireturn, 1) := by decide +kernel
theorem q_202_0 : zRun 202 0 [some (.int x), l1] S sh mi mj mr = zRun 202 1 [some (.int x), l1] (.int x :: S) sh mi mj mr := zr_l (zD_of zk_202 d_202_0 rfl rfl) rfl rfl rfl
theorem q_202_1 : zRun 202 1 [l0, some (.int x)] S sh mi mj mr = zRun 202 2 [l0, some (.int x)] (.int x :: S) sh mi mj mr := zr_l (zD_of zk_202 d_202_1 rfl rfl) rfl rfl rfl
theorem q_202_2  : zRun 202 2 L (.int y :: .int x :: S) sh mi mj mr = if y < x then zRun 202 9 L S sh mi mj mr else zRun 202 5 L S sh mi mj mr := zr_if (off := 7) (P := y < x) (zD_of zk_202 d_202_2 rfl rfl) rfl rfl (by decide)
theorem q_202_5 : zRun 202 5 [some (.int x), l1] S sh mi mj mr = zRun 202 6 [some (.int x), l1] (.int x :: S) sh mi mj mr := zr_l (zD_of zk_202 d_202_5 rfl rfl) rfl rfl rfl
theorem q_202_6  : zRun 202 6 L S sh mi mj mr = zRun 202 10 L S sh mi mj mr := zr_go (off := 4) (zD_of zk_202 d_202_6 rfl rfl) rfl rfl (by decide)
theorem q_202_9 : zRun 202 9 [l0, some (.int x)] S sh mi mj mr = zRun 202 10 [l0, some (.int x)] (.int x :: S) sh mi mj mr := zr_l (zD_of zk_202 d_202_9 rfl rfl) rfl rfl rfl
theorem q_202_10  : zRun 202 10 L ([.int x]) sh mi mj mr = some (some (.int x), sh, mi, mj, mr) := zr_ret (zD_of zk_202 d_202_10 rfl rfl) rfl rfl rfl rfl rfl (if_pos rfl)
theorem e_202 {x0 x1 : Int32} : zCall 202 [.int x0, .int x1] sh mi mj mr = zRun 202 0 [some (.int x0), some (.int x1)] [] sh mi mj mr := rfl
theorem d_203_0 : decode cJ9_min_f86c9 0 = .ok (.lload_n 0, 1) := by decide +kernel
theorem d_203_1 : decode cJ9_min_f86c9 1 = .ok (.lload_n 2, 1) := by decide +kernel
theorem d_203_2 : decode cJ9_min_f86c9 2 = .ok (.lcmp, 1) := by decide +kernel
theorem d_203_3 : decode cJ9_min_f86c9 3 = .ok (.ifCond .gt 7, 3) := by decide +kernel
theorem d_203_6 : decode cJ9_min_f86c9 6 = .ok (.lload_n 0, 1) := by decide +kernel
theorem d_203_7 : decode cJ9_min_f86c9 7 = .ok (.goto 4, 3) := by decide +kernel
theorem d_203_10 : decode cJ9_min_f86c9 10 = .ok (.lload_n 2, 1) := by decide +kernel
theorem d_203_11 : decode cJ9_min_f86c9 11 = .ok (.lreturn, 1) := by decide +kernel
theorem q_203_0 : zRun 203 0 [some (.long u), l1, l2, l3] S sh mi mj mr = zRun 203 1 [some (.long u), l1, l2, l3] (.long u :: S) sh mi mj mr := zr_l (zD_of zk_203 d_203_0 rfl rfl) rfl rfl rfl
theorem q_203_1 : zRun 203 1 [l0, l1, some (.long u), l3] S sh mi mj mr = zRun 203 2 [l0, l1, some (.long u), l3] (.long u :: S) sh mi mj mr := zr_l (zD_of zk_203 d_203_1 rfl rfl) rfl rfl rfl
theorem q_203_2  : zRun 203 2 L (.long v :: .long u :: S) sh mi mj mr = if v < u then zRun 203 10 L S sh mi mj mr else zRun 203 6 L S sh mi mj mr := zr_cmp (off := 7) (zD_of zk_203 d_203_2 rfl rfl) (zD_of zk_203 d_203_3 rfl rfl) rfl rfl (by decide) (lg_cmp_gt u v)
theorem q_203_3  : zRun 203 3 L (.int x :: S) sh mi mj mr = if 0 < x then zRun 203 10 L S sh mi mj mr else zRun 203 6 L S sh mi mj mr := zr_if (off := 7) (P := 0 < x) (zD_of zk_203 d_203_3 rfl rfl) rfl rfl (by decide)
theorem q_203_6 : zRun 203 6 [some (.long u), l1, l2, l3] S sh mi mj mr = zRun 203 7 [some (.long u), l1, l2, l3] (.long u :: S) sh mi mj mr := zr_l (zD_of zk_203 d_203_6 rfl rfl) rfl rfl rfl
theorem q_203_7  : zRun 203 7 L S sh mi mj mr = zRun 203 11 L S sh mi mj mr := zr_go (off := 4) (zD_of zk_203 d_203_7 rfl rfl) rfl rfl (by decide)
theorem q_203_10 : zRun 203 10 [l0, l1, some (.long u), l3] S sh mi mj mr = zRun 203 11 [l0, l1, some (.long u), l3] (.long u :: S) sh mi mj mr := zr_l (zD_of zk_203 d_203_10 rfl rfl) rfl rfl rfl
theorem q_203_11  : zRun 203 11 L ([.long u]) sh mi mj mr = some (some (.long u), sh, mi, mj, mr) := zr_ret (zD_of zk_203 d_203_11 rfl rfl) rfl rfl rfl rfl rfl rfl
theorem e_203 {u0 u1 : Int64} : zCall 203 [.long u0, .long u1] sh mi mj mr = zRun 203 0 [some (.long u0), none, some (.long u1), none] [] sh mi mj mr := rfl
theorem d_204_0 : decode cJ7_fill_d0a16 0 = .ok (.iconst 0, 1) := by decide +kernel
theorem d_204_1 : decode cJ7_fill_d0a16 1 = .ok (.istore_n 3, 1) := by decide +kernel
theorem d_204_2 : decode cJ7_fill_d0a16 2 = .ok (.aload_n 0, 1) := by decide +kernel
theorem d_204_3 : decode cJ7_fill_d0a16 3 = .ok (.arraylength, 1) := by decide +kernel
theorem d_204_4 : decode cJ7_fill_d0a16 4 = .ok (.istore 4, 2) := by decide +kernel
theorem d_204_6 : decode cJ7_fill_d0a16 6 = .ok (.iload_n 3, 1) := by decide +kernel
theorem d_204_7 : decode cJ7_fill_d0a16 7 = .ok (.iload 4, 2) := by decide +kernel
theorem d_204_9 : decode cJ7_fill_d0a16 9 = .ok (.if_icmp .ge 13, 3) := by decide +kernel
theorem d_204_12 : decode cJ7_fill_d0a16 12 = .ok (.aload_n 0, 1) := by decide +kernel
theorem d_204_13 : decode cJ7_fill_d0a16 13 = .ok (.iload_n 3, 1) := by decide +kernel
theorem d_204_14 : decode cJ7_fill_d0a16 14 = .ok (.lload_n 1, 1) := by decide +kernel
theorem d_204_15 : decode cJ7_fill_d0a16 15 = .ok (.lastore, 1) := by decide +kernel
theorem d_204_16 : decode cJ7_fill_d0a16 16 = .ok (.iinc 3 1, 3) := by decide +kernel
theorem d_204_19 : decode cJ7_fill_d0a16 19 = .ok (.goto (-13), 3) := by decide +kernel
theorem d_204_22 : decode cJ7_fill_d0a16 22 = .ok (.return_, 1) := by decide +kernel
theorem q_204_0  : zRun 204 0 L S sh mi mj mr = zRun 204 1 L (.int 0 :: S) sh mi mj mr := zr_p (zD_of zk_204 d_204_0 rfl rfl) rfl
theorem q_204_1 : zRun 204 1 [l0, l1, l2, l3, l4] (.int x :: S) sh mi mj mr = zRun 204 2 [l0, l1, zk2 l2, some (.int x), l4] S sh mi mj mr := zr_s1 (i := 3) (v := .int x) (L := [l0, l1, l2, l3, l4]) (zD_of zk_204 d_204_1 rfl rfl) rfl rfl rfl rfl
theorem q_204_2r : zRun 204 2 [some (.ref o), l1, l2, l3, l4] S sh mi mj mr = zRun 204 3 [some (.ref o), l1, l2, l3, l4] (.ref o :: S) sh mi mj mr := zr_l (zD_of zk_204 d_204_2 rfl rfl) rfl rfl rfl
theorem q_204_2n : zRun 204 2 [some (.null), l1, l2, l3, l4] S sh mi mj mr = zRun 204 3 [some (.null), l1, l2, l3, l4] (.null :: S) sh mi mj mr := zr_l (zD_of zk_204 d_204_2 rfl rfl) rfl rfl rfl
theorem q_204_3 {n : Nat} (h : zIs sh o 2 n) : zRun 204 3 L (.ref o :: S) sh mi mj mr = zRun 204 4 L (.int (Int32.ofNat n) :: S) sh mi mj mr := zr_len (zD_of zk_204 d_204_3 rfl rfl) (by decide) h
theorem q_204_4 : zRun 204 4 [l0, l1, l2, l3, l4] (.int x :: S) sh mi mj mr = zRun 204 6 [l0, l1, l2, zk2 l3, some (.int x)] S sh mi mj mr := zr_s1 (i := 4) (v := .int x) (L := [l0, l1, l2, l3, l4]) (zD_of zk_204 d_204_4 rfl rfl) rfl rfl rfl rfl
theorem q_204_6 : zRun 204 6 [l0, l1, l2, some (.int x), l4] S sh mi mj mr = zRun 204 7 [l0, l1, l2, some (.int x), l4] (.int x :: S) sh mi mj mr := zr_l (zD_of zk_204 d_204_6 rfl rfl) rfl rfl rfl
theorem q_204_7 : zRun 204 7 [l0, l1, l2, l3, some (.int x)] S sh mi mj mr = zRun 204 9 [l0, l1, l2, l3, some (.int x)] (.int x :: S) sh mi mj mr := zr_l (zD_of zk_204 d_204_7 rfl rfl) rfl rfl rfl
theorem q_204_9  : zRun 204 9 L (.int y :: .int x :: S) sh mi mj mr = if y ≤ x then zRun 204 22 L S sh mi mj mr else zRun 204 12 L S sh mi mj mr := zr_if (off := 13) (P := y ≤ x) (zD_of zk_204 d_204_9 rfl rfl) rfl rfl (by decide)
theorem q_204_12r : zRun 204 12 [some (.ref o), l1, l2, l3, l4] S sh mi mj mr = zRun 204 13 [some (.ref o), l1, l2, l3, l4] (.ref o :: S) sh mi mj mr := zr_l (zD_of zk_204 d_204_12 rfl rfl) rfl rfl rfl
theorem q_204_12n : zRun 204 12 [some (.null), l1, l2, l3, l4] S sh mi mj mr = zRun 204 13 [some (.null), l1, l2, l3, l4] (.null :: S) sh mi mj mr := zr_l (zD_of zk_204 d_204_12 rfl rfl) rfl rfl rfl
theorem q_204_13 : zRun 204 13 [l0, l1, l2, some (.int x), l4] S sh mi mj mr = zRun 204 14 [l0, l1, l2, some (.int x), l4] (.int x :: S) sh mi mj mr := zr_l (zD_of zk_204 d_204_13 rfl rfl) rfl rfl rfl
theorem q_204_14 : zRun 204 14 [l0, some (.long u), l2, l3, l4] S sh mi mj mr = zRun 204 15 [l0, some (.long u), l2, l3, l4] (.long u :: S) sh mi mj mr := zr_l (zD_of zk_204 d_204_14 rfl rfl) rfl rfl rfl
theorem q_204_15 (h : zAt sh o 2 x) : zRun 204 15 L (.long u :: .int x :: .ref o :: S) sh mi mj mr = zRun 204 16 L S sh mi (zup mj o x.toNatClampNeg u) mr := zr_last (zD_of zk_204 d_204_15 rfl rfl) h
theorem q_204_16  : zRun 204 16 [l0, l1, l2, some (.int x), l4] S sh mi mj mr = zRun 204 19 [l0, l1, zk2 l2, some (.int (x + 1)), l4] S sh mi mj mr := zr_s1 (i := 3) (v := .int (x + 1)) (L := [l0, l1, l2, some (.int x), l4]) (zD_of zk_204 d_204_16 rfl rfl) rfl rfl rfl rfl
theorem q_204_19  : zRun 204 19 L S sh mi mj mr = zRun 204 6 L S sh mi mj mr := zr_go (off := (-13)) (zD_of zk_204 d_204_19 rfl rfl) rfl rfl (by decide)
theorem q_204_22  : zRun 204 22 L [] sh mi mj mr = some (none, sh, mi, mj, mr) := zr_ret (zD_of zk_204 d_204_22 rfl rfl) rfl rfl rfl rfl rfl rfl
theorem e_204 {u0 : Int64} {o0 : Nat} : zCall 204 [.ref o0, .long u0] sh mi mj mr = zRun 204 0 [some (.ref o0), some (.long u0), none, none, none] [] sh mi mj mr := rfl
theorem d_0_0 : decode cL_law 0 = .ok (.new 7, 3) := by decide +kernel
theorem d_0_3 : decode cL_law 3 = .ok (.dup, 1) := by decide +kernel
theorem d_0_4 : decode cL_law 4 = .ok (.invokespecial 9, 3) := by decide +kernel
theorem d_0_7 : decode cL_law 7 = .ok (.astore_n 1, 1) := by decide +kernel
theorem d_0_8 : decode cL_law 8 = .ok (.new 10, 3) := by decide +kernel
theorem d_0_11 : decode cL_law 11 = .ok (.dup, 1) := by decide +kernel
theorem d_0_12 : decode cL_law 12 = .ok (.invokespecial 12, 3) := by decide +kernel
theorem d_0_15 : decode cL_law 15 = .ok (.astore_n 2, 1) := by decide +kernel
theorem d_0_16 : decode cL_law 16 = .ok (.iconst 0, 1) := by decide +kernel
theorem d_0_17 : decode cL_law 17 = .ok (.istore_n 3, 1) := by decide +kernel
theorem d_0_18 : decode cL_law 18 = .ok (.iload_n 3, 1) := by decide +kernel
theorem d_0_19 : decode cL_law 19 = .ok (.aload_n 0, 1) := by decide +kernel
theorem d_0_20 : decode cL_law 20 = .ok (.arraylength, 1) := by decide +kernel
theorem d_0_21 : decode cL_law 21 = .ok (.iconst 4, 1) := by decide +kernel
theorem d_0_22 : decode cL_law 22 = .ok (.isub, 1) := by decide +kernel
theorem d_0_23 : decode cL_law 23 = .ok (.if_icmp .gt 856, 3) := by decide +kernel
theorem d_0_26 : decode cL_law 26 = .ok (.aload_n 0, 1) := by decide +kernel
theorem d_0_27 : decode cL_law 27 = .ok (.iload_n 3, 1) := by decide +kernel
theorem d_0_28 : decode cL_law 28 = .ok (.iaload, 1) := by decide +kernel
theorem d_0_29 : decode cL_law 29 = .ok (.bipush 31, 2) := by decide +kernel
theorem d_0_31 : decode cL_law 31 = .ok (.iand, 1) := by decide +kernel
theorem d_0_32 : decode cL_law 32 = .ok (.tableswitch 841 0 23 #[112, 155, 188, 211, 234, 247, 260, 283, 326, 349, 372, 416, 450, 494, 517, 541, 585, 618, 661, 685, 729, 772, 795, 818], 112) := by decide +kernel
theorem d_0_144 : decode cL_law 144 = .ok (.aload_n 1, 1) := by decide +kernel
theorem d_0_145 : decode cL_law 145 = .ok (.aload_n 0, 1) := by decide +kernel
theorem d_0_146 : decode cL_law 146 = .ok (.iload_n 3, 1) := by decide +kernel
theorem d_0_147 : decode cL_law 147 = .ok (.iconst 1, 1) := by decide +kernel
theorem d_0_148 : decode cL_law 148 = .ok (.iadd, 1) := by decide +kernel
theorem d_0_149 : decode cL_law 149 = .ok (.iaload, 1) := by decide +kernel
theorem d_0_150 : decode cL_law 150 = .ok (.aload_n 0, 1) := by decide +kernel
theorem d_0_151 : decode cL_law 151 = .ok (.iload_n 3, 1) := by decide +kernel
theorem d_0_152 : decode cL_law 152 = .ok (.iconst 2, 1) := by decide +kernel
theorem d_0_153 : decode cL_law 153 = .ok (.iadd, 1) := by decide +kernel
theorem d_0_154 : decode cL_law 154 = .ok (.iaload, 1) := by decide +kernel
theorem d_0_155 : decode cL_law 155 = .ok (.aload_n 0, 1) := by decide +kernel
theorem d_0_156 : decode cL_law 156 = .ok (.iload_n 3, 1) := by decide +kernel
theorem d_0_157 : decode cL_law 157 = .ok (.iconst 3, 1) := by decide +kernel
theorem d_0_158 : decode cL_law 158 = .ok (.iadd, 1) := by decide +kernel
theorem d_0_159 : decode cL_law 159 = .ok (.iaload, 1) := by decide +kernel
theorem d_0_160 : decode cL_law 160 = .ok (.invokevirtual 13, 3) := by decide +kernel
theorem d_0_163 : decode cL_law 163 = .ok (.aload_n 2, 1) := by decide +kernel
theorem d_0_164 : decode cL_law 164 = .ok (.aload_n 0, 1) := by decide +kernel
theorem d_0_165 : decode cL_law 165 = .ok (.iload_n 3, 1) := by decide +kernel
theorem d_0_166 : decode cL_law 166 = .ok (.iconst 1, 1) := by decide +kernel
theorem d_0_167 : decode cL_law 167 = .ok (.iadd, 1) := by decide +kernel
theorem d_0_168 : decode cL_law 168 = .ok (.iaload, 1) := by decide +kernel
theorem d_0_169 : decode cL_law 169 = .ok (.aload_n 0, 1) := by decide +kernel
theorem d_0_170 : decode cL_law 170 = .ok (.iload_n 3, 1) := by decide +kernel
theorem d_0_171 : decode cL_law 171 = .ok (.iconst 2, 1) := by decide +kernel
theorem d_0_172 : decode cL_law 172 = .ok (.iadd, 1) := by decide +kernel
theorem d_0_173 : decode cL_law 173 = .ok (.iaload, 1) := by decide +kernel
theorem d_0_174 : decode cL_law 174 = .ok (.aload_n 0, 1) := by decide +kernel
theorem d_0_175 : decode cL_law 175 = .ok (.iload_n 3, 1) := by decide +kernel
theorem d_0_176 : decode cL_law 176 = .ok (.iconst 3, 1) := by decide +kernel
theorem d_0_177 : decode cL_law 177 = .ok (.iadd, 1) := by decide +kernel
theorem d_0_178 : decode cL_law 178 = .ok (.iaload, 1) := by decide +kernel
theorem d_0_179 : decode cL_law 179 = .ok (.invokevirtual 17, 3) := by decide +kernel
theorem d_0_182 : decode cL_law 182 = .ok (.if_icmp .eq 691, 3) := by decide +kernel
theorem d_0_185 : decode cL_law 185 = .ok (.iconst 0, 1) := by decide +kernel
theorem d_0_186 : decode cL_law 186 = .ok (.ireturn, 1) := by decide +kernel
theorem d_0_187 : decode cL_law 187 = .ok (.aload_n 1, 1) := by decide +kernel
theorem d_0_188 : decode cL_law 188 = .ok (.aload_n 0, 1) := by decide +kernel
theorem d_0_189 : decode cL_law 189 = .ok (.iload_n 3, 1) := by decide +kernel
theorem d_0_190 : decode cL_law 190 = .ok (.iconst 1, 1) := by decide +kernel
theorem d_0_191 : decode cL_law 191 = .ok (.iadd, 1) := by decide +kernel
theorem d_0_192 : decode cL_law 192 = .ok (.iaload, 1) := by decide +kernel
theorem d_0_193 : decode cL_law 193 = .ok (.aload_n 0, 1) := by decide +kernel
theorem d_0_194 : decode cL_law 194 = .ok (.iload_n 3, 1) := by decide +kernel
theorem d_0_195 : decode cL_law 195 = .ok (.iconst 2, 1) := by decide +kernel
theorem d_0_196 : decode cL_law 196 = .ok (.iadd, 1) := by decide +kernel
theorem d_0_197 : decode cL_law 197 = .ok (.iaload, 1) := by decide +kernel
theorem d_0_198 : decode cL_law 198 = .ok (.invokevirtual 18, 3) := by decide +kernel
theorem d_0_201 : decode cL_law 201 = .ok (.aload_n 2, 1) := by decide +kernel
theorem d_0_202 : decode cL_law 202 = .ok (.aload_n 0, 1) := by decide +kernel
theorem d_0_203 : decode cL_law 203 = .ok (.iload_n 3, 1) := by decide +kernel
theorem d_0_204 : decode cL_law 204 = .ok (.iconst 1, 1) := by decide +kernel
theorem d_0_205 : decode cL_law 205 = .ok (.iadd, 1) := by decide +kernel
theorem d_0_206 : decode cL_law 206 = .ok (.iaload, 1) := by decide +kernel
theorem d_0_207 : decode cL_law 207 = .ok (.aload_n 0, 1) := by decide +kernel
theorem d_0_208 : decode cL_law 208 = .ok (.iload_n 3, 1) := by decide +kernel
theorem d_0_209 : decode cL_law 209 = .ok (.iconst 2, 1) := by decide +kernel
theorem d_0_210 : decode cL_law 210 = .ok (.iadd, 1) := by decide +kernel
theorem d_0_211 : decode cL_law 211 = .ok (.iaload, 1) := by decide +kernel
theorem d_0_212 : decode cL_law 212 = .ok (.invokevirtual 22, 3) := by decide +kernel
theorem d_0_215 : decode cL_law 215 = .ok (.if_icmp .eq 658, 3) := by decide +kernel
theorem d_0_218 : decode cL_law 218 = .ok (.iconst 0, 1) := by decide +kernel
theorem d_0_219 : decode cL_law 219 = .ok (.ireturn, 1) := by decide +kernel
theorem d_0_220 : decode cL_law 220 = .ok (.aload_n 1, 1) := by decide +kernel
theorem d_0_221 : decode cL_law 221 = .ok (.aload_n 0, 1) := by decide +kernel
theorem d_0_222 : decode cL_law 222 = .ok (.iload_n 3, 1) := by decide +kernel
theorem d_0_223 : decode cL_law 223 = .ok (.iconst 1, 1) := by decide +kernel
theorem d_0_224 : decode cL_law 224 = .ok (.iadd, 1) := by decide +kernel
theorem d_0_225 : decode cL_law 225 = .ok (.iaload, 1) := by decide +kernel
theorem d_0_226 : decode cL_law 226 = .ok (.invokevirtual 23, 3) := by decide +kernel
theorem d_0_229 : decode cL_law 229 = .ok (.aload_n 2, 1) := by decide +kernel
theorem d_0_230 : decode cL_law 230 = .ok (.aload_n 0, 1) := by decide +kernel
theorem d_0_231 : decode cL_law 231 = .ok (.iload_n 3, 1) := by decide +kernel
theorem d_0_232 : decode cL_law 232 = .ok (.iconst 1, 1) := by decide +kernel
theorem d_0_233 : decode cL_law 233 = .ok (.iadd, 1) := by decide +kernel
theorem d_0_234 : decode cL_law 234 = .ok (.iaload, 1) := by decide +kernel
theorem d_0_235 : decode cL_law 235 = .ok (.invokevirtual 27, 3) := by decide +kernel
theorem d_0_238 : decode cL_law 238 = .ok (.if_icmp .eq 635, 3) := by decide +kernel
theorem d_0_241 : decode cL_law 241 = .ok (.iconst 0, 1) := by decide +kernel
theorem d_0_242 : decode cL_law 242 = .ok (.ireturn, 1) := by decide +kernel
theorem d_0_243 : decode cL_law 243 = .ok (.aload_n 1, 1) := by decide +kernel
theorem d_0_244 : decode cL_law 244 = .ok (.aload_n 0, 1) := by decide +kernel
theorem d_0_245 : decode cL_law 245 = .ok (.iload_n 3, 1) := by decide +kernel
theorem d_0_246 : decode cL_law 246 = .ok (.iconst 1, 1) := by decide +kernel
theorem d_0_247 : decode cL_law 247 = .ok (.iadd, 1) := by decide +kernel
theorem d_0_248 : decode cL_law 248 = .ok (.iaload, 1) := by decide +kernel
theorem d_0_249 : decode cL_law 249 = .ok (.invokevirtual 28, 3) := by decide +kernel
theorem d_0_252 : decode cL_law 252 = .ok (.aload_n 2, 1) := by decide +kernel
theorem d_0_253 : decode cL_law 253 = .ok (.aload_n 0, 1) := by decide +kernel
theorem d_0_254 : decode cL_law 254 = .ok (.iload_n 3, 1) := by decide +kernel
theorem d_0_255 : decode cL_law 255 = .ok (.iconst 1, 1) := by decide +kernel
theorem d_0_256 : decode cL_law 256 = .ok (.iadd, 1) := by decide +kernel
theorem d_0_257 : decode cL_law 257 = .ok (.iaload, 1) := by decide +kernel
theorem d_0_258 : decode cL_law 258 = .ok (.invokevirtual 31, 3) := by decide +kernel
theorem d_0_261 : decode cL_law 261 = .ok (.if_icmp .eq 612, 3) := by decide +kernel
theorem d_0_264 : decode cL_law 264 = .ok (.iconst 0, 1) := by decide +kernel
theorem d_0_265 : decode cL_law 265 = .ok (.ireturn, 1) := by decide +kernel
theorem d_0_266 : decode cL_law 266 = .ok (.aload_n 1, 1) := by decide +kernel
theorem d_0_267 : decode cL_law 267 = .ok (.invokevirtual 32, 3) := by decide +kernel
theorem d_0_270 : decode cL_law 270 = .ok (.aload_n 2, 1) := by decide +kernel
theorem d_0_271 : decode cL_law 271 = .ok (.invokevirtual 36, 3) := by decide +kernel
theorem d_0_274 : decode cL_law 274 = .ok (.if_icmp .eq 599, 3) := by decide +kernel
theorem d_0_277 : decode cL_law 277 = .ok (.iconst 0, 1) := by decide +kernel
theorem d_0_278 : decode cL_law 278 = .ok (.ireturn, 1) := by decide +kernel
theorem d_0_279 : decode cL_law 279 = .ok (.aload_n 1, 1) := by decide +kernel
theorem d_0_280 : decode cL_law 280 = .ok (.invokevirtual 37, 3) := by decide +kernel
theorem d_0_283 : decode cL_law 283 = .ok (.aload_n 2, 1) := by decide +kernel
theorem d_0_284 : decode cL_law 284 = .ok (.invokevirtual 40, 3) := by decide +kernel
theorem d_0_287 : decode cL_law 287 = .ok (.if_icmp .eq 586, 3) := by decide +kernel
theorem d_0_290 : decode cL_law 290 = .ok (.iconst 0, 1) := by decide +kernel
theorem d_0_291 : decode cL_law 291 = .ok (.ireturn, 1) := by decide +kernel
theorem d_0_292 : decode cL_law 292 = .ok (.aload_n 1, 1) := by decide +kernel
theorem d_0_293 : decode cL_law 293 = .ok (.aload_n 0, 1) := by decide +kernel
theorem d_0_294 : decode cL_law 294 = .ok (.iload_n 3, 1) := by decide +kernel
theorem d_0_295 : decode cL_law 295 = .ok (.iconst 1, 1) := by decide +kernel
theorem d_0_296 : decode cL_law 296 = .ok (.iadd, 1) := by decide +kernel
theorem d_0_297 : decode cL_law 297 = .ok (.iaload, 1) := by decide +kernel
theorem d_0_298 : decode cL_law 298 = .ok (.invokevirtual 41, 3) := by decide +kernel
theorem d_0_301 : decode cL_law 301 = .ok (.aload_n 2, 1) := by decide +kernel
theorem d_0_302 : decode cL_law 302 = .ok (.aload_n 0, 1) := by decide +kernel
theorem d_0_303 : decode cL_law 303 = .ok (.iload_n 3, 1) := by decide +kernel
theorem d_0_304 : decode cL_law 304 = .ok (.iconst 1, 1) := by decide +kernel
theorem d_0_305 : decode cL_law 305 = .ok (.iadd, 1) := by decide +kernel
theorem d_0_306 : decode cL_law 306 = .ok (.iaload, 1) := by decide +kernel
theorem d_0_307 : decode cL_law 307 = .ok (.invokevirtual 44, 3) := by decide +kernel
theorem d_0_310 : decode cL_law 310 = .ok (.if_icmp .eq 563, 3) := by decide +kernel
theorem d_0_313 : decode cL_law 313 = .ok (.iconst 0, 1) := by decide +kernel
theorem d_0_314 : decode cL_law 314 = .ok (.ireturn, 1) := by decide +kernel
theorem d_0_315 : decode cL_law 315 = .ok (.aload_n 1, 1) := by decide +kernel
theorem d_0_316 : decode cL_law 316 = .ok (.aload_n 0, 1) := by decide +kernel
theorem d_0_317 : decode cL_law 317 = .ok (.iload_n 3, 1) := by decide +kernel
theorem d_0_318 : decode cL_law 318 = .ok (.iconst 1, 1) := by decide +kernel
theorem d_0_319 : decode cL_law 319 = .ok (.iadd, 1) := by decide +kernel
theorem d_0_320 : decode cL_law 320 = .ok (.iaload, 1) := by decide +kernel
theorem d_0_321 : decode cL_law 321 = .ok (.aload_n 0, 1) := by decide +kernel
theorem d_0_322 : decode cL_law 322 = .ok (.iload_n 3, 1) := by decide +kernel
theorem d_0_323 : decode cL_law 323 = .ok (.iconst 2, 1) := by decide +kernel
theorem d_0_324 : decode cL_law 324 = .ok (.iadd, 1) := by decide +kernel
theorem d_0_325 : decode cL_law 325 = .ok (.iaload, 1) := by decide +kernel
theorem d_0_326 : decode cL_law 326 = .ok (.aload_n 0, 1) := by decide +kernel
theorem d_0_327 : decode cL_law 327 = .ok (.iload_n 3, 1) := by decide +kernel
theorem d_0_328 : decode cL_law 328 = .ok (.iconst 3, 1) := by decide +kernel
theorem d_0_329 : decode cL_law 329 = .ok (.iadd, 1) := by decide +kernel
theorem d_0_330 : decode cL_law 330 = .ok (.iaload, 1) := by decide +kernel
theorem d_0_331 : decode cL_law 331 = .ok (.invokevirtual 45, 3) := by decide +kernel
theorem d_0_334 : decode cL_law 334 = .ok (.aload_n 2, 1) := by decide +kernel
theorem d_0_335 : decode cL_law 335 = .ok (.aload_n 0, 1) := by decide +kernel
theorem d_0_336 : decode cL_law 336 = .ok (.iload_n 3, 1) := by decide +kernel
theorem d_0_337 : decode cL_law 337 = .ok (.iconst 1, 1) := by decide +kernel
theorem d_0_338 : decode cL_law 338 = .ok (.iadd, 1) := by decide +kernel
theorem d_0_339 : decode cL_law 339 = .ok (.iaload, 1) := by decide +kernel
theorem d_0_340 : decode cL_law 340 = .ok (.aload_n 0, 1) := by decide +kernel
theorem d_0_341 : decode cL_law 341 = .ok (.iload_n 3, 1) := by decide +kernel
theorem d_0_342 : decode cL_law 342 = .ok (.iconst 2, 1) := by decide +kernel
theorem d_0_343 : decode cL_law 343 = .ok (.iadd, 1) := by decide +kernel
theorem d_0_344 : decode cL_law 344 = .ok (.iaload, 1) := by decide +kernel
theorem d_0_345 : decode cL_law 345 = .ok (.aload_n 0, 1) := by decide +kernel
theorem d_0_346 : decode cL_law 346 = .ok (.iload_n 3, 1) := by decide +kernel
theorem d_0_347 : decode cL_law 347 = .ok (.iconst 3, 1) := by decide +kernel
theorem d_0_348 : decode cL_law 348 = .ok (.iadd, 1) := by decide +kernel
theorem d_0_349 : decode cL_law 349 = .ok (.iaload, 1) := by decide +kernel
theorem d_0_350 : decode cL_law 350 = .ok (.invokevirtual 48, 3) := by decide +kernel
theorem d_0_353 : decode cL_law 353 = .ok (.if_icmp .eq 520, 3) := by decide +kernel
theorem d_0_356 : decode cL_law 356 = .ok (.iconst 0, 1) := by decide +kernel
theorem d_0_357 : decode cL_law 357 = .ok (.ireturn, 1) := by decide +kernel
theorem d_0_358 : decode cL_law 358 = .ok (.aload_n 1, 1) := by decide +kernel
theorem d_0_359 : decode cL_law 359 = .ok (.aload_n 0, 1) := by decide +kernel
theorem d_0_360 : decode cL_law 360 = .ok (.iload_n 3, 1) := by decide +kernel
theorem d_0_361 : decode cL_law 361 = .ok (.iconst 1, 1) := by decide +kernel
theorem d_0_362 : decode cL_law 362 = .ok (.iadd, 1) := by decide +kernel
theorem d_0_363 : decode cL_law 363 = .ok (.iaload, 1) := by decide +kernel
theorem d_0_364 : decode cL_law 364 = .ok (.invokevirtual 49, 3) := by decide +kernel
theorem d_0_367 : decode cL_law 367 = .ok (.aload_n 2, 1) := by decide +kernel
theorem d_0_368 : decode cL_law 368 = .ok (.aload_n 0, 1) := by decide +kernel
theorem d_0_369 : decode cL_law 369 = .ok (.iload_n 3, 1) := by decide +kernel
theorem d_0_370 : decode cL_law 370 = .ok (.iconst 1, 1) := by decide +kernel
theorem d_0_371 : decode cL_law 371 = .ok (.iadd, 1) := by decide +kernel
theorem d_0_372 : decode cL_law 372 = .ok (.iaload, 1) := by decide +kernel
theorem d_0_373 : decode cL_law 373 = .ok (.invokevirtual 52, 3) := by decide +kernel
theorem d_0_376 : decode cL_law 376 = .ok (.if_icmp .eq 497, 3) := by decide +kernel
theorem d_0_379 : decode cL_law 379 = .ok (.iconst 0, 1) := by decide +kernel
theorem d_0_380 : decode cL_law 380 = .ok (.ireturn, 1) := by decide +kernel
theorem d_0_381 : decode cL_law 381 = .ok (.aload_n 1, 1) := by decide +kernel
theorem d_0_382 : decode cL_law 382 = .ok (.aload_n 0, 1) := by decide +kernel
theorem d_0_383 : decode cL_law 383 = .ok (.iload_n 3, 1) := by decide +kernel
theorem d_0_384 : decode cL_law 384 = .ok (.iconst 1, 1) := by decide +kernel
theorem d_0_385 : decode cL_law 385 = .ok (.iadd, 1) := by decide +kernel
theorem d_0_386 : decode cL_law 386 = .ok (.iaload, 1) := by decide +kernel
theorem d_0_387 : decode cL_law 387 = .ok (.invokevirtual 53, 3) := by decide +kernel
theorem d_0_390 : decode cL_law 390 = .ok (.aload_n 2, 1) := by decide +kernel
theorem d_0_391 : decode cL_law 391 = .ok (.aload_n 0, 1) := by decide +kernel
theorem d_0_392 : decode cL_law 392 = .ok (.iload_n 3, 1) := by decide +kernel
theorem d_0_393 : decode cL_law 393 = .ok (.iconst 1, 1) := by decide +kernel
theorem d_0_394 : decode cL_law 394 = .ok (.iadd, 1) := by decide +kernel
theorem d_0_395 : decode cL_law 395 = .ok (.iaload, 1) := by decide +kernel
theorem d_0_396 : decode cL_law 396 = .ok (.invokevirtual 56, 3) := by decide +kernel
theorem d_0_399 : decode cL_law 399 = .ok (.if_icmp .eq 474, 3) := by decide +kernel
theorem d_0_402 : decode cL_law 402 = .ok (.iconst 0, 1) := by decide +kernel
theorem d_0_403 : decode cL_law 403 = .ok (.ireturn, 1) := by decide +kernel
theorem d_0_404 : decode cL_law 404 = .ok (.aload_n 1, 1) := by decide +kernel
theorem d_0_405 : decode cL_law 405 = .ok (.aload_n 0, 1) := by decide +kernel
theorem d_0_406 : decode cL_law 406 = .ok (.iload_n 3, 1) := by decide +kernel
theorem d_0_407 : decode cL_law 407 = .ok (.iconst 1, 1) := by decide +kernel
theorem d_0_408 : decode cL_law 408 = .ok (.iadd, 1) := by decide +kernel
theorem d_0_409 : decode cL_law 409 = .ok (.iaload, 1) := by decide +kernel
theorem d_0_410 : decode cL_law 410 = .ok (.aload_n 0, 1) := by decide +kernel
theorem d_0_411 : decode cL_law 411 = .ok (.iload_n 3, 1) := by decide +kernel
theorem d_0_412 : decode cL_law 412 = .ok (.iconst 2, 1) := by decide +kernel
theorem d_0_413 : decode cL_law 413 = .ok (.iadd, 1) := by decide +kernel
theorem d_0_414 : decode cL_law 414 = .ok (.iaload, 1) := by decide +kernel
theorem d_0_415 : decode cL_law 415 = .ok (.aload_n 0, 1) := by decide +kernel
theorem d_0_416 : decode cL_law 416 = .ok (.iload_n 3, 1) := by decide +kernel
theorem d_0_417 : decode cL_law 417 = .ok (.iconst 3, 1) := by decide +kernel
theorem d_0_418 : decode cL_law 418 = .ok (.iadd, 1) := by decide +kernel
theorem d_0_419 : decode cL_law 419 = .ok (.iaload, 1) := by decide +kernel
theorem d_0_420 : decode cL_law 420 = .ok (.invokevirtual 57, 3) := by decide +kernel
theorem d_0_423 : decode cL_law 423 = .ok (.aload_n 2, 1) := by decide +kernel
theorem d_0_424 : decode cL_law 424 = .ok (.aload_n 0, 1) := by decide +kernel
theorem d_0_425 : decode cL_law 425 = .ok (.iload_n 3, 1) := by decide +kernel
theorem d_0_426 : decode cL_law 426 = .ok (.iconst 1, 1) := by decide +kernel
theorem d_0_427 : decode cL_law 427 = .ok (.iadd, 1) := by decide +kernel
theorem d_0_428 : decode cL_law 428 = .ok (.iaload, 1) := by decide +kernel
theorem d_0_429 : decode cL_law 429 = .ok (.aload_n 0, 1) := by decide +kernel
theorem d_0_430 : decode cL_law 430 = .ok (.iload_n 3, 1) := by decide +kernel
theorem d_0_431 : decode cL_law 431 = .ok (.iconst 2, 1) := by decide +kernel
theorem d_0_432 : decode cL_law 432 = .ok (.iadd, 1) := by decide +kernel
theorem d_0_433 : decode cL_law 433 = .ok (.iaload, 1) := by decide +kernel
theorem d_0_434 : decode cL_law 434 = .ok (.aload_n 0, 1) := by decide +kernel
theorem d_0_435 : decode cL_law 435 = .ok (.iload_n 3, 1) := by decide +kernel
theorem d_0_436 : decode cL_law 436 = .ok (.iconst 3, 1) := by decide +kernel
theorem d_0_437 : decode cL_law 437 = .ok (.iadd, 1) := by decide +kernel
theorem d_0_438 : decode cL_law 438 = .ok (.iaload, 1) := by decide +kernel
theorem d_0_439 : decode cL_law 439 = .ok (.invokevirtual 61, 3) := by decide +kernel
theorem d_0_442 : decode cL_law 442 = .ok (.lcmp, 1) := by decide +kernel
theorem d_0_443 : decode cL_law 443 = .ok (.ifCond .eq 430, 3) := by decide +kernel
theorem d_0_446 : decode cL_law 446 = .ok (.iconst 0, 1) := by decide +kernel
theorem d_0_447 : decode cL_law 447 = .ok (.ireturn, 1) := by decide +kernel
theorem d_0_448 : decode cL_law 448 = .ok (.aload_n 1, 1) := by decide +kernel
theorem d_0_449 : decode cL_law 449 = .ok (.aload_n 0, 1) := by decide +kernel
theorem d_0_450 : decode cL_law 450 = .ok (.iload_n 3, 1) := by decide +kernel
theorem d_0_451 : decode cL_law 451 = .ok (.iconst 1, 1) := by decide +kernel
theorem d_0_452 : decode cL_law 452 = .ok (.iadd, 1) := by decide +kernel
theorem d_0_453 : decode cL_law 453 = .ok (.iaload, 1) := by decide +kernel
theorem d_0_454 : decode cL_law 454 = .ok (.aload_n 0, 1) := by decide +kernel
theorem d_0_455 : decode cL_law 455 = .ok (.iload_n 3, 1) := by decide +kernel
theorem d_0_456 : decode cL_law 456 = .ok (.iconst 2, 1) := by decide +kernel
theorem d_0_457 : decode cL_law 457 = .ok (.iadd, 1) := by decide +kernel
theorem d_0_458 : decode cL_law 458 = .ok (.iaload, 1) := by decide +kernel
theorem d_0_459 : decode cL_law 459 = .ok (.invokevirtual 62, 3) := by decide +kernel
theorem d_0_462 : decode cL_law 462 = .ok (.aload_n 2, 1) := by decide +kernel
theorem d_0_463 : decode cL_law 463 = .ok (.aload_n 0, 1) := by decide +kernel
theorem d_0_464 : decode cL_law 464 = .ok (.iload_n 3, 1) := by decide +kernel
theorem d_0_465 : decode cL_law 465 = .ok (.iconst 1, 1) := by decide +kernel
theorem d_0_466 : decode cL_law 466 = .ok (.iadd, 1) := by decide +kernel
theorem d_0_467 : decode cL_law 467 = .ok (.iaload, 1) := by decide +kernel
theorem d_0_468 : decode cL_law 468 = .ok (.aload_n 0, 1) := by decide +kernel
theorem d_0_469 : decode cL_law 469 = .ok (.iload_n 3, 1) := by decide +kernel
theorem d_0_470 : decode cL_law 470 = .ok (.iconst 2, 1) := by decide +kernel
theorem d_0_471 : decode cL_law 471 = .ok (.iadd, 1) := by decide +kernel
theorem d_0_472 : decode cL_law 472 = .ok (.iaload, 1) := by decide +kernel
theorem d_0_473 : decode cL_law 473 = .ok (.invokevirtual 66, 3) := by decide +kernel
theorem d_0_476 : decode cL_law 476 = .ok (.lcmp, 1) := by decide +kernel
theorem d_0_477 : decode cL_law 477 = .ok (.ifCond .eq 396, 3) := by decide +kernel
theorem d_0_480 : decode cL_law 480 = .ok (.iconst 0, 1) := by decide +kernel
theorem d_0_481 : decode cL_law 481 = .ok (.ireturn, 1) := by decide +kernel
theorem d_0_482 : decode cL_law 482 = .ok (.aload_n 1, 1) := by decide +kernel
theorem d_0_483 : decode cL_law 483 = .ok (.aload_n 0, 1) := by decide +kernel
theorem d_0_484 : decode cL_law 484 = .ok (.iload_n 3, 1) := by decide +kernel
theorem d_0_485 : decode cL_law 485 = .ok (.iconst 1, 1) := by decide +kernel
theorem d_0_486 : decode cL_law 486 = .ok (.iadd, 1) := by decide +kernel
theorem d_0_487 : decode cL_law 487 = .ok (.iaload, 1) := by decide +kernel
theorem d_0_488 : decode cL_law 488 = .ok (.aload_n 0, 1) := by decide +kernel
theorem d_0_489 : decode cL_law 489 = .ok (.iload_n 3, 1) := by decide +kernel
theorem d_0_490 : decode cL_law 490 = .ok (.iconst 2, 1) := by decide +kernel
theorem d_0_491 : decode cL_law 491 = .ok (.iadd, 1) := by decide +kernel
theorem d_0_492 : decode cL_law 492 = .ok (.iaload, 1) := by decide +kernel
theorem d_0_493 : decode cL_law 493 = .ok (.aload_n 0, 1) := by decide +kernel
theorem d_0_494 : decode cL_law 494 = .ok (.iload_n 3, 1) := by decide +kernel
theorem d_0_495 : decode cL_law 495 = .ok (.iconst 3, 1) := by decide +kernel
theorem d_0_496 : decode cL_law 496 = .ok (.iadd, 1) := by decide +kernel
theorem d_0_497 : decode cL_law 497 = .ok (.iaload, 1) := by decide +kernel
theorem d_0_498 : decode cL_law 498 = .ok (.invokevirtual 67, 3) := by decide +kernel
theorem d_0_501 : decode cL_law 501 = .ok (.aload_n 2, 1) := by decide +kernel
theorem d_0_502 : decode cL_law 502 = .ok (.aload_n 0, 1) := by decide +kernel
theorem d_0_503 : decode cL_law 503 = .ok (.iload_n 3, 1) := by decide +kernel
theorem d_0_504 : decode cL_law 504 = .ok (.iconst 1, 1) := by decide +kernel
theorem d_0_505 : decode cL_law 505 = .ok (.iadd, 1) := by decide +kernel
theorem d_0_506 : decode cL_law 506 = .ok (.iaload, 1) := by decide +kernel
theorem d_0_507 : decode cL_law 507 = .ok (.aload_n 0, 1) := by decide +kernel
theorem d_0_508 : decode cL_law 508 = .ok (.iload_n 3, 1) := by decide +kernel
theorem d_0_509 : decode cL_law 509 = .ok (.iconst 2, 1) := by decide +kernel
theorem d_0_510 : decode cL_law 510 = .ok (.iadd, 1) := by decide +kernel
theorem d_0_511 : decode cL_law 511 = .ok (.iaload, 1) := by decide +kernel
theorem d_0_512 : decode cL_law 512 = .ok (.aload_n 0, 1) := by decide +kernel
theorem d_0_513 : decode cL_law 513 = .ok (.iload_n 3, 1) := by decide +kernel
theorem d_0_514 : decode cL_law 514 = .ok (.iconst 3, 1) := by decide +kernel
theorem d_0_515 : decode cL_law 515 = .ok (.iadd, 1) := by decide +kernel
theorem d_0_516 : decode cL_law 516 = .ok (.iaload, 1) := by decide +kernel
theorem d_0_517 : decode cL_law 517 = .ok (.invokevirtual 70, 3) := by decide +kernel
theorem d_0_520 : decode cL_law 520 = .ok (.lcmp, 1) := by decide +kernel
theorem d_0_521 : decode cL_law 521 = .ok (.ifCond .eq 352, 3) := by decide +kernel
theorem d_0_524 : decode cL_law 524 = .ok (.iconst 0, 1) := by decide +kernel
theorem d_0_525 : decode cL_law 525 = .ok (.ireturn, 1) := by decide +kernel
theorem d_0_526 : decode cL_law 526 = .ok (.aload_n 1, 1) := by decide +kernel
theorem d_0_527 : decode cL_law 527 = .ok (.aload_n 0, 1) := by decide +kernel
theorem d_0_528 : decode cL_law 528 = .ok (.iload_n 3, 1) := by decide +kernel
theorem d_0_529 : decode cL_law 529 = .ok (.iconst 1, 1) := by decide +kernel
theorem d_0_530 : decode cL_law 530 = .ok (.iadd, 1) := by decide +kernel
theorem d_0_531 : decode cL_law 531 = .ok (.iaload, 1) := by decide +kernel
theorem d_0_532 : decode cL_law 532 = .ok (.invokevirtual 71, 3) := by decide +kernel
theorem d_0_535 : decode cL_law 535 = .ok (.aload_n 2, 1) := by decide +kernel
theorem d_0_536 : decode cL_law 536 = .ok (.aload_n 0, 1) := by decide +kernel
theorem d_0_537 : decode cL_law 537 = .ok (.iload_n 3, 1) := by decide +kernel
theorem d_0_538 : decode cL_law 538 = .ok (.iconst 1, 1) := by decide +kernel
theorem d_0_539 : decode cL_law 539 = .ok (.iadd, 1) := by decide +kernel
theorem d_0_540 : decode cL_law 540 = .ok (.iaload, 1) := by decide +kernel
theorem d_0_541 : decode cL_law 541 = .ok (.invokevirtual 74, 3) := by decide +kernel
theorem d_0_544 : decode cL_law 544 = .ok (.if_icmp .eq 329, 3) := by decide +kernel
theorem d_0_547 : decode cL_law 547 = .ok (.iconst 0, 1) := by decide +kernel
theorem d_0_548 : decode cL_law 548 = .ok (.ireturn, 1) := by decide +kernel
theorem d_0_549 : decode cL_law 549 = .ok (.aload_n 1, 1) := by decide +kernel
theorem d_0_550 : decode cL_law 550 = .ok (.aload_n 0, 1) := by decide +kernel
theorem d_0_551 : decode cL_law 551 = .ok (.iload_n 3, 1) := by decide +kernel
theorem d_0_552 : decode cL_law 552 = .ok (.iconst 1, 1) := by decide +kernel
theorem d_0_553 : decode cL_law 553 = .ok (.iadd, 1) := by decide +kernel
theorem d_0_554 : decode cL_law 554 = .ok (.iaload, 1) := by decide +kernel
theorem d_0_555 : decode cL_law 555 = .ok (.invokevirtual 75, 3) := by decide +kernel
theorem d_0_558 : decode cL_law 558 = .ok (.aload_n 2, 1) := by decide +kernel
theorem d_0_559 : decode cL_law 559 = .ok (.aload_n 0, 1) := by decide +kernel
theorem d_0_560 : decode cL_law 560 = .ok (.iload_n 3, 1) := by decide +kernel
theorem d_0_561 : decode cL_law 561 = .ok (.iconst 1, 1) := by decide +kernel
theorem d_0_562 : decode cL_law 562 = .ok (.iadd, 1) := by decide +kernel
theorem d_0_563 : decode cL_law 563 = .ok (.iaload, 1) := by decide +kernel
theorem d_0_564 : decode cL_law 564 = .ok (.invokevirtual 79, 3) := by decide +kernel
theorem d_0_567 : decode cL_law 567 = .ok (.lcmp, 1) := by decide +kernel
theorem d_0_568 : decode cL_law 568 = .ok (.ifCond .eq 305, 3) := by decide +kernel
theorem d_0_571 : decode cL_law 571 = .ok (.iconst 0, 1) := by decide +kernel
theorem d_0_572 : decode cL_law 572 = .ok (.ireturn, 1) := by decide +kernel
theorem d_0_573 : decode cL_law 573 = .ok (.aload_n 1, 1) := by decide +kernel
theorem d_0_574 : decode cL_law 574 = .ok (.aload_n 0, 1) := by decide +kernel
theorem d_0_575 : decode cL_law 575 = .ok (.iload_n 3, 1) := by decide +kernel
theorem d_0_576 : decode cL_law 576 = .ok (.iconst 1, 1) := by decide +kernel
theorem d_0_577 : decode cL_law 577 = .ok (.iadd, 1) := by decide +kernel
theorem d_0_578 : decode cL_law 578 = .ok (.iaload, 1) := by decide +kernel
theorem d_0_579 : decode cL_law 579 = .ok (.aload_n 0, 1) := by decide +kernel
theorem d_0_580 : decode cL_law 580 = .ok (.iload_n 3, 1) := by decide +kernel
theorem d_0_581 : decode cL_law 581 = .ok (.iconst 2, 1) := by decide +kernel
theorem d_0_582 : decode cL_law 582 = .ok (.iadd, 1) := by decide +kernel
theorem d_0_583 : decode cL_law 583 = .ok (.iaload, 1) := by decide +kernel
theorem d_0_584 : decode cL_law 584 = .ok (.aload_n 0, 1) := by decide +kernel
theorem d_0_585 : decode cL_law 585 = .ok (.iload_n 3, 1) := by decide +kernel
theorem d_0_586 : decode cL_law 586 = .ok (.iconst 3, 1) := by decide +kernel
theorem d_0_587 : decode cL_law 587 = .ok (.iadd, 1) := by decide +kernel
theorem d_0_588 : decode cL_law 588 = .ok (.iaload, 1) := by decide +kernel
theorem d_0_589 : decode cL_law 589 = .ok (.invokevirtual 80, 3) := by decide +kernel
theorem d_0_592 : decode cL_law 592 = .ok (.aload_n 2, 1) := by decide +kernel
theorem d_0_593 : decode cL_law 593 = .ok (.aload_n 0, 1) := by decide +kernel
theorem d_0_594 : decode cL_law 594 = .ok (.iload_n 3, 1) := by decide +kernel
theorem d_0_595 : decode cL_law 595 = .ok (.iconst 1, 1) := by decide +kernel
theorem d_0_596 : decode cL_law 596 = .ok (.iadd, 1) := by decide +kernel
theorem d_0_597 : decode cL_law 597 = .ok (.iaload, 1) := by decide +kernel
theorem d_0_598 : decode cL_law 598 = .ok (.aload_n 0, 1) := by decide +kernel
theorem d_0_599 : decode cL_law 599 = .ok (.iload_n 3, 1) := by decide +kernel
theorem d_0_600 : decode cL_law 600 = .ok (.iconst 2, 1) := by decide +kernel
theorem d_0_601 : decode cL_law 601 = .ok (.iadd, 1) := by decide +kernel
theorem d_0_602 : decode cL_law 602 = .ok (.iaload, 1) := by decide +kernel
theorem d_0_603 : decode cL_law 603 = .ok (.aload_n 0, 1) := by decide +kernel
theorem d_0_604 : decode cL_law 604 = .ok (.iload_n 3, 1) := by decide +kernel
theorem d_0_605 : decode cL_law 605 = .ok (.iconst 3, 1) := by decide +kernel
theorem d_0_606 : decode cL_law 606 = .ok (.iadd, 1) := by decide +kernel
theorem d_0_607 : decode cL_law 607 = .ok (.iaload, 1) := by decide +kernel
theorem d_0_608 : decode cL_law 608 = .ok (.invokevirtual 83, 3) := by decide +kernel
theorem d_0_611 : decode cL_law 611 = .ok (.lcmp, 1) := by decide +kernel
theorem d_0_612 : decode cL_law 612 = .ok (.ifCond .eq 261, 3) := by decide +kernel
theorem d_0_615 : decode cL_law 615 = .ok (.iconst 0, 1) := by decide +kernel
theorem d_0_616 : decode cL_law 616 = .ok (.ireturn, 1) := by decide +kernel
theorem d_0_617 : decode cL_law 617 = .ok (.aload_n 1, 1) := by decide +kernel
theorem d_0_618 : decode cL_law 618 = .ok (.aload_n 0, 1) := by decide +kernel
theorem d_0_619 : decode cL_law 619 = .ok (.iload_n 3, 1) := by decide +kernel
theorem d_0_620 : decode cL_law 620 = .ok (.iconst 1, 1) := by decide +kernel
theorem d_0_621 : decode cL_law 621 = .ok (.iadd, 1) := by decide +kernel
theorem d_0_622 : decode cL_law 622 = .ok (.iaload, 1) := by decide +kernel
theorem d_0_623 : decode cL_law 623 = .ok (.aload_n 0, 1) := by decide +kernel
theorem d_0_624 : decode cL_law 624 = .ok (.iload_n 3, 1) := by decide +kernel
theorem d_0_625 : decode cL_law 625 = .ok (.iconst 2, 1) := by decide +kernel
theorem d_0_626 : decode cL_law 626 = .ok (.iadd, 1) := by decide +kernel
theorem d_0_627 : decode cL_law 627 = .ok (.iaload, 1) := by decide +kernel
theorem d_0_628 : decode cL_law 628 = .ok (.invokevirtual 84, 3) := by decide +kernel
theorem d_0_631 : decode cL_law 631 = .ok (.aload_n 2, 1) := by decide +kernel
theorem d_0_632 : decode cL_law 632 = .ok (.aload_n 0, 1) := by decide +kernel
theorem d_0_633 : decode cL_law 633 = .ok (.iload_n 3, 1) := by decide +kernel
theorem d_0_634 : decode cL_law 634 = .ok (.iconst 1, 1) := by decide +kernel
theorem d_0_635 : decode cL_law 635 = .ok (.iadd, 1) := by decide +kernel
theorem d_0_636 : decode cL_law 636 = .ok (.iaload, 1) := by decide +kernel
theorem d_0_637 : decode cL_law 637 = .ok (.aload_n 0, 1) := by decide +kernel
theorem d_0_638 : decode cL_law 638 = .ok (.iload_n 3, 1) := by decide +kernel
theorem d_0_639 : decode cL_law 639 = .ok (.iconst 2, 1) := by decide +kernel
theorem d_0_640 : decode cL_law 640 = .ok (.iadd, 1) := by decide +kernel
theorem d_0_641 : decode cL_law 641 = .ok (.iaload, 1) := by decide +kernel
theorem d_0_642 : decode cL_law 642 = .ok (.invokevirtual 87, 3) := by decide +kernel
theorem d_0_645 : decode cL_law 645 = .ok (.if_icmp .eq 228, 3) := by decide +kernel
theorem d_0_648 : decode cL_law 648 = .ok (.iconst 0, 1) := by decide +kernel
theorem d_0_649 : decode cL_law 649 = .ok (.ireturn, 1) := by decide +kernel
theorem d_0_650 : decode cL_law 650 = .ok (.aload_n 1, 1) := by decide +kernel
theorem d_0_651 : decode cL_law 651 = .ok (.aload_n 0, 1) := by decide +kernel
theorem d_0_652 : decode cL_law 652 = .ok (.iload_n 3, 1) := by decide +kernel
theorem d_0_653 : decode cL_law 653 = .ok (.iconst 1, 1) := by decide +kernel
theorem d_0_654 : decode cL_law 654 = .ok (.iadd, 1) := by decide +kernel
theorem d_0_655 : decode cL_law 655 = .ok (.iaload, 1) := by decide +kernel
theorem d_0_656 : decode cL_law 656 = .ok (.aload_n 0, 1) := by decide +kernel
theorem d_0_657 : decode cL_law 657 = .ok (.iload_n 3, 1) := by decide +kernel
theorem d_0_658 : decode cL_law 658 = .ok (.iconst 2, 1) := by decide +kernel
theorem d_0_659 : decode cL_law 659 = .ok (.iadd, 1) := by decide +kernel
theorem d_0_660 : decode cL_law 660 = .ok (.iaload, 1) := by decide +kernel
theorem d_0_661 : decode cL_law 661 = .ok (.aload_n 0, 1) := by decide +kernel
theorem d_0_662 : decode cL_law 662 = .ok (.iload_n 3, 1) := by decide +kernel
theorem d_0_663 : decode cL_law 663 = .ok (.iconst 3, 1) := by decide +kernel
theorem d_0_664 : decode cL_law 664 = .ok (.iadd, 1) := by decide +kernel
theorem d_0_665 : decode cL_law 665 = .ok (.iaload, 1) := by decide +kernel
theorem d_0_666 : decode cL_law 666 = .ok (.invokevirtual 88, 3) := by decide +kernel
theorem d_0_669 : decode cL_law 669 = .ok (.aload_n 2, 1) := by decide +kernel
theorem d_0_670 : decode cL_law 670 = .ok (.aload_n 0, 1) := by decide +kernel
theorem d_0_671 : decode cL_law 671 = .ok (.iload_n 3, 1) := by decide +kernel
theorem d_0_672 : decode cL_law 672 = .ok (.iconst 1, 1) := by decide +kernel
theorem d_0_673 : decode cL_law 673 = .ok (.iadd, 1) := by decide +kernel
theorem d_0_674 : decode cL_law 674 = .ok (.iaload, 1) := by decide +kernel
theorem d_0_675 : decode cL_law 675 = .ok (.aload_n 0, 1) := by decide +kernel
theorem d_0_676 : decode cL_law 676 = .ok (.iload_n 3, 1) := by decide +kernel
theorem d_0_677 : decode cL_law 677 = .ok (.iconst 2, 1) := by decide +kernel
theorem d_0_678 : decode cL_law 678 = .ok (.iadd, 1) := by decide +kernel
theorem d_0_679 : decode cL_law 679 = .ok (.iaload, 1) := by decide +kernel
theorem d_0_680 : decode cL_law 680 = .ok (.aload_n 0, 1) := by decide +kernel
theorem d_0_681 : decode cL_law 681 = .ok (.iload_n 3, 1) := by decide +kernel
theorem d_0_682 : decode cL_law 682 = .ok (.iconst 3, 1) := by decide +kernel
theorem d_0_683 : decode cL_law 683 = .ok (.iadd, 1) := by decide +kernel
theorem d_0_684 : decode cL_law 684 = .ok (.iaload, 1) := by decide +kernel
theorem d_0_685 : decode cL_law 685 = .ok (.invokevirtual 91, 3) := by decide +kernel
theorem d_0_688 : decode cL_law 688 = .ok (.if_icmp .eq 185, 3) := by decide +kernel
theorem d_0_691 : decode cL_law 691 = .ok (.iconst 0, 1) := by decide +kernel
theorem d_0_692 : decode cL_law 692 = .ok (.ireturn, 1) := by decide +kernel
theorem d_0_693 : decode cL_law 693 = .ok (.aload_n 1, 1) := by decide +kernel
theorem d_0_694 : decode cL_law 694 = .ok (.aload_n 0, 1) := by decide +kernel
theorem d_0_695 : decode cL_law 695 = .ok (.iload_n 3, 1) := by decide +kernel
theorem d_0_696 : decode cL_law 696 = .ok (.iconst 1, 1) := by decide +kernel
theorem d_0_697 : decode cL_law 697 = .ok (.iadd, 1) := by decide +kernel
theorem d_0_698 : decode cL_law 698 = .ok (.iaload, 1) := by decide +kernel
theorem d_0_699 : decode cL_law 699 = .ok (.invokevirtual 92, 3) := by decide +kernel
theorem d_0_702 : decode cL_law 702 = .ok (.aload_n 2, 1) := by decide +kernel
theorem d_0_703 : decode cL_law 703 = .ok (.aload_n 0, 1) := by decide +kernel
theorem d_0_704 : decode cL_law 704 = .ok (.iload_n 3, 1) := by decide +kernel
theorem d_0_705 : decode cL_law 705 = .ok (.iconst 1, 1) := by decide +kernel
theorem d_0_706 : decode cL_law 706 = .ok (.iadd, 1) := by decide +kernel
theorem d_0_707 : decode cL_law 707 = .ok (.iaload, 1) := by decide +kernel
theorem d_0_708 : decode cL_law 708 = .ok (.invokevirtual 95, 3) := by decide +kernel
theorem d_0_711 : decode cL_law 711 = .ok (.lcmp, 1) := by decide +kernel
theorem d_0_712 : decode cL_law 712 = .ok (.ifCond .eq 161, 3) := by decide +kernel
theorem d_0_715 : decode cL_law 715 = .ok (.iconst 0, 1) := by decide +kernel
theorem d_0_716 : decode cL_law 716 = .ok (.ireturn, 1) := by decide +kernel
theorem d_0_717 : decode cL_law 717 = .ok (.aload_n 1, 1) := by decide +kernel
theorem d_0_718 : decode cL_law 718 = .ok (.aload_n 0, 1) := by decide +kernel
theorem d_0_719 : decode cL_law 719 = .ok (.iload_n 3, 1) := by decide +kernel
theorem d_0_720 : decode cL_law 720 = .ok (.iconst 1, 1) := by decide +kernel
theorem d_0_721 : decode cL_law 721 = .ok (.iadd, 1) := by decide +kernel
theorem d_0_722 : decode cL_law 722 = .ok (.iaload, 1) := by decide +kernel
theorem d_0_723 : decode cL_law 723 = .ok (.aload_n 0, 1) := by decide +kernel
theorem d_0_724 : decode cL_law 724 = .ok (.iload_n 3, 1) := by decide +kernel
theorem d_0_725 : decode cL_law 725 = .ok (.iconst 2, 1) := by decide +kernel
theorem d_0_726 : decode cL_law 726 = .ok (.iadd, 1) := by decide +kernel
theorem d_0_727 : decode cL_law 727 = .ok (.iaload, 1) := by decide +kernel
theorem d_0_728 : decode cL_law 728 = .ok (.aload_n 0, 1) := by decide +kernel
theorem d_0_729 : decode cL_law 729 = .ok (.iload_n 3, 1) := by decide +kernel
theorem d_0_730 : decode cL_law 730 = .ok (.iconst 3, 1) := by decide +kernel
theorem d_0_731 : decode cL_law 731 = .ok (.iadd, 1) := by decide +kernel
theorem d_0_732 : decode cL_law 732 = .ok (.iaload, 1) := by decide +kernel
theorem d_0_733 : decode cL_law 733 = .ok (.invokevirtual 96, 3) := by decide +kernel
theorem d_0_736 : decode cL_law 736 = .ok (.aload_n 2, 1) := by decide +kernel
theorem d_0_737 : decode cL_law 737 = .ok (.aload_n 0, 1) := by decide +kernel
theorem d_0_738 : decode cL_law 738 = .ok (.iload_n 3, 1) := by decide +kernel
theorem d_0_739 : decode cL_law 739 = .ok (.iconst 1, 1) := by decide +kernel
theorem d_0_740 : decode cL_law 740 = .ok (.iadd, 1) := by decide +kernel
theorem d_0_741 : decode cL_law 741 = .ok (.iaload, 1) := by decide +kernel
theorem d_0_742 : decode cL_law 742 = .ok (.aload_n 0, 1) := by decide +kernel
theorem d_0_743 : decode cL_law 743 = .ok (.iload_n 3, 1) := by decide +kernel
theorem d_0_744 : decode cL_law 744 = .ok (.iconst 2, 1) := by decide +kernel
theorem d_0_745 : decode cL_law 745 = .ok (.iadd, 1) := by decide +kernel
theorem d_0_746 : decode cL_law 746 = .ok (.iaload, 1) := by decide +kernel
theorem d_0_747 : decode cL_law 747 = .ok (.aload_n 0, 1) := by decide +kernel
theorem d_0_748 : decode cL_law 748 = .ok (.iload_n 3, 1) := by decide +kernel
theorem d_0_749 : decode cL_law 749 = .ok (.iconst 3, 1) := by decide +kernel
theorem d_0_750 : decode cL_law 750 = .ok (.iadd, 1) := by decide +kernel
theorem d_0_751 : decode cL_law 751 = .ok (.iaload, 1) := by decide +kernel
theorem d_0_752 : decode cL_law 752 = .ok (.invokevirtual 99, 3) := by decide +kernel
theorem d_0_755 : decode cL_law 755 = .ok (.lcmp, 1) := by decide +kernel
theorem d_0_756 : decode cL_law 756 = .ok (.ifCond .eq 117, 3) := by decide +kernel
theorem d_0_759 : decode cL_law 759 = .ok (.iconst 0, 1) := by decide +kernel
theorem d_0_760 : decode cL_law 760 = .ok (.ireturn, 1) := by decide +kernel
theorem d_0_761 : decode cL_law 761 = .ok (.aload_n 1, 1) := by decide +kernel
theorem d_0_762 : decode cL_law 762 = .ok (.aload_n 0, 1) := by decide +kernel
theorem d_0_763 : decode cL_law 763 = .ok (.iload_n 3, 1) := by decide +kernel
theorem d_0_764 : decode cL_law 764 = .ok (.iconst 1, 1) := by decide +kernel
theorem d_0_765 : decode cL_law 765 = .ok (.iadd, 1) := by decide +kernel
theorem d_0_766 : decode cL_law 766 = .ok (.iaload, 1) := by decide +kernel
theorem d_0_767 : decode cL_law 767 = .ok (.aload_n 0, 1) := by decide +kernel
theorem d_0_768 : decode cL_law 768 = .ok (.iload_n 3, 1) := by decide +kernel
theorem d_0_769 : decode cL_law 769 = .ok (.iconst 2, 1) := by decide +kernel
theorem d_0_770 : decode cL_law 770 = .ok (.iadd, 1) := by decide +kernel
theorem d_0_771 : decode cL_law 771 = .ok (.iaload, 1) := by decide +kernel
theorem d_0_772 : decode cL_law 772 = .ok (.aload_n 0, 1) := by decide +kernel
theorem d_0_773 : decode cL_law 773 = .ok (.iload_n 3, 1) := by decide +kernel
theorem d_0_774 : decode cL_law 774 = .ok (.iconst 3, 1) := by decide +kernel
theorem d_0_775 : decode cL_law 775 = .ok (.iadd, 1) := by decide +kernel
theorem d_0_776 : decode cL_law 776 = .ok (.iaload, 1) := by decide +kernel
theorem d_0_777 : decode cL_law 777 = .ok (.invokevirtual 100, 3) := by decide +kernel
theorem d_0_780 : decode cL_law 780 = .ok (.aload_n 2, 1) := by decide +kernel
theorem d_0_781 : decode cL_law 781 = .ok (.aload_n 0, 1) := by decide +kernel
theorem d_0_782 : decode cL_law 782 = .ok (.iload_n 3, 1) := by decide +kernel
theorem d_0_783 : decode cL_law 783 = .ok (.iconst 1, 1) := by decide +kernel
theorem d_0_784 : decode cL_law 784 = .ok (.iadd, 1) := by decide +kernel
theorem d_0_785 : decode cL_law 785 = .ok (.iaload, 1) := by decide +kernel
theorem d_0_786 : decode cL_law 786 = .ok (.aload_n 0, 1) := by decide +kernel
theorem d_0_787 : decode cL_law 787 = .ok (.iload_n 3, 1) := by decide +kernel
theorem d_0_788 : decode cL_law 788 = .ok (.iconst 2, 1) := by decide +kernel
theorem d_0_789 : decode cL_law 789 = .ok (.iadd, 1) := by decide +kernel
theorem d_0_790 : decode cL_law 790 = .ok (.iaload, 1) := by decide +kernel
theorem d_0_791 : decode cL_law 791 = .ok (.aload_n 0, 1) := by decide +kernel
theorem d_0_792 : decode cL_law 792 = .ok (.iload_n 3, 1) := by decide +kernel
theorem d_0_793 : decode cL_law 793 = .ok (.iconst 3, 1) := by decide +kernel
theorem d_0_794 : decode cL_law 794 = .ok (.iadd, 1) := by decide +kernel
theorem d_0_795 : decode cL_law 795 = .ok (.iaload, 1) := by decide +kernel
theorem d_0_796 : decode cL_law 796 = .ok (.invokevirtual 103, 3) := by decide +kernel
theorem d_0_799 : decode cL_law 799 = .ok (.if_icmp .eq 74, 3) := by decide +kernel
theorem d_0_802 : decode cL_law 802 = .ok (.iconst 0, 1) := by decide +kernel
theorem d_0_803 : decode cL_law 803 = .ok (.ireturn, 1) := by decide +kernel
theorem d_0_804 : decode cL_law 804 = .ok (.aload_n 1, 1) := by decide +kernel
theorem d_0_805 : decode cL_law 805 = .ok (.aload_n 0, 1) := by decide +kernel
theorem d_0_806 : decode cL_law 806 = .ok (.iload_n 3, 1) := by decide +kernel
theorem d_0_807 : decode cL_law 807 = .ok (.iconst 1, 1) := by decide +kernel
theorem d_0_808 : decode cL_law 808 = .ok (.iadd, 1) := by decide +kernel
theorem d_0_809 : decode cL_law 809 = .ok (.iaload, 1) := by decide +kernel
theorem d_0_810 : decode cL_law 810 = .ok (.invokevirtual 104, 3) := by decide +kernel
theorem d_0_813 : decode cL_law 813 = .ok (.aload_n 2, 1) := by decide +kernel
theorem d_0_814 : decode cL_law 814 = .ok (.aload_n 0, 1) := by decide +kernel
theorem d_0_815 : decode cL_law 815 = .ok (.iload_n 3, 1) := by decide +kernel
theorem d_0_816 : decode cL_law 816 = .ok (.iconst 1, 1) := by decide +kernel
theorem d_0_817 : decode cL_law 817 = .ok (.iadd, 1) := by decide +kernel
theorem d_0_818 : decode cL_law 818 = .ok (.iaload, 1) := by decide +kernel
theorem d_0_819 : decode cL_law 819 = .ok (.invokevirtual 107, 3) := by decide +kernel
theorem d_0_822 : decode cL_law 822 = .ok (.if_icmp .eq 51, 3) := by decide +kernel
theorem d_0_825 : decode cL_law 825 = .ok (.iconst 0, 1) := by decide +kernel
theorem d_0_826 : decode cL_law 826 = .ok (.ireturn, 1) := by decide +kernel
theorem d_0_827 : decode cL_law 827 = .ok (.aload_n 1, 1) := by decide +kernel
theorem d_0_828 : decode cL_law 828 = .ok (.aload_n 0, 1) := by decide +kernel
theorem d_0_829 : decode cL_law 829 = .ok (.iload_n 3, 1) := by decide +kernel
theorem d_0_830 : decode cL_law 830 = .ok (.iconst 1, 1) := by decide +kernel
theorem d_0_831 : decode cL_law 831 = .ok (.iadd, 1) := by decide +kernel
theorem d_0_832 : decode cL_law 832 = .ok (.iaload, 1) := by decide +kernel
theorem d_0_833 : decode cL_law 833 = .ok (.invokevirtual 108, 3) := by decide +kernel
theorem d_0_836 : decode cL_law 836 = .ok (.aload_n 2, 1) := by decide +kernel
theorem d_0_837 : decode cL_law 837 = .ok (.aload_n 0, 1) := by decide +kernel
theorem d_0_838 : decode cL_law 838 = .ok (.iload_n 3, 1) := by decide +kernel
theorem d_0_839 : decode cL_law 839 = .ok (.iconst 1, 1) := by decide +kernel
theorem d_0_840 : decode cL_law 840 = .ok (.iadd, 1) := by decide +kernel
theorem d_0_841 : decode cL_law 841 = .ok (.iaload, 1) := by decide +kernel
theorem d_0_842 : decode cL_law 842 = .ok (.invokevirtual 111, 3) := by decide +kernel
theorem d_0_845 : decode cL_law 845 = .ok (.if_icmp .eq 28, 3) := by decide +kernel
theorem d_0_848 : decode cL_law 848 = .ok (.iconst 0, 1) := by decide +kernel
theorem d_0_849 : decode cL_law 849 = .ok (.ireturn, 1) := by decide +kernel
theorem d_0_850 : decode cL_law 850 = .ok (.aload_n 1, 1) := by decide +kernel
theorem d_0_851 : decode cL_law 851 = .ok (.aload_n 0, 1) := by decide +kernel
theorem d_0_852 : decode cL_law 852 = .ok (.iload_n 3, 1) := by decide +kernel
theorem d_0_853 : decode cL_law 853 = .ok (.iconst 1, 1) := by decide +kernel
theorem d_0_854 : decode cL_law 854 = .ok (.iadd, 1) := by decide +kernel
theorem d_0_855 : decode cL_law 855 = .ok (.iaload, 1) := by decide +kernel
theorem d_0_856 : decode cL_law 856 = .ok (.invokevirtual 112, 3) := by decide +kernel
theorem d_0_859 : decode cL_law 859 = .ok (.aload_n 2, 1) := by decide +kernel
theorem d_0_860 : decode cL_law 860 = .ok (.aload_n 0, 1) := by decide +kernel
theorem d_0_861 : decode cL_law 861 = .ok (.iload_n 3, 1) := by decide +kernel
theorem d_0_862 : decode cL_law 862 = .ok (.iconst 1, 1) := by decide +kernel
theorem d_0_863 : decode cL_law 863 = .ok (.iadd, 1) := by decide +kernel
theorem d_0_864 : decode cL_law 864 = .ok (.iaload, 1) := by decide +kernel
theorem d_0_865 : decode cL_law 865 = .ok (.invokevirtual 115, 3) := by decide +kernel
theorem d_0_868 : decode cL_law 868 = .ok (.if_icmp .eq 5, 3) := by decide +kernel
theorem d_0_871 : decode cL_law 871 = .ok (.iconst 0, 1) := by decide +kernel
theorem d_0_872 : decode cL_law 872 = .ok (.ireturn, 1) := by decide +kernel
theorem d_0_873 : decode cL_law 873 = .ok (.iinc 3 4, 3) := by decide +kernel
theorem d_0_876 : decode cL_law 876 = .ok (.goto (-858), 3) := by decide +kernel
theorem d_0_879 : decode cL_law 879 = .ok (.iconst 1, 1) := by decide +kernel
theorem d_0_880 : decode cL_law 880 = .ok (.ireturn, 1) := by decide +kernel
theorem q_0_0  : zRun 0 0 L S sh mi mj mr = zRun 0 3 L (.ref sh.length :: S) (sh ++ [(0, 7)]) mi mj mr := zr_new (zD_of zk_0 d_0_0 rfl rfl) rfl (by decide)
theorem q_0_3r : zRun 0 3 L (.ref o :: S) sh mi mj mr = zRun 0 4 L (.ref o :: .ref o :: S) sh mi mj mr := zr_p (zD_of zk_0 d_0_3 rfl rfl) rfl
theorem q_0_3i : zRun 0 3 L (.int x :: S) sh mi mj mr = zRun 0 4 L (.int x :: .int x :: S) sh mi mj mr := zr_p (zD_of zk_0 d_0_3 rfl rfl) rfl
theorem q_0_4  (hS : zcat S ≤ 8) (h : 1 ≤ o) : zRun 0 4 L (.ref o :: S) sh mi mj mr = (zCall 78 [.ref o] sh mi mj mr).bind fun r => zRun 0 7 L (r.1.toList ++ S) r.2.1 r.2.2.1 r.2.2.2.1 r.2.2.2.2 := zr_I (zD_of zk_0 d_0_4 rfl rfl) (Or.inl rfl) rfl zk_78 rfl rfl rfl hS h
theorem q_0_7r : zRun 0 7 [l0, l1, l2, l3] (.ref o :: S) sh mi mj mr = zRun 0 8 [zk2 l0, some (.ref o), l2, l3] S sh mi mj mr := zr_s1 (i := 1) (v := .ref o) (L := [l0, l1, l2, l3]) (zD_of zk_0 d_0_7 rfl rfl) rfl rfl rfl rfl
theorem q_0_7n : zRun 0 7 [l0, l1, l2, l3] (.null :: S) sh mi mj mr = zRun 0 8 [zk2 l0, some (.null), l2, l3] S sh mi mj mr := zr_s1 (i := 1) (v := .null) (L := [l0, l1, l2, l3]) (zD_of zk_0 d_0_7 rfl rfl) rfl rfl rfl rfl
theorem q_0_8  : zRun 0 8 L S sh mi mj mr = zRun 0 11 L (.ref sh.length :: S) (sh ++ [(0, 8)]) mi mj mr := zr_new (zD_of zk_0 d_0_8 rfl rfl) rfl (by decide)
theorem q_0_11r : zRun 0 11 L (.ref o :: S) sh mi mj mr = zRun 0 12 L (.ref o :: .ref o :: S) sh mi mj mr := zr_p (zD_of zk_0 d_0_11 rfl rfl) rfl
theorem q_0_11i : zRun 0 11 L (.int x :: S) sh mi mj mr = zRun 0 12 L (.int x :: .int x :: S) sh mi mj mr := zr_p (zD_of zk_0 d_0_11 rfl rfl) rfl
theorem q_0_12  (hS : zcat S ≤ 8) (h : 1 ≤ o) : zRun 0 12 L (.ref o :: S) sh mi mj mr = (zCall 110 [.ref o] sh mi mj mr).bind fun r => zRun 0 15 L (r.1.toList ++ S) r.2.1 r.2.2.1 r.2.2.2.1 r.2.2.2.2 := zr_I (zD_of zk_0 d_0_12 rfl rfl) (Or.inl rfl) rfl zk_110 rfl rfl rfl hS h
theorem q_0_15r : zRun 0 15 [l0, l1, l2, l3] (.ref o :: S) sh mi mj mr = zRun 0 16 [l0, zk2 l1, some (.ref o), l3] S sh mi mj mr := zr_s1 (i := 2) (v := .ref o) (L := [l0, l1, l2, l3]) (zD_of zk_0 d_0_15 rfl rfl) rfl rfl rfl rfl
theorem q_0_15n : zRun 0 15 [l0, l1, l2, l3] (.null :: S) sh mi mj mr = zRun 0 16 [l0, zk2 l1, some (.null), l3] S sh mi mj mr := zr_s1 (i := 2) (v := .null) (L := [l0, l1, l2, l3]) (zD_of zk_0 d_0_15 rfl rfl) rfl rfl rfl rfl
theorem q_0_16  : zRun 0 16 L S sh mi mj mr = zRun 0 17 L (.int 0 :: S) sh mi mj mr := zr_p (zD_of zk_0 d_0_16 rfl rfl) rfl
theorem q_0_17 : zRun 0 17 [l0, l1, l2, l3] (.int x :: S) sh mi mj mr = zRun 0 18 [l0, l1, zk2 l2, some (.int x)] S sh mi mj mr := zr_s1 (i := 3) (v := .int x) (L := [l0, l1, l2, l3]) (zD_of zk_0 d_0_17 rfl rfl) rfl rfl rfl rfl
theorem q_0_18 : zRun 0 18 [l0, l1, l2, some (.int x)] S sh mi mj mr = zRun 0 19 [l0, l1, l2, some (.int x)] (.int x :: S) sh mi mj mr := zr_l (zD_of zk_0 d_0_18 rfl rfl) rfl rfl rfl
theorem q_0_19r : zRun 0 19 [some (.ref o), l1, l2, l3] S sh mi mj mr = zRun 0 20 [some (.ref o), l1, l2, l3] (.ref o :: S) sh mi mj mr := zr_l (zD_of zk_0 d_0_19 rfl rfl) rfl rfl rfl
theorem q_0_19n : zRun 0 19 [some (.null), l1, l2, l3] S sh mi mj mr = zRun 0 20 [some (.null), l1, l2, l3] (.null :: S) sh mi mj mr := zr_l (zD_of zk_0 d_0_19 rfl rfl) rfl rfl rfl
theorem q_0_20 {n : Nat} (h : sh[0]? = some (99, n)) : zRun 0 20 L (.ref 0 :: S) sh mi mj mr = zRun 0 21 L (.int (Int32.ofNat n) :: S) sh mi mj mr := zr_slen (zD_of zk_0 d_0_20 rfl rfl) h
theorem q_0_21  : zRun 0 21 L S sh mi mj mr = zRun 0 22 L (.int 4 :: S) sh mi mj mr := zr_p (zD_of zk_0 d_0_21 rfl rfl) rfl
theorem q_0_22  : zRun 0 22 L (.int y :: .int x :: S) sh mi mj mr = zRun 0 23 L (.int (x - y) :: S) sh mi mj mr := zr_p (zD_of zk_0 d_0_22 rfl rfl) rfl
theorem q_0_23  : zRun 0 23 L (.int y :: .int x :: S) sh mi mj mr = if y < x then zRun 0 879 L S sh mi mj mr else zRun 0 26 L S sh mi mj mr := zr_if (off := 856) (P := y < x) (zD_of zk_0 d_0_23 rfl rfl) rfl rfl (by decide)
theorem q_0_26r : zRun 0 26 [some (.ref o), l1, l2, l3] S sh mi mj mr = zRun 0 27 [some (.ref o), l1, l2, l3] (.ref o :: S) sh mi mj mr := zr_l (zD_of zk_0 d_0_26 rfl rfl) rfl rfl rfl
theorem q_0_26n : zRun 0 26 [some (.null), l1, l2, l3] S sh mi mj mr = zRun 0 27 [some (.null), l1, l2, l3] (.null :: S) sh mi mj mr := zr_l (zD_of zk_0 d_0_26 rfl rfl) rfl rfl rfl
theorem q_0_27 : zRun 0 27 [l0, l1, l2, some (.int x)] S sh mi mj mr = zRun 0 28 [l0, l1, l2, some (.int x)] (.int x :: S) sh mi mj mr := zr_l (zD_of zk_0 d_0_27 rfl rfl) rfl rfl rfl
theorem q_0_28 {n : Nat} (h : sh[0]? = some (99, n)) (hi : zin x n = true) : zRun 0 28 L (.int x :: .ref 0 :: S) sh mi mj mr = zRun 0 29 L (.int (mi 0 x.toNatClampNeg) :: S) sh mi mj mr := zr_sald (zD_of zk_0 d_0_28 rfl rfl) h hi
theorem q_0_29  : zRun 0 29 L S sh mi mj mr = zRun 0 31 L (.int 31 :: S) sh mi mj mr := zr_p (zD_of zk_0 d_0_29 rfl rfl) rfl
theorem q_0_31  : zRun 0 31 L (.int y :: .int x :: S) sh mi mj mr = zRun 0 32 L (.int (x &&& y) :: S) sh mi mj mr := zr_p (zD_of zk_0 d_0_31 rfl rfl) rfl
theorem q_0_32 : zRun 0 32 L (.int x :: S) sh mi mj mr = if x = 0 then zRun 0 144 L S sh mi mj mr else if x = 1 then zRun 0 187 L S sh mi mj mr else if x = 2 then zRun 0 220 L S sh mi mj mr else if x = 3 then zRun 0 243 L S sh mi mj mr else if x = 4 then zRun 0 266 L S sh mi mj mr else if x = 5 then zRun 0 279 L S sh mi mj mr else if x = 6 then zRun 0 292 L S sh mi mj mr else if x = 7 then zRun 0 315 L S sh mi mj mr else if x = 8 then zRun 0 358 L S sh mi mj mr else if x = 9 then zRun 0 381 L S sh mi mj mr else if x = 10 then zRun 0 404 L S sh mi mj mr else if x = 11 then zRun 0 448 L S sh mi mj mr else if x = 12 then zRun 0 482 L S sh mi mj mr else if x = 13 then zRun 0 526 L S sh mi mj mr else if x = 14 then zRun 0 549 L S sh mi mj mr else if x = 15 then zRun 0 573 L S sh mi mj mr else if x = 16 then zRun 0 617 L S sh mi mj mr else if x = 17 then zRun 0 650 L S sh mi mj mr else if x = 18 then zRun 0 693 L S sh mi mj mr else if x = 19 then zRun 0 717 L S sh mi mj mr else if x = 20 then zRun 0 761 L S sh mi mj mr else if x = 21 then zRun 0 804 L S sh mi mj mr else if x = 22 then zRun 0 827 L S sh mi mj mr else if x = 23 then zRun 0 850 L S sh mi mj mr else zRun 0 873 L S sh mi mj mr := by
  by_cases h : x = 0
  · subst h; exact zr_go (off := 112) (zD_of zk_0 d_0_32 rfl rfl) rfl rfl (by decide)
  rw [if_neg h]
  have a0 := zsw_ne (v := 0) h (by decide) (by decide)
  by_cases h : x = 1
  · subst h; exact zr_go (off := 155) (zD_of zk_0 d_0_32 rfl rfl) rfl rfl (by decide)
  rw [if_neg h]
  have a1 := zsw_ne (v := 1) h (by decide) (by decide)
  by_cases h : x = 2
  · subst h; exact zr_go (off := 188) (zD_of zk_0 d_0_32 rfl rfl) rfl rfl (by decide)
  rw [if_neg h]
  have a2 := zsw_ne (v := 2) h (by decide) (by decide)
  by_cases h : x = 3
  · subst h; exact zr_go (off := 211) (zD_of zk_0 d_0_32 rfl rfl) rfl rfl (by decide)
  rw [if_neg h]
  have a3 := zsw_ne (v := 3) h (by decide) (by decide)
  by_cases h : x = 4
  · subst h; exact zr_go (off := 234) (zD_of zk_0 d_0_32 rfl rfl) rfl rfl (by decide)
  rw [if_neg h]
  have a4 := zsw_ne (v := 4) h (by decide) (by decide)
  by_cases h : x = 5
  · subst h; exact zr_go (off := 247) (zD_of zk_0 d_0_32 rfl rfl) rfl rfl (by decide)
  rw [if_neg h]
  have a5 := zsw_ne (v := 5) h (by decide) (by decide)
  by_cases h : x = 6
  · subst h; exact zr_go (off := 260) (zD_of zk_0 d_0_32 rfl rfl) rfl rfl (by decide)
  rw [if_neg h]
  have a6 := zsw_ne (v := 6) h (by decide) (by decide)
  by_cases h : x = 7
  · subst h; exact zr_go (off := 283) (zD_of zk_0 d_0_32 rfl rfl) rfl rfl (by decide)
  rw [if_neg h]
  have a7 := zsw_ne (v := 7) h (by decide) (by decide)
  by_cases h : x = 8
  · subst h; exact zr_go (off := 326) (zD_of zk_0 d_0_32 rfl rfl) rfl rfl (by decide)
  rw [if_neg h]
  have a8 := zsw_ne (v := 8) h (by decide) (by decide)
  by_cases h : x = 9
  · subst h; exact zr_go (off := 349) (zD_of zk_0 d_0_32 rfl rfl) rfl rfl (by decide)
  rw [if_neg h]
  have a9 := zsw_ne (v := 9) h (by decide) (by decide)
  by_cases h : x = 10
  · subst h; exact zr_go (off := 372) (zD_of zk_0 d_0_32 rfl rfl) rfl rfl (by decide)
  rw [if_neg h]
  have a10 := zsw_ne (v := 10) h (by decide) (by decide)
  by_cases h : x = 11
  · subst h; exact zr_go (off := 416) (zD_of zk_0 d_0_32 rfl rfl) rfl rfl (by decide)
  rw [if_neg h]
  have a11 := zsw_ne (v := 11) h (by decide) (by decide)
  by_cases h : x = 12
  · subst h; exact zr_go (off := 450) (zD_of zk_0 d_0_32 rfl rfl) rfl rfl (by decide)
  rw [if_neg h]
  have a12 := zsw_ne (v := 12) h (by decide) (by decide)
  by_cases h : x = 13
  · subst h; exact zr_go (off := 494) (zD_of zk_0 d_0_32 rfl rfl) rfl rfl (by decide)
  rw [if_neg h]
  have a13 := zsw_ne (v := 13) h (by decide) (by decide)
  by_cases h : x = 14
  · subst h; exact zr_go (off := 517) (zD_of zk_0 d_0_32 rfl rfl) rfl rfl (by decide)
  rw [if_neg h]
  have a14 := zsw_ne (v := 14) h (by decide) (by decide)
  by_cases h : x = 15
  · subst h; exact zr_go (off := 541) (zD_of zk_0 d_0_32 rfl rfl) rfl rfl (by decide)
  rw [if_neg h]
  have a15 := zsw_ne (v := 15) h (by decide) (by decide)
  by_cases h : x = 16
  · subst h; exact zr_go (off := 585) (zD_of zk_0 d_0_32 rfl rfl) rfl rfl (by decide)
  rw [if_neg h]
  have a16 := zsw_ne (v := 16) h (by decide) (by decide)
  by_cases h : x = 17
  · subst h; exact zr_go (off := 618) (zD_of zk_0 d_0_32 rfl rfl) rfl rfl (by decide)
  rw [if_neg h]
  have a17 := zsw_ne (v := 17) h (by decide) (by decide)
  by_cases h : x = 18
  · subst h; exact zr_go (off := 661) (zD_of zk_0 d_0_32 rfl rfl) rfl rfl (by decide)
  rw [if_neg h]
  have a18 := zsw_ne (v := 18) h (by decide) (by decide)
  by_cases h : x = 19
  · subst h; exact zr_go (off := 685) (zD_of zk_0 d_0_32 rfl rfl) rfl rfl (by decide)
  rw [if_neg h]
  have a19 := zsw_ne (v := 19) h (by decide) (by decide)
  by_cases h : x = 20
  · subst h; exact zr_go (off := 729) (zD_of zk_0 d_0_32 rfl rfl) rfl rfl (by decide)
  rw [if_neg h]
  have a20 := zsw_ne (v := 20) h (by decide) (by decide)
  by_cases h : x = 21
  · subst h; exact zr_go (off := 772) (zD_of zk_0 d_0_32 rfl rfl) rfl rfl (by decide)
  rw [if_neg h]
  have a21 := zsw_ne (v := 21) h (by decide) (by decide)
  by_cases h : x = 22
  · subst h; exact zr_go (off := 795) (zD_of zk_0 d_0_32 rfl rfl) rfl rfl (by decide)
  rw [if_neg h]
  have a22 := zsw_ne (v := 22) h (by decide) (by decide)
  by_cases h : x = 23
  · subst h; exact zr_go (off := 818) (zD_of zk_0 d_0_32 rfl rfl) rfl rfl (by decide)
  rw [if_neg h]
  have a23 := zsw_ne (v := 23) h (by decide) (by decide)
  exact zr_go (S' := S) (off := 841) (zD_of zk_0 d_0_32 rfl rfl) rfl (by simp only [zjump, zsw_out (x := x) 841 0 23 (by omega)]) (by decide)
theorem q_0_144r : zRun 0 144 [l0, some (.ref o), l2, l3] S sh mi mj mr = zRun 0 145 [l0, some (.ref o), l2, l3] (.ref o :: S) sh mi mj mr := zr_l (zD_of zk_0 d_0_144 rfl rfl) rfl rfl rfl
theorem q_0_144n : zRun 0 144 [l0, some (.null), l2, l3] S sh mi mj mr = zRun 0 145 [l0, some (.null), l2, l3] (.null :: S) sh mi mj mr := zr_l (zD_of zk_0 d_0_144 rfl rfl) rfl rfl rfl
theorem q_0_145r : zRun 0 145 [some (.ref o), l1, l2, l3] S sh mi mj mr = zRun 0 146 [some (.ref o), l1, l2, l3] (.ref o :: S) sh mi mj mr := zr_l (zD_of zk_0 d_0_145 rfl rfl) rfl rfl rfl
theorem q_0_145n : zRun 0 145 [some (.null), l1, l2, l3] S sh mi mj mr = zRun 0 146 [some (.null), l1, l2, l3] (.null :: S) sh mi mj mr := zr_l (zD_of zk_0 d_0_145 rfl rfl) rfl rfl rfl
theorem q_0_146 : zRun 0 146 [l0, l1, l2, some (.int x)] S sh mi mj mr = zRun 0 147 [l0, l1, l2, some (.int x)] (.int x :: S) sh mi mj mr := zr_l (zD_of zk_0 d_0_146 rfl rfl) rfl rfl rfl
theorem q_0_147  : zRun 0 147 L S sh mi mj mr = zRun 0 148 L (.int 1 :: S) sh mi mj mr := zr_p (zD_of zk_0 d_0_147 rfl rfl) rfl
theorem q_0_148  : zRun 0 148 L (.int y :: .int x :: S) sh mi mj mr = zRun 0 149 L (.int (x + y) :: S) sh mi mj mr := zr_p (zD_of zk_0 d_0_148 rfl rfl) rfl
theorem q_0_149 {n : Nat} (h : sh[0]? = some (99, n)) (hi : zin x n = true) : zRun 0 149 L (.int x :: .ref 0 :: S) sh mi mj mr = zRun 0 150 L (.int (mi 0 x.toNatClampNeg) :: S) sh mi mj mr := zr_sald (zD_of zk_0 d_0_149 rfl rfl) h hi
theorem q_0_150r : zRun 0 150 [some (.ref o), l1, l2, l3] S sh mi mj mr = zRun 0 151 [some (.ref o), l1, l2, l3] (.ref o :: S) sh mi mj mr := zr_l (zD_of zk_0 d_0_150 rfl rfl) rfl rfl rfl
theorem q_0_150n : zRun 0 150 [some (.null), l1, l2, l3] S sh mi mj mr = zRun 0 151 [some (.null), l1, l2, l3] (.null :: S) sh mi mj mr := zr_l (zD_of zk_0 d_0_150 rfl rfl) rfl rfl rfl
theorem q_0_151 : zRun 0 151 [l0, l1, l2, some (.int x)] S sh mi mj mr = zRun 0 152 [l0, l1, l2, some (.int x)] (.int x :: S) sh mi mj mr := zr_l (zD_of zk_0 d_0_151 rfl rfl) rfl rfl rfl
theorem q_0_152  : zRun 0 152 L S sh mi mj mr = zRun 0 153 L (.int 2 :: S) sh mi mj mr := zr_p (zD_of zk_0 d_0_152 rfl rfl) rfl
theorem q_0_153  : zRun 0 153 L (.int y :: .int x :: S) sh mi mj mr = zRun 0 154 L (.int (x + y) :: S) sh mi mj mr := zr_p (zD_of zk_0 d_0_153 rfl rfl) rfl
theorem q_0_154 {n : Nat} (h : sh[0]? = some (99, n)) (hi : zin x n = true) : zRun 0 154 L (.int x :: .ref 0 :: S) sh mi mj mr = zRun 0 155 L (.int (mi 0 x.toNatClampNeg) :: S) sh mi mj mr := zr_sald (zD_of zk_0 d_0_154 rfl rfl) h hi
theorem q_0_155r : zRun 0 155 [some (.ref o), l1, l2, l3] S sh mi mj mr = zRun 0 156 [some (.ref o), l1, l2, l3] (.ref o :: S) sh mi mj mr := zr_l (zD_of zk_0 d_0_155 rfl rfl) rfl rfl rfl
theorem q_0_155n : zRun 0 155 [some (.null), l1, l2, l3] S sh mi mj mr = zRun 0 156 [some (.null), l1, l2, l3] (.null :: S) sh mi mj mr := zr_l (zD_of zk_0 d_0_155 rfl rfl) rfl rfl rfl
theorem q_0_156 : zRun 0 156 [l0, l1, l2, some (.int x)] S sh mi mj mr = zRun 0 157 [l0, l1, l2, some (.int x)] (.int x :: S) sh mi mj mr := zr_l (zD_of zk_0 d_0_156 rfl rfl) rfl rfl rfl
theorem q_0_157  : zRun 0 157 L S sh mi mj mr = zRun 0 158 L (.int 3 :: S) sh mi mj mr := zr_p (zD_of zk_0 d_0_157 rfl rfl) rfl
theorem q_0_158  : zRun 0 158 L (.int y :: .int x :: S) sh mi mj mr = zRun 0 159 L (.int (x + y) :: S) sh mi mj mr := zr_p (zD_of zk_0 d_0_158 rfl rfl) rfl
theorem q_0_159 {n : Nat} (h : sh[0]? = some (99, n)) (hi : zin x n = true) : zRun 0 159 L (.int x :: .ref 0 :: S) sh mi mj mr = zRun 0 160 L (.int (mi 0 x.toNatClampNeg) :: S) sh mi mj mr := zr_sald (zD_of zk_0 d_0_159 rfl rfl) h hi
theorem q_0_160  {x0 x1 x2 : Int32} (hS : zcat S ≤ 8) (h : zIs sh o 0 7) : zRun 0 160 L (.int x2 :: .int x1 :: .int x0 :: .ref o :: S) sh mi mj mr = (zCall 79 [.ref o, .int x0, .int x1, .int x2] sh mi mj mr).bind fun r => zRun 0 163 L (r.1.toList ++ S) r.2.1 r.2.2.1 r.2.2.2.1 r.2.2.2.2 := zr_V (zD_of zk_0 d_0_160 rfl rfl) rfl zk_79 rfl rfl rfl hS h
theorem q_0_163r : zRun 0 163 [l0, l1, some (.ref o), l3] S sh mi mj mr = zRun 0 164 [l0, l1, some (.ref o), l3] (.ref o :: S) sh mi mj mr := zr_l (zD_of zk_0 d_0_163 rfl rfl) rfl rfl rfl
theorem q_0_163n : zRun 0 163 [l0, l1, some (.null), l3] S sh mi mj mr = zRun 0 164 [l0, l1, some (.null), l3] (.null :: S) sh mi mj mr := zr_l (zD_of zk_0 d_0_163 rfl rfl) rfl rfl rfl
theorem q_0_164r : zRun 0 164 [some (.ref o), l1, l2, l3] S sh mi mj mr = zRun 0 165 [some (.ref o), l1, l2, l3] (.ref o :: S) sh mi mj mr := zr_l (zD_of zk_0 d_0_164 rfl rfl) rfl rfl rfl
theorem q_0_164n : zRun 0 164 [some (.null), l1, l2, l3] S sh mi mj mr = zRun 0 165 [some (.null), l1, l2, l3] (.null :: S) sh mi mj mr := zr_l (zD_of zk_0 d_0_164 rfl rfl) rfl rfl rfl
theorem q_0_165 : zRun 0 165 [l0, l1, l2, some (.int x)] S sh mi mj mr = zRun 0 166 [l0, l1, l2, some (.int x)] (.int x :: S) sh mi mj mr := zr_l (zD_of zk_0 d_0_165 rfl rfl) rfl rfl rfl
theorem q_0_166  : zRun 0 166 L S sh mi mj mr = zRun 0 167 L (.int 1 :: S) sh mi mj mr := zr_p (zD_of zk_0 d_0_166 rfl rfl) rfl
theorem q_0_167  : zRun 0 167 L (.int y :: .int x :: S) sh mi mj mr = zRun 0 168 L (.int (x + y) :: S) sh mi mj mr := zr_p (zD_of zk_0 d_0_167 rfl rfl) rfl
theorem q_0_168 {n : Nat} (h : sh[0]? = some (99, n)) (hi : zin x n = true) : zRun 0 168 L (.int x :: .ref 0 :: S) sh mi mj mr = zRun 0 169 L (.int (mi 0 x.toNatClampNeg) :: S) sh mi mj mr := zr_sald (zD_of zk_0 d_0_168 rfl rfl) h hi
theorem q_0_169r : zRun 0 169 [some (.ref o), l1, l2, l3] S sh mi mj mr = zRun 0 170 [some (.ref o), l1, l2, l3] (.ref o :: S) sh mi mj mr := zr_l (zD_of zk_0 d_0_169 rfl rfl) rfl rfl rfl
theorem q_0_169n : zRun 0 169 [some (.null), l1, l2, l3] S sh mi mj mr = zRun 0 170 [some (.null), l1, l2, l3] (.null :: S) sh mi mj mr := zr_l (zD_of zk_0 d_0_169 rfl rfl) rfl rfl rfl
theorem q_0_170 : zRun 0 170 [l0, l1, l2, some (.int x)] S sh mi mj mr = zRun 0 171 [l0, l1, l2, some (.int x)] (.int x :: S) sh mi mj mr := zr_l (zD_of zk_0 d_0_170 rfl rfl) rfl rfl rfl
theorem q_0_171  : zRun 0 171 L S sh mi mj mr = zRun 0 172 L (.int 2 :: S) sh mi mj mr := zr_p (zD_of zk_0 d_0_171 rfl rfl) rfl
theorem q_0_172  : zRun 0 172 L (.int y :: .int x :: S) sh mi mj mr = zRun 0 173 L (.int (x + y) :: S) sh mi mj mr := zr_p (zD_of zk_0 d_0_172 rfl rfl) rfl
theorem q_0_173 {n : Nat} (h : sh[0]? = some (99, n)) (hi : zin x n = true) : zRun 0 173 L (.int x :: .ref 0 :: S) sh mi mj mr = zRun 0 174 L (.int (mi 0 x.toNatClampNeg) :: S) sh mi mj mr := zr_sald (zD_of zk_0 d_0_173 rfl rfl) h hi
theorem q_0_174r : zRun 0 174 [some (.ref o), l1, l2, l3] S sh mi mj mr = zRun 0 175 [some (.ref o), l1, l2, l3] (.ref o :: S) sh mi mj mr := zr_l (zD_of zk_0 d_0_174 rfl rfl) rfl rfl rfl
theorem q_0_174n : zRun 0 174 [some (.null), l1, l2, l3] S sh mi mj mr = zRun 0 175 [some (.null), l1, l2, l3] (.null :: S) sh mi mj mr := zr_l (zD_of zk_0 d_0_174 rfl rfl) rfl rfl rfl
theorem q_0_175 : zRun 0 175 [l0, l1, l2, some (.int x)] S sh mi mj mr = zRun 0 176 [l0, l1, l2, some (.int x)] (.int x :: S) sh mi mj mr := zr_l (zD_of zk_0 d_0_175 rfl rfl) rfl rfl rfl
theorem q_0_176  : zRun 0 176 L S sh mi mj mr = zRun 0 177 L (.int 3 :: S) sh mi mj mr := zr_p (zD_of zk_0 d_0_176 rfl rfl) rfl
theorem q_0_177  : zRun 0 177 L (.int y :: .int x :: S) sh mi mj mr = zRun 0 178 L (.int (x + y) :: S) sh mi mj mr := zr_p (zD_of zk_0 d_0_177 rfl rfl) rfl
theorem q_0_178 {n : Nat} (h : sh[0]? = some (99, n)) (hi : zin x n = true) : zRun 0 178 L (.int x :: .ref 0 :: S) sh mi mj mr = zRun 0 179 L (.int (mi 0 x.toNatClampNeg) :: S) sh mi mj mr := zr_sald (zD_of zk_0 d_0_178 rfl rfl) h hi
theorem q_0_179  {x0 x1 x2 : Int32} (hS : zcat S ≤ 8) (h : zIs sh o 0 8) : zRun 0 179 L (.int x2 :: .int x1 :: .int x0 :: .ref o :: S) sh mi mj mr = (zCall 115 [.ref o, .int x0, .int x1, .int x2] sh mi mj mr).bind fun r => zRun 0 182 L (r.1.toList ++ S) r.2.1 r.2.2.1 r.2.2.2.1 r.2.2.2.2 := zr_V (zD_of zk_0 d_0_179 rfl rfl) rfl zk_115 rfl rfl rfl hS h
theorem q_0_182  : zRun 0 182 L (.int y :: .int x :: S) sh mi mj mr = if x = y then zRun 0 873 L S sh mi mj mr else zRun 0 185 L S sh mi mj mr := zr_if (off := 691) (P := x = y) (zD_of zk_0 d_0_182 rfl rfl) rfl rfl (by decide)
theorem q_0_185  : zRun 0 185 L S sh mi mj mr = zRun 0 186 L (.int 0 :: S) sh mi mj mr := zr_p (zD_of zk_0 d_0_185 rfl rfl) rfl
theorem q_0_186 (h : x = 0 ∨ x = 1) : zRun 0 186 L ([.int x]) sh mi mj mr = some (some (.int x), sh, mi, mj, mr) := zr_ret (zD_of zk_0 d_0_186 rfl rfl) rfl rfl rfl rfl rfl (if_pos (zna_b h))
theorem q_0_187r : zRun 0 187 [l0, some (.ref o), l2, l3] S sh mi mj mr = zRun 0 188 [l0, some (.ref o), l2, l3] (.ref o :: S) sh mi mj mr := zr_l (zD_of zk_0 d_0_187 rfl rfl) rfl rfl rfl
theorem q_0_187n : zRun 0 187 [l0, some (.null), l2, l3] S sh mi mj mr = zRun 0 188 [l0, some (.null), l2, l3] (.null :: S) sh mi mj mr := zr_l (zD_of zk_0 d_0_187 rfl rfl) rfl rfl rfl
theorem q_0_188r : zRun 0 188 [some (.ref o), l1, l2, l3] S sh mi mj mr = zRun 0 189 [some (.ref o), l1, l2, l3] (.ref o :: S) sh mi mj mr := zr_l (zD_of zk_0 d_0_188 rfl rfl) rfl rfl rfl
theorem q_0_188n : zRun 0 188 [some (.null), l1, l2, l3] S sh mi mj mr = zRun 0 189 [some (.null), l1, l2, l3] (.null :: S) sh mi mj mr := zr_l (zD_of zk_0 d_0_188 rfl rfl) rfl rfl rfl
theorem q_0_189 : zRun 0 189 [l0, l1, l2, some (.int x)] S sh mi mj mr = zRun 0 190 [l0, l1, l2, some (.int x)] (.int x :: S) sh mi mj mr := zr_l (zD_of zk_0 d_0_189 rfl rfl) rfl rfl rfl
theorem q_0_190  : zRun 0 190 L S sh mi mj mr = zRun 0 191 L (.int 1 :: S) sh mi mj mr := zr_p (zD_of zk_0 d_0_190 rfl rfl) rfl
theorem q_0_191  : zRun 0 191 L (.int y :: .int x :: S) sh mi mj mr = zRun 0 192 L (.int (x + y) :: S) sh mi mj mr := zr_p (zD_of zk_0 d_0_191 rfl rfl) rfl
theorem q_0_192 {n : Nat} (h : sh[0]? = some (99, n)) (hi : zin x n = true) : zRun 0 192 L (.int x :: .ref 0 :: S) sh mi mj mr = zRun 0 193 L (.int (mi 0 x.toNatClampNeg) :: S) sh mi mj mr := zr_sald (zD_of zk_0 d_0_192 rfl rfl) h hi
theorem q_0_193r : zRun 0 193 [some (.ref o), l1, l2, l3] S sh mi mj mr = zRun 0 194 [some (.ref o), l1, l2, l3] (.ref o :: S) sh mi mj mr := zr_l (zD_of zk_0 d_0_193 rfl rfl) rfl rfl rfl
theorem q_0_193n : zRun 0 193 [some (.null), l1, l2, l3] S sh mi mj mr = zRun 0 194 [some (.null), l1, l2, l3] (.null :: S) sh mi mj mr := zr_l (zD_of zk_0 d_0_193 rfl rfl) rfl rfl rfl
theorem q_0_194 : zRun 0 194 [l0, l1, l2, some (.int x)] S sh mi mj mr = zRun 0 195 [l0, l1, l2, some (.int x)] (.int x :: S) sh mi mj mr := zr_l (zD_of zk_0 d_0_194 rfl rfl) rfl rfl rfl
theorem q_0_195  : zRun 0 195 L S sh mi mj mr = zRun 0 196 L (.int 2 :: S) sh mi mj mr := zr_p (zD_of zk_0 d_0_195 rfl rfl) rfl
theorem q_0_196  : zRun 0 196 L (.int y :: .int x :: S) sh mi mj mr = zRun 0 197 L (.int (x + y) :: S) sh mi mj mr := zr_p (zD_of zk_0 d_0_196 rfl rfl) rfl
theorem q_0_197 {n : Nat} (h : sh[0]? = some (99, n)) (hi : zin x n = true) : zRun 0 197 L (.int x :: .ref 0 :: S) sh mi mj mr = zRun 0 198 L (.int (mi 0 x.toNatClampNeg) :: S) sh mi mj mr := zr_sald (zD_of zk_0 d_0_197 rfl rfl) h hi
theorem q_0_198  {x0 x1 : Int32} (hS : zcat S ≤ 8) (h : zIs sh o 0 7) : zRun 0 198 L (.int x1 :: .int x0 :: .ref o :: S) sh mi mj mr = (zCall 80 [.ref o, .int x0, .int x1] sh mi mj mr).bind fun r => zRun 0 201 L (r.1.toList ++ S) r.2.1 r.2.2.1 r.2.2.2.1 r.2.2.2.2 := zr_V (zD_of zk_0 d_0_198 rfl rfl) rfl zk_80 rfl rfl rfl hS h
theorem q_0_201r : zRun 0 201 [l0, l1, some (.ref o), l3] S sh mi mj mr = zRun 0 202 [l0, l1, some (.ref o), l3] (.ref o :: S) sh mi mj mr := zr_l (zD_of zk_0 d_0_201 rfl rfl) rfl rfl rfl
theorem q_0_201n : zRun 0 201 [l0, l1, some (.null), l3] S sh mi mj mr = zRun 0 202 [l0, l1, some (.null), l3] (.null :: S) sh mi mj mr := zr_l (zD_of zk_0 d_0_201 rfl rfl) rfl rfl rfl
theorem q_0_202r : zRun 0 202 [some (.ref o), l1, l2, l3] S sh mi mj mr = zRun 0 203 [some (.ref o), l1, l2, l3] (.ref o :: S) sh mi mj mr := zr_l (zD_of zk_0 d_0_202 rfl rfl) rfl rfl rfl
theorem q_0_202n : zRun 0 202 [some (.null), l1, l2, l3] S sh mi mj mr = zRun 0 203 [some (.null), l1, l2, l3] (.null :: S) sh mi mj mr := zr_l (zD_of zk_0 d_0_202 rfl rfl) rfl rfl rfl
theorem q_0_203 : zRun 0 203 [l0, l1, l2, some (.int x)] S sh mi mj mr = zRun 0 204 [l0, l1, l2, some (.int x)] (.int x :: S) sh mi mj mr := zr_l (zD_of zk_0 d_0_203 rfl rfl) rfl rfl rfl
theorem q_0_204  : zRun 0 204 L S sh mi mj mr = zRun 0 205 L (.int 1 :: S) sh mi mj mr := zr_p (zD_of zk_0 d_0_204 rfl rfl) rfl
theorem q_0_205  : zRun 0 205 L (.int y :: .int x :: S) sh mi mj mr = zRun 0 206 L (.int (x + y) :: S) sh mi mj mr := zr_p (zD_of zk_0 d_0_205 rfl rfl) rfl
theorem q_0_206 {n : Nat} (h : sh[0]? = some (99, n)) (hi : zin x n = true) : zRun 0 206 L (.int x :: .ref 0 :: S) sh mi mj mr = zRun 0 207 L (.int (mi 0 x.toNatClampNeg) :: S) sh mi mj mr := zr_sald (zD_of zk_0 d_0_206 rfl rfl) h hi
theorem q_0_207r : zRun 0 207 [some (.ref o), l1, l2, l3] S sh mi mj mr = zRun 0 208 [some (.ref o), l1, l2, l3] (.ref o :: S) sh mi mj mr := zr_l (zD_of zk_0 d_0_207 rfl rfl) rfl rfl rfl
theorem q_0_207n : zRun 0 207 [some (.null), l1, l2, l3] S sh mi mj mr = zRun 0 208 [some (.null), l1, l2, l3] (.null :: S) sh mi mj mr := zr_l (zD_of zk_0 d_0_207 rfl rfl) rfl rfl rfl
theorem q_0_208 : zRun 0 208 [l0, l1, l2, some (.int x)] S sh mi mj mr = zRun 0 209 [l0, l1, l2, some (.int x)] (.int x :: S) sh mi mj mr := zr_l (zD_of zk_0 d_0_208 rfl rfl) rfl rfl rfl
theorem q_0_209  : zRun 0 209 L S sh mi mj mr = zRun 0 210 L (.int 2 :: S) sh mi mj mr := zr_p (zD_of zk_0 d_0_209 rfl rfl) rfl
theorem q_0_210  : zRun 0 210 L (.int y :: .int x :: S) sh mi mj mr = zRun 0 211 L (.int (x + y) :: S) sh mi mj mr := zr_p (zD_of zk_0 d_0_210 rfl rfl) rfl
theorem q_0_211 {n : Nat} (h : sh[0]? = some (99, n)) (hi : zin x n = true) : zRun 0 211 L (.int x :: .ref 0 :: S) sh mi mj mr = zRun 0 212 L (.int (mi 0 x.toNatClampNeg) :: S) sh mi mj mr := zr_sald (zD_of zk_0 d_0_211 rfl rfl) h hi
theorem q_0_212  {x0 x1 : Int32} (hS : zcat S ≤ 8) (h : zIs sh o 0 8) : zRun 0 212 L (.int x1 :: .int x0 :: .ref o :: S) sh mi mj mr = (zCall 116 [.ref o, .int x0, .int x1] sh mi mj mr).bind fun r => zRun 0 215 L (r.1.toList ++ S) r.2.1 r.2.2.1 r.2.2.2.1 r.2.2.2.2 := zr_V (zD_of zk_0 d_0_212 rfl rfl) rfl zk_116 rfl rfl rfl hS h
theorem q_0_215  : zRun 0 215 L (.int y :: .int x :: S) sh mi mj mr = if x = y then zRun 0 873 L S sh mi mj mr else zRun 0 218 L S sh mi mj mr := zr_if (off := 658) (P := x = y) (zD_of zk_0 d_0_215 rfl rfl) rfl rfl (by decide)
theorem q_0_218  : zRun 0 218 L S sh mi mj mr = zRun 0 219 L (.int 0 :: S) sh mi mj mr := zr_p (zD_of zk_0 d_0_218 rfl rfl) rfl
theorem q_0_219 (h : x = 0 ∨ x = 1) : zRun 0 219 L ([.int x]) sh mi mj mr = some (some (.int x), sh, mi, mj, mr) := zr_ret (zD_of zk_0 d_0_219 rfl rfl) rfl rfl rfl rfl rfl (if_pos (zna_b h))
theorem q_0_220r : zRun 0 220 [l0, some (.ref o), l2, l3] S sh mi mj mr = zRun 0 221 [l0, some (.ref o), l2, l3] (.ref o :: S) sh mi mj mr := zr_l (zD_of zk_0 d_0_220 rfl rfl) rfl rfl rfl
theorem q_0_220n : zRun 0 220 [l0, some (.null), l2, l3] S sh mi mj mr = zRun 0 221 [l0, some (.null), l2, l3] (.null :: S) sh mi mj mr := zr_l (zD_of zk_0 d_0_220 rfl rfl) rfl rfl rfl
theorem q_0_221r : zRun 0 221 [some (.ref o), l1, l2, l3] S sh mi mj mr = zRun 0 222 [some (.ref o), l1, l2, l3] (.ref o :: S) sh mi mj mr := zr_l (zD_of zk_0 d_0_221 rfl rfl) rfl rfl rfl
theorem q_0_221n : zRun 0 221 [some (.null), l1, l2, l3] S sh mi mj mr = zRun 0 222 [some (.null), l1, l2, l3] (.null :: S) sh mi mj mr := zr_l (zD_of zk_0 d_0_221 rfl rfl) rfl rfl rfl
theorem q_0_222 : zRun 0 222 [l0, l1, l2, some (.int x)] S sh mi mj mr = zRun 0 223 [l0, l1, l2, some (.int x)] (.int x :: S) sh mi mj mr := zr_l (zD_of zk_0 d_0_222 rfl rfl) rfl rfl rfl
theorem q_0_223  : zRun 0 223 L S sh mi mj mr = zRun 0 224 L (.int 1 :: S) sh mi mj mr := zr_p (zD_of zk_0 d_0_223 rfl rfl) rfl
theorem q_0_224  : zRun 0 224 L (.int y :: .int x :: S) sh mi mj mr = zRun 0 225 L (.int (x + y) :: S) sh mi mj mr := zr_p (zD_of zk_0 d_0_224 rfl rfl) rfl
theorem q_0_225 {n : Nat} (h : sh[0]? = some (99, n)) (hi : zin x n = true) : zRun 0 225 L (.int x :: .ref 0 :: S) sh mi mj mr = zRun 0 226 L (.int (mi 0 x.toNatClampNeg) :: S) sh mi mj mr := zr_sald (zD_of zk_0 d_0_225 rfl rfl) h hi
theorem q_0_226  {x0 : Int32} (hS : zcat S ≤ 8) (h : zIs sh o 0 7) : zRun 0 226 L (.int x0 :: .ref o :: S) sh mi mj mr = (zCall 81 [.ref o, .int x0] sh mi mj mr).bind fun r => zRun 0 229 L (r.1.toList ++ S) r.2.1 r.2.2.1 r.2.2.2.1 r.2.2.2.2 := zr_V (zD_of zk_0 d_0_226 rfl rfl) rfl zk_81 rfl rfl rfl hS h
theorem q_0_229r : zRun 0 229 [l0, l1, some (.ref o), l3] S sh mi mj mr = zRun 0 230 [l0, l1, some (.ref o), l3] (.ref o :: S) sh mi mj mr := zr_l (zD_of zk_0 d_0_229 rfl rfl) rfl rfl rfl
theorem q_0_229n : zRun 0 229 [l0, l1, some (.null), l3] S sh mi mj mr = zRun 0 230 [l0, l1, some (.null), l3] (.null :: S) sh mi mj mr := zr_l (zD_of zk_0 d_0_229 rfl rfl) rfl rfl rfl
theorem q_0_230r : zRun 0 230 [some (.ref o), l1, l2, l3] S sh mi mj mr = zRun 0 231 [some (.ref o), l1, l2, l3] (.ref o :: S) sh mi mj mr := zr_l (zD_of zk_0 d_0_230 rfl rfl) rfl rfl rfl
theorem q_0_230n : zRun 0 230 [some (.null), l1, l2, l3] S sh mi mj mr = zRun 0 231 [some (.null), l1, l2, l3] (.null :: S) sh mi mj mr := zr_l (zD_of zk_0 d_0_230 rfl rfl) rfl rfl rfl
theorem q_0_231 : zRun 0 231 [l0, l1, l2, some (.int x)] S sh mi mj mr = zRun 0 232 [l0, l1, l2, some (.int x)] (.int x :: S) sh mi mj mr := zr_l (zD_of zk_0 d_0_231 rfl rfl) rfl rfl rfl
theorem q_0_232  : zRun 0 232 L S sh mi mj mr = zRun 0 233 L (.int 1 :: S) sh mi mj mr := zr_p (zD_of zk_0 d_0_232 rfl rfl) rfl
theorem q_0_233  : zRun 0 233 L (.int y :: .int x :: S) sh mi mj mr = zRun 0 234 L (.int (x + y) :: S) sh mi mj mr := zr_p (zD_of zk_0 d_0_233 rfl rfl) rfl
theorem q_0_234 {n : Nat} (h : sh[0]? = some (99, n)) (hi : zin x n = true) : zRun 0 234 L (.int x :: .ref 0 :: S) sh mi mj mr = zRun 0 235 L (.int (mi 0 x.toNatClampNeg) :: S) sh mi mj mr := zr_sald (zD_of zk_0 d_0_234 rfl rfl) h hi
theorem q_0_235  {x0 : Int32} (hS : zcat S ≤ 8) (h : zIs sh o 0 8) : zRun 0 235 L (.int x0 :: .ref o :: S) sh mi mj mr = (zCall 117 [.ref o, .int x0] sh mi mj mr).bind fun r => zRun 0 238 L (r.1.toList ++ S) r.2.1 r.2.2.1 r.2.2.2.1 r.2.2.2.2 := zr_V (zD_of zk_0 d_0_235 rfl rfl) rfl zk_117 rfl rfl rfl hS h
theorem q_0_238  : zRun 0 238 L (.int y :: .int x :: S) sh mi mj mr = if x = y then zRun 0 873 L S sh mi mj mr else zRun 0 241 L S sh mi mj mr := zr_if (off := 635) (P := x = y) (zD_of zk_0 d_0_238 rfl rfl) rfl rfl (by decide)
theorem q_0_241  : zRun 0 241 L S sh mi mj mr = zRun 0 242 L (.int 0 :: S) sh mi mj mr := zr_p (zD_of zk_0 d_0_241 rfl rfl) rfl
theorem q_0_242 (h : x = 0 ∨ x = 1) : zRun 0 242 L ([.int x]) sh mi mj mr = some (some (.int x), sh, mi, mj, mr) := zr_ret (zD_of zk_0 d_0_242 rfl rfl) rfl rfl rfl rfl rfl (if_pos (zna_b h))
theorem q_0_243r : zRun 0 243 [l0, some (.ref o), l2, l3] S sh mi mj mr = zRun 0 244 [l0, some (.ref o), l2, l3] (.ref o :: S) sh mi mj mr := zr_l (zD_of zk_0 d_0_243 rfl rfl) rfl rfl rfl
theorem q_0_243n : zRun 0 243 [l0, some (.null), l2, l3] S sh mi mj mr = zRun 0 244 [l0, some (.null), l2, l3] (.null :: S) sh mi mj mr := zr_l (zD_of zk_0 d_0_243 rfl rfl) rfl rfl rfl
theorem q_0_244r : zRun 0 244 [some (.ref o), l1, l2, l3] S sh mi mj mr = zRun 0 245 [some (.ref o), l1, l2, l3] (.ref o :: S) sh mi mj mr := zr_l (zD_of zk_0 d_0_244 rfl rfl) rfl rfl rfl
theorem q_0_244n : zRun 0 244 [some (.null), l1, l2, l3] S sh mi mj mr = zRun 0 245 [some (.null), l1, l2, l3] (.null :: S) sh mi mj mr := zr_l (zD_of zk_0 d_0_244 rfl rfl) rfl rfl rfl
theorem q_0_245 : zRun 0 245 [l0, l1, l2, some (.int x)] S sh mi mj mr = zRun 0 246 [l0, l1, l2, some (.int x)] (.int x :: S) sh mi mj mr := zr_l (zD_of zk_0 d_0_245 rfl rfl) rfl rfl rfl
theorem q_0_246  : zRun 0 246 L S sh mi mj mr = zRun 0 247 L (.int 1 :: S) sh mi mj mr := zr_p (zD_of zk_0 d_0_246 rfl rfl) rfl
theorem q_0_247  : zRun 0 247 L (.int y :: .int x :: S) sh mi mj mr = zRun 0 248 L (.int (x + y) :: S) sh mi mj mr := zr_p (zD_of zk_0 d_0_247 rfl rfl) rfl
theorem q_0_248 {n : Nat} (h : sh[0]? = some (99, n)) (hi : zin x n = true) : zRun 0 248 L (.int x :: .ref 0 :: S) sh mi mj mr = zRun 0 249 L (.int (mi 0 x.toNatClampNeg) :: S) sh mi mj mr := zr_sald (zD_of zk_0 d_0_248 rfl rfl) h hi
theorem q_0_249  {x0 : Int32} (hS : zcat S ≤ 8) (h : zIs sh o 0 7) : zRun 0 249 L (.int x0 :: .ref o :: S) sh mi mj mr = (zCall 82 [.ref o, .int x0] sh mi mj mr).bind fun r => zRun 0 252 L (r.1.toList ++ S) r.2.1 r.2.2.1 r.2.2.2.1 r.2.2.2.2 := zr_V (zD_of zk_0 d_0_249 rfl rfl) rfl zk_82 rfl rfl rfl hS h
theorem q_0_252r : zRun 0 252 [l0, l1, some (.ref o), l3] S sh mi mj mr = zRun 0 253 [l0, l1, some (.ref o), l3] (.ref o :: S) sh mi mj mr := zr_l (zD_of zk_0 d_0_252 rfl rfl) rfl rfl rfl
theorem q_0_252n : zRun 0 252 [l0, l1, some (.null), l3] S sh mi mj mr = zRun 0 253 [l0, l1, some (.null), l3] (.null :: S) sh mi mj mr := zr_l (zD_of zk_0 d_0_252 rfl rfl) rfl rfl rfl
theorem q_0_253r : zRun 0 253 [some (.ref o), l1, l2, l3] S sh mi mj mr = zRun 0 254 [some (.ref o), l1, l2, l3] (.ref o :: S) sh mi mj mr := zr_l (zD_of zk_0 d_0_253 rfl rfl) rfl rfl rfl
theorem q_0_253n : zRun 0 253 [some (.null), l1, l2, l3] S sh mi mj mr = zRun 0 254 [some (.null), l1, l2, l3] (.null :: S) sh mi mj mr := zr_l (zD_of zk_0 d_0_253 rfl rfl) rfl rfl rfl
theorem q_0_254 : zRun 0 254 [l0, l1, l2, some (.int x)] S sh mi mj mr = zRun 0 255 [l0, l1, l2, some (.int x)] (.int x :: S) sh mi mj mr := zr_l (zD_of zk_0 d_0_254 rfl rfl) rfl rfl rfl
theorem q_0_255  : zRun 0 255 L S sh mi mj mr = zRun 0 256 L (.int 1 :: S) sh mi mj mr := zr_p (zD_of zk_0 d_0_255 rfl rfl) rfl
theorem q_0_256  : zRun 0 256 L (.int y :: .int x :: S) sh mi mj mr = zRun 0 257 L (.int (x + y) :: S) sh mi mj mr := zr_p (zD_of zk_0 d_0_256 rfl rfl) rfl
theorem q_0_257 {n : Nat} (h : sh[0]? = some (99, n)) (hi : zin x n = true) : zRun 0 257 L (.int x :: .ref 0 :: S) sh mi mj mr = zRun 0 258 L (.int (mi 0 x.toNatClampNeg) :: S) sh mi mj mr := zr_sald (zD_of zk_0 d_0_257 rfl rfl) h hi
theorem q_0_258  {x0 : Int32} (hS : zcat S ≤ 8) (h : zIs sh o 0 8) : zRun 0 258 L (.int x0 :: .ref o :: S) sh mi mj mr = (zCall 118 [.ref o, .int x0] sh mi mj mr).bind fun r => zRun 0 261 L (r.1.toList ++ S) r.2.1 r.2.2.1 r.2.2.2.1 r.2.2.2.2 := zr_V (zD_of zk_0 d_0_258 rfl rfl) rfl zk_118 rfl rfl rfl hS h
theorem q_0_261  : zRun 0 261 L (.int y :: .int x :: S) sh mi mj mr = if x = y then zRun 0 873 L S sh mi mj mr else zRun 0 264 L S sh mi mj mr := zr_if (off := 612) (P := x = y) (zD_of zk_0 d_0_261 rfl rfl) rfl rfl (by decide)
theorem q_0_264  : zRun 0 264 L S sh mi mj mr = zRun 0 265 L (.int 0 :: S) sh mi mj mr := zr_p (zD_of zk_0 d_0_264 rfl rfl) rfl
theorem q_0_265 (h : x = 0 ∨ x = 1) : zRun 0 265 L ([.int x]) sh mi mj mr = some (some (.int x), sh, mi, mj, mr) := zr_ret (zD_of zk_0 d_0_265 rfl rfl) rfl rfl rfl rfl rfl (if_pos (zna_b h))
theorem q_0_266r : zRun 0 266 [l0, some (.ref o), l2, l3] S sh mi mj mr = zRun 0 267 [l0, some (.ref o), l2, l3] (.ref o :: S) sh mi mj mr := zr_l (zD_of zk_0 d_0_266 rfl rfl) rfl rfl rfl
theorem q_0_266n : zRun 0 266 [l0, some (.null), l2, l3] S sh mi mj mr = zRun 0 267 [l0, some (.null), l2, l3] (.null :: S) sh mi mj mr := zr_l (zD_of zk_0 d_0_266 rfl rfl) rfl rfl rfl
theorem q_0_267  (hS : zcat S ≤ 8) (h : zIs sh o 0 7) : zRun 0 267 L (.ref o :: S) sh mi mj mr = (zCall 83 [.ref o] sh mi mj mr).bind fun r => zRun 0 270 L (r.1.toList ++ S) r.2.1 r.2.2.1 r.2.2.2.1 r.2.2.2.2 := zr_V (zD_of zk_0 d_0_267 rfl rfl) rfl zk_83 rfl rfl rfl hS h
theorem q_0_270r : zRun 0 270 [l0, l1, some (.ref o), l3] S sh mi mj mr = zRun 0 271 [l0, l1, some (.ref o), l3] (.ref o :: S) sh mi mj mr := zr_l (zD_of zk_0 d_0_270 rfl rfl) rfl rfl rfl
theorem q_0_270n : zRun 0 270 [l0, l1, some (.null), l3] S sh mi mj mr = zRun 0 271 [l0, l1, some (.null), l3] (.null :: S) sh mi mj mr := zr_l (zD_of zk_0 d_0_270 rfl rfl) rfl rfl rfl
theorem q_0_271  (hS : zcat S ≤ 8) (h : zIs sh o 0 8) : zRun 0 271 L (.ref o :: S) sh mi mj mr = (zCall 119 [.ref o] sh mi mj mr).bind fun r => zRun 0 274 L (r.1.toList ++ S) r.2.1 r.2.2.1 r.2.2.2.1 r.2.2.2.2 := zr_V (zD_of zk_0 d_0_271 rfl rfl) rfl zk_119 rfl rfl rfl hS h
theorem q_0_274  : zRun 0 274 L (.int y :: .int x :: S) sh mi mj mr = if x = y then zRun 0 873 L S sh mi mj mr else zRun 0 277 L S sh mi mj mr := zr_if (off := 599) (P := x = y) (zD_of zk_0 d_0_274 rfl rfl) rfl rfl (by decide)
theorem q_0_277  : zRun 0 277 L S sh mi mj mr = zRun 0 278 L (.int 0 :: S) sh mi mj mr := zr_p (zD_of zk_0 d_0_277 rfl rfl) rfl
theorem q_0_278 (h : x = 0 ∨ x = 1) : zRun 0 278 L ([.int x]) sh mi mj mr = some (some (.int x), sh, mi, mj, mr) := zr_ret (zD_of zk_0 d_0_278 rfl rfl) rfl rfl rfl rfl rfl (if_pos (zna_b h))
theorem q_0_279r : zRun 0 279 [l0, some (.ref o), l2, l3] S sh mi mj mr = zRun 0 280 [l0, some (.ref o), l2, l3] (.ref o :: S) sh mi mj mr := zr_l (zD_of zk_0 d_0_279 rfl rfl) rfl rfl rfl
theorem q_0_279n : zRun 0 279 [l0, some (.null), l2, l3] S sh mi mj mr = zRun 0 280 [l0, some (.null), l2, l3] (.null :: S) sh mi mj mr := zr_l (zD_of zk_0 d_0_279 rfl rfl) rfl rfl rfl
theorem q_0_280  (hS : zcat S ≤ 8) (h : zIs sh o 0 7) : zRun 0 280 L (.ref o :: S) sh mi mj mr = (zCall 84 [.ref o] sh mi mj mr).bind fun r => zRun 0 283 L (r.1.toList ++ S) r.2.1 r.2.2.1 r.2.2.2.1 r.2.2.2.2 := zr_V (zD_of zk_0 d_0_280 rfl rfl) rfl zk_84 rfl rfl rfl hS h
theorem q_0_283r : zRun 0 283 [l0, l1, some (.ref o), l3] S sh mi mj mr = zRun 0 284 [l0, l1, some (.ref o), l3] (.ref o :: S) sh mi mj mr := zr_l (zD_of zk_0 d_0_283 rfl rfl) rfl rfl rfl
theorem q_0_283n : zRun 0 283 [l0, l1, some (.null), l3] S sh mi mj mr = zRun 0 284 [l0, l1, some (.null), l3] (.null :: S) sh mi mj mr := zr_l (zD_of zk_0 d_0_283 rfl rfl) rfl rfl rfl
theorem q_0_284  (hS : zcat S ≤ 8) (h : zIs sh o 0 8) : zRun 0 284 L (.ref o :: S) sh mi mj mr = (zCall 125 [.ref o] sh mi mj mr).bind fun r => zRun 0 287 L (r.1.toList ++ S) r.2.1 r.2.2.1 r.2.2.2.1 r.2.2.2.2 := zr_V (zD_of zk_0 d_0_284 rfl rfl) rfl zk_125 rfl rfl rfl hS h
theorem q_0_287  : zRun 0 287 L (.int y :: .int x :: S) sh mi mj mr = if x = y then zRun 0 873 L S sh mi mj mr else zRun 0 290 L S sh mi mj mr := zr_if (off := 586) (P := x = y) (zD_of zk_0 d_0_287 rfl rfl) rfl rfl (by decide)
theorem q_0_290  : zRun 0 290 L S sh mi mj mr = zRun 0 291 L (.int 0 :: S) sh mi mj mr := zr_p (zD_of zk_0 d_0_290 rfl rfl) rfl
theorem q_0_291 (h : x = 0 ∨ x = 1) : zRun 0 291 L ([.int x]) sh mi mj mr = some (some (.int x), sh, mi, mj, mr) := zr_ret (zD_of zk_0 d_0_291 rfl rfl) rfl rfl rfl rfl rfl (if_pos (zna_b h))
theorem q_0_292r : zRun 0 292 [l0, some (.ref o), l2, l3] S sh mi mj mr = zRun 0 293 [l0, some (.ref o), l2, l3] (.ref o :: S) sh mi mj mr := zr_l (zD_of zk_0 d_0_292 rfl rfl) rfl rfl rfl
theorem q_0_292n : zRun 0 292 [l0, some (.null), l2, l3] S sh mi mj mr = zRun 0 293 [l0, some (.null), l2, l3] (.null :: S) sh mi mj mr := zr_l (zD_of zk_0 d_0_292 rfl rfl) rfl rfl rfl
theorem q_0_293r : zRun 0 293 [some (.ref o), l1, l2, l3] S sh mi mj mr = zRun 0 294 [some (.ref o), l1, l2, l3] (.ref o :: S) sh mi mj mr := zr_l (zD_of zk_0 d_0_293 rfl rfl) rfl rfl rfl
theorem q_0_293n : zRun 0 293 [some (.null), l1, l2, l3] S sh mi mj mr = zRun 0 294 [some (.null), l1, l2, l3] (.null :: S) sh mi mj mr := zr_l (zD_of zk_0 d_0_293 rfl rfl) rfl rfl rfl
theorem q_0_294 : zRun 0 294 [l0, l1, l2, some (.int x)] S sh mi mj mr = zRun 0 295 [l0, l1, l2, some (.int x)] (.int x :: S) sh mi mj mr := zr_l (zD_of zk_0 d_0_294 rfl rfl) rfl rfl rfl
theorem q_0_295  : zRun 0 295 L S sh mi mj mr = zRun 0 296 L (.int 1 :: S) sh mi mj mr := zr_p (zD_of zk_0 d_0_295 rfl rfl) rfl
theorem q_0_296  : zRun 0 296 L (.int y :: .int x :: S) sh mi mj mr = zRun 0 297 L (.int (x + y) :: S) sh mi mj mr := zr_p (zD_of zk_0 d_0_296 rfl rfl) rfl
theorem q_0_297 {n : Nat} (h : sh[0]? = some (99, n)) (hi : zin x n = true) : zRun 0 297 L (.int x :: .ref 0 :: S) sh mi mj mr = zRun 0 298 L (.int (mi 0 x.toNatClampNeg) :: S) sh mi mj mr := zr_sald (zD_of zk_0 d_0_297 rfl rfl) h hi
theorem q_0_298  {x0 : Int32} (hS : zcat S ≤ 8) (h : zIs sh o 0 7) : zRun 0 298 L (.int x0 :: .ref o :: S) sh mi mj mr = (zCall 85 [.ref o, .int x0] sh mi mj mr).bind fun r => zRun 0 301 L (r.1.toList ++ S) r.2.1 r.2.2.1 r.2.2.2.1 r.2.2.2.2 := zr_V (zD_of zk_0 d_0_298 rfl rfl) rfl zk_85 rfl rfl rfl hS h
theorem q_0_301r : zRun 0 301 [l0, l1, some (.ref o), l3] S sh mi mj mr = zRun 0 302 [l0, l1, some (.ref o), l3] (.ref o :: S) sh mi mj mr := zr_l (zD_of zk_0 d_0_301 rfl rfl) rfl rfl rfl
theorem q_0_301n : zRun 0 301 [l0, l1, some (.null), l3] S sh mi mj mr = zRun 0 302 [l0, l1, some (.null), l3] (.null :: S) sh mi mj mr := zr_l (zD_of zk_0 d_0_301 rfl rfl) rfl rfl rfl
theorem q_0_302r : zRun 0 302 [some (.ref o), l1, l2, l3] S sh mi mj mr = zRun 0 303 [some (.ref o), l1, l2, l3] (.ref o :: S) sh mi mj mr := zr_l (zD_of zk_0 d_0_302 rfl rfl) rfl rfl rfl
theorem q_0_302n : zRun 0 302 [some (.null), l1, l2, l3] S sh mi mj mr = zRun 0 303 [some (.null), l1, l2, l3] (.null :: S) sh mi mj mr := zr_l (zD_of zk_0 d_0_302 rfl rfl) rfl rfl rfl
theorem q_0_303 : zRun 0 303 [l0, l1, l2, some (.int x)] S sh mi mj mr = zRun 0 304 [l0, l1, l2, some (.int x)] (.int x :: S) sh mi mj mr := zr_l (zD_of zk_0 d_0_303 rfl rfl) rfl rfl rfl
theorem q_0_304  : zRun 0 304 L S sh mi mj mr = zRun 0 305 L (.int 1 :: S) sh mi mj mr := zr_p (zD_of zk_0 d_0_304 rfl rfl) rfl
theorem q_0_305  : zRun 0 305 L (.int y :: .int x :: S) sh mi mj mr = zRun 0 306 L (.int (x + y) :: S) sh mi mj mr := zr_p (zD_of zk_0 d_0_305 rfl rfl) rfl
theorem q_0_306 {n : Nat} (h : sh[0]? = some (99, n)) (hi : zin x n = true) : zRun 0 306 L (.int x :: .ref 0 :: S) sh mi mj mr = zRun 0 307 L (.int (mi 0 x.toNatClampNeg) :: S) sh mi mj mr := zr_sald (zD_of zk_0 d_0_306 rfl rfl) h hi
theorem q_0_307  {x0 : Int32} (hS : zcat S ≤ 8) (h : zIs sh o 0 8) : zRun 0 307 L (.int x0 :: .ref o :: S) sh mi mj mr = (zCall 134 [.ref o, .int x0] sh mi mj mr).bind fun r => zRun 0 310 L (r.1.toList ++ S) r.2.1 r.2.2.1 r.2.2.2.1 r.2.2.2.2 := zr_V (zD_of zk_0 d_0_307 rfl rfl) rfl zk_134 rfl rfl rfl hS h
theorem q_0_310  : zRun 0 310 L (.int y :: .int x :: S) sh mi mj mr = if x = y then zRun 0 873 L S sh mi mj mr else zRun 0 313 L S sh mi mj mr := zr_if (off := 563) (P := x = y) (zD_of zk_0 d_0_310 rfl rfl) rfl rfl (by decide)
theorem q_0_313  : zRun 0 313 L S sh mi mj mr = zRun 0 314 L (.int 0 :: S) sh mi mj mr := zr_p (zD_of zk_0 d_0_313 rfl rfl) rfl
theorem q_0_314 (h : x = 0 ∨ x = 1) : zRun 0 314 L ([.int x]) sh mi mj mr = some (some (.int x), sh, mi, mj, mr) := zr_ret (zD_of zk_0 d_0_314 rfl rfl) rfl rfl rfl rfl rfl (if_pos (zna_b h))
theorem q_0_315r : zRun 0 315 [l0, some (.ref o), l2, l3] S sh mi mj mr = zRun 0 316 [l0, some (.ref o), l2, l3] (.ref o :: S) sh mi mj mr := zr_l (zD_of zk_0 d_0_315 rfl rfl) rfl rfl rfl
theorem q_0_315n : zRun 0 315 [l0, some (.null), l2, l3] S sh mi mj mr = zRun 0 316 [l0, some (.null), l2, l3] (.null :: S) sh mi mj mr := zr_l (zD_of zk_0 d_0_315 rfl rfl) rfl rfl rfl
theorem q_0_316r : zRun 0 316 [some (.ref o), l1, l2, l3] S sh mi mj mr = zRun 0 317 [some (.ref o), l1, l2, l3] (.ref o :: S) sh mi mj mr := zr_l (zD_of zk_0 d_0_316 rfl rfl) rfl rfl rfl
theorem q_0_316n : zRun 0 316 [some (.null), l1, l2, l3] S sh mi mj mr = zRun 0 317 [some (.null), l1, l2, l3] (.null :: S) sh mi mj mr := zr_l (zD_of zk_0 d_0_316 rfl rfl) rfl rfl rfl
theorem q_0_317 : zRun 0 317 [l0, l1, l2, some (.int x)] S sh mi mj mr = zRun 0 318 [l0, l1, l2, some (.int x)] (.int x :: S) sh mi mj mr := zr_l (zD_of zk_0 d_0_317 rfl rfl) rfl rfl rfl
theorem q_0_318  : zRun 0 318 L S sh mi mj mr = zRun 0 319 L (.int 1 :: S) sh mi mj mr := zr_p (zD_of zk_0 d_0_318 rfl rfl) rfl
theorem q_0_319  : zRun 0 319 L (.int y :: .int x :: S) sh mi mj mr = zRun 0 320 L (.int (x + y) :: S) sh mi mj mr := zr_p (zD_of zk_0 d_0_319 rfl rfl) rfl
theorem q_0_320 {n : Nat} (h : sh[0]? = some (99, n)) (hi : zin x n = true) : zRun 0 320 L (.int x :: .ref 0 :: S) sh mi mj mr = zRun 0 321 L (.int (mi 0 x.toNatClampNeg) :: S) sh mi mj mr := zr_sald (zD_of zk_0 d_0_320 rfl rfl) h hi
theorem q_0_321r : zRun 0 321 [some (.ref o), l1, l2, l3] S sh mi mj mr = zRun 0 322 [some (.ref o), l1, l2, l3] (.ref o :: S) sh mi mj mr := zr_l (zD_of zk_0 d_0_321 rfl rfl) rfl rfl rfl
theorem q_0_321n : zRun 0 321 [some (.null), l1, l2, l3] S sh mi mj mr = zRun 0 322 [some (.null), l1, l2, l3] (.null :: S) sh mi mj mr := zr_l (zD_of zk_0 d_0_321 rfl rfl) rfl rfl rfl
theorem q_0_322 : zRun 0 322 [l0, l1, l2, some (.int x)] S sh mi mj mr = zRun 0 323 [l0, l1, l2, some (.int x)] (.int x :: S) sh mi mj mr := zr_l (zD_of zk_0 d_0_322 rfl rfl) rfl rfl rfl
theorem q_0_323  : zRun 0 323 L S sh mi mj mr = zRun 0 324 L (.int 2 :: S) sh mi mj mr := zr_p (zD_of zk_0 d_0_323 rfl rfl) rfl
theorem q_0_324  : zRun 0 324 L (.int y :: .int x :: S) sh mi mj mr = zRun 0 325 L (.int (x + y) :: S) sh mi mj mr := zr_p (zD_of zk_0 d_0_324 rfl rfl) rfl
theorem q_0_325 {n : Nat} (h : sh[0]? = some (99, n)) (hi : zin x n = true) : zRun 0 325 L (.int x :: .ref 0 :: S) sh mi mj mr = zRun 0 326 L (.int (mi 0 x.toNatClampNeg) :: S) sh mi mj mr := zr_sald (zD_of zk_0 d_0_325 rfl rfl) h hi
theorem q_0_326r : zRun 0 326 [some (.ref o), l1, l2, l3] S sh mi mj mr = zRun 0 327 [some (.ref o), l1, l2, l3] (.ref o :: S) sh mi mj mr := zr_l (zD_of zk_0 d_0_326 rfl rfl) rfl rfl rfl
theorem q_0_326n : zRun 0 326 [some (.null), l1, l2, l3] S sh mi mj mr = zRun 0 327 [some (.null), l1, l2, l3] (.null :: S) sh mi mj mr := zr_l (zD_of zk_0 d_0_326 rfl rfl) rfl rfl rfl
theorem q_0_327 : zRun 0 327 [l0, l1, l2, some (.int x)] S sh mi mj mr = zRun 0 328 [l0, l1, l2, some (.int x)] (.int x :: S) sh mi mj mr := zr_l (zD_of zk_0 d_0_327 rfl rfl) rfl rfl rfl
theorem q_0_328  : zRun 0 328 L S sh mi mj mr = zRun 0 329 L (.int 3 :: S) sh mi mj mr := zr_p (zD_of zk_0 d_0_328 rfl rfl) rfl
theorem q_0_329  : zRun 0 329 L (.int y :: .int x :: S) sh mi mj mr = zRun 0 330 L (.int (x + y) :: S) sh mi mj mr := zr_p (zD_of zk_0 d_0_329 rfl rfl) rfl
theorem q_0_330 {n : Nat} (h : sh[0]? = some (99, n)) (hi : zin x n = true) : zRun 0 330 L (.int x :: .ref 0 :: S) sh mi mj mr = zRun 0 331 L (.int (mi 0 x.toNatClampNeg) :: S) sh mi mj mr := zr_sald (zD_of zk_0 d_0_330 rfl rfl) h hi
theorem q_0_331  {x0 x1 x2 : Int32} (hS : zcat S ≤ 8) (h : zIs sh o 0 7) : zRun 0 331 L (.int x2 :: .int x1 :: .int x0 :: .ref o :: S) sh mi mj mr = (zCall 86 [.ref o, .int x0, .int x1, .int x2] sh mi mj mr).bind fun r => zRun 0 334 L (r.1.toList ++ S) r.2.1 r.2.2.1 r.2.2.2.1 r.2.2.2.2 := zr_V (zD_of zk_0 d_0_331 rfl rfl) rfl zk_86 rfl rfl rfl hS h
theorem q_0_334r : zRun 0 334 [l0, l1, some (.ref o), l3] S sh mi mj mr = zRun 0 335 [l0, l1, some (.ref o), l3] (.ref o :: S) sh mi mj mr := zr_l (zD_of zk_0 d_0_334 rfl rfl) rfl rfl rfl
theorem q_0_334n : zRun 0 334 [l0, l1, some (.null), l3] S sh mi mj mr = zRun 0 335 [l0, l1, some (.null), l3] (.null :: S) sh mi mj mr := zr_l (zD_of zk_0 d_0_334 rfl rfl) rfl rfl rfl
theorem q_0_335r : zRun 0 335 [some (.ref o), l1, l2, l3] S sh mi mj mr = zRun 0 336 [some (.ref o), l1, l2, l3] (.ref o :: S) sh mi mj mr := zr_l (zD_of zk_0 d_0_335 rfl rfl) rfl rfl rfl
theorem q_0_335n : zRun 0 335 [some (.null), l1, l2, l3] S sh mi mj mr = zRun 0 336 [some (.null), l1, l2, l3] (.null :: S) sh mi mj mr := zr_l (zD_of zk_0 d_0_335 rfl rfl) rfl rfl rfl
theorem q_0_336 : zRun 0 336 [l0, l1, l2, some (.int x)] S sh mi mj mr = zRun 0 337 [l0, l1, l2, some (.int x)] (.int x :: S) sh mi mj mr := zr_l (zD_of zk_0 d_0_336 rfl rfl) rfl rfl rfl
theorem q_0_337  : zRun 0 337 L S sh mi mj mr = zRun 0 338 L (.int 1 :: S) sh mi mj mr := zr_p (zD_of zk_0 d_0_337 rfl rfl) rfl
theorem q_0_338  : zRun 0 338 L (.int y :: .int x :: S) sh mi mj mr = zRun 0 339 L (.int (x + y) :: S) sh mi mj mr := zr_p (zD_of zk_0 d_0_338 rfl rfl) rfl
theorem q_0_339 {n : Nat} (h : sh[0]? = some (99, n)) (hi : zin x n = true) : zRun 0 339 L (.int x :: .ref 0 :: S) sh mi mj mr = zRun 0 340 L (.int (mi 0 x.toNatClampNeg) :: S) sh mi mj mr := zr_sald (zD_of zk_0 d_0_339 rfl rfl) h hi
theorem q_0_340r : zRun 0 340 [some (.ref o), l1, l2, l3] S sh mi mj mr = zRun 0 341 [some (.ref o), l1, l2, l3] (.ref o :: S) sh mi mj mr := zr_l (zD_of zk_0 d_0_340 rfl rfl) rfl rfl rfl
theorem q_0_340n : zRun 0 340 [some (.null), l1, l2, l3] S sh mi mj mr = zRun 0 341 [some (.null), l1, l2, l3] (.null :: S) sh mi mj mr := zr_l (zD_of zk_0 d_0_340 rfl rfl) rfl rfl rfl
theorem q_0_341 : zRun 0 341 [l0, l1, l2, some (.int x)] S sh mi mj mr = zRun 0 342 [l0, l1, l2, some (.int x)] (.int x :: S) sh mi mj mr := zr_l (zD_of zk_0 d_0_341 rfl rfl) rfl rfl rfl
theorem q_0_342  : zRun 0 342 L S sh mi mj mr = zRun 0 343 L (.int 2 :: S) sh mi mj mr := zr_p (zD_of zk_0 d_0_342 rfl rfl) rfl
theorem q_0_343  : zRun 0 343 L (.int y :: .int x :: S) sh mi mj mr = zRun 0 344 L (.int (x + y) :: S) sh mi mj mr := zr_p (zD_of zk_0 d_0_343 rfl rfl) rfl
theorem q_0_344 {n : Nat} (h : sh[0]? = some (99, n)) (hi : zin x n = true) : zRun 0 344 L (.int x :: .ref 0 :: S) sh mi mj mr = zRun 0 345 L (.int (mi 0 x.toNatClampNeg) :: S) sh mi mj mr := zr_sald (zD_of zk_0 d_0_344 rfl rfl) h hi
theorem q_0_345r : zRun 0 345 [some (.ref o), l1, l2, l3] S sh mi mj mr = zRun 0 346 [some (.ref o), l1, l2, l3] (.ref o :: S) sh mi mj mr := zr_l (zD_of zk_0 d_0_345 rfl rfl) rfl rfl rfl
theorem q_0_345n : zRun 0 345 [some (.null), l1, l2, l3] S sh mi mj mr = zRun 0 346 [some (.null), l1, l2, l3] (.null :: S) sh mi mj mr := zr_l (zD_of zk_0 d_0_345 rfl rfl) rfl rfl rfl
theorem q_0_346 : zRun 0 346 [l0, l1, l2, some (.int x)] S sh mi mj mr = zRun 0 347 [l0, l1, l2, some (.int x)] (.int x :: S) sh mi mj mr := zr_l (zD_of zk_0 d_0_346 rfl rfl) rfl rfl rfl
theorem q_0_347  : zRun 0 347 L S sh mi mj mr = zRun 0 348 L (.int 3 :: S) sh mi mj mr := zr_p (zD_of zk_0 d_0_347 rfl rfl) rfl
theorem q_0_348  : zRun 0 348 L (.int y :: .int x :: S) sh mi mj mr = zRun 0 349 L (.int (x + y) :: S) sh mi mj mr := zr_p (zD_of zk_0 d_0_348 rfl rfl) rfl
theorem q_0_349 {n : Nat} (h : sh[0]? = some (99, n)) (hi : zin x n = true) : zRun 0 349 L (.int x :: .ref 0 :: S) sh mi mj mr = zRun 0 350 L (.int (mi 0 x.toNatClampNeg) :: S) sh mi mj mr := zr_sald (zD_of zk_0 d_0_349 rfl rfl) h hi
theorem q_0_350  {x0 x1 x2 : Int32} (hS : zcat S ≤ 8) (h : zIs sh o 0 8) : zRun 0 350 L (.int x2 :: .int x1 :: .int x0 :: .ref o :: S) sh mi mj mr = (zCall 135 [.ref o, .int x0, .int x1, .int x2] sh mi mj mr).bind fun r => zRun 0 353 L (r.1.toList ++ S) r.2.1 r.2.2.1 r.2.2.2.1 r.2.2.2.2 := zr_V (zD_of zk_0 d_0_350 rfl rfl) rfl zk_135 rfl rfl rfl hS h
theorem q_0_353  : zRun 0 353 L (.int y :: .int x :: S) sh mi mj mr = if x = y then zRun 0 873 L S sh mi mj mr else zRun 0 356 L S sh mi mj mr := zr_if (off := 520) (P := x = y) (zD_of zk_0 d_0_353 rfl rfl) rfl rfl (by decide)
theorem q_0_356  : zRun 0 356 L S sh mi mj mr = zRun 0 357 L (.int 0 :: S) sh mi mj mr := zr_p (zD_of zk_0 d_0_356 rfl rfl) rfl
theorem q_0_357 (h : x = 0 ∨ x = 1) : zRun 0 357 L ([.int x]) sh mi mj mr = some (some (.int x), sh, mi, mj, mr) := zr_ret (zD_of zk_0 d_0_357 rfl rfl) rfl rfl rfl rfl rfl (if_pos (zna_b h))
theorem q_0_358r : zRun 0 358 [l0, some (.ref o), l2, l3] S sh mi mj mr = zRun 0 359 [l0, some (.ref o), l2, l3] (.ref o :: S) sh mi mj mr := zr_l (zD_of zk_0 d_0_358 rfl rfl) rfl rfl rfl
theorem q_0_358n : zRun 0 358 [l0, some (.null), l2, l3] S sh mi mj mr = zRun 0 359 [l0, some (.null), l2, l3] (.null :: S) sh mi mj mr := zr_l (zD_of zk_0 d_0_358 rfl rfl) rfl rfl rfl
theorem q_0_359r : zRun 0 359 [some (.ref o), l1, l2, l3] S sh mi mj mr = zRun 0 360 [some (.ref o), l1, l2, l3] (.ref o :: S) sh mi mj mr := zr_l (zD_of zk_0 d_0_359 rfl rfl) rfl rfl rfl
theorem q_0_359n : zRun 0 359 [some (.null), l1, l2, l3] S sh mi mj mr = zRun 0 360 [some (.null), l1, l2, l3] (.null :: S) sh mi mj mr := zr_l (zD_of zk_0 d_0_359 rfl rfl) rfl rfl rfl
theorem q_0_360 : zRun 0 360 [l0, l1, l2, some (.int x)] S sh mi mj mr = zRun 0 361 [l0, l1, l2, some (.int x)] (.int x :: S) sh mi mj mr := zr_l (zD_of zk_0 d_0_360 rfl rfl) rfl rfl rfl
theorem q_0_361  : zRun 0 361 L S sh mi mj mr = zRun 0 362 L (.int 1 :: S) sh mi mj mr := zr_p (zD_of zk_0 d_0_361 rfl rfl) rfl
theorem q_0_362  : zRun 0 362 L (.int y :: .int x :: S) sh mi mj mr = zRun 0 363 L (.int (x + y) :: S) sh mi mj mr := zr_p (zD_of zk_0 d_0_362 rfl rfl) rfl
theorem q_0_363 {n : Nat} (h : sh[0]? = some (99, n)) (hi : zin x n = true) : zRun 0 363 L (.int x :: .ref 0 :: S) sh mi mj mr = zRun 0 364 L (.int (mi 0 x.toNatClampNeg) :: S) sh mi mj mr := zr_sald (zD_of zk_0 d_0_363 rfl rfl) h hi
theorem q_0_364  {x0 : Int32} (hS : zcat S ≤ 8) (h : zIs sh o 0 7) : zRun 0 364 L (.int x0 :: .ref o :: S) sh mi mj mr = (zCall 87 [.ref o, .int x0] sh mi mj mr).bind fun r => zRun 0 367 L (r.1.toList ++ S) r.2.1 r.2.2.1 r.2.2.2.1 r.2.2.2.2 := zr_V (zD_of zk_0 d_0_364 rfl rfl) rfl zk_87 rfl rfl rfl hS h
theorem q_0_367r : zRun 0 367 [l0, l1, some (.ref o), l3] S sh mi mj mr = zRun 0 368 [l0, l1, some (.ref o), l3] (.ref o :: S) sh mi mj mr := zr_l (zD_of zk_0 d_0_367 rfl rfl) rfl rfl rfl
theorem q_0_367n : zRun 0 367 [l0, l1, some (.null), l3] S sh mi mj mr = zRun 0 368 [l0, l1, some (.null), l3] (.null :: S) sh mi mj mr := zr_l (zD_of zk_0 d_0_367 rfl rfl) rfl rfl rfl
theorem q_0_368r : zRun 0 368 [some (.ref o), l1, l2, l3] S sh mi mj mr = zRun 0 369 [some (.ref o), l1, l2, l3] (.ref o :: S) sh mi mj mr := zr_l (zD_of zk_0 d_0_368 rfl rfl) rfl rfl rfl
theorem q_0_368n : zRun 0 368 [some (.null), l1, l2, l3] S sh mi mj mr = zRun 0 369 [some (.null), l1, l2, l3] (.null :: S) sh mi mj mr := zr_l (zD_of zk_0 d_0_368 rfl rfl) rfl rfl rfl
theorem q_0_369 : zRun 0 369 [l0, l1, l2, some (.int x)] S sh mi mj mr = zRun 0 370 [l0, l1, l2, some (.int x)] (.int x :: S) sh mi mj mr := zr_l (zD_of zk_0 d_0_369 rfl rfl) rfl rfl rfl
theorem q_0_370  : zRun 0 370 L S sh mi mj mr = zRun 0 371 L (.int 1 :: S) sh mi mj mr := zr_p (zD_of zk_0 d_0_370 rfl rfl) rfl
theorem q_0_371  : zRun 0 371 L (.int y :: .int x :: S) sh mi mj mr = zRun 0 372 L (.int (x + y) :: S) sh mi mj mr := zr_p (zD_of zk_0 d_0_371 rfl rfl) rfl
theorem q_0_372 {n : Nat} (h : sh[0]? = some (99, n)) (hi : zin x n = true) : zRun 0 372 L (.int x :: .ref 0 :: S) sh mi mj mr = zRun 0 373 L (.int (mi 0 x.toNatClampNeg) :: S) sh mi mj mr := zr_sald (zD_of zk_0 d_0_372 rfl rfl) h hi
theorem q_0_373  {x0 : Int32} (hS : zcat S ≤ 8) (h : zIs sh o 0 8) : zRun 0 373 L (.int x0 :: .ref o :: S) sh mi mj mr = (zCall 136 [.ref o, .int x0] sh mi mj mr).bind fun r => zRun 0 376 L (r.1.toList ++ S) r.2.1 r.2.2.1 r.2.2.2.1 r.2.2.2.2 := zr_V (zD_of zk_0 d_0_373 rfl rfl) rfl zk_136 rfl rfl rfl hS h
theorem q_0_376  : zRun 0 376 L (.int y :: .int x :: S) sh mi mj mr = if x = y then zRun 0 873 L S sh mi mj mr else zRun 0 379 L S sh mi mj mr := zr_if (off := 497) (P := x = y) (zD_of zk_0 d_0_376 rfl rfl) rfl rfl (by decide)
theorem q_0_379  : zRun 0 379 L S sh mi mj mr = zRun 0 380 L (.int 0 :: S) sh mi mj mr := zr_p (zD_of zk_0 d_0_379 rfl rfl) rfl
theorem q_0_380 (h : x = 0 ∨ x = 1) : zRun 0 380 L ([.int x]) sh mi mj mr = some (some (.int x), sh, mi, mj, mr) := zr_ret (zD_of zk_0 d_0_380 rfl rfl) rfl rfl rfl rfl rfl (if_pos (zna_b h))
theorem q_0_381r : zRun 0 381 [l0, some (.ref o), l2, l3] S sh mi mj mr = zRun 0 382 [l0, some (.ref o), l2, l3] (.ref o :: S) sh mi mj mr := zr_l (zD_of zk_0 d_0_381 rfl rfl) rfl rfl rfl
theorem q_0_381n : zRun 0 381 [l0, some (.null), l2, l3] S sh mi mj mr = zRun 0 382 [l0, some (.null), l2, l3] (.null :: S) sh mi mj mr := zr_l (zD_of zk_0 d_0_381 rfl rfl) rfl rfl rfl
theorem q_0_382r : zRun 0 382 [some (.ref o), l1, l2, l3] S sh mi mj mr = zRun 0 383 [some (.ref o), l1, l2, l3] (.ref o :: S) sh mi mj mr := zr_l (zD_of zk_0 d_0_382 rfl rfl) rfl rfl rfl
theorem q_0_382n : zRun 0 382 [some (.null), l1, l2, l3] S sh mi mj mr = zRun 0 383 [some (.null), l1, l2, l3] (.null :: S) sh mi mj mr := zr_l (zD_of zk_0 d_0_382 rfl rfl) rfl rfl rfl
theorem q_0_383 : zRun 0 383 [l0, l1, l2, some (.int x)] S sh mi mj mr = zRun 0 384 [l0, l1, l2, some (.int x)] (.int x :: S) sh mi mj mr := zr_l (zD_of zk_0 d_0_383 rfl rfl) rfl rfl rfl
theorem q_0_384  : zRun 0 384 L S sh mi mj mr = zRun 0 385 L (.int 1 :: S) sh mi mj mr := zr_p (zD_of zk_0 d_0_384 rfl rfl) rfl
theorem q_0_385  : zRun 0 385 L (.int y :: .int x :: S) sh mi mj mr = zRun 0 386 L (.int (x + y) :: S) sh mi mj mr := zr_p (zD_of zk_0 d_0_385 rfl rfl) rfl
theorem q_0_386 {n : Nat} (h : sh[0]? = some (99, n)) (hi : zin x n = true) : zRun 0 386 L (.int x :: .ref 0 :: S) sh mi mj mr = zRun 0 387 L (.int (mi 0 x.toNatClampNeg) :: S) sh mi mj mr := zr_sald (zD_of zk_0 d_0_386 rfl rfl) h hi
theorem q_0_387  {x0 : Int32} (hS : zcat S ≤ 8) (h : zIs sh o 0 7) : zRun 0 387 L (.int x0 :: .ref o :: S) sh mi mj mr = (zCall 88 [.ref o, .int x0] sh mi mj mr).bind fun r => zRun 0 390 L (r.1.toList ++ S) r.2.1 r.2.2.1 r.2.2.2.1 r.2.2.2.2 := zr_V (zD_of zk_0 d_0_387 rfl rfl) rfl zk_88 rfl rfl rfl hS h
theorem q_0_390r : zRun 0 390 [l0, l1, some (.ref o), l3] S sh mi mj mr = zRun 0 391 [l0, l1, some (.ref o), l3] (.ref o :: S) sh mi mj mr := zr_l (zD_of zk_0 d_0_390 rfl rfl) rfl rfl rfl
theorem q_0_390n : zRun 0 390 [l0, l1, some (.null), l3] S sh mi mj mr = zRun 0 391 [l0, l1, some (.null), l3] (.null :: S) sh mi mj mr := zr_l (zD_of zk_0 d_0_390 rfl rfl) rfl rfl rfl
theorem q_0_391r : zRun 0 391 [some (.ref o), l1, l2, l3] S sh mi mj mr = zRun 0 392 [some (.ref o), l1, l2, l3] (.ref o :: S) sh mi mj mr := zr_l (zD_of zk_0 d_0_391 rfl rfl) rfl rfl rfl
theorem q_0_391n : zRun 0 391 [some (.null), l1, l2, l3] S sh mi mj mr = zRun 0 392 [some (.null), l1, l2, l3] (.null :: S) sh mi mj mr := zr_l (zD_of zk_0 d_0_391 rfl rfl) rfl rfl rfl
theorem q_0_392 : zRun 0 392 [l0, l1, l2, some (.int x)] S sh mi mj mr = zRun 0 393 [l0, l1, l2, some (.int x)] (.int x :: S) sh mi mj mr := zr_l (zD_of zk_0 d_0_392 rfl rfl) rfl rfl rfl
theorem q_0_393  : zRun 0 393 L S sh mi mj mr = zRun 0 394 L (.int 1 :: S) sh mi mj mr := zr_p (zD_of zk_0 d_0_393 rfl rfl) rfl
theorem q_0_394  : zRun 0 394 L (.int y :: .int x :: S) sh mi mj mr = zRun 0 395 L (.int (x + y) :: S) sh mi mj mr := zr_p (zD_of zk_0 d_0_394 rfl rfl) rfl
theorem q_0_395 {n : Nat} (h : sh[0]? = some (99, n)) (hi : zin x n = true) : zRun 0 395 L (.int x :: .ref 0 :: S) sh mi mj mr = zRun 0 396 L (.int (mi 0 x.toNatClampNeg) :: S) sh mi mj mr := zr_sald (zD_of zk_0 d_0_395 rfl rfl) h hi
theorem q_0_396  {x0 : Int32} (hS : zcat S ≤ 8) (h : zIs sh o 0 8) : zRun 0 396 L (.int x0 :: .ref o :: S) sh mi mj mr = (zCall 172 [.ref o, .int x0] sh mi mj mr).bind fun r => zRun 0 399 L (r.1.toList ++ S) r.2.1 r.2.2.1 r.2.2.2.1 r.2.2.2.2 := zr_V (zD_of zk_0 d_0_396 rfl rfl) rfl zk_172 rfl rfl rfl hS h
theorem q_0_399  : zRun 0 399 L (.int y :: .int x :: S) sh mi mj mr = if x = y then zRun 0 873 L S sh mi mj mr else zRun 0 402 L S sh mi mj mr := zr_if (off := 474) (P := x = y) (zD_of zk_0 d_0_399 rfl rfl) rfl rfl (by decide)
theorem q_0_402  : zRun 0 402 L S sh mi mj mr = zRun 0 403 L (.int 0 :: S) sh mi mj mr := zr_p (zD_of zk_0 d_0_402 rfl rfl) rfl
theorem q_0_403 (h : x = 0 ∨ x = 1) : zRun 0 403 L ([.int x]) sh mi mj mr = some (some (.int x), sh, mi, mj, mr) := zr_ret (zD_of zk_0 d_0_403 rfl rfl) rfl rfl rfl rfl rfl (if_pos (zna_b h))
theorem q_0_404r : zRun 0 404 [l0, some (.ref o), l2, l3] S sh mi mj mr = zRun 0 405 [l0, some (.ref o), l2, l3] (.ref o :: S) sh mi mj mr := zr_l (zD_of zk_0 d_0_404 rfl rfl) rfl rfl rfl
theorem q_0_404n : zRun 0 404 [l0, some (.null), l2, l3] S sh mi mj mr = zRun 0 405 [l0, some (.null), l2, l3] (.null :: S) sh mi mj mr := zr_l (zD_of zk_0 d_0_404 rfl rfl) rfl rfl rfl
theorem q_0_405r : zRun 0 405 [some (.ref o), l1, l2, l3] S sh mi mj mr = zRun 0 406 [some (.ref o), l1, l2, l3] (.ref o :: S) sh mi mj mr := zr_l (zD_of zk_0 d_0_405 rfl rfl) rfl rfl rfl
theorem q_0_405n : zRun 0 405 [some (.null), l1, l2, l3] S sh mi mj mr = zRun 0 406 [some (.null), l1, l2, l3] (.null :: S) sh mi mj mr := zr_l (zD_of zk_0 d_0_405 rfl rfl) rfl rfl rfl
theorem q_0_406 : zRun 0 406 [l0, l1, l2, some (.int x)] S sh mi mj mr = zRun 0 407 [l0, l1, l2, some (.int x)] (.int x :: S) sh mi mj mr := zr_l (zD_of zk_0 d_0_406 rfl rfl) rfl rfl rfl
theorem q_0_407  : zRun 0 407 L S sh mi mj mr = zRun 0 408 L (.int 1 :: S) sh mi mj mr := zr_p (zD_of zk_0 d_0_407 rfl rfl) rfl
theorem q_0_408  : zRun 0 408 L (.int y :: .int x :: S) sh mi mj mr = zRun 0 409 L (.int (x + y) :: S) sh mi mj mr := zr_p (zD_of zk_0 d_0_408 rfl rfl) rfl
theorem q_0_409 {n : Nat} (h : sh[0]? = some (99, n)) (hi : zin x n = true) : zRun 0 409 L (.int x :: .ref 0 :: S) sh mi mj mr = zRun 0 410 L (.int (mi 0 x.toNatClampNeg) :: S) sh mi mj mr := zr_sald (zD_of zk_0 d_0_409 rfl rfl) h hi
theorem q_0_410r : zRun 0 410 [some (.ref o), l1, l2, l3] S sh mi mj mr = zRun 0 411 [some (.ref o), l1, l2, l3] (.ref o :: S) sh mi mj mr := zr_l (zD_of zk_0 d_0_410 rfl rfl) rfl rfl rfl
theorem q_0_410n : zRun 0 410 [some (.null), l1, l2, l3] S sh mi mj mr = zRun 0 411 [some (.null), l1, l2, l3] (.null :: S) sh mi mj mr := zr_l (zD_of zk_0 d_0_410 rfl rfl) rfl rfl rfl
theorem q_0_411 : zRun 0 411 [l0, l1, l2, some (.int x)] S sh mi mj mr = zRun 0 412 [l0, l1, l2, some (.int x)] (.int x :: S) sh mi mj mr := zr_l (zD_of zk_0 d_0_411 rfl rfl) rfl rfl rfl
theorem q_0_412  : zRun 0 412 L S sh mi mj mr = zRun 0 413 L (.int 2 :: S) sh mi mj mr := zr_p (zD_of zk_0 d_0_412 rfl rfl) rfl
theorem q_0_413  : zRun 0 413 L (.int y :: .int x :: S) sh mi mj mr = zRun 0 414 L (.int (x + y) :: S) sh mi mj mr := zr_p (zD_of zk_0 d_0_413 rfl rfl) rfl
theorem q_0_414 {n : Nat} (h : sh[0]? = some (99, n)) (hi : zin x n = true) : zRun 0 414 L (.int x :: .ref 0 :: S) sh mi mj mr = zRun 0 415 L (.int (mi 0 x.toNatClampNeg) :: S) sh mi mj mr := zr_sald (zD_of zk_0 d_0_414 rfl rfl) h hi
theorem q_0_415r : zRun 0 415 [some (.ref o), l1, l2, l3] S sh mi mj mr = zRun 0 416 [some (.ref o), l1, l2, l3] (.ref o :: S) sh mi mj mr := zr_l (zD_of zk_0 d_0_415 rfl rfl) rfl rfl rfl
theorem q_0_415n : zRun 0 415 [some (.null), l1, l2, l3] S sh mi mj mr = zRun 0 416 [some (.null), l1, l2, l3] (.null :: S) sh mi mj mr := zr_l (zD_of zk_0 d_0_415 rfl rfl) rfl rfl rfl
theorem q_0_416 : zRun 0 416 [l0, l1, l2, some (.int x)] S sh mi mj mr = zRun 0 417 [l0, l1, l2, some (.int x)] (.int x :: S) sh mi mj mr := zr_l (zD_of zk_0 d_0_416 rfl rfl) rfl rfl rfl
theorem q_0_417  : zRun 0 417 L S sh mi mj mr = zRun 0 418 L (.int 3 :: S) sh mi mj mr := zr_p (zD_of zk_0 d_0_417 rfl rfl) rfl
theorem q_0_418  : zRun 0 418 L (.int y :: .int x :: S) sh mi mj mr = zRun 0 419 L (.int (x + y) :: S) sh mi mj mr := zr_p (zD_of zk_0 d_0_418 rfl rfl) rfl
theorem q_0_419 {n : Nat} (h : sh[0]? = some (99, n)) (hi : zin x n = true) : zRun 0 419 L (.int x :: .ref 0 :: S) sh mi mj mr = zRun 0 420 L (.int (mi 0 x.toNatClampNeg) :: S) sh mi mj mr := zr_sald (zD_of zk_0 d_0_419 rfl rfl) h hi
theorem q_0_420  {x0 x1 x2 : Int32} (hS : zcat S ≤ 8) (h : zIs sh o 0 7) : zRun 0 420 L (.int x2 :: .int x1 :: .int x0 :: .ref o :: S) sh mi mj mr = (zCall 89 [.ref o, .int x0, .int x1, .int x2] sh mi mj mr).bind fun r => zRun 0 423 L (r.1.toList ++ S) r.2.1 r.2.2.1 r.2.2.2.1 r.2.2.2.2 := zr_V (zD_of zk_0 d_0_420 rfl rfl) rfl zk_89 rfl rfl rfl hS h
theorem q_0_423r : zRun 0 423 [l0, l1, some (.ref o), l3] S sh mi mj mr = zRun 0 424 [l0, l1, some (.ref o), l3] (.ref o :: S) sh mi mj mr := zr_l (zD_of zk_0 d_0_423 rfl rfl) rfl rfl rfl
theorem q_0_423n : zRun 0 423 [l0, l1, some (.null), l3] S sh mi mj mr = zRun 0 424 [l0, l1, some (.null), l3] (.null :: S) sh mi mj mr := zr_l (zD_of zk_0 d_0_423 rfl rfl) rfl rfl rfl
theorem q_0_424r : zRun 0 424 [some (.ref o), l1, l2, l3] S sh mi mj mr = zRun 0 425 [some (.ref o), l1, l2, l3] (.ref o :: S) sh mi mj mr := zr_l (zD_of zk_0 d_0_424 rfl rfl) rfl rfl rfl
theorem q_0_424n : zRun 0 424 [some (.null), l1, l2, l3] S sh mi mj mr = zRun 0 425 [some (.null), l1, l2, l3] (.null :: S) sh mi mj mr := zr_l (zD_of zk_0 d_0_424 rfl rfl) rfl rfl rfl
theorem q_0_425 : zRun 0 425 [l0, l1, l2, some (.int x)] S sh mi mj mr = zRun 0 426 [l0, l1, l2, some (.int x)] (.int x :: S) sh mi mj mr := zr_l (zD_of zk_0 d_0_425 rfl rfl) rfl rfl rfl
theorem q_0_426  : zRun 0 426 L S sh mi mj mr = zRun 0 427 L (.int 1 :: S) sh mi mj mr := zr_p (zD_of zk_0 d_0_426 rfl rfl) rfl
theorem q_0_427  : zRun 0 427 L (.int y :: .int x :: S) sh mi mj mr = zRun 0 428 L (.int (x + y) :: S) sh mi mj mr := zr_p (zD_of zk_0 d_0_427 rfl rfl) rfl
theorem q_0_428 {n : Nat} (h : sh[0]? = some (99, n)) (hi : zin x n = true) : zRun 0 428 L (.int x :: .ref 0 :: S) sh mi mj mr = zRun 0 429 L (.int (mi 0 x.toNatClampNeg) :: S) sh mi mj mr := zr_sald (zD_of zk_0 d_0_428 rfl rfl) h hi
theorem q_0_429r : zRun 0 429 [some (.ref o), l1, l2, l3] S sh mi mj mr = zRun 0 430 [some (.ref o), l1, l2, l3] (.ref o :: S) sh mi mj mr := zr_l (zD_of zk_0 d_0_429 rfl rfl) rfl rfl rfl
theorem q_0_429n : zRun 0 429 [some (.null), l1, l2, l3] S sh mi mj mr = zRun 0 430 [some (.null), l1, l2, l3] (.null :: S) sh mi mj mr := zr_l (zD_of zk_0 d_0_429 rfl rfl) rfl rfl rfl
theorem q_0_430 : zRun 0 430 [l0, l1, l2, some (.int x)] S sh mi mj mr = zRun 0 431 [l0, l1, l2, some (.int x)] (.int x :: S) sh mi mj mr := zr_l (zD_of zk_0 d_0_430 rfl rfl) rfl rfl rfl
theorem q_0_431  : zRun 0 431 L S sh mi mj mr = zRun 0 432 L (.int 2 :: S) sh mi mj mr := zr_p (zD_of zk_0 d_0_431 rfl rfl) rfl
theorem q_0_432  : zRun 0 432 L (.int y :: .int x :: S) sh mi mj mr = zRun 0 433 L (.int (x + y) :: S) sh mi mj mr := zr_p (zD_of zk_0 d_0_432 rfl rfl) rfl
theorem q_0_433 {n : Nat} (h : sh[0]? = some (99, n)) (hi : zin x n = true) : zRun 0 433 L (.int x :: .ref 0 :: S) sh mi mj mr = zRun 0 434 L (.int (mi 0 x.toNatClampNeg) :: S) sh mi mj mr := zr_sald (zD_of zk_0 d_0_433 rfl rfl) h hi
theorem q_0_434r : zRun 0 434 [some (.ref o), l1, l2, l3] S sh mi mj mr = zRun 0 435 [some (.ref o), l1, l2, l3] (.ref o :: S) sh mi mj mr := zr_l (zD_of zk_0 d_0_434 rfl rfl) rfl rfl rfl
theorem q_0_434n : zRun 0 434 [some (.null), l1, l2, l3] S sh mi mj mr = zRun 0 435 [some (.null), l1, l2, l3] (.null :: S) sh mi mj mr := zr_l (zD_of zk_0 d_0_434 rfl rfl) rfl rfl rfl
theorem q_0_435 : zRun 0 435 [l0, l1, l2, some (.int x)] S sh mi mj mr = zRun 0 436 [l0, l1, l2, some (.int x)] (.int x :: S) sh mi mj mr := zr_l (zD_of zk_0 d_0_435 rfl rfl) rfl rfl rfl
theorem q_0_436  : zRun 0 436 L S sh mi mj mr = zRun 0 437 L (.int 3 :: S) sh mi mj mr := zr_p (zD_of zk_0 d_0_436 rfl rfl) rfl
theorem q_0_437  : zRun 0 437 L (.int y :: .int x :: S) sh mi mj mr = zRun 0 438 L (.int (x + y) :: S) sh mi mj mr := zr_p (zD_of zk_0 d_0_437 rfl rfl) rfl
theorem q_0_438 {n : Nat} (h : sh[0]? = some (99, n)) (hi : zin x n = true) : zRun 0 438 L (.int x :: .ref 0 :: S) sh mi mj mr = zRun 0 439 L (.int (mi 0 x.toNatClampNeg) :: S) sh mi mj mr := zr_sald (zD_of zk_0 d_0_438 rfl rfl) h hi
theorem q_0_439  {x0 x1 x2 : Int32} (hS : zcat S ≤ 8) (h : zIs sh o 0 8) : zRun 0 439 L (.int x2 :: .int x1 :: .int x0 :: .ref o :: S) sh mi mj mr = (zCall 173 [.ref o, .int x0, .int x1, .int x2] sh mi mj mr).bind fun r => zRun 0 442 L (r.1.toList ++ S) r.2.1 r.2.2.1 r.2.2.2.1 r.2.2.2.2 := zr_V (zD_of zk_0 d_0_439 rfl rfl) rfl zk_173 rfl rfl rfl hS h
theorem q_0_442  : zRun 0 442 L (.long v :: .long u :: S) sh mi mj mr = if u = v then zRun 0 873 L S sh mi mj mr else zRun 0 446 L S sh mi mj mr := zr_cmp (off := 430) (zD_of zk_0 d_0_442 rfl rfl) (zD_of zk_0 d_0_443 rfl rfl) rfl rfl (by decide) (lg_cmp_eq u v)
theorem q_0_443  : zRun 0 443 L (.int x :: S) sh mi mj mr = if x = 0 then zRun 0 873 L S sh mi mj mr else zRun 0 446 L S sh mi mj mr := zr_if (off := 430) (P := x = 0) (zD_of zk_0 d_0_443 rfl rfl) rfl rfl (by decide)
theorem q_0_446  : zRun 0 446 L S sh mi mj mr = zRun 0 447 L (.int 0 :: S) sh mi mj mr := zr_p (zD_of zk_0 d_0_446 rfl rfl) rfl
theorem q_0_447 (h : x = 0 ∨ x = 1) : zRun 0 447 L ([.int x]) sh mi mj mr = some (some (.int x), sh, mi, mj, mr) := zr_ret (zD_of zk_0 d_0_447 rfl rfl) rfl rfl rfl rfl rfl (if_pos (zna_b h))
theorem q_0_448r : zRun 0 448 [l0, some (.ref o), l2, l3] S sh mi mj mr = zRun 0 449 [l0, some (.ref o), l2, l3] (.ref o :: S) sh mi mj mr := zr_l (zD_of zk_0 d_0_448 rfl rfl) rfl rfl rfl
theorem q_0_448n : zRun 0 448 [l0, some (.null), l2, l3] S sh mi mj mr = zRun 0 449 [l0, some (.null), l2, l3] (.null :: S) sh mi mj mr := zr_l (zD_of zk_0 d_0_448 rfl rfl) rfl rfl rfl
theorem q_0_449r : zRun 0 449 [some (.ref o), l1, l2, l3] S sh mi mj mr = zRun 0 450 [some (.ref o), l1, l2, l3] (.ref o :: S) sh mi mj mr := zr_l (zD_of zk_0 d_0_449 rfl rfl) rfl rfl rfl
theorem q_0_449n : zRun 0 449 [some (.null), l1, l2, l3] S sh mi mj mr = zRun 0 450 [some (.null), l1, l2, l3] (.null :: S) sh mi mj mr := zr_l (zD_of zk_0 d_0_449 rfl rfl) rfl rfl rfl
theorem q_0_450 : zRun 0 450 [l0, l1, l2, some (.int x)] S sh mi mj mr = zRun 0 451 [l0, l1, l2, some (.int x)] (.int x :: S) sh mi mj mr := zr_l (zD_of zk_0 d_0_450 rfl rfl) rfl rfl rfl
theorem q_0_451  : zRun 0 451 L S sh mi mj mr = zRun 0 452 L (.int 1 :: S) sh mi mj mr := zr_p (zD_of zk_0 d_0_451 rfl rfl) rfl
theorem q_0_452  : zRun 0 452 L (.int y :: .int x :: S) sh mi mj mr = zRun 0 453 L (.int (x + y) :: S) sh mi mj mr := zr_p (zD_of zk_0 d_0_452 rfl rfl) rfl
theorem q_0_453 {n : Nat} (h : sh[0]? = some (99, n)) (hi : zin x n = true) : zRun 0 453 L (.int x :: .ref 0 :: S) sh mi mj mr = zRun 0 454 L (.int (mi 0 x.toNatClampNeg) :: S) sh mi mj mr := zr_sald (zD_of zk_0 d_0_453 rfl rfl) h hi
theorem q_0_454r : zRun 0 454 [some (.ref o), l1, l2, l3] S sh mi mj mr = zRun 0 455 [some (.ref o), l1, l2, l3] (.ref o :: S) sh mi mj mr := zr_l (zD_of zk_0 d_0_454 rfl rfl) rfl rfl rfl
theorem q_0_454n : zRun 0 454 [some (.null), l1, l2, l3] S sh mi mj mr = zRun 0 455 [some (.null), l1, l2, l3] (.null :: S) sh mi mj mr := zr_l (zD_of zk_0 d_0_454 rfl rfl) rfl rfl rfl
theorem q_0_455 : zRun 0 455 [l0, l1, l2, some (.int x)] S sh mi mj mr = zRun 0 456 [l0, l1, l2, some (.int x)] (.int x :: S) sh mi mj mr := zr_l (zD_of zk_0 d_0_455 rfl rfl) rfl rfl rfl
theorem q_0_456  : zRun 0 456 L S sh mi mj mr = zRun 0 457 L (.int 2 :: S) sh mi mj mr := zr_p (zD_of zk_0 d_0_456 rfl rfl) rfl
theorem q_0_457  : zRun 0 457 L (.int y :: .int x :: S) sh mi mj mr = zRun 0 458 L (.int (x + y) :: S) sh mi mj mr := zr_p (zD_of zk_0 d_0_457 rfl rfl) rfl
theorem q_0_458 {n : Nat} (h : sh[0]? = some (99, n)) (hi : zin x n = true) : zRun 0 458 L (.int x :: .ref 0 :: S) sh mi mj mr = zRun 0 459 L (.int (mi 0 x.toNatClampNeg) :: S) sh mi mj mr := zr_sald (zD_of zk_0 d_0_458 rfl rfl) h hi
theorem q_0_459  {x0 x1 : Int32} (hS : zcat S ≤ 8) (h : zIs sh o 0 7) : zRun 0 459 L (.int x1 :: .int x0 :: .ref o :: S) sh mi mj mr = (zCall 90 [.ref o, .int x0, .int x1] sh mi mj mr).bind fun r => zRun 0 462 L (r.1.toList ++ S) r.2.1 r.2.2.1 r.2.2.2.1 r.2.2.2.2 := zr_V (zD_of zk_0 d_0_459 rfl rfl) rfl zk_90 rfl rfl rfl hS h
theorem q_0_462r : zRun 0 462 [l0, l1, some (.ref o), l3] S sh mi mj mr = zRun 0 463 [l0, l1, some (.ref o), l3] (.ref o :: S) sh mi mj mr := zr_l (zD_of zk_0 d_0_462 rfl rfl) rfl rfl rfl
theorem q_0_462n : zRun 0 462 [l0, l1, some (.null), l3] S sh mi mj mr = zRun 0 463 [l0, l1, some (.null), l3] (.null :: S) sh mi mj mr := zr_l (zD_of zk_0 d_0_462 rfl rfl) rfl rfl rfl
theorem q_0_463r : zRun 0 463 [some (.ref o), l1, l2, l3] S sh mi mj mr = zRun 0 464 [some (.ref o), l1, l2, l3] (.ref o :: S) sh mi mj mr := zr_l (zD_of zk_0 d_0_463 rfl rfl) rfl rfl rfl
theorem q_0_463n : zRun 0 463 [some (.null), l1, l2, l3] S sh mi mj mr = zRun 0 464 [some (.null), l1, l2, l3] (.null :: S) sh mi mj mr := zr_l (zD_of zk_0 d_0_463 rfl rfl) rfl rfl rfl
theorem q_0_464 : zRun 0 464 [l0, l1, l2, some (.int x)] S sh mi mj mr = zRun 0 465 [l0, l1, l2, some (.int x)] (.int x :: S) sh mi mj mr := zr_l (zD_of zk_0 d_0_464 rfl rfl) rfl rfl rfl
theorem q_0_465  : zRun 0 465 L S sh mi mj mr = zRun 0 466 L (.int 1 :: S) sh mi mj mr := zr_p (zD_of zk_0 d_0_465 rfl rfl) rfl
theorem q_0_466  : zRun 0 466 L (.int y :: .int x :: S) sh mi mj mr = zRun 0 467 L (.int (x + y) :: S) sh mi mj mr := zr_p (zD_of zk_0 d_0_466 rfl rfl) rfl
theorem q_0_467 {n : Nat} (h : sh[0]? = some (99, n)) (hi : zin x n = true) : zRun 0 467 L (.int x :: .ref 0 :: S) sh mi mj mr = zRun 0 468 L (.int (mi 0 x.toNatClampNeg) :: S) sh mi mj mr := zr_sald (zD_of zk_0 d_0_467 rfl rfl) h hi
theorem q_0_468r : zRun 0 468 [some (.ref o), l1, l2, l3] S sh mi mj mr = zRun 0 469 [some (.ref o), l1, l2, l3] (.ref o :: S) sh mi mj mr := zr_l (zD_of zk_0 d_0_468 rfl rfl) rfl rfl rfl
theorem q_0_468n : zRun 0 468 [some (.null), l1, l2, l3] S sh mi mj mr = zRun 0 469 [some (.null), l1, l2, l3] (.null :: S) sh mi mj mr := zr_l (zD_of zk_0 d_0_468 rfl rfl) rfl rfl rfl
theorem q_0_469 : zRun 0 469 [l0, l1, l2, some (.int x)] S sh mi mj mr = zRun 0 470 [l0, l1, l2, some (.int x)] (.int x :: S) sh mi mj mr := zr_l (zD_of zk_0 d_0_469 rfl rfl) rfl rfl rfl
theorem q_0_470  : zRun 0 470 L S sh mi mj mr = zRun 0 471 L (.int 2 :: S) sh mi mj mr := zr_p (zD_of zk_0 d_0_470 rfl rfl) rfl
theorem q_0_471  : zRun 0 471 L (.int y :: .int x :: S) sh mi mj mr = zRun 0 472 L (.int (x + y) :: S) sh mi mj mr := zr_p (zD_of zk_0 d_0_471 rfl rfl) rfl
theorem q_0_472 {n : Nat} (h : sh[0]? = some (99, n)) (hi : zin x n = true) : zRun 0 472 L (.int x :: .ref 0 :: S) sh mi mj mr = zRun 0 473 L (.int (mi 0 x.toNatClampNeg) :: S) sh mi mj mr := zr_sald (zD_of zk_0 d_0_472 rfl rfl) h hi
theorem q_0_473  {x0 x1 : Int32} (hS : zcat S ≤ 8) (h : zIs sh o 0 8) : zRun 0 473 L (.int x1 :: .int x0 :: .ref o :: S) sh mi mj mr = (zCall 174 [.ref o, .int x0, .int x1] sh mi mj mr).bind fun r => zRun 0 476 L (r.1.toList ++ S) r.2.1 r.2.2.1 r.2.2.2.1 r.2.2.2.2 := zr_V (zD_of zk_0 d_0_473 rfl rfl) rfl zk_174 rfl rfl rfl hS h
theorem q_0_476  : zRun 0 476 L (.long v :: .long u :: S) sh mi mj mr = if u = v then zRun 0 873 L S sh mi mj mr else zRun 0 480 L S sh mi mj mr := zr_cmp (off := 396) (zD_of zk_0 d_0_476 rfl rfl) (zD_of zk_0 d_0_477 rfl rfl) rfl rfl (by decide) (lg_cmp_eq u v)
theorem q_0_477  : zRun 0 477 L (.int x :: S) sh mi mj mr = if x = 0 then zRun 0 873 L S sh mi mj mr else zRun 0 480 L S sh mi mj mr := zr_if (off := 396) (P := x = 0) (zD_of zk_0 d_0_477 rfl rfl) rfl rfl (by decide)
theorem q_0_480  : zRun 0 480 L S sh mi mj mr = zRun 0 481 L (.int 0 :: S) sh mi mj mr := zr_p (zD_of zk_0 d_0_480 rfl rfl) rfl
theorem q_0_481 (h : x = 0 ∨ x = 1) : zRun 0 481 L ([.int x]) sh mi mj mr = some (some (.int x), sh, mi, mj, mr) := zr_ret (zD_of zk_0 d_0_481 rfl rfl) rfl rfl rfl rfl rfl (if_pos (zna_b h))
theorem q_0_482r : zRun 0 482 [l0, some (.ref o), l2, l3] S sh mi mj mr = zRun 0 483 [l0, some (.ref o), l2, l3] (.ref o :: S) sh mi mj mr := zr_l (zD_of zk_0 d_0_482 rfl rfl) rfl rfl rfl
theorem q_0_482n : zRun 0 482 [l0, some (.null), l2, l3] S sh mi mj mr = zRun 0 483 [l0, some (.null), l2, l3] (.null :: S) sh mi mj mr := zr_l (zD_of zk_0 d_0_482 rfl rfl) rfl rfl rfl
theorem q_0_483r : zRun 0 483 [some (.ref o), l1, l2, l3] S sh mi mj mr = zRun 0 484 [some (.ref o), l1, l2, l3] (.ref o :: S) sh mi mj mr := zr_l (zD_of zk_0 d_0_483 rfl rfl) rfl rfl rfl
theorem q_0_483n : zRun 0 483 [some (.null), l1, l2, l3] S sh mi mj mr = zRun 0 484 [some (.null), l1, l2, l3] (.null :: S) sh mi mj mr := zr_l (zD_of zk_0 d_0_483 rfl rfl) rfl rfl rfl
theorem q_0_484 : zRun 0 484 [l0, l1, l2, some (.int x)] S sh mi mj mr = zRun 0 485 [l0, l1, l2, some (.int x)] (.int x :: S) sh mi mj mr := zr_l (zD_of zk_0 d_0_484 rfl rfl) rfl rfl rfl
theorem q_0_485  : zRun 0 485 L S sh mi mj mr = zRun 0 486 L (.int 1 :: S) sh mi mj mr := zr_p (zD_of zk_0 d_0_485 rfl rfl) rfl
theorem q_0_486  : zRun 0 486 L (.int y :: .int x :: S) sh mi mj mr = zRun 0 487 L (.int (x + y) :: S) sh mi mj mr := zr_p (zD_of zk_0 d_0_486 rfl rfl) rfl
theorem q_0_487 {n : Nat} (h : sh[0]? = some (99, n)) (hi : zin x n = true) : zRun 0 487 L (.int x :: .ref 0 :: S) sh mi mj mr = zRun 0 488 L (.int (mi 0 x.toNatClampNeg) :: S) sh mi mj mr := zr_sald (zD_of zk_0 d_0_487 rfl rfl) h hi
theorem q_0_488r : zRun 0 488 [some (.ref o), l1, l2, l3] S sh mi mj mr = zRun 0 489 [some (.ref o), l1, l2, l3] (.ref o :: S) sh mi mj mr := zr_l (zD_of zk_0 d_0_488 rfl rfl) rfl rfl rfl
theorem q_0_488n : zRun 0 488 [some (.null), l1, l2, l3] S sh mi mj mr = zRun 0 489 [some (.null), l1, l2, l3] (.null :: S) sh mi mj mr := zr_l (zD_of zk_0 d_0_488 rfl rfl) rfl rfl rfl
theorem q_0_489 : zRun 0 489 [l0, l1, l2, some (.int x)] S sh mi mj mr = zRun 0 490 [l0, l1, l2, some (.int x)] (.int x :: S) sh mi mj mr := zr_l (zD_of zk_0 d_0_489 rfl rfl) rfl rfl rfl
theorem q_0_490  : zRun 0 490 L S sh mi mj mr = zRun 0 491 L (.int 2 :: S) sh mi mj mr := zr_p (zD_of zk_0 d_0_490 rfl rfl) rfl
theorem q_0_491  : zRun 0 491 L (.int y :: .int x :: S) sh mi mj mr = zRun 0 492 L (.int (x + y) :: S) sh mi mj mr := zr_p (zD_of zk_0 d_0_491 rfl rfl) rfl
theorem q_0_492 {n : Nat} (h : sh[0]? = some (99, n)) (hi : zin x n = true) : zRun 0 492 L (.int x :: .ref 0 :: S) sh mi mj mr = zRun 0 493 L (.int (mi 0 x.toNatClampNeg) :: S) sh mi mj mr := zr_sald (zD_of zk_0 d_0_492 rfl rfl) h hi
theorem q_0_493r : zRun 0 493 [some (.ref o), l1, l2, l3] S sh mi mj mr = zRun 0 494 [some (.ref o), l1, l2, l3] (.ref o :: S) sh mi mj mr := zr_l (zD_of zk_0 d_0_493 rfl rfl) rfl rfl rfl
theorem q_0_493n : zRun 0 493 [some (.null), l1, l2, l3] S sh mi mj mr = zRun 0 494 [some (.null), l1, l2, l3] (.null :: S) sh mi mj mr := zr_l (zD_of zk_0 d_0_493 rfl rfl) rfl rfl rfl
theorem q_0_494 : zRun 0 494 [l0, l1, l2, some (.int x)] S sh mi mj mr = zRun 0 495 [l0, l1, l2, some (.int x)] (.int x :: S) sh mi mj mr := zr_l (zD_of zk_0 d_0_494 rfl rfl) rfl rfl rfl
theorem q_0_495  : zRun 0 495 L S sh mi mj mr = zRun 0 496 L (.int 3 :: S) sh mi mj mr := zr_p (zD_of zk_0 d_0_495 rfl rfl) rfl
theorem q_0_496  : zRun 0 496 L (.int y :: .int x :: S) sh mi mj mr = zRun 0 497 L (.int (x + y) :: S) sh mi mj mr := zr_p (zD_of zk_0 d_0_496 rfl rfl) rfl
theorem q_0_497 {n : Nat} (h : sh[0]? = some (99, n)) (hi : zin x n = true) : zRun 0 497 L (.int x :: .ref 0 :: S) sh mi mj mr = zRun 0 498 L (.int (mi 0 x.toNatClampNeg) :: S) sh mi mj mr := zr_sald (zD_of zk_0 d_0_497 rfl rfl) h hi
theorem q_0_498  {x0 x1 x2 : Int32} (hS : zcat S ≤ 8) (h : zIs sh o 0 7) : zRun 0 498 L (.int x2 :: .int x1 :: .int x0 :: .ref o :: S) sh mi mj mr = (zCall 91 [.ref o, .int x0, .int x1, .int x2] sh mi mj mr).bind fun r => zRun 0 501 L (r.1.toList ++ S) r.2.1 r.2.2.1 r.2.2.2.1 r.2.2.2.2 := zr_V (zD_of zk_0 d_0_498 rfl rfl) rfl zk_91 rfl rfl rfl hS h
theorem q_0_501r : zRun 0 501 [l0, l1, some (.ref o), l3] S sh mi mj mr = zRun 0 502 [l0, l1, some (.ref o), l3] (.ref o :: S) sh mi mj mr := zr_l (zD_of zk_0 d_0_501 rfl rfl) rfl rfl rfl
theorem q_0_501n : zRun 0 501 [l0, l1, some (.null), l3] S sh mi mj mr = zRun 0 502 [l0, l1, some (.null), l3] (.null :: S) sh mi mj mr := zr_l (zD_of zk_0 d_0_501 rfl rfl) rfl rfl rfl
theorem q_0_502r : zRun 0 502 [some (.ref o), l1, l2, l3] S sh mi mj mr = zRun 0 503 [some (.ref o), l1, l2, l3] (.ref o :: S) sh mi mj mr := zr_l (zD_of zk_0 d_0_502 rfl rfl) rfl rfl rfl
theorem q_0_502n : zRun 0 502 [some (.null), l1, l2, l3] S sh mi mj mr = zRun 0 503 [some (.null), l1, l2, l3] (.null :: S) sh mi mj mr := zr_l (zD_of zk_0 d_0_502 rfl rfl) rfl rfl rfl
theorem q_0_503 : zRun 0 503 [l0, l1, l2, some (.int x)] S sh mi mj mr = zRun 0 504 [l0, l1, l2, some (.int x)] (.int x :: S) sh mi mj mr := zr_l (zD_of zk_0 d_0_503 rfl rfl) rfl rfl rfl
theorem q_0_504  : zRun 0 504 L S sh mi mj mr = zRun 0 505 L (.int 1 :: S) sh mi mj mr := zr_p (zD_of zk_0 d_0_504 rfl rfl) rfl
theorem q_0_505  : zRun 0 505 L (.int y :: .int x :: S) sh mi mj mr = zRun 0 506 L (.int (x + y) :: S) sh mi mj mr := zr_p (zD_of zk_0 d_0_505 rfl rfl) rfl
theorem q_0_506 {n : Nat} (h : sh[0]? = some (99, n)) (hi : zin x n = true) : zRun 0 506 L (.int x :: .ref 0 :: S) sh mi mj mr = zRun 0 507 L (.int (mi 0 x.toNatClampNeg) :: S) sh mi mj mr := zr_sald (zD_of zk_0 d_0_506 rfl rfl) h hi
theorem q_0_507r : zRun 0 507 [some (.ref o), l1, l2, l3] S sh mi mj mr = zRun 0 508 [some (.ref o), l1, l2, l3] (.ref o :: S) sh mi mj mr := zr_l (zD_of zk_0 d_0_507 rfl rfl) rfl rfl rfl
theorem q_0_507n : zRun 0 507 [some (.null), l1, l2, l3] S sh mi mj mr = zRun 0 508 [some (.null), l1, l2, l3] (.null :: S) sh mi mj mr := zr_l (zD_of zk_0 d_0_507 rfl rfl) rfl rfl rfl
theorem q_0_508 : zRun 0 508 [l0, l1, l2, some (.int x)] S sh mi mj mr = zRun 0 509 [l0, l1, l2, some (.int x)] (.int x :: S) sh mi mj mr := zr_l (zD_of zk_0 d_0_508 rfl rfl) rfl rfl rfl
theorem q_0_509  : zRun 0 509 L S sh mi mj mr = zRun 0 510 L (.int 2 :: S) sh mi mj mr := zr_p (zD_of zk_0 d_0_509 rfl rfl) rfl
theorem q_0_510  : zRun 0 510 L (.int y :: .int x :: S) sh mi mj mr = zRun 0 511 L (.int (x + y) :: S) sh mi mj mr := zr_p (zD_of zk_0 d_0_510 rfl rfl) rfl
theorem q_0_511 {n : Nat} (h : sh[0]? = some (99, n)) (hi : zin x n = true) : zRun 0 511 L (.int x :: .ref 0 :: S) sh mi mj mr = zRun 0 512 L (.int (mi 0 x.toNatClampNeg) :: S) sh mi mj mr := zr_sald (zD_of zk_0 d_0_511 rfl rfl) h hi
theorem q_0_512r : zRun 0 512 [some (.ref o), l1, l2, l3] S sh mi mj mr = zRun 0 513 [some (.ref o), l1, l2, l3] (.ref o :: S) sh mi mj mr := zr_l (zD_of zk_0 d_0_512 rfl rfl) rfl rfl rfl
theorem q_0_512n : zRun 0 512 [some (.null), l1, l2, l3] S sh mi mj mr = zRun 0 513 [some (.null), l1, l2, l3] (.null :: S) sh mi mj mr := zr_l (zD_of zk_0 d_0_512 rfl rfl) rfl rfl rfl
theorem q_0_513 : zRun 0 513 [l0, l1, l2, some (.int x)] S sh mi mj mr = zRun 0 514 [l0, l1, l2, some (.int x)] (.int x :: S) sh mi mj mr := zr_l (zD_of zk_0 d_0_513 rfl rfl) rfl rfl rfl
theorem q_0_514  : zRun 0 514 L S sh mi mj mr = zRun 0 515 L (.int 3 :: S) sh mi mj mr := zr_p (zD_of zk_0 d_0_514 rfl rfl) rfl
theorem q_0_515  : zRun 0 515 L (.int y :: .int x :: S) sh mi mj mr = zRun 0 516 L (.int (x + y) :: S) sh mi mj mr := zr_p (zD_of zk_0 d_0_515 rfl rfl) rfl
theorem q_0_516 {n : Nat} (h : sh[0]? = some (99, n)) (hi : zin x n = true) : zRun 0 516 L (.int x :: .ref 0 :: S) sh mi mj mr = zRun 0 517 L (.int (mi 0 x.toNatClampNeg) :: S) sh mi mj mr := zr_sald (zD_of zk_0 d_0_516 rfl rfl) h hi
theorem q_0_517  {x0 x1 x2 : Int32} (hS : zcat S ≤ 8) (h : zIs sh o 0 8) : zRun 0 517 L (.int x2 :: .int x1 :: .int x0 :: .ref o :: S) sh mi mj mr = (zCall 175 [.ref o, .int x0, .int x1, .int x2] sh mi mj mr).bind fun r => zRun 0 520 L (r.1.toList ++ S) r.2.1 r.2.2.1 r.2.2.2.1 r.2.2.2.2 := zr_V (zD_of zk_0 d_0_517 rfl rfl) rfl zk_175 rfl rfl rfl hS h
theorem q_0_520  : zRun 0 520 L (.long v :: .long u :: S) sh mi mj mr = if u = v then zRun 0 873 L S sh mi mj mr else zRun 0 524 L S sh mi mj mr := zr_cmp (off := 352) (zD_of zk_0 d_0_520 rfl rfl) (zD_of zk_0 d_0_521 rfl rfl) rfl rfl (by decide) (lg_cmp_eq u v)
theorem q_0_521  : zRun 0 521 L (.int x :: S) sh mi mj mr = if x = 0 then zRun 0 873 L S sh mi mj mr else zRun 0 524 L S sh mi mj mr := zr_if (off := 352) (P := x = 0) (zD_of zk_0 d_0_521 rfl rfl) rfl rfl (by decide)
theorem q_0_524  : zRun 0 524 L S sh mi mj mr = zRun 0 525 L (.int 0 :: S) sh mi mj mr := zr_p (zD_of zk_0 d_0_524 rfl rfl) rfl
theorem q_0_525 (h : x = 0 ∨ x = 1) : zRun 0 525 L ([.int x]) sh mi mj mr = some (some (.int x), sh, mi, mj, mr) := zr_ret (zD_of zk_0 d_0_525 rfl rfl) rfl rfl rfl rfl rfl (if_pos (zna_b h))
theorem q_0_526r : zRun 0 526 [l0, some (.ref o), l2, l3] S sh mi mj mr = zRun 0 527 [l0, some (.ref o), l2, l3] (.ref o :: S) sh mi mj mr := zr_l (zD_of zk_0 d_0_526 rfl rfl) rfl rfl rfl
theorem q_0_526n : zRun 0 526 [l0, some (.null), l2, l3] S sh mi mj mr = zRun 0 527 [l0, some (.null), l2, l3] (.null :: S) sh mi mj mr := zr_l (zD_of zk_0 d_0_526 rfl rfl) rfl rfl rfl
theorem q_0_527r : zRun 0 527 [some (.ref o), l1, l2, l3] S sh mi mj mr = zRun 0 528 [some (.ref o), l1, l2, l3] (.ref o :: S) sh mi mj mr := zr_l (zD_of zk_0 d_0_527 rfl rfl) rfl rfl rfl
theorem q_0_527n : zRun 0 527 [some (.null), l1, l2, l3] S sh mi mj mr = zRun 0 528 [some (.null), l1, l2, l3] (.null :: S) sh mi mj mr := zr_l (zD_of zk_0 d_0_527 rfl rfl) rfl rfl rfl
theorem q_0_528 : zRun 0 528 [l0, l1, l2, some (.int x)] S sh mi mj mr = zRun 0 529 [l0, l1, l2, some (.int x)] (.int x :: S) sh mi mj mr := zr_l (zD_of zk_0 d_0_528 rfl rfl) rfl rfl rfl
theorem q_0_529  : zRun 0 529 L S sh mi mj mr = zRun 0 530 L (.int 1 :: S) sh mi mj mr := zr_p (zD_of zk_0 d_0_529 rfl rfl) rfl
theorem q_0_530  : zRun 0 530 L (.int y :: .int x :: S) sh mi mj mr = zRun 0 531 L (.int (x + y) :: S) sh mi mj mr := zr_p (zD_of zk_0 d_0_530 rfl rfl) rfl
theorem q_0_531 {n : Nat} (h : sh[0]? = some (99, n)) (hi : zin x n = true) : zRun 0 531 L (.int x :: .ref 0 :: S) sh mi mj mr = zRun 0 532 L (.int (mi 0 x.toNatClampNeg) :: S) sh mi mj mr := zr_sald (zD_of zk_0 d_0_531 rfl rfl) h hi
theorem q_0_532  {x0 : Int32} (hS : zcat S ≤ 8) (h : zIs sh o 0 7) : zRun 0 532 L (.int x0 :: .ref o :: S) sh mi mj mr = (zCall 92 [.ref o, .int x0] sh mi mj mr).bind fun r => zRun 0 535 L (r.1.toList ++ S) r.2.1 r.2.2.1 r.2.2.2.1 r.2.2.2.2 := zr_V (zD_of zk_0 d_0_532 rfl rfl) rfl zk_92 rfl rfl rfl hS h
theorem q_0_535r : zRun 0 535 [l0, l1, some (.ref o), l3] S sh mi mj mr = zRun 0 536 [l0, l1, some (.ref o), l3] (.ref o :: S) sh mi mj mr := zr_l (zD_of zk_0 d_0_535 rfl rfl) rfl rfl rfl
theorem q_0_535n : zRun 0 535 [l0, l1, some (.null), l3] S sh mi mj mr = zRun 0 536 [l0, l1, some (.null), l3] (.null :: S) sh mi mj mr := zr_l (zD_of zk_0 d_0_535 rfl rfl) rfl rfl rfl
theorem q_0_536r : zRun 0 536 [some (.ref o), l1, l2, l3] S sh mi mj mr = zRun 0 537 [some (.ref o), l1, l2, l3] (.ref o :: S) sh mi mj mr := zr_l (zD_of zk_0 d_0_536 rfl rfl) rfl rfl rfl
theorem q_0_536n : zRun 0 536 [some (.null), l1, l2, l3] S sh mi mj mr = zRun 0 537 [some (.null), l1, l2, l3] (.null :: S) sh mi mj mr := zr_l (zD_of zk_0 d_0_536 rfl rfl) rfl rfl rfl
theorem q_0_537 : zRun 0 537 [l0, l1, l2, some (.int x)] S sh mi mj mr = zRun 0 538 [l0, l1, l2, some (.int x)] (.int x :: S) sh mi mj mr := zr_l (zD_of zk_0 d_0_537 rfl rfl) rfl rfl rfl
theorem q_0_538  : zRun 0 538 L S sh mi mj mr = zRun 0 539 L (.int 1 :: S) sh mi mj mr := zr_p (zD_of zk_0 d_0_538 rfl rfl) rfl
theorem q_0_539  : zRun 0 539 L (.int y :: .int x :: S) sh mi mj mr = zRun 0 540 L (.int (x + y) :: S) sh mi mj mr := zr_p (zD_of zk_0 d_0_539 rfl rfl) rfl
theorem q_0_540 {n : Nat} (h : sh[0]? = some (99, n)) (hi : zin x n = true) : zRun 0 540 L (.int x :: .ref 0 :: S) sh mi mj mr = zRun 0 541 L (.int (mi 0 x.toNatClampNeg) :: S) sh mi mj mr := zr_sald (zD_of zk_0 d_0_540 rfl rfl) h hi
theorem q_0_541  {x0 : Int32} (hS : zcat S ≤ 8) (h : zIs sh o 0 8) : zRun 0 541 L (.int x0 :: .ref o :: S) sh mi mj mr = (zCall 176 [.ref o, .int x0] sh mi mj mr).bind fun r => zRun 0 544 L (r.1.toList ++ S) r.2.1 r.2.2.1 r.2.2.2.1 r.2.2.2.2 := zr_V (zD_of zk_0 d_0_541 rfl rfl) rfl zk_176 rfl rfl rfl hS h
theorem q_0_544  : zRun 0 544 L (.int y :: .int x :: S) sh mi mj mr = if x = y then zRun 0 873 L S sh mi mj mr else zRun 0 547 L S sh mi mj mr := zr_if (off := 329) (P := x = y) (zD_of zk_0 d_0_544 rfl rfl) rfl rfl (by decide)
theorem q_0_547  : zRun 0 547 L S sh mi mj mr = zRun 0 548 L (.int 0 :: S) sh mi mj mr := zr_p (zD_of zk_0 d_0_547 rfl rfl) rfl
theorem q_0_548 (h : x = 0 ∨ x = 1) : zRun 0 548 L ([.int x]) sh mi mj mr = some (some (.int x), sh, mi, mj, mr) := zr_ret (zD_of zk_0 d_0_548 rfl rfl) rfl rfl rfl rfl rfl (if_pos (zna_b h))
theorem q_0_549r : zRun 0 549 [l0, some (.ref o), l2, l3] S sh mi mj mr = zRun 0 550 [l0, some (.ref o), l2, l3] (.ref o :: S) sh mi mj mr := zr_l (zD_of zk_0 d_0_549 rfl rfl) rfl rfl rfl
theorem q_0_549n : zRun 0 549 [l0, some (.null), l2, l3] S sh mi mj mr = zRun 0 550 [l0, some (.null), l2, l3] (.null :: S) sh mi mj mr := zr_l (zD_of zk_0 d_0_549 rfl rfl) rfl rfl rfl
theorem q_0_550r : zRun 0 550 [some (.ref o), l1, l2, l3] S sh mi mj mr = zRun 0 551 [some (.ref o), l1, l2, l3] (.ref o :: S) sh mi mj mr := zr_l (zD_of zk_0 d_0_550 rfl rfl) rfl rfl rfl
theorem q_0_550n : zRun 0 550 [some (.null), l1, l2, l3] S sh mi mj mr = zRun 0 551 [some (.null), l1, l2, l3] (.null :: S) sh mi mj mr := zr_l (zD_of zk_0 d_0_550 rfl rfl) rfl rfl rfl
theorem q_0_551 : zRun 0 551 [l0, l1, l2, some (.int x)] S sh mi mj mr = zRun 0 552 [l0, l1, l2, some (.int x)] (.int x :: S) sh mi mj mr := zr_l (zD_of zk_0 d_0_551 rfl rfl) rfl rfl rfl
theorem q_0_552  : zRun 0 552 L S sh mi mj mr = zRun 0 553 L (.int 1 :: S) sh mi mj mr := zr_p (zD_of zk_0 d_0_552 rfl rfl) rfl
theorem q_0_553  : zRun 0 553 L (.int y :: .int x :: S) sh mi mj mr = zRun 0 554 L (.int (x + y) :: S) sh mi mj mr := zr_p (zD_of zk_0 d_0_553 rfl rfl) rfl
theorem q_0_554 {n : Nat} (h : sh[0]? = some (99, n)) (hi : zin x n = true) : zRun 0 554 L (.int x :: .ref 0 :: S) sh mi mj mr = zRun 0 555 L (.int (mi 0 x.toNatClampNeg) :: S) sh mi mj mr := zr_sald (zD_of zk_0 d_0_554 rfl rfl) h hi
theorem q_0_555  {x0 : Int32} (hS : zcat S ≤ 8) (h : zIs sh o 0 7) : zRun 0 555 L (.int x0 :: .ref o :: S) sh mi mj mr = (zCall 93 [.ref o, .int x0] sh mi mj mr).bind fun r => zRun 0 558 L (r.1.toList ++ S) r.2.1 r.2.2.1 r.2.2.2.1 r.2.2.2.2 := zr_V (zD_of zk_0 d_0_555 rfl rfl) rfl zk_93 rfl rfl rfl hS h
theorem q_0_558r : zRun 0 558 [l0, l1, some (.ref o), l3] S sh mi mj mr = zRun 0 559 [l0, l1, some (.ref o), l3] (.ref o :: S) sh mi mj mr := zr_l (zD_of zk_0 d_0_558 rfl rfl) rfl rfl rfl
theorem q_0_558n : zRun 0 558 [l0, l1, some (.null), l3] S sh mi mj mr = zRun 0 559 [l0, l1, some (.null), l3] (.null :: S) sh mi mj mr := zr_l (zD_of zk_0 d_0_558 rfl rfl) rfl rfl rfl
theorem q_0_559r : zRun 0 559 [some (.ref o), l1, l2, l3] S sh mi mj mr = zRun 0 560 [some (.ref o), l1, l2, l3] (.ref o :: S) sh mi mj mr := zr_l (zD_of zk_0 d_0_559 rfl rfl) rfl rfl rfl
theorem q_0_559n : zRun 0 559 [some (.null), l1, l2, l3] S sh mi mj mr = zRun 0 560 [some (.null), l1, l2, l3] (.null :: S) sh mi mj mr := zr_l (zD_of zk_0 d_0_559 rfl rfl) rfl rfl rfl
theorem q_0_560 : zRun 0 560 [l0, l1, l2, some (.int x)] S sh mi mj mr = zRun 0 561 [l0, l1, l2, some (.int x)] (.int x :: S) sh mi mj mr := zr_l (zD_of zk_0 d_0_560 rfl rfl) rfl rfl rfl
theorem q_0_561  : zRun 0 561 L S sh mi mj mr = zRun 0 562 L (.int 1 :: S) sh mi mj mr := zr_p (zD_of zk_0 d_0_561 rfl rfl) rfl
theorem q_0_562  : zRun 0 562 L (.int y :: .int x :: S) sh mi mj mr = zRun 0 563 L (.int (x + y) :: S) sh mi mj mr := zr_p (zD_of zk_0 d_0_562 rfl rfl) rfl
theorem q_0_563 {n : Nat} (h : sh[0]? = some (99, n)) (hi : zin x n = true) : zRun 0 563 L (.int x :: .ref 0 :: S) sh mi mj mr = zRun 0 564 L (.int (mi 0 x.toNatClampNeg) :: S) sh mi mj mr := zr_sald (zD_of zk_0 d_0_563 rfl rfl) h hi
theorem q_0_564  {x0 : Int32} (hS : zcat S ≤ 8) (h : zIs sh o 0 8) : zRun 0 564 L (.int x0 :: .ref o :: S) sh mi mj mr = (zCall 177 [.ref o, .int x0] sh mi mj mr).bind fun r => zRun 0 567 L (r.1.toList ++ S) r.2.1 r.2.2.1 r.2.2.2.1 r.2.2.2.2 := zr_V (zD_of zk_0 d_0_564 rfl rfl) rfl zk_177 rfl rfl rfl hS h
theorem q_0_567  : zRun 0 567 L (.long v :: .long u :: S) sh mi mj mr = if u = v then zRun 0 873 L S sh mi mj mr else zRun 0 571 L S sh mi mj mr := zr_cmp (off := 305) (zD_of zk_0 d_0_567 rfl rfl) (zD_of zk_0 d_0_568 rfl rfl) rfl rfl (by decide) (lg_cmp_eq u v)
theorem q_0_568  : zRun 0 568 L (.int x :: S) sh mi mj mr = if x = 0 then zRun 0 873 L S sh mi mj mr else zRun 0 571 L S sh mi mj mr := zr_if (off := 305) (P := x = 0) (zD_of zk_0 d_0_568 rfl rfl) rfl rfl (by decide)
theorem q_0_571  : zRun 0 571 L S sh mi mj mr = zRun 0 572 L (.int 0 :: S) sh mi mj mr := zr_p (zD_of zk_0 d_0_571 rfl rfl) rfl
theorem q_0_572 (h : x = 0 ∨ x = 1) : zRun 0 572 L ([.int x]) sh mi mj mr = some (some (.int x), sh, mi, mj, mr) := zr_ret (zD_of zk_0 d_0_572 rfl rfl) rfl rfl rfl rfl rfl (if_pos (zna_b h))
theorem q_0_573r : zRun 0 573 [l0, some (.ref o), l2, l3] S sh mi mj mr = zRun 0 574 [l0, some (.ref o), l2, l3] (.ref o :: S) sh mi mj mr := zr_l (zD_of zk_0 d_0_573 rfl rfl) rfl rfl rfl
theorem q_0_573n : zRun 0 573 [l0, some (.null), l2, l3] S sh mi mj mr = zRun 0 574 [l0, some (.null), l2, l3] (.null :: S) sh mi mj mr := zr_l (zD_of zk_0 d_0_573 rfl rfl) rfl rfl rfl
theorem q_0_574r : zRun 0 574 [some (.ref o), l1, l2, l3] S sh mi mj mr = zRun 0 575 [some (.ref o), l1, l2, l3] (.ref o :: S) sh mi mj mr := zr_l (zD_of zk_0 d_0_574 rfl rfl) rfl rfl rfl
theorem q_0_574n : zRun 0 574 [some (.null), l1, l2, l3] S sh mi mj mr = zRun 0 575 [some (.null), l1, l2, l3] (.null :: S) sh mi mj mr := zr_l (zD_of zk_0 d_0_574 rfl rfl) rfl rfl rfl
theorem q_0_575 : zRun 0 575 [l0, l1, l2, some (.int x)] S sh mi mj mr = zRun 0 576 [l0, l1, l2, some (.int x)] (.int x :: S) sh mi mj mr := zr_l (zD_of zk_0 d_0_575 rfl rfl) rfl rfl rfl
theorem q_0_576  : zRun 0 576 L S sh mi mj mr = zRun 0 577 L (.int 1 :: S) sh mi mj mr := zr_p (zD_of zk_0 d_0_576 rfl rfl) rfl
theorem q_0_577  : zRun 0 577 L (.int y :: .int x :: S) sh mi mj mr = zRun 0 578 L (.int (x + y) :: S) sh mi mj mr := zr_p (zD_of zk_0 d_0_577 rfl rfl) rfl
theorem q_0_578 {n : Nat} (h : sh[0]? = some (99, n)) (hi : zin x n = true) : zRun 0 578 L (.int x :: .ref 0 :: S) sh mi mj mr = zRun 0 579 L (.int (mi 0 x.toNatClampNeg) :: S) sh mi mj mr := zr_sald (zD_of zk_0 d_0_578 rfl rfl) h hi
theorem q_0_579r : zRun 0 579 [some (.ref o), l1, l2, l3] S sh mi mj mr = zRun 0 580 [some (.ref o), l1, l2, l3] (.ref o :: S) sh mi mj mr := zr_l (zD_of zk_0 d_0_579 rfl rfl) rfl rfl rfl
theorem q_0_579n : zRun 0 579 [some (.null), l1, l2, l3] S sh mi mj mr = zRun 0 580 [some (.null), l1, l2, l3] (.null :: S) sh mi mj mr := zr_l (zD_of zk_0 d_0_579 rfl rfl) rfl rfl rfl
theorem q_0_580 : zRun 0 580 [l0, l1, l2, some (.int x)] S sh mi mj mr = zRun 0 581 [l0, l1, l2, some (.int x)] (.int x :: S) sh mi mj mr := zr_l (zD_of zk_0 d_0_580 rfl rfl) rfl rfl rfl
theorem q_0_581  : zRun 0 581 L S sh mi mj mr = zRun 0 582 L (.int 2 :: S) sh mi mj mr := zr_p (zD_of zk_0 d_0_581 rfl rfl) rfl
theorem q_0_582  : zRun 0 582 L (.int y :: .int x :: S) sh mi mj mr = zRun 0 583 L (.int (x + y) :: S) sh mi mj mr := zr_p (zD_of zk_0 d_0_582 rfl rfl) rfl
theorem q_0_583 {n : Nat} (h : sh[0]? = some (99, n)) (hi : zin x n = true) : zRun 0 583 L (.int x :: .ref 0 :: S) sh mi mj mr = zRun 0 584 L (.int (mi 0 x.toNatClampNeg) :: S) sh mi mj mr := zr_sald (zD_of zk_0 d_0_583 rfl rfl) h hi
theorem q_0_584r : zRun 0 584 [some (.ref o), l1, l2, l3] S sh mi mj mr = zRun 0 585 [some (.ref o), l1, l2, l3] (.ref o :: S) sh mi mj mr := zr_l (zD_of zk_0 d_0_584 rfl rfl) rfl rfl rfl
theorem q_0_584n : zRun 0 584 [some (.null), l1, l2, l3] S sh mi mj mr = zRun 0 585 [some (.null), l1, l2, l3] (.null :: S) sh mi mj mr := zr_l (zD_of zk_0 d_0_584 rfl rfl) rfl rfl rfl
theorem q_0_585 : zRun 0 585 [l0, l1, l2, some (.int x)] S sh mi mj mr = zRun 0 586 [l0, l1, l2, some (.int x)] (.int x :: S) sh mi mj mr := zr_l (zD_of zk_0 d_0_585 rfl rfl) rfl rfl rfl
theorem q_0_586  : zRun 0 586 L S sh mi mj mr = zRun 0 587 L (.int 3 :: S) sh mi mj mr := zr_p (zD_of zk_0 d_0_586 rfl rfl) rfl
theorem q_0_587  : zRun 0 587 L (.int y :: .int x :: S) sh mi mj mr = zRun 0 588 L (.int (x + y) :: S) sh mi mj mr := zr_p (zD_of zk_0 d_0_587 rfl rfl) rfl
theorem q_0_588 {n : Nat} (h : sh[0]? = some (99, n)) (hi : zin x n = true) : zRun 0 588 L (.int x :: .ref 0 :: S) sh mi mj mr = zRun 0 589 L (.int (mi 0 x.toNatClampNeg) :: S) sh mi mj mr := zr_sald (zD_of zk_0 d_0_588 rfl rfl) h hi
theorem q_0_589  {x0 x1 x2 : Int32} (hS : zcat S ≤ 8) (h : zIs sh o 0 7) : zRun 0 589 L (.int x2 :: .int x1 :: .int x0 :: .ref o :: S) sh mi mj mr = (zCall 94 [.ref o, .int x0, .int x1, .int x2] sh mi mj mr).bind fun r => zRun 0 592 L (r.1.toList ++ S) r.2.1 r.2.2.1 r.2.2.2.1 r.2.2.2.2 := zr_V (zD_of zk_0 d_0_589 rfl rfl) rfl zk_94 rfl rfl rfl hS h
theorem q_0_592r : zRun 0 592 [l0, l1, some (.ref o), l3] S sh mi mj mr = zRun 0 593 [l0, l1, some (.ref o), l3] (.ref o :: S) sh mi mj mr := zr_l (zD_of zk_0 d_0_592 rfl rfl) rfl rfl rfl
theorem q_0_592n : zRun 0 592 [l0, l1, some (.null), l3] S sh mi mj mr = zRun 0 593 [l0, l1, some (.null), l3] (.null :: S) sh mi mj mr := zr_l (zD_of zk_0 d_0_592 rfl rfl) rfl rfl rfl
theorem q_0_593r : zRun 0 593 [some (.ref o), l1, l2, l3] S sh mi mj mr = zRun 0 594 [some (.ref o), l1, l2, l3] (.ref o :: S) sh mi mj mr := zr_l (zD_of zk_0 d_0_593 rfl rfl) rfl rfl rfl
theorem q_0_593n : zRun 0 593 [some (.null), l1, l2, l3] S sh mi mj mr = zRun 0 594 [some (.null), l1, l2, l3] (.null :: S) sh mi mj mr := zr_l (zD_of zk_0 d_0_593 rfl rfl) rfl rfl rfl
theorem q_0_594 : zRun 0 594 [l0, l1, l2, some (.int x)] S sh mi mj mr = zRun 0 595 [l0, l1, l2, some (.int x)] (.int x :: S) sh mi mj mr := zr_l (zD_of zk_0 d_0_594 rfl rfl) rfl rfl rfl
theorem q_0_595  : zRun 0 595 L S sh mi mj mr = zRun 0 596 L (.int 1 :: S) sh mi mj mr := zr_p (zD_of zk_0 d_0_595 rfl rfl) rfl
theorem q_0_596  : zRun 0 596 L (.int y :: .int x :: S) sh mi mj mr = zRun 0 597 L (.int (x + y) :: S) sh mi mj mr := zr_p (zD_of zk_0 d_0_596 rfl rfl) rfl
theorem q_0_597 {n : Nat} (h : sh[0]? = some (99, n)) (hi : zin x n = true) : zRun 0 597 L (.int x :: .ref 0 :: S) sh mi mj mr = zRun 0 598 L (.int (mi 0 x.toNatClampNeg) :: S) sh mi mj mr := zr_sald (zD_of zk_0 d_0_597 rfl rfl) h hi
theorem q_0_598r : zRun 0 598 [some (.ref o), l1, l2, l3] S sh mi mj mr = zRun 0 599 [some (.ref o), l1, l2, l3] (.ref o :: S) sh mi mj mr := zr_l (zD_of zk_0 d_0_598 rfl rfl) rfl rfl rfl
theorem q_0_598n : zRun 0 598 [some (.null), l1, l2, l3] S sh mi mj mr = zRun 0 599 [some (.null), l1, l2, l3] (.null :: S) sh mi mj mr := zr_l (zD_of zk_0 d_0_598 rfl rfl) rfl rfl rfl
theorem q_0_599 : zRun 0 599 [l0, l1, l2, some (.int x)] S sh mi mj mr = zRun 0 600 [l0, l1, l2, some (.int x)] (.int x :: S) sh mi mj mr := zr_l (zD_of zk_0 d_0_599 rfl rfl) rfl rfl rfl
theorem q_0_600  : zRun 0 600 L S sh mi mj mr = zRun 0 601 L (.int 2 :: S) sh mi mj mr := zr_p (zD_of zk_0 d_0_600 rfl rfl) rfl
theorem q_0_601  : zRun 0 601 L (.int y :: .int x :: S) sh mi mj mr = zRun 0 602 L (.int (x + y) :: S) sh mi mj mr := zr_p (zD_of zk_0 d_0_601 rfl rfl) rfl
theorem q_0_602 {n : Nat} (h : sh[0]? = some (99, n)) (hi : zin x n = true) : zRun 0 602 L (.int x :: .ref 0 :: S) sh mi mj mr = zRun 0 603 L (.int (mi 0 x.toNatClampNeg) :: S) sh mi mj mr := zr_sald (zD_of zk_0 d_0_602 rfl rfl) h hi
theorem q_0_603r : zRun 0 603 [some (.ref o), l1, l2, l3] S sh mi mj mr = zRun 0 604 [some (.ref o), l1, l2, l3] (.ref o :: S) sh mi mj mr := zr_l (zD_of zk_0 d_0_603 rfl rfl) rfl rfl rfl
theorem q_0_603n : zRun 0 603 [some (.null), l1, l2, l3] S sh mi mj mr = zRun 0 604 [some (.null), l1, l2, l3] (.null :: S) sh mi mj mr := zr_l (zD_of zk_0 d_0_603 rfl rfl) rfl rfl rfl
theorem q_0_604 : zRun 0 604 [l0, l1, l2, some (.int x)] S sh mi mj mr = zRun 0 605 [l0, l1, l2, some (.int x)] (.int x :: S) sh mi mj mr := zr_l (zD_of zk_0 d_0_604 rfl rfl) rfl rfl rfl
theorem q_0_605  : zRun 0 605 L S sh mi mj mr = zRun 0 606 L (.int 3 :: S) sh mi mj mr := zr_p (zD_of zk_0 d_0_605 rfl rfl) rfl
theorem q_0_606  : zRun 0 606 L (.int y :: .int x :: S) sh mi mj mr = zRun 0 607 L (.int (x + y) :: S) sh mi mj mr := zr_p (zD_of zk_0 d_0_606 rfl rfl) rfl
theorem q_0_607 {n : Nat} (h : sh[0]? = some (99, n)) (hi : zin x n = true) : zRun 0 607 L (.int x :: .ref 0 :: S) sh mi mj mr = zRun 0 608 L (.int (mi 0 x.toNatClampNeg) :: S) sh mi mj mr := zr_sald (zD_of zk_0 d_0_607 rfl rfl) h hi
theorem q_0_608  {x0 x1 x2 : Int32} (hS : zcat S ≤ 8) (h : zIs sh o 0 8) : zRun 0 608 L (.int x2 :: .int x1 :: .int x0 :: .ref o :: S) sh mi mj mr = (zCall 178 [.ref o, .int x0, .int x1, .int x2] sh mi mj mr).bind fun r => zRun 0 611 L (r.1.toList ++ S) r.2.1 r.2.2.1 r.2.2.2.1 r.2.2.2.2 := zr_V (zD_of zk_0 d_0_608 rfl rfl) rfl zk_178 rfl rfl rfl hS h
theorem q_0_611  : zRun 0 611 L (.long v :: .long u :: S) sh mi mj mr = if u = v then zRun 0 873 L S sh mi mj mr else zRun 0 615 L S sh mi mj mr := zr_cmp (off := 261) (zD_of zk_0 d_0_611 rfl rfl) (zD_of zk_0 d_0_612 rfl rfl) rfl rfl (by decide) (lg_cmp_eq u v)
theorem q_0_612  : zRun 0 612 L (.int x :: S) sh mi mj mr = if x = 0 then zRun 0 873 L S sh mi mj mr else zRun 0 615 L S sh mi mj mr := zr_if (off := 261) (P := x = 0) (zD_of zk_0 d_0_612 rfl rfl) rfl rfl (by decide)
theorem q_0_615  : zRun 0 615 L S sh mi mj mr = zRun 0 616 L (.int 0 :: S) sh mi mj mr := zr_p (zD_of zk_0 d_0_615 rfl rfl) rfl
theorem q_0_616 (h : x = 0 ∨ x = 1) : zRun 0 616 L ([.int x]) sh mi mj mr = some (some (.int x), sh, mi, mj, mr) := zr_ret (zD_of zk_0 d_0_616 rfl rfl) rfl rfl rfl rfl rfl (if_pos (zna_b h))
theorem q_0_617r : zRun 0 617 [l0, some (.ref o), l2, l3] S sh mi mj mr = zRun 0 618 [l0, some (.ref o), l2, l3] (.ref o :: S) sh mi mj mr := zr_l (zD_of zk_0 d_0_617 rfl rfl) rfl rfl rfl
theorem q_0_617n : zRun 0 617 [l0, some (.null), l2, l3] S sh mi mj mr = zRun 0 618 [l0, some (.null), l2, l3] (.null :: S) sh mi mj mr := zr_l (zD_of zk_0 d_0_617 rfl rfl) rfl rfl rfl
theorem q_0_618r : zRun 0 618 [some (.ref o), l1, l2, l3] S sh mi mj mr = zRun 0 619 [some (.ref o), l1, l2, l3] (.ref o :: S) sh mi mj mr := zr_l (zD_of zk_0 d_0_618 rfl rfl) rfl rfl rfl
theorem q_0_618n : zRun 0 618 [some (.null), l1, l2, l3] S sh mi mj mr = zRun 0 619 [some (.null), l1, l2, l3] (.null :: S) sh mi mj mr := zr_l (zD_of zk_0 d_0_618 rfl rfl) rfl rfl rfl
theorem q_0_619 : zRun 0 619 [l0, l1, l2, some (.int x)] S sh mi mj mr = zRun 0 620 [l0, l1, l2, some (.int x)] (.int x :: S) sh mi mj mr := zr_l (zD_of zk_0 d_0_619 rfl rfl) rfl rfl rfl
theorem q_0_620  : zRun 0 620 L S sh mi mj mr = zRun 0 621 L (.int 1 :: S) sh mi mj mr := zr_p (zD_of zk_0 d_0_620 rfl rfl) rfl
theorem q_0_621  : zRun 0 621 L (.int y :: .int x :: S) sh mi mj mr = zRun 0 622 L (.int (x + y) :: S) sh mi mj mr := zr_p (zD_of zk_0 d_0_621 rfl rfl) rfl
theorem q_0_622 {n : Nat} (h : sh[0]? = some (99, n)) (hi : zin x n = true) : zRun 0 622 L (.int x :: .ref 0 :: S) sh mi mj mr = zRun 0 623 L (.int (mi 0 x.toNatClampNeg) :: S) sh mi mj mr := zr_sald (zD_of zk_0 d_0_622 rfl rfl) h hi
theorem q_0_623r : zRun 0 623 [some (.ref o), l1, l2, l3] S sh mi mj mr = zRun 0 624 [some (.ref o), l1, l2, l3] (.ref o :: S) sh mi mj mr := zr_l (zD_of zk_0 d_0_623 rfl rfl) rfl rfl rfl
theorem q_0_623n : zRun 0 623 [some (.null), l1, l2, l3] S sh mi mj mr = zRun 0 624 [some (.null), l1, l2, l3] (.null :: S) sh mi mj mr := zr_l (zD_of zk_0 d_0_623 rfl rfl) rfl rfl rfl
theorem q_0_624 : zRun 0 624 [l0, l1, l2, some (.int x)] S sh mi mj mr = zRun 0 625 [l0, l1, l2, some (.int x)] (.int x :: S) sh mi mj mr := zr_l (zD_of zk_0 d_0_624 rfl rfl) rfl rfl rfl
theorem q_0_625  : zRun 0 625 L S sh mi mj mr = zRun 0 626 L (.int 2 :: S) sh mi mj mr := zr_p (zD_of zk_0 d_0_625 rfl rfl) rfl
theorem q_0_626  : zRun 0 626 L (.int y :: .int x :: S) sh mi mj mr = zRun 0 627 L (.int (x + y) :: S) sh mi mj mr := zr_p (zD_of zk_0 d_0_626 rfl rfl) rfl
theorem q_0_627 {n : Nat} (h : sh[0]? = some (99, n)) (hi : zin x n = true) : zRun 0 627 L (.int x :: .ref 0 :: S) sh mi mj mr = zRun 0 628 L (.int (mi 0 x.toNatClampNeg) :: S) sh mi mj mr := zr_sald (zD_of zk_0 d_0_627 rfl rfl) h hi
theorem q_0_628  {x0 x1 : Int32} (hS : zcat S ≤ 8) (h : zIs sh o 0 7) : zRun 0 628 L (.int x1 :: .int x0 :: .ref o :: S) sh mi mj mr = (zCall 95 [.ref o, .int x0, .int x1] sh mi mj mr).bind fun r => zRun 0 631 L (r.1.toList ++ S) r.2.1 r.2.2.1 r.2.2.2.1 r.2.2.2.2 := zr_V (zD_of zk_0 d_0_628 rfl rfl) rfl zk_95 rfl rfl rfl hS h
theorem q_0_631r : zRun 0 631 [l0, l1, some (.ref o), l3] S sh mi mj mr = zRun 0 632 [l0, l1, some (.ref o), l3] (.ref o :: S) sh mi mj mr := zr_l (zD_of zk_0 d_0_631 rfl rfl) rfl rfl rfl
theorem q_0_631n : zRun 0 631 [l0, l1, some (.null), l3] S sh mi mj mr = zRun 0 632 [l0, l1, some (.null), l3] (.null :: S) sh mi mj mr := zr_l (zD_of zk_0 d_0_631 rfl rfl) rfl rfl rfl
theorem q_0_632r : zRun 0 632 [some (.ref o), l1, l2, l3] S sh mi mj mr = zRun 0 633 [some (.ref o), l1, l2, l3] (.ref o :: S) sh mi mj mr := zr_l (zD_of zk_0 d_0_632 rfl rfl) rfl rfl rfl
theorem q_0_632n : zRun 0 632 [some (.null), l1, l2, l3] S sh mi mj mr = zRun 0 633 [some (.null), l1, l2, l3] (.null :: S) sh mi mj mr := zr_l (zD_of zk_0 d_0_632 rfl rfl) rfl rfl rfl
theorem q_0_633 : zRun 0 633 [l0, l1, l2, some (.int x)] S sh mi mj mr = zRun 0 634 [l0, l1, l2, some (.int x)] (.int x :: S) sh mi mj mr := zr_l (zD_of zk_0 d_0_633 rfl rfl) rfl rfl rfl
theorem q_0_634  : zRun 0 634 L S sh mi mj mr = zRun 0 635 L (.int 1 :: S) sh mi mj mr := zr_p (zD_of zk_0 d_0_634 rfl rfl) rfl
theorem q_0_635  : zRun 0 635 L (.int y :: .int x :: S) sh mi mj mr = zRun 0 636 L (.int (x + y) :: S) sh mi mj mr := zr_p (zD_of zk_0 d_0_635 rfl rfl) rfl
theorem q_0_636 {n : Nat} (h : sh[0]? = some (99, n)) (hi : zin x n = true) : zRun 0 636 L (.int x :: .ref 0 :: S) sh mi mj mr = zRun 0 637 L (.int (mi 0 x.toNatClampNeg) :: S) sh mi mj mr := zr_sald (zD_of zk_0 d_0_636 rfl rfl) h hi
theorem q_0_637r : zRun 0 637 [some (.ref o), l1, l2, l3] S sh mi mj mr = zRun 0 638 [some (.ref o), l1, l2, l3] (.ref o :: S) sh mi mj mr := zr_l (zD_of zk_0 d_0_637 rfl rfl) rfl rfl rfl
theorem q_0_637n : zRun 0 637 [some (.null), l1, l2, l3] S sh mi mj mr = zRun 0 638 [some (.null), l1, l2, l3] (.null :: S) sh mi mj mr := zr_l (zD_of zk_0 d_0_637 rfl rfl) rfl rfl rfl
theorem q_0_638 : zRun 0 638 [l0, l1, l2, some (.int x)] S sh mi mj mr = zRun 0 639 [l0, l1, l2, some (.int x)] (.int x :: S) sh mi mj mr := zr_l (zD_of zk_0 d_0_638 rfl rfl) rfl rfl rfl
theorem q_0_639  : zRun 0 639 L S sh mi mj mr = zRun 0 640 L (.int 2 :: S) sh mi mj mr := zr_p (zD_of zk_0 d_0_639 rfl rfl) rfl
theorem q_0_640  : zRun 0 640 L (.int y :: .int x :: S) sh mi mj mr = zRun 0 641 L (.int (x + y) :: S) sh mi mj mr := zr_p (zD_of zk_0 d_0_640 rfl rfl) rfl
theorem q_0_641 {n : Nat} (h : sh[0]? = some (99, n)) (hi : zin x n = true) : zRun 0 641 L (.int x :: .ref 0 :: S) sh mi mj mr = zRun 0 642 L (.int (mi 0 x.toNatClampNeg) :: S) sh mi mj mr := zr_sald (zD_of zk_0 d_0_641 rfl rfl) h hi
theorem q_0_642  {x0 x1 : Int32} (hS : zcat S ≤ 8) (h : zIs sh o 0 8) : zRun 0 642 L (.int x1 :: .int x0 :: .ref o :: S) sh mi mj mr = (zCall 179 [.ref o, .int x0, .int x1] sh mi mj mr).bind fun r => zRun 0 645 L (r.1.toList ++ S) r.2.1 r.2.2.1 r.2.2.2.1 r.2.2.2.2 := zr_V (zD_of zk_0 d_0_642 rfl rfl) rfl zk_179 rfl rfl rfl hS h
theorem q_0_645  : zRun 0 645 L (.int y :: .int x :: S) sh mi mj mr = if x = y then zRun 0 873 L S sh mi mj mr else zRun 0 648 L S sh mi mj mr := zr_if (off := 228) (P := x = y) (zD_of zk_0 d_0_645 rfl rfl) rfl rfl (by decide)
theorem q_0_648  : zRun 0 648 L S sh mi mj mr = zRun 0 649 L (.int 0 :: S) sh mi mj mr := zr_p (zD_of zk_0 d_0_648 rfl rfl) rfl
theorem q_0_649 (h : x = 0 ∨ x = 1) : zRun 0 649 L ([.int x]) sh mi mj mr = some (some (.int x), sh, mi, mj, mr) := zr_ret (zD_of zk_0 d_0_649 rfl rfl) rfl rfl rfl rfl rfl (if_pos (zna_b h))
theorem q_0_650r : zRun 0 650 [l0, some (.ref o), l2, l3] S sh mi mj mr = zRun 0 651 [l0, some (.ref o), l2, l3] (.ref o :: S) sh mi mj mr := zr_l (zD_of zk_0 d_0_650 rfl rfl) rfl rfl rfl
theorem q_0_650n : zRun 0 650 [l0, some (.null), l2, l3] S sh mi mj mr = zRun 0 651 [l0, some (.null), l2, l3] (.null :: S) sh mi mj mr := zr_l (zD_of zk_0 d_0_650 rfl rfl) rfl rfl rfl
theorem q_0_651r : zRun 0 651 [some (.ref o), l1, l2, l3] S sh mi mj mr = zRun 0 652 [some (.ref o), l1, l2, l3] (.ref o :: S) sh mi mj mr := zr_l (zD_of zk_0 d_0_651 rfl rfl) rfl rfl rfl
theorem q_0_651n : zRun 0 651 [some (.null), l1, l2, l3] S sh mi mj mr = zRun 0 652 [some (.null), l1, l2, l3] (.null :: S) sh mi mj mr := zr_l (zD_of zk_0 d_0_651 rfl rfl) rfl rfl rfl
theorem q_0_652 : zRun 0 652 [l0, l1, l2, some (.int x)] S sh mi mj mr = zRun 0 653 [l0, l1, l2, some (.int x)] (.int x :: S) sh mi mj mr := zr_l (zD_of zk_0 d_0_652 rfl rfl) rfl rfl rfl
theorem q_0_653  : zRun 0 653 L S sh mi mj mr = zRun 0 654 L (.int 1 :: S) sh mi mj mr := zr_p (zD_of zk_0 d_0_653 rfl rfl) rfl
theorem q_0_654  : zRun 0 654 L (.int y :: .int x :: S) sh mi mj mr = zRun 0 655 L (.int (x + y) :: S) sh mi mj mr := zr_p (zD_of zk_0 d_0_654 rfl rfl) rfl
theorem q_0_655 {n : Nat} (h : sh[0]? = some (99, n)) (hi : zin x n = true) : zRun 0 655 L (.int x :: .ref 0 :: S) sh mi mj mr = zRun 0 656 L (.int (mi 0 x.toNatClampNeg) :: S) sh mi mj mr := zr_sald (zD_of zk_0 d_0_655 rfl rfl) h hi
theorem q_0_656r : zRun 0 656 [some (.ref o), l1, l2, l3] S sh mi mj mr = zRun 0 657 [some (.ref o), l1, l2, l3] (.ref o :: S) sh mi mj mr := zr_l (zD_of zk_0 d_0_656 rfl rfl) rfl rfl rfl
theorem q_0_656n : zRun 0 656 [some (.null), l1, l2, l3] S sh mi mj mr = zRun 0 657 [some (.null), l1, l2, l3] (.null :: S) sh mi mj mr := zr_l (zD_of zk_0 d_0_656 rfl rfl) rfl rfl rfl
theorem q_0_657 : zRun 0 657 [l0, l1, l2, some (.int x)] S sh mi mj mr = zRun 0 658 [l0, l1, l2, some (.int x)] (.int x :: S) sh mi mj mr := zr_l (zD_of zk_0 d_0_657 rfl rfl) rfl rfl rfl
theorem q_0_658  : zRun 0 658 L S sh mi mj mr = zRun 0 659 L (.int 2 :: S) sh mi mj mr := zr_p (zD_of zk_0 d_0_658 rfl rfl) rfl
theorem q_0_659  : zRun 0 659 L (.int y :: .int x :: S) sh mi mj mr = zRun 0 660 L (.int (x + y) :: S) sh mi mj mr := zr_p (zD_of zk_0 d_0_659 rfl rfl) rfl
theorem q_0_660 {n : Nat} (h : sh[0]? = some (99, n)) (hi : zin x n = true) : zRun 0 660 L (.int x :: .ref 0 :: S) sh mi mj mr = zRun 0 661 L (.int (mi 0 x.toNatClampNeg) :: S) sh mi mj mr := zr_sald (zD_of zk_0 d_0_660 rfl rfl) h hi
theorem q_0_661r : zRun 0 661 [some (.ref o), l1, l2, l3] S sh mi mj mr = zRun 0 662 [some (.ref o), l1, l2, l3] (.ref o :: S) sh mi mj mr := zr_l (zD_of zk_0 d_0_661 rfl rfl) rfl rfl rfl
theorem q_0_661n : zRun 0 661 [some (.null), l1, l2, l3] S sh mi mj mr = zRun 0 662 [some (.null), l1, l2, l3] (.null :: S) sh mi mj mr := zr_l (zD_of zk_0 d_0_661 rfl rfl) rfl rfl rfl
theorem q_0_662 : zRun 0 662 [l0, l1, l2, some (.int x)] S sh mi mj mr = zRun 0 663 [l0, l1, l2, some (.int x)] (.int x :: S) sh mi mj mr := zr_l (zD_of zk_0 d_0_662 rfl rfl) rfl rfl rfl
theorem q_0_663  : zRun 0 663 L S sh mi mj mr = zRun 0 664 L (.int 3 :: S) sh mi mj mr := zr_p (zD_of zk_0 d_0_663 rfl rfl) rfl
theorem q_0_664  : zRun 0 664 L (.int y :: .int x :: S) sh mi mj mr = zRun 0 665 L (.int (x + y) :: S) sh mi mj mr := zr_p (zD_of zk_0 d_0_664 rfl rfl) rfl
theorem q_0_665 {n : Nat} (h : sh[0]? = some (99, n)) (hi : zin x n = true) : zRun 0 665 L (.int x :: .ref 0 :: S) sh mi mj mr = zRun 0 666 L (.int (mi 0 x.toNatClampNeg) :: S) sh mi mj mr := zr_sald (zD_of zk_0 d_0_665 rfl rfl) h hi
theorem q_0_666  {x0 x1 x2 : Int32} (hS : zcat S ≤ 8) (h : zIs sh o 0 7) : zRun 0 666 L (.int x2 :: .int x1 :: .int x0 :: .ref o :: S) sh mi mj mr = (zCall 96 [.ref o, .int x0, .int x1, .int x2] sh mi mj mr).bind fun r => zRun 0 669 L (r.1.toList ++ S) r.2.1 r.2.2.1 r.2.2.2.1 r.2.2.2.2 := zr_V (zD_of zk_0 d_0_666 rfl rfl) rfl zk_96 rfl rfl rfl hS h
theorem q_0_669r : zRun 0 669 [l0, l1, some (.ref o), l3] S sh mi mj mr = zRun 0 670 [l0, l1, some (.ref o), l3] (.ref o :: S) sh mi mj mr := zr_l (zD_of zk_0 d_0_669 rfl rfl) rfl rfl rfl
theorem q_0_669n : zRun 0 669 [l0, l1, some (.null), l3] S sh mi mj mr = zRun 0 670 [l0, l1, some (.null), l3] (.null :: S) sh mi mj mr := zr_l (zD_of zk_0 d_0_669 rfl rfl) rfl rfl rfl
theorem q_0_670r : zRun 0 670 [some (.ref o), l1, l2, l3] S sh mi mj mr = zRun 0 671 [some (.ref o), l1, l2, l3] (.ref o :: S) sh mi mj mr := zr_l (zD_of zk_0 d_0_670 rfl rfl) rfl rfl rfl
theorem q_0_670n : zRun 0 670 [some (.null), l1, l2, l3] S sh mi mj mr = zRun 0 671 [some (.null), l1, l2, l3] (.null :: S) sh mi mj mr := zr_l (zD_of zk_0 d_0_670 rfl rfl) rfl rfl rfl
theorem q_0_671 : zRun 0 671 [l0, l1, l2, some (.int x)] S sh mi mj mr = zRun 0 672 [l0, l1, l2, some (.int x)] (.int x :: S) sh mi mj mr := zr_l (zD_of zk_0 d_0_671 rfl rfl) rfl rfl rfl
theorem q_0_672  : zRun 0 672 L S sh mi mj mr = zRun 0 673 L (.int 1 :: S) sh mi mj mr := zr_p (zD_of zk_0 d_0_672 rfl rfl) rfl
theorem q_0_673  : zRun 0 673 L (.int y :: .int x :: S) sh mi mj mr = zRun 0 674 L (.int (x + y) :: S) sh mi mj mr := zr_p (zD_of zk_0 d_0_673 rfl rfl) rfl
theorem q_0_674 {n : Nat} (h : sh[0]? = some (99, n)) (hi : zin x n = true) : zRun 0 674 L (.int x :: .ref 0 :: S) sh mi mj mr = zRun 0 675 L (.int (mi 0 x.toNatClampNeg) :: S) sh mi mj mr := zr_sald (zD_of zk_0 d_0_674 rfl rfl) h hi
theorem q_0_675r : zRun 0 675 [some (.ref o), l1, l2, l3] S sh mi mj mr = zRun 0 676 [some (.ref o), l1, l2, l3] (.ref o :: S) sh mi mj mr := zr_l (zD_of zk_0 d_0_675 rfl rfl) rfl rfl rfl
theorem q_0_675n : zRun 0 675 [some (.null), l1, l2, l3] S sh mi mj mr = zRun 0 676 [some (.null), l1, l2, l3] (.null :: S) sh mi mj mr := zr_l (zD_of zk_0 d_0_675 rfl rfl) rfl rfl rfl
theorem q_0_676 : zRun 0 676 [l0, l1, l2, some (.int x)] S sh mi mj mr = zRun 0 677 [l0, l1, l2, some (.int x)] (.int x :: S) sh mi mj mr := zr_l (zD_of zk_0 d_0_676 rfl rfl) rfl rfl rfl
theorem q_0_677  : zRun 0 677 L S sh mi mj mr = zRun 0 678 L (.int 2 :: S) sh mi mj mr := zr_p (zD_of zk_0 d_0_677 rfl rfl) rfl
theorem q_0_678  : zRun 0 678 L (.int y :: .int x :: S) sh mi mj mr = zRun 0 679 L (.int (x + y) :: S) sh mi mj mr := zr_p (zD_of zk_0 d_0_678 rfl rfl) rfl
theorem q_0_679 {n : Nat} (h : sh[0]? = some (99, n)) (hi : zin x n = true) : zRun 0 679 L (.int x :: .ref 0 :: S) sh mi mj mr = zRun 0 680 L (.int (mi 0 x.toNatClampNeg) :: S) sh mi mj mr := zr_sald (zD_of zk_0 d_0_679 rfl rfl) h hi
theorem q_0_680r : zRun 0 680 [some (.ref o), l1, l2, l3] S sh mi mj mr = zRun 0 681 [some (.ref o), l1, l2, l3] (.ref o :: S) sh mi mj mr := zr_l (zD_of zk_0 d_0_680 rfl rfl) rfl rfl rfl
theorem q_0_680n : zRun 0 680 [some (.null), l1, l2, l3] S sh mi mj mr = zRun 0 681 [some (.null), l1, l2, l3] (.null :: S) sh mi mj mr := zr_l (zD_of zk_0 d_0_680 rfl rfl) rfl rfl rfl
theorem q_0_681 : zRun 0 681 [l0, l1, l2, some (.int x)] S sh mi mj mr = zRun 0 682 [l0, l1, l2, some (.int x)] (.int x :: S) sh mi mj mr := zr_l (zD_of zk_0 d_0_681 rfl rfl) rfl rfl rfl
theorem q_0_682  : zRun 0 682 L S sh mi mj mr = zRun 0 683 L (.int 3 :: S) sh mi mj mr := zr_p (zD_of zk_0 d_0_682 rfl rfl) rfl
theorem q_0_683  : zRun 0 683 L (.int y :: .int x :: S) sh mi mj mr = zRun 0 684 L (.int (x + y) :: S) sh mi mj mr := zr_p (zD_of zk_0 d_0_683 rfl rfl) rfl
theorem q_0_684 {n : Nat} (h : sh[0]? = some (99, n)) (hi : zin x n = true) : zRun 0 684 L (.int x :: .ref 0 :: S) sh mi mj mr = zRun 0 685 L (.int (mi 0 x.toNatClampNeg) :: S) sh mi mj mr := zr_sald (zD_of zk_0 d_0_684 rfl rfl) h hi
theorem q_0_685  {x0 x1 x2 : Int32} (hS : zcat S ≤ 8) (h : zIs sh o 0 8) : zRun 0 685 L (.int x2 :: .int x1 :: .int x0 :: .ref o :: S) sh mi mj mr = (zCall 186 [.ref o, .int x0, .int x1, .int x2] sh mi mj mr).bind fun r => zRun 0 688 L (r.1.toList ++ S) r.2.1 r.2.2.1 r.2.2.2.1 r.2.2.2.2 := zr_V (zD_of zk_0 d_0_685 rfl rfl) rfl zk_186 rfl rfl rfl hS h
theorem q_0_688  : zRun 0 688 L (.int y :: .int x :: S) sh mi mj mr = if x = y then zRun 0 873 L S sh mi mj mr else zRun 0 691 L S sh mi mj mr := zr_if (off := 185) (P := x = y) (zD_of zk_0 d_0_688 rfl rfl) rfl rfl (by decide)
theorem q_0_691  : zRun 0 691 L S sh mi mj mr = zRun 0 692 L (.int 0 :: S) sh mi mj mr := zr_p (zD_of zk_0 d_0_691 rfl rfl) rfl
theorem q_0_692 (h : x = 0 ∨ x = 1) : zRun 0 692 L ([.int x]) sh mi mj mr = some (some (.int x), sh, mi, mj, mr) := zr_ret (zD_of zk_0 d_0_692 rfl rfl) rfl rfl rfl rfl rfl (if_pos (zna_b h))
theorem q_0_693r : zRun 0 693 [l0, some (.ref o), l2, l3] S sh mi mj mr = zRun 0 694 [l0, some (.ref o), l2, l3] (.ref o :: S) sh mi mj mr := zr_l (zD_of zk_0 d_0_693 rfl rfl) rfl rfl rfl
theorem q_0_693n : zRun 0 693 [l0, some (.null), l2, l3] S sh mi mj mr = zRun 0 694 [l0, some (.null), l2, l3] (.null :: S) sh mi mj mr := zr_l (zD_of zk_0 d_0_693 rfl rfl) rfl rfl rfl
theorem q_0_694r : zRun 0 694 [some (.ref o), l1, l2, l3] S sh mi mj mr = zRun 0 695 [some (.ref o), l1, l2, l3] (.ref o :: S) sh mi mj mr := zr_l (zD_of zk_0 d_0_694 rfl rfl) rfl rfl rfl
theorem q_0_694n : zRun 0 694 [some (.null), l1, l2, l3] S sh mi mj mr = zRun 0 695 [some (.null), l1, l2, l3] (.null :: S) sh mi mj mr := zr_l (zD_of zk_0 d_0_694 rfl rfl) rfl rfl rfl
theorem q_0_695 : zRun 0 695 [l0, l1, l2, some (.int x)] S sh mi mj mr = zRun 0 696 [l0, l1, l2, some (.int x)] (.int x :: S) sh mi mj mr := zr_l (zD_of zk_0 d_0_695 rfl rfl) rfl rfl rfl
theorem q_0_696  : zRun 0 696 L S sh mi mj mr = zRun 0 697 L (.int 1 :: S) sh mi mj mr := zr_p (zD_of zk_0 d_0_696 rfl rfl) rfl
theorem q_0_697  : zRun 0 697 L (.int y :: .int x :: S) sh mi mj mr = zRun 0 698 L (.int (x + y) :: S) sh mi mj mr := zr_p (zD_of zk_0 d_0_697 rfl rfl) rfl
theorem q_0_698 {n : Nat} (h : sh[0]? = some (99, n)) (hi : zin x n = true) : zRun 0 698 L (.int x :: .ref 0 :: S) sh mi mj mr = zRun 0 699 L (.int (mi 0 x.toNatClampNeg) :: S) sh mi mj mr := zr_sald (zD_of zk_0 d_0_698 rfl rfl) h hi
theorem q_0_699  {x0 : Int32} (hS : zcat S ≤ 8) (h : zIs sh o 0 7) : zRun 0 699 L (.int x0 :: .ref o :: S) sh mi mj mr = (zCall 97 [.ref o, .int x0] sh mi mj mr).bind fun r => zRun 0 702 L (r.1.toList ++ S) r.2.1 r.2.2.1 r.2.2.2.1 r.2.2.2.2 := zr_V (zD_of zk_0 d_0_699 rfl rfl) rfl zk_97 rfl rfl rfl hS h
theorem q_0_702r : zRun 0 702 [l0, l1, some (.ref o), l3] S sh mi mj mr = zRun 0 703 [l0, l1, some (.ref o), l3] (.ref o :: S) sh mi mj mr := zr_l (zD_of zk_0 d_0_702 rfl rfl) rfl rfl rfl
theorem q_0_702n : zRun 0 702 [l0, l1, some (.null), l3] S sh mi mj mr = zRun 0 703 [l0, l1, some (.null), l3] (.null :: S) sh mi mj mr := zr_l (zD_of zk_0 d_0_702 rfl rfl) rfl rfl rfl
theorem q_0_703r : zRun 0 703 [some (.ref o), l1, l2, l3] S sh mi mj mr = zRun 0 704 [some (.ref o), l1, l2, l3] (.ref o :: S) sh mi mj mr := zr_l (zD_of zk_0 d_0_703 rfl rfl) rfl rfl rfl
theorem q_0_703n : zRun 0 703 [some (.null), l1, l2, l3] S sh mi mj mr = zRun 0 704 [some (.null), l1, l2, l3] (.null :: S) sh mi mj mr := zr_l (zD_of zk_0 d_0_703 rfl rfl) rfl rfl rfl
theorem q_0_704 : zRun 0 704 [l0, l1, l2, some (.int x)] S sh mi mj mr = zRun 0 705 [l0, l1, l2, some (.int x)] (.int x :: S) sh mi mj mr := zr_l (zD_of zk_0 d_0_704 rfl rfl) rfl rfl rfl
theorem q_0_705  : zRun 0 705 L S sh mi mj mr = zRun 0 706 L (.int 1 :: S) sh mi mj mr := zr_p (zD_of zk_0 d_0_705 rfl rfl) rfl
theorem q_0_706  : zRun 0 706 L (.int y :: .int x :: S) sh mi mj mr = zRun 0 707 L (.int (x + y) :: S) sh mi mj mr := zr_p (zD_of zk_0 d_0_706 rfl rfl) rfl
theorem q_0_707 {n : Nat} (h : sh[0]? = some (99, n)) (hi : zin x n = true) : zRun 0 707 L (.int x :: .ref 0 :: S) sh mi mj mr = zRun 0 708 L (.int (mi 0 x.toNatClampNeg) :: S) sh mi mj mr := zr_sald (zD_of zk_0 d_0_707 rfl rfl) h hi
theorem q_0_708  {x0 : Int32} (hS : zcat S ≤ 8) (h : zIs sh o 0 8) : zRun 0 708 L (.int x0 :: .ref o :: S) sh mi mj mr = (zCall 189 [.ref o, .int x0] sh mi mj mr).bind fun r => zRun 0 711 L (r.1.toList ++ S) r.2.1 r.2.2.1 r.2.2.2.1 r.2.2.2.2 := zr_V (zD_of zk_0 d_0_708 rfl rfl) rfl zk_189 rfl rfl rfl hS h
theorem q_0_711  : zRun 0 711 L (.long v :: .long u :: S) sh mi mj mr = if u = v then zRun 0 873 L S sh mi mj mr else zRun 0 715 L S sh mi mj mr := zr_cmp (off := 161) (zD_of zk_0 d_0_711 rfl rfl) (zD_of zk_0 d_0_712 rfl rfl) rfl rfl (by decide) (lg_cmp_eq u v)
theorem q_0_712  : zRun 0 712 L (.int x :: S) sh mi mj mr = if x = 0 then zRun 0 873 L S sh mi mj mr else zRun 0 715 L S sh mi mj mr := zr_if (off := 161) (P := x = 0) (zD_of zk_0 d_0_712 rfl rfl) rfl rfl (by decide)
theorem q_0_715  : zRun 0 715 L S sh mi mj mr = zRun 0 716 L (.int 0 :: S) sh mi mj mr := zr_p (zD_of zk_0 d_0_715 rfl rfl) rfl
theorem q_0_716 (h : x = 0 ∨ x = 1) : zRun 0 716 L ([.int x]) sh mi mj mr = some (some (.int x), sh, mi, mj, mr) := zr_ret (zD_of zk_0 d_0_716 rfl rfl) rfl rfl rfl rfl rfl (if_pos (zna_b h))
theorem q_0_717r : zRun 0 717 [l0, some (.ref o), l2, l3] S sh mi mj mr = zRun 0 718 [l0, some (.ref o), l2, l3] (.ref o :: S) sh mi mj mr := zr_l (zD_of zk_0 d_0_717 rfl rfl) rfl rfl rfl
theorem q_0_717n : zRun 0 717 [l0, some (.null), l2, l3] S sh mi mj mr = zRun 0 718 [l0, some (.null), l2, l3] (.null :: S) sh mi mj mr := zr_l (zD_of zk_0 d_0_717 rfl rfl) rfl rfl rfl
theorem q_0_718r : zRun 0 718 [some (.ref o), l1, l2, l3] S sh mi mj mr = zRun 0 719 [some (.ref o), l1, l2, l3] (.ref o :: S) sh mi mj mr := zr_l (zD_of zk_0 d_0_718 rfl rfl) rfl rfl rfl
theorem q_0_718n : zRun 0 718 [some (.null), l1, l2, l3] S sh mi mj mr = zRun 0 719 [some (.null), l1, l2, l3] (.null :: S) sh mi mj mr := zr_l (zD_of zk_0 d_0_718 rfl rfl) rfl rfl rfl
theorem q_0_719 : zRun 0 719 [l0, l1, l2, some (.int x)] S sh mi mj mr = zRun 0 720 [l0, l1, l2, some (.int x)] (.int x :: S) sh mi mj mr := zr_l (zD_of zk_0 d_0_719 rfl rfl) rfl rfl rfl
theorem q_0_720  : zRun 0 720 L S sh mi mj mr = zRun 0 721 L (.int 1 :: S) sh mi mj mr := zr_p (zD_of zk_0 d_0_720 rfl rfl) rfl
theorem q_0_721  : zRun 0 721 L (.int y :: .int x :: S) sh mi mj mr = zRun 0 722 L (.int (x + y) :: S) sh mi mj mr := zr_p (zD_of zk_0 d_0_721 rfl rfl) rfl
theorem q_0_722 {n : Nat} (h : sh[0]? = some (99, n)) (hi : zin x n = true) : zRun 0 722 L (.int x :: .ref 0 :: S) sh mi mj mr = zRun 0 723 L (.int (mi 0 x.toNatClampNeg) :: S) sh mi mj mr := zr_sald (zD_of zk_0 d_0_722 rfl rfl) h hi
theorem q_0_723r : zRun 0 723 [some (.ref o), l1, l2, l3] S sh mi mj mr = zRun 0 724 [some (.ref o), l1, l2, l3] (.ref o :: S) sh mi mj mr := zr_l (zD_of zk_0 d_0_723 rfl rfl) rfl rfl rfl
theorem q_0_723n : zRun 0 723 [some (.null), l1, l2, l3] S sh mi mj mr = zRun 0 724 [some (.null), l1, l2, l3] (.null :: S) sh mi mj mr := zr_l (zD_of zk_0 d_0_723 rfl rfl) rfl rfl rfl
theorem q_0_724 : zRun 0 724 [l0, l1, l2, some (.int x)] S sh mi mj mr = zRun 0 725 [l0, l1, l2, some (.int x)] (.int x :: S) sh mi mj mr := zr_l (zD_of zk_0 d_0_724 rfl rfl) rfl rfl rfl
theorem q_0_725  : zRun 0 725 L S sh mi mj mr = zRun 0 726 L (.int 2 :: S) sh mi mj mr := zr_p (zD_of zk_0 d_0_725 rfl rfl) rfl
theorem q_0_726  : zRun 0 726 L (.int y :: .int x :: S) sh mi mj mr = zRun 0 727 L (.int (x + y) :: S) sh mi mj mr := zr_p (zD_of zk_0 d_0_726 rfl rfl) rfl
theorem q_0_727 {n : Nat} (h : sh[0]? = some (99, n)) (hi : zin x n = true) : zRun 0 727 L (.int x :: .ref 0 :: S) sh mi mj mr = zRun 0 728 L (.int (mi 0 x.toNatClampNeg) :: S) sh mi mj mr := zr_sald (zD_of zk_0 d_0_727 rfl rfl) h hi
theorem q_0_728r : zRun 0 728 [some (.ref o), l1, l2, l3] S sh mi mj mr = zRun 0 729 [some (.ref o), l1, l2, l3] (.ref o :: S) sh mi mj mr := zr_l (zD_of zk_0 d_0_728 rfl rfl) rfl rfl rfl
theorem q_0_728n : zRun 0 728 [some (.null), l1, l2, l3] S sh mi mj mr = zRun 0 729 [some (.null), l1, l2, l3] (.null :: S) sh mi mj mr := zr_l (zD_of zk_0 d_0_728 rfl rfl) rfl rfl rfl
theorem q_0_729 : zRun 0 729 [l0, l1, l2, some (.int x)] S sh mi mj mr = zRun 0 730 [l0, l1, l2, some (.int x)] (.int x :: S) sh mi mj mr := zr_l (zD_of zk_0 d_0_729 rfl rfl) rfl rfl rfl
theorem q_0_730  : zRun 0 730 L S sh mi mj mr = zRun 0 731 L (.int 3 :: S) sh mi mj mr := zr_p (zD_of zk_0 d_0_730 rfl rfl) rfl
theorem q_0_731  : zRun 0 731 L (.int y :: .int x :: S) sh mi mj mr = zRun 0 732 L (.int (x + y) :: S) sh mi mj mr := zr_p (zD_of zk_0 d_0_731 rfl rfl) rfl
theorem q_0_732 {n : Nat} (h : sh[0]? = some (99, n)) (hi : zin x n = true) : zRun 0 732 L (.int x :: .ref 0 :: S) sh mi mj mr = zRun 0 733 L (.int (mi 0 x.toNatClampNeg) :: S) sh mi mj mr := zr_sald (zD_of zk_0 d_0_732 rfl rfl) h hi
theorem q_0_733  {x0 x1 x2 : Int32} (hS : zcat S ≤ 8) (h : zIs sh o 0 7) : zRun 0 733 L (.int x2 :: .int x1 :: .int x0 :: .ref o :: S) sh mi mj mr = (zCall 98 [.ref o, .int x0, .int x1, .int x2] sh mi mj mr).bind fun r => zRun 0 736 L (r.1.toList ++ S) r.2.1 r.2.2.1 r.2.2.2.1 r.2.2.2.2 := zr_V (zD_of zk_0 d_0_733 rfl rfl) rfl zk_98 rfl rfl rfl hS h
theorem q_0_736r : zRun 0 736 [l0, l1, some (.ref o), l3] S sh mi mj mr = zRun 0 737 [l0, l1, some (.ref o), l3] (.ref o :: S) sh mi mj mr := zr_l (zD_of zk_0 d_0_736 rfl rfl) rfl rfl rfl
theorem q_0_736n : zRun 0 736 [l0, l1, some (.null), l3] S sh mi mj mr = zRun 0 737 [l0, l1, some (.null), l3] (.null :: S) sh mi mj mr := zr_l (zD_of zk_0 d_0_736 rfl rfl) rfl rfl rfl
theorem q_0_737r : zRun 0 737 [some (.ref o), l1, l2, l3] S sh mi mj mr = zRun 0 738 [some (.ref o), l1, l2, l3] (.ref o :: S) sh mi mj mr := zr_l (zD_of zk_0 d_0_737 rfl rfl) rfl rfl rfl
theorem q_0_737n : zRun 0 737 [some (.null), l1, l2, l3] S sh mi mj mr = zRun 0 738 [some (.null), l1, l2, l3] (.null :: S) sh mi mj mr := zr_l (zD_of zk_0 d_0_737 rfl rfl) rfl rfl rfl
theorem q_0_738 : zRun 0 738 [l0, l1, l2, some (.int x)] S sh mi mj mr = zRun 0 739 [l0, l1, l2, some (.int x)] (.int x :: S) sh mi mj mr := zr_l (zD_of zk_0 d_0_738 rfl rfl) rfl rfl rfl
theorem q_0_739  : zRun 0 739 L S sh mi mj mr = zRun 0 740 L (.int 1 :: S) sh mi mj mr := zr_p (zD_of zk_0 d_0_739 rfl rfl) rfl
theorem q_0_740  : zRun 0 740 L (.int y :: .int x :: S) sh mi mj mr = zRun 0 741 L (.int (x + y) :: S) sh mi mj mr := zr_p (zD_of zk_0 d_0_740 rfl rfl) rfl
theorem q_0_741 {n : Nat} (h : sh[0]? = some (99, n)) (hi : zin x n = true) : zRun 0 741 L (.int x :: .ref 0 :: S) sh mi mj mr = zRun 0 742 L (.int (mi 0 x.toNatClampNeg) :: S) sh mi mj mr := zr_sald (zD_of zk_0 d_0_741 rfl rfl) h hi
theorem q_0_742r : zRun 0 742 [some (.ref o), l1, l2, l3] S sh mi mj mr = zRun 0 743 [some (.ref o), l1, l2, l3] (.ref o :: S) sh mi mj mr := zr_l (zD_of zk_0 d_0_742 rfl rfl) rfl rfl rfl
theorem q_0_742n : zRun 0 742 [some (.null), l1, l2, l3] S sh mi mj mr = zRun 0 743 [some (.null), l1, l2, l3] (.null :: S) sh mi mj mr := zr_l (zD_of zk_0 d_0_742 rfl rfl) rfl rfl rfl
theorem q_0_743 : zRun 0 743 [l0, l1, l2, some (.int x)] S sh mi mj mr = zRun 0 744 [l0, l1, l2, some (.int x)] (.int x :: S) sh mi mj mr := zr_l (zD_of zk_0 d_0_743 rfl rfl) rfl rfl rfl
theorem q_0_744  : zRun 0 744 L S sh mi mj mr = zRun 0 745 L (.int 2 :: S) sh mi mj mr := zr_p (zD_of zk_0 d_0_744 rfl rfl) rfl
theorem q_0_745  : zRun 0 745 L (.int y :: .int x :: S) sh mi mj mr = zRun 0 746 L (.int (x + y) :: S) sh mi mj mr := zr_p (zD_of zk_0 d_0_745 rfl rfl) rfl
theorem q_0_746 {n : Nat} (h : sh[0]? = some (99, n)) (hi : zin x n = true) : zRun 0 746 L (.int x :: .ref 0 :: S) sh mi mj mr = zRun 0 747 L (.int (mi 0 x.toNatClampNeg) :: S) sh mi mj mr := zr_sald (zD_of zk_0 d_0_746 rfl rfl) h hi
theorem q_0_747r : zRun 0 747 [some (.ref o), l1, l2, l3] S sh mi mj mr = zRun 0 748 [some (.ref o), l1, l2, l3] (.ref o :: S) sh mi mj mr := zr_l (zD_of zk_0 d_0_747 rfl rfl) rfl rfl rfl
theorem q_0_747n : zRun 0 747 [some (.null), l1, l2, l3] S sh mi mj mr = zRun 0 748 [some (.null), l1, l2, l3] (.null :: S) sh mi mj mr := zr_l (zD_of zk_0 d_0_747 rfl rfl) rfl rfl rfl
theorem q_0_748 : zRun 0 748 [l0, l1, l2, some (.int x)] S sh mi mj mr = zRun 0 749 [l0, l1, l2, some (.int x)] (.int x :: S) sh mi mj mr := zr_l (zD_of zk_0 d_0_748 rfl rfl) rfl rfl rfl
theorem q_0_749  : zRun 0 749 L S sh mi mj mr = zRun 0 750 L (.int 3 :: S) sh mi mj mr := zr_p (zD_of zk_0 d_0_749 rfl rfl) rfl
theorem q_0_750  : zRun 0 750 L (.int y :: .int x :: S) sh mi mj mr = zRun 0 751 L (.int (x + y) :: S) sh mi mj mr := zr_p (zD_of zk_0 d_0_750 rfl rfl) rfl
theorem q_0_751 {n : Nat} (h : sh[0]? = some (99, n)) (hi : zin x n = true) : zRun 0 751 L (.int x :: .ref 0 :: S) sh mi mj mr = zRun 0 752 L (.int (mi 0 x.toNatClampNeg) :: S) sh mi mj mr := zr_sald (zD_of zk_0 d_0_751 rfl rfl) h hi
theorem q_0_752  {x0 x1 x2 : Int32} (hS : zcat S ≤ 8) (h : zIs sh o 0 8) : zRun 0 752 L (.int x2 :: .int x1 :: .int x0 :: .ref o :: S) sh mi mj mr = (zCall 192 [.ref o, .int x0, .int x1, .int x2] sh mi mj mr).bind fun r => zRun 0 755 L (r.1.toList ++ S) r.2.1 r.2.2.1 r.2.2.2.1 r.2.2.2.2 := zr_V (zD_of zk_0 d_0_752 rfl rfl) rfl zk_192 rfl rfl rfl hS h
theorem q_0_755  : zRun 0 755 L (.long v :: .long u :: S) sh mi mj mr = if u = v then zRun 0 873 L S sh mi mj mr else zRun 0 759 L S sh mi mj mr := zr_cmp (off := 117) (zD_of zk_0 d_0_755 rfl rfl) (zD_of zk_0 d_0_756 rfl rfl) rfl rfl (by decide) (lg_cmp_eq u v)
theorem q_0_756  : zRun 0 756 L (.int x :: S) sh mi mj mr = if x = 0 then zRun 0 873 L S sh mi mj mr else zRun 0 759 L S sh mi mj mr := zr_if (off := 117) (P := x = 0) (zD_of zk_0 d_0_756 rfl rfl) rfl rfl (by decide)
theorem q_0_759  : zRun 0 759 L S sh mi mj mr = zRun 0 760 L (.int 0 :: S) sh mi mj mr := zr_p (zD_of zk_0 d_0_759 rfl rfl) rfl
theorem q_0_760 (h : x = 0 ∨ x = 1) : zRun 0 760 L ([.int x]) sh mi mj mr = some (some (.int x), sh, mi, mj, mr) := zr_ret (zD_of zk_0 d_0_760 rfl rfl) rfl rfl rfl rfl rfl (if_pos (zna_b h))
theorem q_0_761r : zRun 0 761 [l0, some (.ref o), l2, l3] S sh mi mj mr = zRun 0 762 [l0, some (.ref o), l2, l3] (.ref o :: S) sh mi mj mr := zr_l (zD_of zk_0 d_0_761 rfl rfl) rfl rfl rfl
theorem q_0_761n : zRun 0 761 [l0, some (.null), l2, l3] S sh mi mj mr = zRun 0 762 [l0, some (.null), l2, l3] (.null :: S) sh mi mj mr := zr_l (zD_of zk_0 d_0_761 rfl rfl) rfl rfl rfl
theorem q_0_762r : zRun 0 762 [some (.ref o), l1, l2, l3] S sh mi mj mr = zRun 0 763 [some (.ref o), l1, l2, l3] (.ref o :: S) sh mi mj mr := zr_l (zD_of zk_0 d_0_762 rfl rfl) rfl rfl rfl
theorem q_0_762n : zRun 0 762 [some (.null), l1, l2, l3] S sh mi mj mr = zRun 0 763 [some (.null), l1, l2, l3] (.null :: S) sh mi mj mr := zr_l (zD_of zk_0 d_0_762 rfl rfl) rfl rfl rfl
theorem q_0_763 : zRun 0 763 [l0, l1, l2, some (.int x)] S sh mi mj mr = zRun 0 764 [l0, l1, l2, some (.int x)] (.int x :: S) sh mi mj mr := zr_l (zD_of zk_0 d_0_763 rfl rfl) rfl rfl rfl
theorem q_0_764  : zRun 0 764 L S sh mi mj mr = zRun 0 765 L (.int 1 :: S) sh mi mj mr := zr_p (zD_of zk_0 d_0_764 rfl rfl) rfl
theorem q_0_765  : zRun 0 765 L (.int y :: .int x :: S) sh mi mj mr = zRun 0 766 L (.int (x + y) :: S) sh mi mj mr := zr_p (zD_of zk_0 d_0_765 rfl rfl) rfl
theorem q_0_766 {n : Nat} (h : sh[0]? = some (99, n)) (hi : zin x n = true) : zRun 0 766 L (.int x :: .ref 0 :: S) sh mi mj mr = zRun 0 767 L (.int (mi 0 x.toNatClampNeg) :: S) sh mi mj mr := zr_sald (zD_of zk_0 d_0_766 rfl rfl) h hi
theorem q_0_767r : zRun 0 767 [some (.ref o), l1, l2, l3] S sh mi mj mr = zRun 0 768 [some (.ref o), l1, l2, l3] (.ref o :: S) sh mi mj mr := zr_l (zD_of zk_0 d_0_767 rfl rfl) rfl rfl rfl
theorem q_0_767n : zRun 0 767 [some (.null), l1, l2, l3] S sh mi mj mr = zRun 0 768 [some (.null), l1, l2, l3] (.null :: S) sh mi mj mr := zr_l (zD_of zk_0 d_0_767 rfl rfl) rfl rfl rfl
theorem q_0_768 : zRun 0 768 [l0, l1, l2, some (.int x)] S sh mi mj mr = zRun 0 769 [l0, l1, l2, some (.int x)] (.int x :: S) sh mi mj mr := zr_l (zD_of zk_0 d_0_768 rfl rfl) rfl rfl rfl
theorem q_0_769  : zRun 0 769 L S sh mi mj mr = zRun 0 770 L (.int 2 :: S) sh mi mj mr := zr_p (zD_of zk_0 d_0_769 rfl rfl) rfl
theorem q_0_770  : zRun 0 770 L (.int y :: .int x :: S) sh mi mj mr = zRun 0 771 L (.int (x + y) :: S) sh mi mj mr := zr_p (zD_of zk_0 d_0_770 rfl rfl) rfl
theorem q_0_771 {n : Nat} (h : sh[0]? = some (99, n)) (hi : zin x n = true) : zRun 0 771 L (.int x :: .ref 0 :: S) sh mi mj mr = zRun 0 772 L (.int (mi 0 x.toNatClampNeg) :: S) sh mi mj mr := zr_sald (zD_of zk_0 d_0_771 rfl rfl) h hi
theorem q_0_772r : zRun 0 772 [some (.ref o), l1, l2, l3] S sh mi mj mr = zRun 0 773 [some (.ref o), l1, l2, l3] (.ref o :: S) sh mi mj mr := zr_l (zD_of zk_0 d_0_772 rfl rfl) rfl rfl rfl
theorem q_0_772n : zRun 0 772 [some (.null), l1, l2, l3] S sh mi mj mr = zRun 0 773 [some (.null), l1, l2, l3] (.null :: S) sh mi mj mr := zr_l (zD_of zk_0 d_0_772 rfl rfl) rfl rfl rfl
theorem q_0_773 : zRun 0 773 [l0, l1, l2, some (.int x)] S sh mi mj mr = zRun 0 774 [l0, l1, l2, some (.int x)] (.int x :: S) sh mi mj mr := zr_l (zD_of zk_0 d_0_773 rfl rfl) rfl rfl rfl
theorem q_0_774  : zRun 0 774 L S sh mi mj mr = zRun 0 775 L (.int 3 :: S) sh mi mj mr := zr_p (zD_of zk_0 d_0_774 rfl rfl) rfl
theorem q_0_775  : zRun 0 775 L (.int y :: .int x :: S) sh mi mj mr = zRun 0 776 L (.int (x + y) :: S) sh mi mj mr := zr_p (zD_of zk_0 d_0_775 rfl rfl) rfl
theorem q_0_776 {n : Nat} (h : sh[0]? = some (99, n)) (hi : zin x n = true) : zRun 0 776 L (.int x :: .ref 0 :: S) sh mi mj mr = zRun 0 777 L (.int (mi 0 x.toNatClampNeg) :: S) sh mi mj mr := zr_sald (zD_of zk_0 d_0_776 rfl rfl) h hi
theorem q_0_777  {x0 x1 x2 : Int32} (hS : zcat S ≤ 8) (h : zIs sh o 0 7) : zRun 0 777 L (.int x2 :: .int x1 :: .int x0 :: .ref o :: S) sh mi mj mr = (zCall 99 [.ref o, .int x0, .int x1, .int x2] sh mi mj mr).bind fun r => zRun 0 780 L (r.1.toList ++ S) r.2.1 r.2.2.1 r.2.2.2.1 r.2.2.2.2 := zr_V (zD_of zk_0 d_0_777 rfl rfl) rfl zk_99 rfl rfl rfl hS h
theorem q_0_780r : zRun 0 780 [l0, l1, some (.ref o), l3] S sh mi mj mr = zRun 0 781 [l0, l1, some (.ref o), l3] (.ref o :: S) sh mi mj mr := zr_l (zD_of zk_0 d_0_780 rfl rfl) rfl rfl rfl
theorem q_0_780n : zRun 0 780 [l0, l1, some (.null), l3] S sh mi mj mr = zRun 0 781 [l0, l1, some (.null), l3] (.null :: S) sh mi mj mr := zr_l (zD_of zk_0 d_0_780 rfl rfl) rfl rfl rfl
theorem q_0_781r : zRun 0 781 [some (.ref o), l1, l2, l3] S sh mi mj mr = zRun 0 782 [some (.ref o), l1, l2, l3] (.ref o :: S) sh mi mj mr := zr_l (zD_of zk_0 d_0_781 rfl rfl) rfl rfl rfl
theorem q_0_781n : zRun 0 781 [some (.null), l1, l2, l3] S sh mi mj mr = zRun 0 782 [some (.null), l1, l2, l3] (.null :: S) sh mi mj mr := zr_l (zD_of zk_0 d_0_781 rfl rfl) rfl rfl rfl
theorem q_0_782 : zRun 0 782 [l0, l1, l2, some (.int x)] S sh mi mj mr = zRun 0 783 [l0, l1, l2, some (.int x)] (.int x :: S) sh mi mj mr := zr_l (zD_of zk_0 d_0_782 rfl rfl) rfl rfl rfl
theorem q_0_783  : zRun 0 783 L S sh mi mj mr = zRun 0 784 L (.int 1 :: S) sh mi mj mr := zr_p (zD_of zk_0 d_0_783 rfl rfl) rfl
theorem q_0_784  : zRun 0 784 L (.int y :: .int x :: S) sh mi mj mr = zRun 0 785 L (.int (x + y) :: S) sh mi mj mr := zr_p (zD_of zk_0 d_0_784 rfl rfl) rfl
theorem q_0_785 {n : Nat} (h : sh[0]? = some (99, n)) (hi : zin x n = true) : zRun 0 785 L (.int x :: .ref 0 :: S) sh mi mj mr = zRun 0 786 L (.int (mi 0 x.toNatClampNeg) :: S) sh mi mj mr := zr_sald (zD_of zk_0 d_0_785 rfl rfl) h hi
theorem q_0_786r : zRun 0 786 [some (.ref o), l1, l2, l3] S sh mi mj mr = zRun 0 787 [some (.ref o), l1, l2, l3] (.ref o :: S) sh mi mj mr := zr_l (zD_of zk_0 d_0_786 rfl rfl) rfl rfl rfl
theorem q_0_786n : zRun 0 786 [some (.null), l1, l2, l3] S sh mi mj mr = zRun 0 787 [some (.null), l1, l2, l3] (.null :: S) sh mi mj mr := zr_l (zD_of zk_0 d_0_786 rfl rfl) rfl rfl rfl
theorem q_0_787 : zRun 0 787 [l0, l1, l2, some (.int x)] S sh mi mj mr = zRun 0 788 [l0, l1, l2, some (.int x)] (.int x :: S) sh mi mj mr := zr_l (zD_of zk_0 d_0_787 rfl rfl) rfl rfl rfl
theorem q_0_788  : zRun 0 788 L S sh mi mj mr = zRun 0 789 L (.int 2 :: S) sh mi mj mr := zr_p (zD_of zk_0 d_0_788 rfl rfl) rfl
theorem q_0_789  : zRun 0 789 L (.int y :: .int x :: S) sh mi mj mr = zRun 0 790 L (.int (x + y) :: S) sh mi mj mr := zr_p (zD_of zk_0 d_0_789 rfl rfl) rfl
theorem q_0_790 {n : Nat} (h : sh[0]? = some (99, n)) (hi : zin x n = true) : zRun 0 790 L (.int x :: .ref 0 :: S) sh mi mj mr = zRun 0 791 L (.int (mi 0 x.toNatClampNeg) :: S) sh mi mj mr := zr_sald (zD_of zk_0 d_0_790 rfl rfl) h hi
theorem q_0_791r : zRun 0 791 [some (.ref o), l1, l2, l3] S sh mi mj mr = zRun 0 792 [some (.ref o), l1, l2, l3] (.ref o :: S) sh mi mj mr := zr_l (zD_of zk_0 d_0_791 rfl rfl) rfl rfl rfl
theorem q_0_791n : zRun 0 791 [some (.null), l1, l2, l3] S sh mi mj mr = zRun 0 792 [some (.null), l1, l2, l3] (.null :: S) sh mi mj mr := zr_l (zD_of zk_0 d_0_791 rfl rfl) rfl rfl rfl
theorem q_0_792 : zRun 0 792 [l0, l1, l2, some (.int x)] S sh mi mj mr = zRun 0 793 [l0, l1, l2, some (.int x)] (.int x :: S) sh mi mj mr := zr_l (zD_of zk_0 d_0_792 rfl rfl) rfl rfl rfl
theorem q_0_793  : zRun 0 793 L S sh mi mj mr = zRun 0 794 L (.int 3 :: S) sh mi mj mr := zr_p (zD_of zk_0 d_0_793 rfl rfl) rfl
theorem q_0_794  : zRun 0 794 L (.int y :: .int x :: S) sh mi mj mr = zRun 0 795 L (.int (x + y) :: S) sh mi mj mr := zr_p (zD_of zk_0 d_0_794 rfl rfl) rfl
theorem q_0_795 {n : Nat} (h : sh[0]? = some (99, n)) (hi : zin x n = true) : zRun 0 795 L (.int x :: .ref 0 :: S) sh mi mj mr = zRun 0 796 L (.int (mi 0 x.toNatClampNeg) :: S) sh mi mj mr := zr_sald (zD_of zk_0 d_0_795 rfl rfl) h hi
theorem q_0_796  {x0 x1 x2 : Int32} (hS : zcat S ≤ 8) (h : zIs sh o 0 8) : zRun 0 796 L (.int x2 :: .int x1 :: .int x0 :: .ref o :: S) sh mi mj mr = (zCall 193 [.ref o, .int x0, .int x1, .int x2] sh mi mj mr).bind fun r => zRun 0 799 L (r.1.toList ++ S) r.2.1 r.2.2.1 r.2.2.2.1 r.2.2.2.2 := zr_V (zD_of zk_0 d_0_796 rfl rfl) rfl zk_193 rfl rfl rfl hS h
theorem q_0_799  : zRun 0 799 L (.int y :: .int x :: S) sh mi mj mr = if x = y then zRun 0 873 L S sh mi mj mr else zRun 0 802 L S sh mi mj mr := zr_if (off := 74) (P := x = y) (zD_of zk_0 d_0_799 rfl rfl) rfl rfl (by decide)
theorem q_0_802  : zRun 0 802 L S sh mi mj mr = zRun 0 803 L (.int 0 :: S) sh mi mj mr := zr_p (zD_of zk_0 d_0_802 rfl rfl) rfl
theorem q_0_803 (h : x = 0 ∨ x = 1) : zRun 0 803 L ([.int x]) sh mi mj mr = some (some (.int x), sh, mi, mj, mr) := zr_ret (zD_of zk_0 d_0_803 rfl rfl) rfl rfl rfl rfl rfl (if_pos (zna_b h))
theorem q_0_804r : zRun 0 804 [l0, some (.ref o), l2, l3] S sh mi mj mr = zRun 0 805 [l0, some (.ref o), l2, l3] (.ref o :: S) sh mi mj mr := zr_l (zD_of zk_0 d_0_804 rfl rfl) rfl rfl rfl
theorem q_0_804n : zRun 0 804 [l0, some (.null), l2, l3] S sh mi mj mr = zRun 0 805 [l0, some (.null), l2, l3] (.null :: S) sh mi mj mr := zr_l (zD_of zk_0 d_0_804 rfl rfl) rfl rfl rfl
theorem q_0_805r : zRun 0 805 [some (.ref o), l1, l2, l3] S sh mi mj mr = zRun 0 806 [some (.ref o), l1, l2, l3] (.ref o :: S) sh mi mj mr := zr_l (zD_of zk_0 d_0_805 rfl rfl) rfl rfl rfl
theorem q_0_805n : zRun 0 805 [some (.null), l1, l2, l3] S sh mi mj mr = zRun 0 806 [some (.null), l1, l2, l3] (.null :: S) sh mi mj mr := zr_l (zD_of zk_0 d_0_805 rfl rfl) rfl rfl rfl
theorem q_0_806 : zRun 0 806 [l0, l1, l2, some (.int x)] S sh mi mj mr = zRun 0 807 [l0, l1, l2, some (.int x)] (.int x :: S) sh mi mj mr := zr_l (zD_of zk_0 d_0_806 rfl rfl) rfl rfl rfl
theorem q_0_807  : zRun 0 807 L S sh mi mj mr = zRun 0 808 L (.int 1 :: S) sh mi mj mr := zr_p (zD_of zk_0 d_0_807 rfl rfl) rfl
theorem q_0_808  : zRun 0 808 L (.int y :: .int x :: S) sh mi mj mr = zRun 0 809 L (.int (x + y) :: S) sh mi mj mr := zr_p (zD_of zk_0 d_0_808 rfl rfl) rfl
theorem q_0_809 {n : Nat} (h : sh[0]? = some (99, n)) (hi : zin x n = true) : zRun 0 809 L (.int x :: .ref 0 :: S) sh mi mj mr = zRun 0 810 L (.int (mi 0 x.toNatClampNeg) :: S) sh mi mj mr := zr_sald (zD_of zk_0 d_0_809 rfl rfl) h hi
theorem q_0_810  {x0 : Int32} (hS : zcat S ≤ 8) (h : zIs sh o 0 7) : zRun 0 810 L (.int x0 :: .ref o :: S) sh mi mj mr = (zCall 100 [.ref o, .int x0] sh mi mj mr).bind fun r => zRun 0 813 L (r.1.toList ++ S) r.2.1 r.2.2.1 r.2.2.2.1 r.2.2.2.2 := zr_V (zD_of zk_0 d_0_810 rfl rfl) rfl zk_100 rfl rfl rfl hS h
theorem q_0_813r : zRun 0 813 [l0, l1, some (.ref o), l3] S sh mi mj mr = zRun 0 814 [l0, l1, some (.ref o), l3] (.ref o :: S) sh mi mj mr := zr_l (zD_of zk_0 d_0_813 rfl rfl) rfl rfl rfl
theorem q_0_813n : zRun 0 813 [l0, l1, some (.null), l3] S sh mi mj mr = zRun 0 814 [l0, l1, some (.null), l3] (.null :: S) sh mi mj mr := zr_l (zD_of zk_0 d_0_813 rfl rfl) rfl rfl rfl
theorem q_0_814r : zRun 0 814 [some (.ref o), l1, l2, l3] S sh mi mj mr = zRun 0 815 [some (.ref o), l1, l2, l3] (.ref o :: S) sh mi mj mr := zr_l (zD_of zk_0 d_0_814 rfl rfl) rfl rfl rfl
theorem q_0_814n : zRun 0 814 [some (.null), l1, l2, l3] S sh mi mj mr = zRun 0 815 [some (.null), l1, l2, l3] (.null :: S) sh mi mj mr := zr_l (zD_of zk_0 d_0_814 rfl rfl) rfl rfl rfl
theorem q_0_815 : zRun 0 815 [l0, l1, l2, some (.int x)] S sh mi mj mr = zRun 0 816 [l0, l1, l2, some (.int x)] (.int x :: S) sh mi mj mr := zr_l (zD_of zk_0 d_0_815 rfl rfl) rfl rfl rfl
theorem q_0_816  : zRun 0 816 L S sh mi mj mr = zRun 0 817 L (.int 1 :: S) sh mi mj mr := zr_p (zD_of zk_0 d_0_816 rfl rfl) rfl
theorem q_0_817  : zRun 0 817 L (.int y :: .int x :: S) sh mi mj mr = zRun 0 818 L (.int (x + y) :: S) sh mi mj mr := zr_p (zD_of zk_0 d_0_817 rfl rfl) rfl
theorem q_0_818 {n : Nat} (h : sh[0]? = some (99, n)) (hi : zin x n = true) : zRun 0 818 L (.int x :: .ref 0 :: S) sh mi mj mr = zRun 0 819 L (.int (mi 0 x.toNatClampNeg) :: S) sh mi mj mr := zr_sald (zD_of zk_0 d_0_818 rfl rfl) h hi
theorem q_0_819  {x0 : Int32} (hS : zcat S ≤ 8) (h : zIs sh o 0 8) : zRun 0 819 L (.int x0 :: .ref o :: S) sh mi mj mr = (zCall 196 [.ref o, .int x0] sh mi mj mr).bind fun r => zRun 0 822 L (r.1.toList ++ S) r.2.1 r.2.2.1 r.2.2.2.1 r.2.2.2.2 := zr_V (zD_of zk_0 d_0_819 rfl rfl) rfl zk_196 rfl rfl rfl hS h
theorem q_0_822  : zRun 0 822 L (.int y :: .int x :: S) sh mi mj mr = if x = y then zRun 0 873 L S sh mi mj mr else zRun 0 825 L S sh mi mj mr := zr_if (off := 51) (P := x = y) (zD_of zk_0 d_0_822 rfl rfl) rfl rfl (by decide)
theorem q_0_825  : zRun 0 825 L S sh mi mj mr = zRun 0 826 L (.int 0 :: S) sh mi mj mr := zr_p (zD_of zk_0 d_0_825 rfl rfl) rfl
theorem q_0_826 (h : x = 0 ∨ x = 1) : zRun 0 826 L ([.int x]) sh mi mj mr = some (some (.int x), sh, mi, mj, mr) := zr_ret (zD_of zk_0 d_0_826 rfl rfl) rfl rfl rfl rfl rfl (if_pos (zna_b h))
theorem q_0_827r : zRun 0 827 [l0, some (.ref o), l2, l3] S sh mi mj mr = zRun 0 828 [l0, some (.ref o), l2, l3] (.ref o :: S) sh mi mj mr := zr_l (zD_of zk_0 d_0_827 rfl rfl) rfl rfl rfl
theorem q_0_827n : zRun 0 827 [l0, some (.null), l2, l3] S sh mi mj mr = zRun 0 828 [l0, some (.null), l2, l3] (.null :: S) sh mi mj mr := zr_l (zD_of zk_0 d_0_827 rfl rfl) rfl rfl rfl
theorem q_0_828r : zRun 0 828 [some (.ref o), l1, l2, l3] S sh mi mj mr = zRun 0 829 [some (.ref o), l1, l2, l3] (.ref o :: S) sh mi mj mr := zr_l (zD_of zk_0 d_0_828 rfl rfl) rfl rfl rfl
theorem q_0_828n : zRun 0 828 [some (.null), l1, l2, l3] S sh mi mj mr = zRun 0 829 [some (.null), l1, l2, l3] (.null :: S) sh mi mj mr := zr_l (zD_of zk_0 d_0_828 rfl rfl) rfl rfl rfl
theorem q_0_829 : zRun 0 829 [l0, l1, l2, some (.int x)] S sh mi mj mr = zRun 0 830 [l0, l1, l2, some (.int x)] (.int x :: S) sh mi mj mr := zr_l (zD_of zk_0 d_0_829 rfl rfl) rfl rfl rfl
theorem q_0_830  : zRun 0 830 L S sh mi mj mr = zRun 0 831 L (.int 1 :: S) sh mi mj mr := zr_p (zD_of zk_0 d_0_830 rfl rfl) rfl
theorem q_0_831  : zRun 0 831 L (.int y :: .int x :: S) sh mi mj mr = zRun 0 832 L (.int (x + y) :: S) sh mi mj mr := zr_p (zD_of zk_0 d_0_831 rfl rfl) rfl
theorem q_0_832 {n : Nat} (h : sh[0]? = some (99, n)) (hi : zin x n = true) : zRun 0 832 L (.int x :: .ref 0 :: S) sh mi mj mr = zRun 0 833 L (.int (mi 0 x.toNatClampNeg) :: S) sh mi mj mr := zr_sald (zD_of zk_0 d_0_832 rfl rfl) h hi
theorem q_0_833  {x0 : Int32} (hS : zcat S ≤ 8) (h : zIs sh o 0 7) : zRun 0 833 L (.int x0 :: .ref o :: S) sh mi mj mr = (zCall 101 [.ref o, .int x0] sh mi mj mr).bind fun r => zRun 0 836 L (r.1.toList ++ S) r.2.1 r.2.2.1 r.2.2.2.1 r.2.2.2.2 := zr_V (zD_of zk_0 d_0_833 rfl rfl) rfl zk_101 rfl rfl rfl hS h
theorem q_0_836r : zRun 0 836 [l0, l1, some (.ref o), l3] S sh mi mj mr = zRun 0 837 [l0, l1, some (.ref o), l3] (.ref o :: S) sh mi mj mr := zr_l (zD_of zk_0 d_0_836 rfl rfl) rfl rfl rfl
theorem q_0_836n : zRun 0 836 [l0, l1, some (.null), l3] S sh mi mj mr = zRun 0 837 [l0, l1, some (.null), l3] (.null :: S) sh mi mj mr := zr_l (zD_of zk_0 d_0_836 rfl rfl) rfl rfl rfl
theorem q_0_837r : zRun 0 837 [some (.ref o), l1, l2, l3] S sh mi mj mr = zRun 0 838 [some (.ref o), l1, l2, l3] (.ref o :: S) sh mi mj mr := zr_l (zD_of zk_0 d_0_837 rfl rfl) rfl rfl rfl
theorem q_0_837n : zRun 0 837 [some (.null), l1, l2, l3] S sh mi mj mr = zRun 0 838 [some (.null), l1, l2, l3] (.null :: S) sh mi mj mr := zr_l (zD_of zk_0 d_0_837 rfl rfl) rfl rfl rfl
theorem q_0_838 : zRun 0 838 [l0, l1, l2, some (.int x)] S sh mi mj mr = zRun 0 839 [l0, l1, l2, some (.int x)] (.int x :: S) sh mi mj mr := zr_l (zD_of zk_0 d_0_838 rfl rfl) rfl rfl rfl
theorem q_0_839  : zRun 0 839 L S sh mi mj mr = zRun 0 840 L (.int 1 :: S) sh mi mj mr := zr_p (zD_of zk_0 d_0_839 rfl rfl) rfl
theorem q_0_840  : zRun 0 840 L (.int y :: .int x :: S) sh mi mj mr = zRun 0 841 L (.int (x + y) :: S) sh mi mj mr := zr_p (zD_of zk_0 d_0_840 rfl rfl) rfl
theorem q_0_841 {n : Nat} (h : sh[0]? = some (99, n)) (hi : zin x n = true) : zRun 0 841 L (.int x :: .ref 0 :: S) sh mi mj mr = zRun 0 842 L (.int (mi 0 x.toNatClampNeg) :: S) sh mi mj mr := zr_sald (zD_of zk_0 d_0_841 rfl rfl) h hi
theorem q_0_842  {x0 : Int32} (hS : zcat S ≤ 8) (h : zIs sh o 0 8) : zRun 0 842 L (.int x0 :: .ref o :: S) sh mi mj mr = (zCall 197 [.ref o, .int x0] sh mi mj mr).bind fun r => zRun 0 845 L (r.1.toList ++ S) r.2.1 r.2.2.1 r.2.2.2.1 r.2.2.2.2 := zr_V (zD_of zk_0 d_0_842 rfl rfl) rfl zk_197 rfl rfl rfl hS h
theorem q_0_845  : zRun 0 845 L (.int y :: .int x :: S) sh mi mj mr = if x = y then zRun 0 873 L S sh mi mj mr else zRun 0 848 L S sh mi mj mr := zr_if (off := 28) (P := x = y) (zD_of zk_0 d_0_845 rfl rfl) rfl rfl (by decide)
theorem q_0_848  : zRun 0 848 L S sh mi mj mr = zRun 0 849 L (.int 0 :: S) sh mi mj mr := zr_p (zD_of zk_0 d_0_848 rfl rfl) rfl
theorem q_0_849 (h : x = 0 ∨ x = 1) : zRun 0 849 L ([.int x]) sh mi mj mr = some (some (.int x), sh, mi, mj, mr) := zr_ret (zD_of zk_0 d_0_849 rfl rfl) rfl rfl rfl rfl rfl (if_pos (zna_b h))
theorem q_0_850r : zRun 0 850 [l0, some (.ref o), l2, l3] S sh mi mj mr = zRun 0 851 [l0, some (.ref o), l2, l3] (.ref o :: S) sh mi mj mr := zr_l (zD_of zk_0 d_0_850 rfl rfl) rfl rfl rfl
theorem q_0_850n : zRun 0 850 [l0, some (.null), l2, l3] S sh mi mj mr = zRun 0 851 [l0, some (.null), l2, l3] (.null :: S) sh mi mj mr := zr_l (zD_of zk_0 d_0_850 rfl rfl) rfl rfl rfl
theorem q_0_851r : zRun 0 851 [some (.ref o), l1, l2, l3] S sh mi mj mr = zRun 0 852 [some (.ref o), l1, l2, l3] (.ref o :: S) sh mi mj mr := zr_l (zD_of zk_0 d_0_851 rfl rfl) rfl rfl rfl
theorem q_0_851n : zRun 0 851 [some (.null), l1, l2, l3] S sh mi mj mr = zRun 0 852 [some (.null), l1, l2, l3] (.null :: S) sh mi mj mr := zr_l (zD_of zk_0 d_0_851 rfl rfl) rfl rfl rfl
theorem q_0_852 : zRun 0 852 [l0, l1, l2, some (.int x)] S sh mi mj mr = zRun 0 853 [l0, l1, l2, some (.int x)] (.int x :: S) sh mi mj mr := zr_l (zD_of zk_0 d_0_852 rfl rfl) rfl rfl rfl
theorem q_0_853  : zRun 0 853 L S sh mi mj mr = zRun 0 854 L (.int 1 :: S) sh mi mj mr := zr_p (zD_of zk_0 d_0_853 rfl rfl) rfl
theorem q_0_854  : zRun 0 854 L (.int y :: .int x :: S) sh mi mj mr = zRun 0 855 L (.int (x + y) :: S) sh mi mj mr := zr_p (zD_of zk_0 d_0_854 rfl rfl) rfl
theorem q_0_855 {n : Nat} (h : sh[0]? = some (99, n)) (hi : zin x n = true) : zRun 0 855 L (.int x :: .ref 0 :: S) sh mi mj mr = zRun 0 856 L (.int (mi 0 x.toNatClampNeg) :: S) sh mi mj mr := zr_sald (zD_of zk_0 d_0_855 rfl rfl) h hi
theorem q_0_856  {x0 : Int32} (hS : zcat S ≤ 8) (h : zIs sh o 0 7) : zRun 0 856 L (.int x0 :: .ref o :: S) sh mi mj mr = (zCall 102 [.ref o, .int x0] sh mi mj mr).bind fun r => zRun 0 859 L (r.1.toList ++ S) r.2.1 r.2.2.1 r.2.2.2.1 r.2.2.2.2 := zr_V (zD_of zk_0 d_0_856 rfl rfl) rfl zk_102 rfl rfl rfl hS h
theorem q_0_859r : zRun 0 859 [l0, l1, some (.ref o), l3] S sh mi mj mr = zRun 0 860 [l0, l1, some (.ref o), l3] (.ref o :: S) sh mi mj mr := zr_l (zD_of zk_0 d_0_859 rfl rfl) rfl rfl rfl
theorem q_0_859n : zRun 0 859 [l0, l1, some (.null), l3] S sh mi mj mr = zRun 0 860 [l0, l1, some (.null), l3] (.null :: S) sh mi mj mr := zr_l (zD_of zk_0 d_0_859 rfl rfl) rfl rfl rfl
theorem q_0_860r : zRun 0 860 [some (.ref o), l1, l2, l3] S sh mi mj mr = zRun 0 861 [some (.ref o), l1, l2, l3] (.ref o :: S) sh mi mj mr := zr_l (zD_of zk_0 d_0_860 rfl rfl) rfl rfl rfl
theorem q_0_860n : zRun 0 860 [some (.null), l1, l2, l3] S sh mi mj mr = zRun 0 861 [some (.null), l1, l2, l3] (.null :: S) sh mi mj mr := zr_l (zD_of zk_0 d_0_860 rfl rfl) rfl rfl rfl
theorem q_0_861 : zRun 0 861 [l0, l1, l2, some (.int x)] S sh mi mj mr = zRun 0 862 [l0, l1, l2, some (.int x)] (.int x :: S) sh mi mj mr := zr_l (zD_of zk_0 d_0_861 rfl rfl) rfl rfl rfl
theorem q_0_862  : zRun 0 862 L S sh mi mj mr = zRun 0 863 L (.int 1 :: S) sh mi mj mr := zr_p (zD_of zk_0 d_0_862 rfl rfl) rfl
theorem q_0_863  : zRun 0 863 L (.int y :: .int x :: S) sh mi mj mr = zRun 0 864 L (.int (x + y) :: S) sh mi mj mr := zr_p (zD_of zk_0 d_0_863 rfl rfl) rfl
theorem q_0_864 {n : Nat} (h : sh[0]? = some (99, n)) (hi : zin x n = true) : zRun 0 864 L (.int x :: .ref 0 :: S) sh mi mj mr = zRun 0 865 L (.int (mi 0 x.toNatClampNeg) :: S) sh mi mj mr := zr_sald (zD_of zk_0 d_0_864 rfl rfl) h hi
theorem q_0_865  {x0 : Int32} (hS : zcat S ≤ 8) (h : zIs sh o 0 8) : zRun 0 865 L (.int x0 :: .ref o :: S) sh mi mj mr = (zCall 198 [.ref o, .int x0] sh mi mj mr).bind fun r => zRun 0 868 L (r.1.toList ++ S) r.2.1 r.2.2.1 r.2.2.2.1 r.2.2.2.2 := zr_V (zD_of zk_0 d_0_865 rfl rfl) rfl zk_198 rfl rfl rfl hS h
theorem q_0_868  : zRun 0 868 L (.int y :: .int x :: S) sh mi mj mr = if x = y then zRun 0 873 L S sh mi mj mr else zRun 0 871 L S sh mi mj mr := zr_if (off := 5) (P := x = y) (zD_of zk_0 d_0_868 rfl rfl) rfl rfl (by decide)
theorem q_0_871  : zRun 0 871 L S sh mi mj mr = zRun 0 872 L (.int 0 :: S) sh mi mj mr := zr_p (zD_of zk_0 d_0_871 rfl rfl) rfl
theorem q_0_872 (h : x = 0 ∨ x = 1) : zRun 0 872 L ([.int x]) sh mi mj mr = some (some (.int x), sh, mi, mj, mr) := zr_ret (zD_of zk_0 d_0_872 rfl rfl) rfl rfl rfl rfl rfl (if_pos (zna_b h))
theorem q_0_873  : zRun 0 873 [l0, l1, l2, some (.int x)] S sh mi mj mr = zRun 0 876 [l0, l1, zk2 l2, some (.int (x + 4))] S sh mi mj mr := zr_s1 (i := 3) (v := .int (x + 4)) (L := [l0, l1, l2, some (.int x)]) (zD_of zk_0 d_0_873 rfl rfl) rfl rfl rfl rfl
theorem q_0_876  : zRun 0 876 L S sh mi mj mr = zRun 0 18 L S sh mi mj mr := zr_go (off := (-858)) (zD_of zk_0 d_0_876 rfl rfl) rfl rfl (by decide)
theorem q_0_879  : zRun 0 879 L S sh mi mj mr = zRun 0 880 L (.int 1 :: S) sh mi mj mr := zr_p (zD_of zk_0 d_0_879 rfl rfl) rfl
theorem q_0_880 (h : x = 0 ∨ x = 1) : zRun 0 880 L ([.int x]) sh mi mj mr = some (some (.int x), sh, mi, mj, mr) := zr_ret (zD_of zk_0 d_0_880 rfl rfl) rfl rfl rfl rfl rfl (if_pos (zna_b h))
theorem e_0 {o0 : Nat} : zCall 0 [.ref o0] sh mi mj mr = zRun 0 0 [some (.ref o0), none, none, none] [] sh mi mj mr := rfl
end
