/-! ===== one rule for each instruction of the law (2) ===== -/
section
variable {L : zLS} {S : List Value} {sh : zSh} {mi : zI} {mj : zJ} {mr : zR} {x y z : Int32} {u v : Int64} {o o2 : Nat} {l0 l1 l2 l3 l4 l5 l6 l7 l8 l9 l10 l11 l12 l13 l14 l15 l16 l17 l18 : Option Value}
theorem d_120_0 : decode cL_meets 0 = .ok (.aload_n 0, 1) := by decide +kernel
theorem d_120_1 : decode cL_meets 1 = .ok (.iload_n 1, 1) := by decide +kernel
theorem d_120_2 : decode cL_meets 2 = .ok (.invokevirtual 95, 3) := by decide +kernel
theorem d_120_5 : decode cL_meets 5 = .ok (.ifCond .le 5, 3) := by decide +kernel
theorem d_120_8 : decode cL_meets 8 = .ok (.iconst 1, 1) := by decide +kernel
theorem d_120_9 : decode cL_meets 9 = .ok (.ireturn, 1) := by decide +kernel
theorem d_120_10 : decode cL_meets 10 = .ok (.iconst 0, 1) := by decide +kernel
theorem d_120_11 : decode cL_meets 11 = .ok (.istore_n 3, 1) := by decide +kernel
theorem d_120_12 : decode cL_meets 12 = .ok (.iload_n 3, 1) := by decide +kernel
theorem d_120_13 : decode cL_meets 13 = .ok (.bipush 6, 2) := by decide +kernel
theorem d_120_15 : decode cL_meets 15 = .ok (.if_icmp .ge 116, 3) := by decide +kernel
theorem d_120_18 : decode cL_meets 18 = .ok (.iload_n 2, 1) := by decide +kernel
theorem d_120_19 : decode cL_meets 19 = .ok (.iconst 4, 1) := by decide +kernel
theorem d_120_20 : decode cL_meets 20 = .ok (.iload_n 3, 1) := by decide +kernel
theorem d_120_21 : decode cL_meets 21 = .ok (.imul, 1) := by decide +kernel
theorem d_120_22 : decode cL_meets 22 = .ok (.ishr, 1) := by decide +kernel
theorem d_120_23 : decode cL_meets 23 = .ok (.sipush 256, 3) := by decide +kernel
theorem d_120_26 : decode cL_meets 26 = .ok (.invokestatic 22, 3) := by decide +kernel
theorem d_120_29 : decode cL_meets 29 = .ok (.istore 4, 2) := by decide +kernel
theorem d_120_31 : decode cL_meets 31 = .ok (.aload_n 0, 1) := by decide +kernel
theorem d_120_32 : decode cL_meets 32 = .ok (.iload_n 1, 1) := by decide +kernel
theorem d_120_33 : decode cL_meets 33 = .ok (.iload 4, 2) := by decide +kernel
theorem d_120_35 : decode cL_meets 35 = .ok (.iconst 0, 1) := by decide +kernel
theorem d_120_36 : decode cL_meets 36 = .ok (.invokevirtual 119, 3) := by decide +kernel
theorem d_120_39 : decode cL_meets 39 = .ok (.lstore 5, 2) := by decide +kernel
theorem d_120_41 : decode cL_meets 41 = .ok (.aload_n 0, 1) := by decide +kernel
theorem d_120_42 : decode cL_meets 42 = .ok (.iload_n 1, 1) := by decide +kernel
theorem d_120_43 : decode cL_meets 43 = .ok (.iload 4, 2) := by decide +kernel
theorem d_120_45 : decode cL_meets 45 = .ok (.iconst 1, 1) := by decide +kernel
theorem d_120_46 : decode cL_meets 46 = .ok (.invokevirtual 119, 3) := by decide +kernel
theorem d_120_49 : decode cL_meets 49 = .ok (.lstore 7, 2) := by decide +kernel
theorem d_120_51 : decode cL_meets 51 = .ok (.lload 5, 2) := by decide +kernel
theorem d_120_53 : decode cL_meets 53 = .ok (.ldc2_w 90, 3) := by decide +kernel
theorem d_120_56 : decode cL_meets 56 = .ok (.lcmp, 1) := by decide +kernel
theorem d_120_57 : decode cL_meets 57 = .ok (.ifCond .ne 6, 3) := by decide +kernel
theorem d_120_60 : decode cL_meets 60 = .ok (.goto 65, 3) := by decide +kernel
theorem d_120_63 : decode cL_meets 63 = .ok (.lload 5, 2) := by decide +kernel
theorem d_120_65 : decode cL_meets 65 = .ok (.lload 7, 2) := by decide +kernel
theorem d_120_67 : decode cL_meets 67 = .ok (.lcmp, 1) := by decide +kernel
theorem d_120_68 : decode cL_meets 68 = .ok (.ifCond .gt 55, 3) := by decide +kernel
theorem d_120_71 : decode cL_meets 71 = .ok (.lload 5, 2) := by decide +kernel
theorem d_120_73 : decode cL_meets 73 = .ok (.aload_n 0, 1) := by decide +kernel
theorem d_120_74 : decode cL_meets 74 = .ok (.iload_n 1, 1) := by decide +kernel
theorem d_120_75 : decode cL_meets 75 = .ok (.iconst 2, 1) := by decide +kernel
theorem d_120_76 : decode cL_meets 76 = .ok (.iconst 1, 1) := by decide +kernel
theorem d_120_77 : decode cL_meets 77 = .ok (.invokevirtual 98, 3) := by decide +kernel
theorem d_120_80 : decode cL_meets 80 = .ok (.lcmp, 1) := by decide +kernel
theorem d_120_81 : decode cL_meets 81 = .ok (.ifCond .gt 42, 3) := by decide +kernel
theorem d_120_84 : decode cL_meets 84 = .ok (.lload 7, 2) := by decide +kernel
theorem d_120_86 : decode cL_meets 86 = .ok (.aload_n 0, 1) := by decide +kernel
theorem d_120_87 : decode cL_meets 87 = .ok (.iload_n 1, 1) := by decide +kernel
theorem d_120_88 : decode cL_meets 88 = .ok (.iconst 2, 1) := by decide +kernel
theorem d_120_89 : decode cL_meets 89 = .ok (.iconst 0, 1) := by decide +kernel
theorem d_120_90 : decode cL_meets 90 = .ok (.invokevirtual 98, 3) := by decide +kernel
theorem d_120_93 : decode cL_meets 93 = .ok (.lcmp, 1) := by decide +kernel
theorem d_120_94 : decode cL_meets 94 = .ok (.ifCond .lt 29, 3) := by decide +kernel
theorem d_120_97 : decode cL_meets 97 = .ok (.lload 5, 2) := by decide +kernel
theorem d_120_99 : decode cL_meets 99 = .ok (.aload_n 0, 1) := by decide +kernel
theorem d_120_100 : decode cL_meets 100 = .ok (.iload_n 1, 1) := by decide +kernel
theorem d_120_101 : decode cL_meets 101 = .ok (.iconst 1, 1) := by decide +kernel
theorem d_120_102 : decode cL_meets 102 = .ok (.iconst 1, 1) := by decide +kernel
theorem d_120_103 : decode cL_meets 103 = .ok (.invokevirtual 98, 3) := by decide +kernel
theorem d_120_106 : decode cL_meets 106 = .ok (.lcmp, 1) := by decide +kernel
theorem d_120_107 : decode cL_meets 107 = .ok (.ifCond .gt 16, 3) := by decide +kernel
theorem d_120_110 : decode cL_meets 110 = .ok (.lload 7, 2) := by decide +kernel
theorem d_120_112 : decode cL_meets 112 = .ok (.aload_n 0, 1) := by decide +kernel
theorem d_120_113 : decode cL_meets 113 = .ok (.iload_n 1, 1) := by decide +kernel
theorem d_120_114 : decode cL_meets 114 = .ok (.iconst 0, 1) := by decide +kernel
theorem d_120_115 : decode cL_meets 115 = .ok (.iconst 0, 1) := by decide +kernel
theorem d_120_116 : decode cL_meets 116 = .ok (.invokevirtual 98, 3) := by decide +kernel
theorem d_120_119 : decode cL_meets 119 = .ok (.lcmp, 1) := by decide +kernel
theorem d_120_120 : decode cL_meets 120 = .ok (.ifCond .ge 5, 3) := by decide +kernel
theorem d_120_123 : decode cL_meets 123 = .ok (.iconst 0, 1) := by decide +kernel
theorem d_120_124 : decode cL_meets 124 = .ok (.ireturn, 1) := by decide +kernel
theorem d_120_125 : decode cL_meets 125 = .ok (.iinc 3 1, 3) := by decide +kernel
theorem d_120_128 : decode cL_meets 128 = .ok (.goto (-116), 3) := by decide +kernel
theorem d_120_131 : decode cL_meets 131 = .ok (.iconst 1, 1) := by decide +kernel
theorem d_120_132 : decode cL_meets 132 = .ok (.ireturn, 1) := by decide +kernel
theorem q_120_0r : zRun 120 0 [some (.ref o), l1, l2, l3, l4, l5, l6, l7, l8] S sh mi mj mr = zRun 120 1 [some (.ref o), l1, l2, l3, l4, l5, l6, l7, l8] (.ref o :: S) sh mi mj mr := zr_l (zD_of zk_120 d_120_0 rfl rfl) rfl rfl rfl
theorem q_120_0n : zRun 120 0 [some (.null), l1, l2, l3, l4, l5, l6, l7, l8] S sh mi mj mr = zRun 120 1 [some (.null), l1, l2, l3, l4, l5, l6, l7, l8] (.null :: S) sh mi mj mr := zr_l (zD_of zk_120 d_120_0 rfl rfl) rfl rfl rfl
theorem q_120_1 : zRun 120 1 [l0, some (.int x), l2, l3, l4, l5, l6, l7, l8] S sh mi mj mr = zRun 120 2 [l0, some (.int x), l2, l3, l4, l5, l6, l7, l8] (.int x :: S) sh mi mj mr := zr_l (zD_of zk_120 d_120_1 rfl rfl) rfl rfl rfl
theorem q_120_2  {x0 : Int32} (hS : zcat S ≤ 8) (h : zIs sh o 0 7) : zRun 120 2 L (.int x0 :: .ref o :: S) sh mi mj mr = (zCall 88 [.ref o, .int x0] sh mi mj mr).bind fun r => zRun 120 5 L (r.1.toList ++ S) r.2.1 r.2.2.1 r.2.2.2.1 r.2.2.2.2 := zr_V (zD_of zk_120 d_120_2 rfl rfl) rfl zk_88 rfl rfl rfl hS h
theorem q_120_5  : zRun 120 5 L (.int x :: S) sh mi mj mr = if x ≤ 0 then zRun 120 10 L S sh mi mj mr else zRun 120 8 L S sh mi mj mr := zr_if (off := 5) (P := x ≤ 0) (zD_of zk_120 d_120_5 rfl rfl) rfl rfl (by decide)
theorem q_120_8  : zRun 120 8 L S sh mi mj mr = zRun 120 9 L (.int 1 :: S) sh mi mj mr := zr_p (zD_of zk_120 d_120_8 rfl rfl) rfl
theorem q_120_9 (h : x = 0 ∨ x = 1) : zRun 120 9 L ([.int x]) sh mi mj mr = some (some (.int x), sh, mi, mj, mr) := zr_ret (zD_of zk_120 d_120_9 rfl rfl) rfl rfl rfl rfl rfl (if_pos (zna_b h))
theorem q_120_10  : zRun 120 10 L S sh mi mj mr = zRun 120 11 L (.int 0 :: S) sh mi mj mr := zr_p (zD_of zk_120 d_120_10 rfl rfl) rfl
theorem q_120_11 : zRun 120 11 [l0, l1, l2, l3, l4, l5, l6, l7, l8] (.int x :: S) sh mi mj mr = zRun 120 12 [l0, l1, zk2 l2, some (.int x), l4, l5, l6, l7, l8] S sh mi mj mr := zr_s1 (i := 3) (v := .int x) (L := [l0, l1, l2, l3, l4, l5, l6, l7, l8]) (zD_of zk_120 d_120_11 rfl rfl) rfl rfl rfl rfl
theorem q_120_12 : zRun 120 12 [l0, l1, l2, some (.int x), l4, l5, l6, l7, l8] S sh mi mj mr = zRun 120 13 [l0, l1, l2, some (.int x), l4, l5, l6, l7, l8] (.int x :: S) sh mi mj mr := zr_l (zD_of zk_120 d_120_12 rfl rfl) rfl rfl rfl
theorem q_120_13  : zRun 120 13 L S sh mi mj mr = zRun 120 15 L (.int 6 :: S) sh mi mj mr := zr_p (zD_of zk_120 d_120_13 rfl rfl) rfl
theorem q_120_15  : zRun 120 15 L (.int y :: .int x :: S) sh mi mj mr = if y ≤ x then zRun 120 131 L S sh mi mj mr else zRun 120 18 L S sh mi mj mr := zr_if (off := 116) (P := y ≤ x) (zD_of zk_120 d_120_15 rfl rfl) rfl rfl (by decide)
theorem q_120_18 : zRun 120 18 [l0, l1, some (.int x), l3, l4, l5, l6, l7, l8] S sh mi mj mr = zRun 120 19 [l0, l1, some (.int x), l3, l4, l5, l6, l7, l8] (.int x :: S) sh mi mj mr := zr_l (zD_of zk_120 d_120_18 rfl rfl) rfl rfl rfl
theorem q_120_19  : zRun 120 19 L S sh mi mj mr = zRun 120 20 L (.int 4 :: S) sh mi mj mr := zr_p (zD_of zk_120 d_120_19 rfl rfl) rfl
theorem q_120_20 : zRun 120 20 [l0, l1, l2, some (.int x), l4, l5, l6, l7, l8] S sh mi mj mr = zRun 120 21 [l0, l1, l2, some (.int x), l4, l5, l6, l7, l8] (.int x :: S) sh mi mj mr := zr_l (zD_of zk_120 d_120_20 rfl rfl) rfl rfl rfl
theorem q_120_21  : zRun 120 21 L (.int y :: .int x :: S) sh mi mj mr = zRun 120 22 L (.int (x * y) :: S) sh mi mj mr := zr_p (zD_of zk_120 d_120_21 rfl rfl) rfl
theorem q_120_22  : zRun 120 22 L (.int y :: .int x :: S) sh mi mj mr = zRun 120 23 L (.int (x >>> (y &&& 31)) :: S) sh mi mj mr := zr_p (zD_of zk_120 d_120_22 rfl rfl) rfl
theorem q_120_23  : zRun 120 23 L S sh mi mj mr = zRun 120 26 L (.int 256 :: S) sh mi mj mr := zr_p (zD_of zk_120 d_120_23 rfl rfl) rfl
theorem q_120_26  {x0 x1 : Int32} (hS : zcat S ≤ 8) : zRun 120 26 L (.int x1 :: .int x0 :: S) sh mi mj mr = (zCall 116 [.int x0, .int x1] sh mi mj mr).bind fun r => zRun 120 29 L (r.1.toList ++ S) r.2.1 r.2.2.1 r.2.2.2.1 r.2.2.2.2 := zr_S (zD_of zk_120 d_120_26 rfl rfl) rfl zk_116 rfl rfl rfl hS
theorem q_120_29 : zRun 120 29 [l0, l1, l2, l3, l4, l5, l6, l7, l8] (.int x :: S) sh mi mj mr = zRun 120 31 [l0, l1, l2, zk2 l3, some (.int x), l5, l6, l7, l8] S sh mi mj mr := zr_s1 (i := 4) (v := .int x) (L := [l0, l1, l2, l3, l4, l5, l6, l7, l8]) (zD_of zk_120 d_120_29 rfl rfl) rfl rfl rfl rfl
theorem q_120_31r : zRun 120 31 [some (.ref o), l1, l2, l3, l4, l5, l6, l7, l8] S sh mi mj mr = zRun 120 32 [some (.ref o), l1, l2, l3, l4, l5, l6, l7, l8] (.ref o :: S) sh mi mj mr := zr_l (zD_of zk_120 d_120_31 rfl rfl) rfl rfl rfl
theorem q_120_31n : zRun 120 31 [some (.null), l1, l2, l3, l4, l5, l6, l7, l8] S sh mi mj mr = zRun 120 32 [some (.null), l1, l2, l3, l4, l5, l6, l7, l8] (.null :: S) sh mi mj mr := zr_l (zD_of zk_120 d_120_31 rfl rfl) rfl rfl rfl
theorem q_120_32 : zRun 120 32 [l0, some (.int x), l2, l3, l4, l5, l6, l7, l8] S sh mi mj mr = zRun 120 33 [l0, some (.int x), l2, l3, l4, l5, l6, l7, l8] (.int x :: S) sh mi mj mr := zr_l (zD_of zk_120 d_120_32 rfl rfl) rfl rfl rfl
theorem q_120_33 : zRun 120 33 [l0, l1, l2, l3, some (.int x), l5, l6, l7, l8] S sh mi mj mr = zRun 120 35 [l0, l1, l2, l3, some (.int x), l5, l6, l7, l8] (.int x :: S) sh mi mj mr := zr_l (zD_of zk_120 d_120_33 rfl rfl) rfl rfl rfl
theorem q_120_35  : zRun 120 35 L S sh mi mj mr = zRun 120 36 L (.int 0 :: S) sh mi mj mr := zr_p (zD_of zk_120 d_120_35 rfl rfl) rfl
theorem q_120_36  {x0 x1 x2 : Int32} (hS : zcat S ≤ 8) (h : zIs sh o 0 7) : zRun 120 36 L (.int x2 :: .int x1 :: .int x0 :: .ref o :: S) sh mi mj mr = (zCall 94 [.ref o, .int x0, .int x1, .int x2] sh mi mj mr).bind fun r => zRun 120 39 L (r.1.toList ++ S) r.2.1 r.2.2.1 r.2.2.2.1 r.2.2.2.2 := zr_V (zD_of zk_120 d_120_36 rfl rfl) rfl zk_94 rfl rfl rfl hS h
theorem q_120_39 : zRun 120 39 [l0, l1, l2, l3, l4, l5, l6, l7, l8] (.long u :: S) sh mi mj mr = zRun 120 41 [l0, l1, l2, l3, zk2 l4, some (.long u), none, l7, l8] S sh mi mj mr := zr_s2 (i := 5) (v := .long u) (L := [l0, l1, l2, l3, l4, l5, l6, l7, l8]) (zD_of zk_120 d_120_39 rfl rfl) rfl rfl rfl rfl
theorem q_120_41r : zRun 120 41 [some (.ref o), l1, l2, l3, l4, l5, l6, l7, l8] S sh mi mj mr = zRun 120 42 [some (.ref o), l1, l2, l3, l4, l5, l6, l7, l8] (.ref o :: S) sh mi mj mr := zr_l (zD_of zk_120 d_120_41 rfl rfl) rfl rfl rfl
theorem q_120_41n : zRun 120 41 [some (.null), l1, l2, l3, l4, l5, l6, l7, l8] S sh mi mj mr = zRun 120 42 [some (.null), l1, l2, l3, l4, l5, l6, l7, l8] (.null :: S) sh mi mj mr := zr_l (zD_of zk_120 d_120_41 rfl rfl) rfl rfl rfl
theorem q_120_42 : zRun 120 42 [l0, some (.int x), l2, l3, l4, l5, l6, l7, l8] S sh mi mj mr = zRun 120 43 [l0, some (.int x), l2, l3, l4, l5, l6, l7, l8] (.int x :: S) sh mi mj mr := zr_l (zD_of zk_120 d_120_42 rfl rfl) rfl rfl rfl
theorem q_120_43 : zRun 120 43 [l0, l1, l2, l3, some (.int x), l5, l6, l7, l8] S sh mi mj mr = zRun 120 45 [l0, l1, l2, l3, some (.int x), l5, l6, l7, l8] (.int x :: S) sh mi mj mr := zr_l (zD_of zk_120 d_120_43 rfl rfl) rfl rfl rfl
theorem q_120_45  : zRun 120 45 L S sh mi mj mr = zRun 120 46 L (.int 1 :: S) sh mi mj mr := zr_p (zD_of zk_120 d_120_45 rfl rfl) rfl
theorem q_120_46  {x0 x1 x2 : Int32} (hS : zcat S ≤ 8) (h : zIs sh o 0 7) : zRun 120 46 L (.int x2 :: .int x1 :: .int x0 :: .ref o :: S) sh mi mj mr = (zCall 94 [.ref o, .int x0, .int x1, .int x2] sh mi mj mr).bind fun r => zRun 120 49 L (r.1.toList ++ S) r.2.1 r.2.2.1 r.2.2.2.1 r.2.2.2.2 := zr_V (zD_of zk_120 d_120_46 rfl rfl) rfl zk_94 rfl rfl rfl hS h
theorem q_120_49 : zRun 120 49 [l0, l1, l2, l3, l4, l5, l6, l7, l8] (.long u :: S) sh mi mj mr = zRun 120 51 [l0, l1, l2, l3, l4, l5, zk2 l6, some (.long u), none] S sh mi mj mr := zr_s2 (i := 7) (v := .long u) (L := [l0, l1, l2, l3, l4, l5, l6, l7, l8]) (zD_of zk_120 d_120_49 rfl rfl) rfl rfl rfl rfl
theorem q_120_51 : zRun 120 51 [l0, l1, l2, l3, l4, some (.long u), l6, l7, l8] S sh mi mj mr = zRun 120 53 [l0, l1, l2, l3, l4, some (.long u), l6, l7, l8] (.long u :: S) sh mi mj mr := zr_l (zD_of zk_120 d_120_51 rfl rfl) rfl rfl rfl
theorem q_120_53  : zRun 120 53 L S sh mi mj mr = zRun 120 56 L (.long (-1000000000000000005) :: S) sh mi mj mr := zr_k64 (zD_of zk_120 d_120_53 rfl rfl) rfl
theorem q_120_56  : zRun 120 56 L (.long v :: .long u :: S) sh mi mj mr = if ¬ u = v then zRun 120 63 L S sh mi mj mr else zRun 120 60 L S sh mi mj mr := zr_cmp (off := 6) (zD_of zk_120 d_120_56 rfl rfl) (zD_of zk_120 d_120_57 rfl rfl) rfl rfl (by decide) (not_congr (lg_cmp_eq u v))
theorem q_120_57  : zRun 120 57 L (.int x :: S) sh mi mj mr = if ¬ x = 0 then zRun 120 63 L S sh mi mj mr else zRun 120 60 L S sh mi mj mr := zr_if (off := 6) (P := ¬ x = 0) (zD_of zk_120 d_120_57 rfl rfl) rfl rfl (by decide)
theorem q_120_60  : zRun 120 60 L S sh mi mj mr = zRun 120 125 L S sh mi mj mr := zr_go (off := 65) (zD_of zk_120 d_120_60 rfl rfl) rfl rfl (by decide)
theorem q_120_63 : zRun 120 63 [l0, l1, l2, l3, l4, some (.long u), l6, l7, l8] S sh mi mj mr = zRun 120 65 [l0, l1, l2, l3, l4, some (.long u), l6, l7, l8] (.long u :: S) sh mi mj mr := zr_l (zD_of zk_120 d_120_63 rfl rfl) rfl rfl rfl
theorem q_120_65 : zRun 120 65 [l0, l1, l2, l3, l4, l5, l6, some (.long u), l8] S sh mi mj mr = zRun 120 67 [l0, l1, l2, l3, l4, l5, l6, some (.long u), l8] (.long u :: S) sh mi mj mr := zr_l (zD_of zk_120 d_120_65 rfl rfl) rfl rfl rfl
theorem q_120_67  : zRun 120 67 L (.long v :: .long u :: S) sh mi mj mr = if v < u then zRun 120 123 L S sh mi mj mr else zRun 120 71 L S sh mi mj mr := zr_cmp (off := 55) (zD_of zk_120 d_120_67 rfl rfl) (zD_of zk_120 d_120_68 rfl rfl) rfl rfl (by decide) (lg_cmp_gt u v)
theorem q_120_68  : zRun 120 68 L (.int x :: S) sh mi mj mr = if 0 < x then zRun 120 123 L S sh mi mj mr else zRun 120 71 L S sh mi mj mr := zr_if (off := 55) (P := 0 < x) (zD_of zk_120 d_120_68 rfl rfl) rfl rfl (by decide)
theorem q_120_71 : zRun 120 71 [l0, l1, l2, l3, l4, some (.long u), l6, l7, l8] S sh mi mj mr = zRun 120 73 [l0, l1, l2, l3, l4, some (.long u), l6, l7, l8] (.long u :: S) sh mi mj mr := zr_l (zD_of zk_120 d_120_71 rfl rfl) rfl rfl rfl
theorem q_120_73r : zRun 120 73 [some (.ref o), l1, l2, l3, l4, l5, l6, l7, l8] S sh mi mj mr = zRun 120 74 [some (.ref o), l1, l2, l3, l4, l5, l6, l7, l8] (.ref o :: S) sh mi mj mr := zr_l (zD_of zk_120 d_120_73 rfl rfl) rfl rfl rfl
theorem q_120_73n : zRun 120 73 [some (.null), l1, l2, l3, l4, l5, l6, l7, l8] S sh mi mj mr = zRun 120 74 [some (.null), l1, l2, l3, l4, l5, l6, l7, l8] (.null :: S) sh mi mj mr := zr_l (zD_of zk_120 d_120_73 rfl rfl) rfl rfl rfl
theorem q_120_74 : zRun 120 74 [l0, some (.int x), l2, l3, l4, l5, l6, l7, l8] S sh mi mj mr = zRun 120 75 [l0, some (.int x), l2, l3, l4, l5, l6, l7, l8] (.int x :: S) sh mi mj mr := zr_l (zD_of zk_120 d_120_74 rfl rfl) rfl rfl rfl
theorem q_120_75  : zRun 120 75 L S sh mi mj mr = zRun 120 76 L (.int 2 :: S) sh mi mj mr := zr_p (zD_of zk_120 d_120_75 rfl rfl) rfl
theorem q_120_76  : zRun 120 76 L S sh mi mj mr = zRun 120 77 L (.int 1 :: S) sh mi mj mr := zr_p (zD_of zk_120 d_120_76 rfl rfl) rfl
theorem q_120_77  {x0 x1 x2 : Int32} (hS : zcat S ≤ 8) (h : zIs sh o 0 7) : zRun 120 77 L (.int x2 :: .int x1 :: .int x0 :: .ref o :: S) sh mi mj mr = (zCall 89 [.ref o, .int x0, .int x1, .int x2] sh mi mj mr).bind fun r => zRun 120 80 L (r.1.toList ++ S) r.2.1 r.2.2.1 r.2.2.2.1 r.2.2.2.2 := zr_V (zD_of zk_120 d_120_77 rfl rfl) rfl zk_89 rfl rfl rfl hS h
theorem q_120_80  : zRun 120 80 L (.long v :: .long u :: S) sh mi mj mr = if v < u then zRun 120 123 L S sh mi mj mr else zRun 120 84 L S sh mi mj mr := zr_cmp (off := 42) (zD_of zk_120 d_120_80 rfl rfl) (zD_of zk_120 d_120_81 rfl rfl) rfl rfl (by decide) (lg_cmp_gt u v)
theorem q_120_81  : zRun 120 81 L (.int x :: S) sh mi mj mr = if 0 < x then zRun 120 123 L S sh mi mj mr else zRun 120 84 L S sh mi mj mr := zr_if (off := 42) (P := 0 < x) (zD_of zk_120 d_120_81 rfl rfl) rfl rfl (by decide)
theorem q_120_84 : zRun 120 84 [l0, l1, l2, l3, l4, l5, l6, some (.long u), l8] S sh mi mj mr = zRun 120 86 [l0, l1, l2, l3, l4, l5, l6, some (.long u), l8] (.long u :: S) sh mi mj mr := zr_l (zD_of zk_120 d_120_84 rfl rfl) rfl rfl rfl
theorem q_120_86r : zRun 120 86 [some (.ref o), l1, l2, l3, l4, l5, l6, l7, l8] S sh mi mj mr = zRun 120 87 [some (.ref o), l1, l2, l3, l4, l5, l6, l7, l8] (.ref o :: S) sh mi mj mr := zr_l (zD_of zk_120 d_120_86 rfl rfl) rfl rfl rfl
theorem q_120_86n : zRun 120 86 [some (.null), l1, l2, l3, l4, l5, l6, l7, l8] S sh mi mj mr = zRun 120 87 [some (.null), l1, l2, l3, l4, l5, l6, l7, l8] (.null :: S) sh mi mj mr := zr_l (zD_of zk_120 d_120_86 rfl rfl) rfl rfl rfl
theorem q_120_87 : zRun 120 87 [l0, some (.int x), l2, l3, l4, l5, l6, l7, l8] S sh mi mj mr = zRun 120 88 [l0, some (.int x), l2, l3, l4, l5, l6, l7, l8] (.int x :: S) sh mi mj mr := zr_l (zD_of zk_120 d_120_87 rfl rfl) rfl rfl rfl
theorem q_120_88  : zRun 120 88 L S sh mi mj mr = zRun 120 89 L (.int 2 :: S) sh mi mj mr := zr_p (zD_of zk_120 d_120_88 rfl rfl) rfl
theorem q_120_89  : zRun 120 89 L S sh mi mj mr = zRun 120 90 L (.int 0 :: S) sh mi mj mr := zr_p (zD_of zk_120 d_120_89 rfl rfl) rfl
theorem q_120_90  {x0 x1 x2 : Int32} (hS : zcat S ≤ 8) (h : zIs sh o 0 7) : zRun 120 90 L (.int x2 :: .int x1 :: .int x0 :: .ref o :: S) sh mi mj mr = (zCall 89 [.ref o, .int x0, .int x1, .int x2] sh mi mj mr).bind fun r => zRun 120 93 L (r.1.toList ++ S) r.2.1 r.2.2.1 r.2.2.2.1 r.2.2.2.2 := zr_V (zD_of zk_120 d_120_90 rfl rfl) rfl zk_89 rfl rfl rfl hS h
theorem q_120_93  : zRun 120 93 L (.long v :: .long u :: S) sh mi mj mr = if u < v then zRun 120 123 L S sh mi mj mr else zRun 120 97 L S sh mi mj mr := zr_cmp (off := 29) (zD_of zk_120 d_120_93 rfl rfl) (zD_of zk_120 d_120_94 rfl rfl) rfl rfl (by decide) (lg_cmp_lt u v)
theorem q_120_94  : zRun 120 94 L (.int x :: S) sh mi mj mr = if x < 0 then zRun 120 123 L S sh mi mj mr else zRun 120 97 L S sh mi mj mr := zr_if (off := 29) (P := x < 0) (zD_of zk_120 d_120_94 rfl rfl) rfl rfl (by decide)
theorem q_120_97 : zRun 120 97 [l0, l1, l2, l3, l4, some (.long u), l6, l7, l8] S sh mi mj mr = zRun 120 99 [l0, l1, l2, l3, l4, some (.long u), l6, l7, l8] (.long u :: S) sh mi mj mr := zr_l (zD_of zk_120 d_120_97 rfl rfl) rfl rfl rfl
theorem q_120_99r : zRun 120 99 [some (.ref o), l1, l2, l3, l4, l5, l6, l7, l8] S sh mi mj mr = zRun 120 100 [some (.ref o), l1, l2, l3, l4, l5, l6, l7, l8] (.ref o :: S) sh mi mj mr := zr_l (zD_of zk_120 d_120_99 rfl rfl) rfl rfl rfl
theorem q_120_99n : zRun 120 99 [some (.null), l1, l2, l3, l4, l5, l6, l7, l8] S sh mi mj mr = zRun 120 100 [some (.null), l1, l2, l3, l4, l5, l6, l7, l8] (.null :: S) sh mi mj mr := zr_l (zD_of zk_120 d_120_99 rfl rfl) rfl rfl rfl
theorem q_120_100 : zRun 120 100 [l0, some (.int x), l2, l3, l4, l5, l6, l7, l8] S sh mi mj mr = zRun 120 101 [l0, some (.int x), l2, l3, l4, l5, l6, l7, l8] (.int x :: S) sh mi mj mr := zr_l (zD_of zk_120 d_120_100 rfl rfl) rfl rfl rfl
theorem q_120_101  : zRun 120 101 L S sh mi mj mr = zRun 120 102 L (.int 1 :: S) sh mi mj mr := zr_p (zD_of zk_120 d_120_101 rfl rfl) rfl
theorem q_120_102  : zRun 120 102 L S sh mi mj mr = zRun 120 103 L (.int 1 :: S) sh mi mj mr := zr_p (zD_of zk_120 d_120_102 rfl rfl) rfl
theorem q_120_103  {x0 x1 x2 : Int32} (hS : zcat S ≤ 8) (h : zIs sh o 0 7) : zRun 120 103 L (.int x2 :: .int x1 :: .int x0 :: .ref o :: S) sh mi mj mr = (zCall 89 [.ref o, .int x0, .int x1, .int x2] sh mi mj mr).bind fun r => zRun 120 106 L (r.1.toList ++ S) r.2.1 r.2.2.1 r.2.2.2.1 r.2.2.2.2 := zr_V (zD_of zk_120 d_120_103 rfl rfl) rfl zk_89 rfl rfl rfl hS h
theorem q_120_106  : zRun 120 106 L (.long v :: .long u :: S) sh mi mj mr = if v < u then zRun 120 123 L S sh mi mj mr else zRun 120 110 L S sh mi mj mr := zr_cmp (off := 16) (zD_of zk_120 d_120_106 rfl rfl) (zD_of zk_120 d_120_107 rfl rfl) rfl rfl (by decide) (lg_cmp_gt u v)
theorem q_120_107  : zRun 120 107 L (.int x :: S) sh mi mj mr = if 0 < x then zRun 120 123 L S sh mi mj mr else zRun 120 110 L S sh mi mj mr := zr_if (off := 16) (P := 0 < x) (zD_of zk_120 d_120_107 rfl rfl) rfl rfl (by decide)
theorem q_120_110 : zRun 120 110 [l0, l1, l2, l3, l4, l5, l6, some (.long u), l8] S sh mi mj mr = zRun 120 112 [l0, l1, l2, l3, l4, l5, l6, some (.long u), l8] (.long u :: S) sh mi mj mr := zr_l (zD_of zk_120 d_120_110 rfl rfl) rfl rfl rfl
theorem q_120_112r : zRun 120 112 [some (.ref o), l1, l2, l3, l4, l5, l6, l7, l8] S sh mi mj mr = zRun 120 113 [some (.ref o), l1, l2, l3, l4, l5, l6, l7, l8] (.ref o :: S) sh mi mj mr := zr_l (zD_of zk_120 d_120_112 rfl rfl) rfl rfl rfl
theorem q_120_112n : zRun 120 112 [some (.null), l1, l2, l3, l4, l5, l6, l7, l8] S sh mi mj mr = zRun 120 113 [some (.null), l1, l2, l3, l4, l5, l6, l7, l8] (.null :: S) sh mi mj mr := zr_l (zD_of zk_120 d_120_112 rfl rfl) rfl rfl rfl
theorem q_120_113 : zRun 120 113 [l0, some (.int x), l2, l3, l4, l5, l6, l7, l8] S sh mi mj mr = zRun 120 114 [l0, some (.int x), l2, l3, l4, l5, l6, l7, l8] (.int x :: S) sh mi mj mr := zr_l (zD_of zk_120 d_120_113 rfl rfl) rfl rfl rfl
theorem q_120_114  : zRun 120 114 L S sh mi mj mr = zRun 120 115 L (.int 0 :: S) sh mi mj mr := zr_p (zD_of zk_120 d_120_114 rfl rfl) rfl
theorem q_120_115  : zRun 120 115 L S sh mi mj mr = zRun 120 116 L (.int 0 :: S) sh mi mj mr := zr_p (zD_of zk_120 d_120_115 rfl rfl) rfl
theorem q_120_116  {x0 x1 x2 : Int32} (hS : zcat S ≤ 8) (h : zIs sh o 0 7) : zRun 120 116 L (.int x2 :: .int x1 :: .int x0 :: .ref o :: S) sh mi mj mr = (zCall 89 [.ref o, .int x0, .int x1, .int x2] sh mi mj mr).bind fun r => zRun 120 119 L (r.1.toList ++ S) r.2.1 r.2.2.1 r.2.2.2.1 r.2.2.2.2 := zr_V (zD_of zk_120 d_120_116 rfl rfl) rfl zk_89 rfl rfl rfl hS h
theorem q_120_119  : zRun 120 119 L (.long v :: .long u :: S) sh mi mj mr = if v ≤ u then zRun 120 125 L S sh mi mj mr else zRun 120 123 L S sh mi mj mr := zr_cmp (off := 5) (zD_of zk_120 d_120_119 rfl rfl) (zD_of zk_120 d_120_120 rfl rfl) rfl rfl (by decide) (lg_cmp_ge u v)
theorem q_120_120  : zRun 120 120 L (.int x :: S) sh mi mj mr = if 0 ≤ x then zRun 120 125 L S sh mi mj mr else zRun 120 123 L S sh mi mj mr := zr_if (off := 5) (P := 0 ≤ x) (zD_of zk_120 d_120_120 rfl rfl) rfl rfl (by decide)
theorem q_120_123  : zRun 120 123 L S sh mi mj mr = zRun 120 124 L (.int 0 :: S) sh mi mj mr := zr_p (zD_of zk_120 d_120_123 rfl rfl) rfl
theorem q_120_124 (h : x = 0 ∨ x = 1) : zRun 120 124 L ([.int x]) sh mi mj mr = some (some (.int x), sh, mi, mj, mr) := zr_ret (zD_of zk_120 d_120_124 rfl rfl) rfl rfl rfl rfl rfl (if_pos (zna_b h))
theorem q_120_125  : zRun 120 125 [l0, l1, l2, some (.int x), l4, l5, l6, l7, l8] S sh mi mj mr = zRun 120 128 [l0, l1, zk2 l2, some (.int (x + 1)), l4, l5, l6, l7, l8] S sh mi mj mr := zr_s1 (i := 3) (v := .int (x + 1)) (L := [l0, l1, l2, some (.int x), l4, l5, l6, l7, l8]) (zD_of zk_120 d_120_125 rfl rfl) rfl rfl rfl rfl
theorem q_120_128  : zRun 120 128 L S sh mi mj mr = zRun 120 12 L S sh mi mj mr := zr_go (off := (-116)) (zD_of zk_120 d_120_128 rfl rfl) rfl rfl (by decide)
theorem q_120_131  : zRun 120 131 L S sh mi mj mr = zRun 120 132 L (.int 1 :: S) sh mi mj mr := zr_p (zD_of zk_120 d_120_131 rfl rfl) rfl
theorem q_120_132 (h : x = 0 ∨ x = 1) : zRun 120 132 L ([.int x]) sh mi mj mr = some (some (.int x), sh, mi, mj, mr) := zr_ret (zD_of zk_120 d_120_132 rfl rfl) rfl rfl rfl rfl rfl (if_pos (zna_b h))
theorem e_120 {x0 x1 : Int32} {o0 : Nat} : zCall 120 [.ref o0, .int x0, .int x1] sh mi mj mr = zRun 120 0 [some (.ref o0), some (.int x0), some (.int x1), none, none, none, none, none, none] [] sh mi mj mr := rfl
theorem d_121_0 : decode cL_proves 0 = .ok (.iload_n 2, 1) := by decide +kernel
theorem d_121_1 : decode cL_proves 1 = .ok (.iconst 2, 1) := by decide +kernel
theorem d_121_2 : decode cL_proves 2 = .ok (.invokestatic 22, 3) := by decide +kernel
theorem d_121_5 : decode cL_proves 5 = .ok (.ifCond .ne 19, 3) := by decide +kernel
theorem d_121_8 : decode cL_proves 8 = .ok (.iload_n 2, 1) := by decide +kernel
theorem d_121_9 : decode cL_proves 9 = .ok (.iconst 1, 1) := by decide +kernel
theorem d_121_10 : decode cL_proves 10 = .ok (.ishr, 1) := by decide +kernel
theorem d_121_11 : decode cL_proves 11 = .ok (.sipush 2000, 3) := by decide +kernel
theorem d_121_14 : decode cL_proves 14 = .ok (.invokestatic 22, 3) := by decide +kernel
theorem d_121_17 : decode cL_proves 17 = .ok (.sipush 1000, 3) := by decide +kernel
theorem d_121_20 : decode cL_proves 20 = .ok (.isub, 1) := by decide +kernel
theorem d_121_21 : decode cL_proves 21 = .ok (.goto 14, 3) := by decide +kernel
theorem d_121_24 : decode cL_proves 24 = .ok (.iload_n 2, 1) := by decide +kernel
theorem d_121_25 : decode cL_proves 25 = .ok (.iconst 1, 1) := by decide +kernel
theorem d_121_26 : decode cL_proves 26 = .ok (.ishr, 1) := by decide +kernel
theorem d_121_27 : decode cL_proves 27 = .ok (.ldc 122, 2) := by decide +kernel
theorem d_121_29 : decode cL_proves 29 = .ok (.invokestatic 22, 3) := by decide +kernel
theorem d_121_32 : decode cL_proves 32 = .ok (.ldc 123, 2) := by decide +kernel
theorem d_121_34 : decode cL_proves 34 = .ok (.isub, 1) := by decide +kernel
theorem d_121_35 : decode cL_proves 35 = .ok (.istore 4, 2) := by decide +kernel
theorem d_121_37 : decode cL_proves 37 = .ok (.iconst 1, 1) := by decide +kernel
theorem d_121_38 : decode cL_proves 38 = .ok (.iload_n 3, 1) := by decide +kernel
theorem d_121_39 : decode cL_proves 39 = .ok (.bipush 30, 2) := by decide +kernel
theorem d_121_41 : decode cL_proves 41 = .ok (.invokestatic 22, 3) := by decide +kernel
theorem d_121_44 : decode cL_proves 44 = .ok (.iadd, 1) := by decide +kernel
theorem d_121_45 : decode cL_proves 45 = .ok (.istore 5, 2) := by decide +kernel
theorem d_121_47 : decode cL_proves 47 = .ok (.aload_n 0, 1) := by decide +kernel
theorem d_121_48 : decode cL_proves 48 = .ok (.iload_n 1, 1) := by decide +kernel
theorem d_121_49 : decode cL_proves 49 = .ok (.iload 4, 2) := by decide +kernel
theorem d_121_51 : decode cL_proves 51 = .ok (.iload 5, 2) := by decide +kernel
theorem d_121_53 : decode cL_proves 53 = .ok (.invokevirtual 124, 3) := by decide +kernel
theorem d_121_56 : decode cL_proves 56 = .ok (.istore 6, 2) := by decide +kernel
theorem d_121_58 : decode cL_proves 58 = .ok (.aload_n 0, 1) := by decide +kernel
theorem d_121_59 : decode cL_proves 59 = .ok (.iconst 0, 1) := by decide +kernel
theorem d_121_60 : decode cL_proves 60 = .ok (.invokevirtual 127, 3) := by decide +kernel
theorem d_121_63 : decode cL_proves 63 = .ok (.lstore 7, 2) := by decide +kernel
theorem d_121_65 : decode cL_proves 65 = .ok (.iload 6, 2) := by decide +kernel
theorem d_121_67 : decode cL_proves 67 = .ok (.iconst 1, 1) := by decide +kernel
theorem d_121_68 : decode cL_proves 68 = .ok (.if_icmp .lt 38, 3) := by decide +kernel
theorem d_121_71 : decode cL_proves 71 = .ok (.iload 6, 2) := by decide +kernel
theorem d_121_73 : decode cL_proves 73 = .ok (.iconst 3, 1) := by decide +kernel
theorem d_121_74 : decode cL_proves 74 = .ok (.if_icmp .gt 32, 3) := by decide +kernel
theorem d_121_77 : decode cL_proves 77 = .ok (.lload 7, 2) := by decide +kernel
theorem d_121_79 : decode cL_proves 79 = .ok (.lconst 1, 1) := by decide +kernel
theorem d_121_80 : decode cL_proves 80 = .ok (.lcmp, 1) := by decide +kernel
theorem d_121_81 : decode cL_proves 81 = .ok (.ifCond .lt 25, 3) := by decide +kernel
theorem d_121_84 : decode cL_proves 84 = .ok (.iload 6, 2) := by decide +kernel
theorem d_121_86 : decode cL_proves 86 = .ok (.iconst 3, 1) := by decide +kernel
theorem d_121_87 : decode cL_proves 87 = .ok (.if_icmp .ne 21, 3) := by decide +kernel
theorem d_121_90 : decode cL_proves 90 = .ok (.lload 7, 2) := by decide +kernel
theorem d_121_92 : decode cL_proves 92 = .ok (.iload 5, 2) := by decide +kernel
theorem d_121_94 : decode cL_proves 94 = .ok (.i2l, 1) := by decide +kernel
theorem d_121_95 : decode cL_proves 95 = .ok (.lcmp, 1) := by decide +kernel
theorem d_121_96 : decode cL_proves 96 = .ok (.ifCond .ge 12, 3) := by decide +kernel
theorem d_121_99 : decode cL_proves 99 = .ok (.aload_n 0, 1) := by decide +kernel
theorem d_121_100 : decode cL_proves 100 = .ok (.invokestatic 130, 3) := by decide +kernel
theorem d_121_103 : decode cL_proves 103 = .ok (.ifCond .ne 5, 3) := by decide +kernel
theorem d_121_106 : decode cL_proves 106 = .ok (.iconst 0, 1) := by decide +kernel
theorem d_121_107 : decode cL_proves 107 = .ok (.ireturn, 1) := by decide +kernel
theorem d_121_108 : decode cL_proves 108 = .ok (.iload 6, 2) := by decide +kernel
theorem d_121_110 : decode cL_proves 110 = .ok (.iconst 1, 1) := by decide +kernel
theorem d_121_111 : decode cL_proves 111 = .ok (.if_icmp .ne 87, 3) := by decide +kernel
theorem d_121_114 : decode cL_proves 114 = .ok (.iconst 0, 1) := by decide +kernel
theorem d_121_115 : decode cL_proves 115 = .ok (.istore 9, 2) := by decide +kernel
theorem d_121_117 : decode cL_proves 117 = .ok (.iload 9, 2) := by decide +kernel
theorem d_121_119 : decode cL_proves 119 = .ok (.bipush 6, 2) := by decide +kernel
theorem d_121_121 : decode cL_proves 121 = .ok (.if_icmp .ge 49, 3) := by decide +kernel
theorem d_121_124 : decode cL_proves 124 = .ok (.aload_n 0, 1) := by decide +kernel
theorem d_121_125 : decode cL_proves 125 = .ok (.iload_n 1, 1) := by decide +kernel
theorem d_121_126 : decode cL_proves 126 = .ok (.iload_n 3, 1) := by decide +kernel
theorem d_121_127 : decode cL_proves 127 = .ok (.iconst 4, 1) := by decide +kernel
theorem d_121_128 : decode cL_proves 128 = .ok (.iload 9, 2) := by decide +kernel
theorem d_121_130 : decode cL_proves 130 = .ok (.imul, 1) := by decide +kernel
theorem d_121_131 : decode cL_proves 131 = .ok (.ishr, 1) := by decide +kernel
theorem d_121_132 : decode cL_proves 132 = .ok (.sipush 256, 3) := by decide +kernel
theorem d_121_135 : decode cL_proves 135 = .ok (.invokestatic 22, 3) := by decide +kernel
theorem d_121_138 : decode cL_proves 138 = .ok (.iconst 1, 1) := by decide +kernel
theorem d_121_139 : decode cL_proves 139 = .ok (.invokevirtual 119, 3) := by decide +kernel
theorem d_121_142 : decode cL_proves 142 = .ok (.lstore 10, 2) := by decide +kernel
theorem d_121_144 : decode cL_proves 144 = .ok (.lload 10, 2) := by decide +kernel
theorem d_121_146 : decode cL_proves 146 = .ok (.ldc2_w 90, 3) := by decide +kernel
theorem d_121_149 : decode cL_proves 149 = .ok (.lcmp, 1) := by decide +kernel
theorem d_121_150 : decode cL_proves 150 = .ok (.ifCond .eq 14, 3) := by decide +kernel
theorem d_121_153 : decode cL_proves 153 = .ok (.lload 10, 2) := by decide +kernel
theorem d_121_155 : decode cL_proves 155 = .ok (.iload 4, 2) := by decide +kernel
theorem d_121_157 : decode cL_proves 157 = .ok (.i2l, 1) := by decide +kernel
theorem d_121_158 : decode cL_proves 158 = .ok (.lcmp, 1) := by decide +kernel
theorem d_121_159 : decode cL_proves 159 = .ok (.ifCond .gt 5, 3) := by decide +kernel
theorem d_121_162 : decode cL_proves 162 = .ok (.iconst 0, 1) := by decide +kernel
theorem d_121_163 : decode cL_proves 163 = .ok (.ireturn, 1) := by decide +kernel
theorem d_121_164 : decode cL_proves 164 = .ok (.iinc 9 1, 3) := by decide +kernel
theorem d_121_167 : decode cL_proves 167 = .ok (.goto (-50), 3) := by decide +kernel
theorem d_121_170 : decode cL_proves 170 = .ok (.aload_n 0, 1) := by decide +kernel
theorem d_121_171 : decode cL_proves 171 = .ok (.iload_n 1, 1) := by decide +kernel
theorem d_121_172 : decode cL_proves 172 = .ok (.invokevirtual 95, 3) := by decide +kernel
theorem d_121_175 : decode cL_proves 175 = .ok (.ifCond .gt 17, 3) := by decide +kernel
theorem d_121_178 : decode cL_proves 178 = .ok (.aload_n 0, 1) := by decide +kernel
theorem d_121_179 : decode cL_proves 179 = .ok (.iload_n 1, 1) := by decide +kernel
theorem d_121_180 : decode cL_proves 180 = .ok (.iconst 2, 1) := by decide +kernel
theorem d_121_181 : decode cL_proves 181 = .ok (.iconst 1, 1) := by decide +kernel
theorem d_121_182 : decode cL_proves 182 = .ok (.invokevirtual 98, 3) := by decide +kernel
theorem d_121_185 : decode cL_proves 185 = .ok (.iload 4, 2) := by decide +kernel
theorem d_121_187 : decode cL_proves 187 = .ok (.i2l, 1) := by decide +kernel
theorem d_121_188 : decode cL_proves 188 = .ok (.lcmp, 1) := by decide +kernel
theorem d_121_189 : decode cL_proves 189 = .ok (.ifCond .le 7, 3) := by decide +kernel
theorem d_121_192 : decode cL_proves 192 = .ok (.iconst 1, 1) := by decide +kernel
theorem d_121_193 : decode cL_proves 193 = .ok (.goto 4, 3) := by decide +kernel
theorem d_121_196 : decode cL_proves 196 = .ok (.iconst 0, 1) := by decide +kernel
theorem d_121_197 : decode cL_proves 197 = .ok (.ireturn, 1) := by decide +kernel
theorem d_121_198 : decode cL_proves 198 = .ok (.iconst 0, 1) := by decide +kernel
theorem d_121_199 : decode cL_proves 199 = .ok (.istore 9, 2) := by decide +kernel
theorem d_121_201 : decode cL_proves 201 = .ok (.iload 9, 2) := by decide +kernel
theorem d_121_203 : decode cL_proves 203 = .ok (.iconst 4, 1) := by decide +kernel
theorem d_121_204 : decode cL_proves 204 = .ok (.if_icmp .ge 77, 3) := by decide +kernel
theorem d_121_207 : decode cL_proves 207 = .ok (.aload_n 0, 1) := by decide +kernel
theorem d_121_208 : decode cL_proves 208 = .ok (.iconst 1, 1) := by decide +kernel
theorem d_121_209 : decode cL_proves 209 = .ok (.iload 9, 2) := by decide +kernel
theorem d_121_211 : decode cL_proves 211 = .ok (.iadd, 1) := by decide +kernel
theorem d_121_212 : decode cL_proves 212 = .ok (.invokevirtual 127, 3) := by decide +kernel
theorem d_121_215 : decode cL_proves 215 = .ok (.aload_n 0, 1) := by decide +kernel
theorem d_121_216 : decode cL_proves 216 = .ok (.iload 9, 2) := by decide +kernel
theorem d_121_218 : decode cL_proves 218 = .ok (.iconst 0, 1) := by decide +kernel
theorem d_121_219 : decode cL_proves 219 = .ok (.invokevirtual 82, 3) := by decide +kernel
theorem d_121_222 : decode cL_proves 222 = .ok (.ldc 85, 2) := by decide +kernel
theorem d_121_224 : decode cL_proves 224 = .ok (.isub, 1) := by decide +kernel
theorem d_121_225 : decode cL_proves 225 = .ok (.i2l, 1) := by decide +kernel
theorem d_121_226 : decode cL_proves 226 = .ok (.lcmp, 1) := by decide +kernel
theorem d_121_227 : decode cL_proves 227 = .ok (.ifCond .lt 46, 3) := by decide +kernel
theorem d_121_230 : decode cL_proves 230 = .ok (.aload_n 0, 1) := by decide +kernel
theorem d_121_231 : decode cL_proves 231 = .ok (.iconst 5, 1) := by decide +kernel
theorem d_121_232 : decode cL_proves 232 = .ok (.iload 9, 2) := by decide +kernel
theorem d_121_234 : decode cL_proves 234 = .ok (.iadd, 1) := by decide +kernel
theorem d_121_235 : decode cL_proves 235 = .ok (.invokevirtual 127, 3) := by decide +kernel
theorem d_121_238 : decode cL_proves 238 = .ok (.aload_n 0, 1) := by decide +kernel
theorem d_121_239 : decode cL_proves 239 = .ok (.iload 9, 2) := by decide +kernel
theorem d_121_241 : decode cL_proves 241 = .ok (.iconst 1, 1) := by decide +kernel
theorem d_121_242 : decode cL_proves 242 = .ok (.invokevirtual 82, 3) := by decide +kernel
theorem d_121_245 : decode cL_proves 245 = .ok (.ldc 85, 2) := by decide +kernel
theorem d_121_247 : decode cL_proves 247 = .ok (.isub, 1) := by decide +kernel
theorem d_121_248 : decode cL_proves 248 = .ok (.i2l, 1) := by decide +kernel
theorem d_121_249 : decode cL_proves 249 = .ok (.lcmp, 1) := by decide +kernel
theorem d_121_250 : decode cL_proves 250 = .ok (.ifCond .gt 23, 3) := by decide +kernel
theorem d_121_253 : decode cL_proves 253 = .ok (.aload_n 0, 1) := by decide +kernel
theorem d_121_254 : decode cL_proves 254 = .ok (.iconst 1, 1) := by decide +kernel
theorem d_121_255 : decode cL_proves 255 = .ok (.iload 9, 2) := by decide +kernel
theorem d_121_257 : decode cL_proves 257 = .ok (.iadd, 1) := by decide +kernel
theorem d_121_258 : decode cL_proves 258 = .ok (.invokevirtual 127, 3) := by decide +kernel
theorem d_121_261 : decode cL_proves 261 = .ok (.aload_n 0, 1) := by decide +kernel
theorem d_121_262 : decode cL_proves 262 = .ok (.iconst 5, 1) := by decide +kernel
theorem d_121_263 : decode cL_proves 263 = .ok (.iload 9, 2) := by decide +kernel
theorem d_121_265 : decode cL_proves 265 = .ok (.iadd, 1) := by decide +kernel
theorem d_121_266 : decode cL_proves 266 = .ok (.invokevirtual 127, 3) := by decide +kernel
theorem d_121_269 : decode cL_proves 269 = .ok (.lcmp, 1) := by decide +kernel
theorem d_121_270 : decode cL_proves 270 = .ok (.ifCond .le 5, 3) := by decide +kernel
theorem d_121_273 : decode cL_proves 273 = .ok (.iconst 0, 1) := by decide +kernel
theorem d_121_274 : decode cL_proves 274 = .ok (.ireturn, 1) := by decide +kernel
theorem d_121_275 : decode cL_proves 275 = .ok (.iinc 9 1, 3) := by decide +kernel
theorem d_121_278 : decode cL_proves 278 = .ok (.goto (-77), 3) := by decide +kernel
theorem d_121_281 : decode cL_proves 281 = .ok (.aload_n 0, 1) := by decide +kernel
theorem d_121_282 : decode cL_proves 282 = .ok (.iconst 0, 1) := by decide +kernel
theorem d_121_283 : decode cL_proves 283 = .ok (.invokevirtual 134, 3) := by decide +kernel
theorem d_121_286 : decode cL_proves 286 = .ok (.pop, 1) := by decide +kernel
theorem d_121_287 : decode cL_proves 287 = .ok (.iconst 0, 1) := by decide +kernel
theorem d_121_288 : decode cL_proves 288 = .ok (.istore 9, 2) := by decide +kernel
theorem d_121_290 : decode cL_proves 290 = .ok (.iload 9, 2) := by decide +kernel
theorem d_121_292 : decode cL_proves 292 = .ok (.iconst 4, 1) := by decide +kernel
theorem d_121_293 : decode cL_proves 293 = .ok (.if_icmp .ge 34, 3) := by decide +kernel
theorem d_121_296 : decode cL_proves 296 = .ok (.aload_n 0, 1) := by decide +kernel
theorem d_121_297 : decode cL_proves 297 = .ok (.iload 9, 2) := by decide +kernel
theorem d_121_299 : decode cL_proves 299 = .ok (.aload_n 0, 1) := by decide +kernel
theorem d_121_300 : decode cL_proves 300 = .ok (.iconst 1, 1) := by decide +kernel
theorem d_121_301 : decode cL_proves 301 = .ok (.iload 9, 2) := by decide +kernel
theorem d_121_303 : decode cL_proves 303 = .ok (.iadd, 1) := by decide +kernel
theorem d_121_304 : decode cL_proves 304 = .ok (.invokevirtual 127, 3) := by decide +kernel
theorem d_121_307 : decode cL_proves 307 = .ok (.l2i, 1) := by decide +kernel
theorem d_121_308 : decode cL_proves 308 = .ok (.aload_n 0, 1) := by decide +kernel
theorem d_121_309 : decode cL_proves 309 = .ok (.iconst 5, 1) := by decide +kernel
theorem d_121_310 : decode cL_proves 310 = .ok (.iload 9, 2) := by decide +kernel
theorem d_121_312 : decode cL_proves 312 = .ok (.iadd, 1) := by decide +kernel
theorem d_121_313 : decode cL_proves 313 = .ok (.invokevirtual 127, 3) := by decide +kernel
theorem d_121_316 : decode cL_proves 316 = .ok (.l2i, 1) := by decide +kernel
theorem d_121_317 : decode cL_proves 317 = .ok (.invokevirtual 31, 3) := by decide +kernel
theorem d_121_320 : decode cL_proves 320 = .ok (.pop, 1) := by decide +kernel
theorem d_121_321 : decode cL_proves 321 = .ok (.iinc 9 1, 3) := by decide +kernel
theorem d_121_324 : decode cL_proves 324 = .ok (.goto (-34), 3) := by decide +kernel
theorem d_121_327 : decode cL_proves 327 = .ok (.aload_n 0, 1) := by decide +kernel
theorem d_121_328 : decode cL_proves 328 = .ok (.iload_n 1, 1) := by decide +kernel
theorem d_121_329 : decode cL_proves 329 = .ok (.sipush 170, 3) := by decide +kernel
theorem d_121_332 : decode cL_proves 332 = .ok (.iconst 1, 1) := by decide +kernel
theorem d_121_333 : decode cL_proves 333 = .ok (.invokevirtual 119, 3) := by decide +kernel
theorem d_121_336 : decode cL_proves 336 = .ok (.lstore 9, 2) := by decide +kernel
theorem d_121_338 : decode cL_proves 338 = .ok (.aload_n 0, 1) := by decide +kernel
theorem d_121_339 : decode cL_proves 339 = .ok (.iload_n 1, 1) := by decide +kernel
theorem d_121_340 : decode cL_proves 340 = .ok (.invokevirtual 95, 3) := by decide +kernel
theorem d_121_343 : decode cL_proves 343 = .ok (.ifCond .ne 21, 3) := by decide +kernel
theorem d_121_346 : decode cL_proves 346 = .ok (.aload_n 0, 1) := by decide +kernel
theorem d_121_347 : decode cL_proves 347 = .ok (.iload_n 1, 1) := by decide +kernel
theorem d_121_348 : decode cL_proves 348 = .ok (.iconst 2, 1) := by decide +kernel
theorem d_121_349 : decode cL_proves 349 = .ok (.iconst 0, 1) := by decide +kernel
theorem d_121_350 : decode cL_proves 350 = .ok (.invokevirtual 98, 3) := by decide +kernel
theorem d_121_353 : decode cL_proves 353 = .ok (.iload 4, 2) := by decide +kernel
theorem d_121_355 : decode cL_proves 355 = .ok (.i2l, 1) := by decide +kernel
theorem d_121_356 : decode cL_proves 356 = .ok (.lcmp, 1) := by decide +kernel
theorem d_121_357 : decode cL_proves 357 = .ok (.ifCond .le 7, 3) := by decide +kernel
theorem d_121_360 : decode cL_proves 360 = .ok (.iconst 1, 1) := by decide +kernel
theorem d_121_361 : decode cL_proves 361 = .ok (.goto 4, 3) := by decide +kernel
theorem d_121_364 : decode cL_proves 364 = .ok (.iconst 0, 1) := by decide +kernel
theorem d_121_365 : decode cL_proves 365 = .ok (.istore 11, 2) := by decide +kernel
theorem d_121_367 : decode cL_proves 367 = .ok (.aload_n 0, 1) := by decide +kernel
theorem d_121_368 : decode cL_proves 368 = .ok (.iconst 0, 1) := by decide +kernel
theorem d_121_369 : decode cL_proves 369 = .ok (.invokevirtual 137, 3) := by decide +kernel
theorem d_121_372 : decode cL_proves 372 = .ok (.pop, 1) := by decide +kernel
theorem d_121_373 : decode cL_proves 373 = .ok (.iload 11, 2) := by decide +kernel
theorem d_121_375 : decode cL_proves 375 = .ok (.ifCond .ne 52, 3) := by decide +kernel
theorem d_121_378 : decode cL_proves 378 = .ok (.iload 6, 2) := by decide +kernel
theorem d_121_380 : decode cL_proves 380 = .ok (.iconst 2, 1) := by decide +kernel
theorem d_121_381 : decode cL_proves 381 = .ok (.if_icmp .ne 24, 3) := by decide +kernel
theorem d_121_384 : decode cL_proves 384 = .ok (.lload 9, 2) := by decide +kernel
theorem d_121_386 : decode cL_proves 386 = .ok (.ldc2_w 90, 3) := by decide +kernel
theorem d_121_389 : decode cL_proves 389 = .ok (.lcmp, 1) := by decide +kernel
theorem d_121_390 : decode cL_proves 390 = .ok (.ifCond .eq 37, 3) := by decide +kernel
theorem d_121_393 : decode cL_proves 393 = .ok (.lload 9, 2) := by decide +kernel
theorem d_121_395 : decode cL_proves 395 = .ok (.iload 4, 2) := by decide +kernel
theorem d_121_397 : decode cL_proves 397 = .ok (.i2l, 1) := by decide +kernel
theorem d_121_398 : decode cL_proves 398 = .ok (.lcmp, 1) := by decide +kernel
theorem d_121_399 : decode cL_proves 399 = .ok (.ifCond .gt 28, 3) := by decide +kernel
theorem d_121_402 : decode cL_proves 402 = .ok (.goto 21, 3) := by decide +kernel
theorem d_121_405 : decode cL_proves 405 = .ok (.lload 9, 2) := by decide +kernel
theorem d_121_407 : decode cL_proves 407 = .ok (.ldc2_w 90, 3) := by decide +kernel
theorem d_121_410 : decode cL_proves 410 = .ok (.lcmp, 1) := by decide +kernel
theorem d_121_411 : decode cL_proves 411 = .ok (.ifCond .eq 12, 3) := by decide +kernel
theorem d_121_414 : decode cL_proves 414 = .ok (.lload 9, 2) := by decide +kernel
theorem d_121_416 : decode cL_proves 416 = .ok (.iload 4, 2) := by decide +kernel
theorem d_121_418 : decode cL_proves 418 = .ok (.i2l, 1) := by decide +kernel
theorem d_121_419 : decode cL_proves 419 = .ok (.lcmp, 1) := by decide +kernel
theorem d_121_420 : decode cL_proves 420 = .ok (.ifCond .le 7, 3) := by decide +kernel
theorem d_121_423 : decode cL_proves 423 = .ok (.iconst 1, 1) := by decide +kernel
theorem d_121_424 : decode cL_proves 424 = .ok (.goto 4, 3) := by decide +kernel
theorem d_121_427 : decode cL_proves 427 = .ok (.iconst 0, 1) := by decide +kernel
theorem d_121_428 : decode cL_proves 428 = .ok (.ireturn, 1) := by decide +kernel
theorem q_121_0 : zRun 121 0 [l0, l1, some (.int x), l3, l4, l5, l6, l7, l8, l9, l10, l11] S sh mi mj mr = zRun 121 1 [l0, l1, some (.int x), l3, l4, l5, l6, l7, l8, l9, l10, l11] (.int x :: S) sh mi mj mr := zr_l (zD_of zk_121 d_121_0 rfl rfl) rfl rfl rfl
theorem q_121_1  : zRun 121 1 L S sh mi mj mr = zRun 121 2 L (.int 2 :: S) sh mi mj mr := zr_p (zD_of zk_121 d_121_1 rfl rfl) rfl
theorem q_121_2  {x0 x1 : Int32} (hS : zcat S ≤ 8) : zRun 121 2 L (.int x1 :: .int x0 :: S) sh mi mj mr = (zCall 116 [.int x0, .int x1] sh mi mj mr).bind fun r => zRun 121 5 L (r.1.toList ++ S) r.2.1 r.2.2.1 r.2.2.2.1 r.2.2.2.2 := zr_S (zD_of zk_121 d_121_2 rfl rfl) rfl zk_116 rfl rfl rfl hS
theorem q_121_5  : zRun 121 5 L (.int x :: S) sh mi mj mr = if ¬ x = 0 then zRun 121 24 L S sh mi mj mr else zRun 121 8 L S sh mi mj mr := zr_if (off := 19) (P := ¬ x = 0) (zD_of zk_121 d_121_5 rfl rfl) rfl rfl (by decide)
theorem q_121_8 : zRun 121 8 [l0, l1, some (.int x), l3, l4, l5, l6, l7, l8, l9, l10, l11] S sh mi mj mr = zRun 121 9 [l0, l1, some (.int x), l3, l4, l5, l6, l7, l8, l9, l10, l11] (.int x :: S) sh mi mj mr := zr_l (zD_of zk_121 d_121_8 rfl rfl) rfl rfl rfl
theorem q_121_9  : zRun 121 9 L S sh mi mj mr = zRun 121 10 L (.int 1 :: S) sh mi mj mr := zr_p (zD_of zk_121 d_121_9 rfl rfl) rfl
theorem q_121_10  : zRun 121 10 L (.int y :: .int x :: S) sh mi mj mr = zRun 121 11 L (.int (x >>> (y &&& 31)) :: S) sh mi mj mr := zr_p (zD_of zk_121 d_121_10 rfl rfl) rfl
theorem q_121_11  : zRun 121 11 L S sh mi mj mr = zRun 121 14 L (.int 2000 :: S) sh mi mj mr := zr_p (zD_of zk_121 d_121_11 rfl rfl) rfl
theorem q_121_14  {x0 x1 : Int32} (hS : zcat S ≤ 8) : zRun 121 14 L (.int x1 :: .int x0 :: S) sh mi mj mr = (zCall 116 [.int x0, .int x1] sh mi mj mr).bind fun r => zRun 121 17 L (r.1.toList ++ S) r.2.1 r.2.2.1 r.2.2.2.1 r.2.2.2.2 := zr_S (zD_of zk_121 d_121_14 rfl rfl) rfl zk_116 rfl rfl rfl hS
theorem q_121_17  : zRun 121 17 L S sh mi mj mr = zRun 121 20 L (.int 1000 :: S) sh mi mj mr := zr_p (zD_of zk_121 d_121_17 rfl rfl) rfl
theorem q_121_20  : zRun 121 20 L (.int y :: .int x :: S) sh mi mj mr = zRun 121 21 L (.int (x - y) :: S) sh mi mj mr := zr_p (zD_of zk_121 d_121_20 rfl rfl) rfl
theorem q_121_21  : zRun 121 21 L S sh mi mj mr = zRun 121 35 L S sh mi mj mr := zr_go (off := 14) (zD_of zk_121 d_121_21 rfl rfl) rfl rfl (by decide)
theorem q_121_24 : zRun 121 24 [l0, l1, some (.int x), l3, l4, l5, l6, l7, l8, l9, l10, l11] S sh mi mj mr = zRun 121 25 [l0, l1, some (.int x), l3, l4, l5, l6, l7, l8, l9, l10, l11] (.int x :: S) sh mi mj mr := zr_l (zD_of zk_121 d_121_24 rfl rfl) rfl rfl rfl
theorem q_121_25  : zRun 121 25 L S sh mi mj mr = zRun 121 26 L (.int 1 :: S) sh mi mj mr := zr_p (zD_of zk_121 d_121_25 rfl rfl) rfl
theorem q_121_26  : zRun 121 26 L (.int y :: .int x :: S) sh mi mj mr = zRun 121 27 L (.int (x >>> (y &&& 31)) :: S) sh mi mj mr := zr_p (zD_of zk_121 d_121_26 rfl rfl) rfl
theorem q_121_27  : zRun 121 27 L S sh mi mj mr = zRun 121 29 L (.int 200000 :: S) sh mi mj mr := zr_k32 (zD_of zk_121 d_121_27 rfl rfl) (by first | exact Or.inl rfl | exact Or.inr rfl) rfl
theorem q_121_29  {x0 x1 : Int32} (hS : zcat S ≤ 8) : zRun 121 29 L (.int x1 :: .int x0 :: S) sh mi mj mr = (zCall 116 [.int x0, .int x1] sh mi mj mr).bind fun r => zRun 121 32 L (r.1.toList ++ S) r.2.1 r.2.2.1 r.2.2.2.1 r.2.2.2.2 := zr_S (zD_of zk_121 d_121_29 rfl rfl) rfl zk_116 rfl rfl rfl hS
theorem q_121_32  : zRun 121 32 L S sh mi mj mr = zRun 121 34 L (.int 100000 :: S) sh mi mj mr := zr_k32 (zD_of zk_121 d_121_32 rfl rfl) (by first | exact Or.inl rfl | exact Or.inr rfl) rfl
theorem q_121_34  : zRun 121 34 L (.int y :: .int x :: S) sh mi mj mr = zRun 121 35 L (.int (x - y) :: S) sh mi mj mr := zr_p (zD_of zk_121 d_121_34 rfl rfl) rfl
theorem q_121_35 : zRun 121 35 [l0, l1, l2, l3, l4, l5, l6, l7, l8, l9, l10, l11] (.int x :: S) sh mi mj mr = zRun 121 37 [l0, l1, l2, zk2 l3, some (.int x), l5, l6, l7, l8, l9, l10, l11] S sh mi mj mr := zr_s1 (i := 4) (v := .int x) (L := [l0, l1, l2, l3, l4, l5, l6, l7, l8, l9, l10, l11]) (zD_of zk_121 d_121_35 rfl rfl) rfl rfl rfl rfl
theorem q_121_37  : zRun 121 37 L S sh mi mj mr = zRun 121 38 L (.int 1 :: S) sh mi mj mr := zr_p (zD_of zk_121 d_121_37 rfl rfl) rfl
theorem q_121_38 : zRun 121 38 [l0, l1, l2, some (.int x), l4, l5, l6, l7, l8, l9, l10, l11] S sh mi mj mr = zRun 121 39 [l0, l1, l2, some (.int x), l4, l5, l6, l7, l8, l9, l10, l11] (.int x :: S) sh mi mj mr := zr_l (zD_of zk_121 d_121_38 rfl rfl) rfl rfl rfl
theorem q_121_39  : zRun 121 39 L S sh mi mj mr = zRun 121 41 L (.int 30 :: S) sh mi mj mr := zr_p (zD_of zk_121 d_121_39 rfl rfl) rfl
theorem q_121_41  {x0 x1 : Int32} (hS : zcat S ≤ 8) : zRun 121 41 L (.int x1 :: .int x0 :: S) sh mi mj mr = (zCall 116 [.int x0, .int x1] sh mi mj mr).bind fun r => zRun 121 44 L (r.1.toList ++ S) r.2.1 r.2.2.1 r.2.2.2.1 r.2.2.2.2 := zr_S (zD_of zk_121 d_121_41 rfl rfl) rfl zk_116 rfl rfl rfl hS
theorem q_121_44  : zRun 121 44 L (.int y :: .int x :: S) sh mi mj mr = zRun 121 45 L (.int (x + y) :: S) sh mi mj mr := zr_p (zD_of zk_121 d_121_44 rfl rfl) rfl
theorem q_121_45 : zRun 121 45 [l0, l1, l2, l3, l4, l5, l6, l7, l8, l9, l10, l11] (.int x :: S) sh mi mj mr = zRun 121 47 [l0, l1, l2, l3, zk2 l4, some (.int x), l6, l7, l8, l9, l10, l11] S sh mi mj mr := zr_s1 (i := 5) (v := .int x) (L := [l0, l1, l2, l3, l4, l5, l6, l7, l8, l9, l10, l11]) (zD_of zk_121 d_121_45 rfl rfl) rfl rfl rfl rfl
theorem q_121_47r : zRun 121 47 [some (.ref o), l1, l2, l3, l4, l5, l6, l7, l8, l9, l10, l11] S sh mi mj mr = zRun 121 48 [some (.ref o), l1, l2, l3, l4, l5, l6, l7, l8, l9, l10, l11] (.ref o :: S) sh mi mj mr := zr_l (zD_of zk_121 d_121_47 rfl rfl) rfl rfl rfl
theorem q_121_47n : zRun 121 47 [some (.null), l1, l2, l3, l4, l5, l6, l7, l8, l9, l10, l11] S sh mi mj mr = zRun 121 48 [some (.null), l1, l2, l3, l4, l5, l6, l7, l8, l9, l10, l11] (.null :: S) sh mi mj mr := zr_l (zD_of zk_121 d_121_47 rfl rfl) rfl rfl rfl
theorem q_121_48 : zRun 121 48 [l0, some (.int x), l2, l3, l4, l5, l6, l7, l8, l9, l10, l11] S sh mi mj mr = zRun 121 49 [l0, some (.int x), l2, l3, l4, l5, l6, l7, l8, l9, l10, l11] (.int x :: S) sh mi mj mr := zr_l (zD_of zk_121 d_121_48 rfl rfl) rfl rfl rfl
theorem q_121_49 : zRun 121 49 [l0, l1, l2, l3, some (.int x), l5, l6, l7, l8, l9, l10, l11] S sh mi mj mr = zRun 121 51 [l0, l1, l2, l3, some (.int x), l5, l6, l7, l8, l9, l10, l11] (.int x :: S) sh mi mj mr := zr_l (zD_of zk_121 d_121_49 rfl rfl) rfl rfl rfl
theorem q_121_51 : zRun 121 51 [l0, l1, l2, l3, l4, some (.int x), l6, l7, l8, l9, l10, l11] S sh mi mj mr = zRun 121 53 [l0, l1, l2, l3, l4, some (.int x), l6, l7, l8, l9, l10, l11] (.int x :: S) sh mi mj mr := zr_l (zD_of zk_121 d_121_51 rfl rfl) rfl rfl rfl
theorem q_121_53  {x0 x1 x2 : Int32} (hS : zcat S ≤ 8) (h : zIs sh o 0 7) : zRun 121 53 L (.int x2 :: .int x1 :: .int x0 :: .ref o :: S) sh mi mj mr = (zCall 96 [.ref o, .int x0, .int x1, .int x2] sh mi mj mr).bind fun r => zRun 121 56 L (r.1.toList ++ S) r.2.1 r.2.2.1 r.2.2.2.1 r.2.2.2.2 := zr_V (zD_of zk_121 d_121_53 rfl rfl) rfl zk_96 rfl rfl rfl hS h
theorem q_121_56 : zRun 121 56 [l0, l1, l2, l3, l4, l5, l6, l7, l8, l9, l10, l11] (.int x :: S) sh mi mj mr = zRun 121 58 [l0, l1, l2, l3, l4, zk2 l5, some (.int x), l7, l8, l9, l10, l11] S sh mi mj mr := zr_s1 (i := 6) (v := .int x) (L := [l0, l1, l2, l3, l4, l5, l6, l7, l8, l9, l10, l11]) (zD_of zk_121 d_121_56 rfl rfl) rfl rfl rfl rfl
theorem q_121_58r : zRun 121 58 [some (.ref o), l1, l2, l3, l4, l5, l6, l7, l8, l9, l10, l11] S sh mi mj mr = zRun 121 59 [some (.ref o), l1, l2, l3, l4, l5, l6, l7, l8, l9, l10, l11] (.ref o :: S) sh mi mj mr := zr_l (zD_of zk_121 d_121_58 rfl rfl) rfl rfl rfl
theorem q_121_58n : zRun 121 58 [some (.null), l1, l2, l3, l4, l5, l6, l7, l8, l9, l10, l11] S sh mi mj mr = zRun 121 59 [some (.null), l1, l2, l3, l4, l5, l6, l7, l8, l9, l10, l11] (.null :: S) sh mi mj mr := zr_l (zD_of zk_121 d_121_58 rfl rfl) rfl rfl rfl
theorem q_121_59  : zRun 121 59 L S sh mi mj mr = zRun 121 60 L (.int 0 :: S) sh mi mj mr := zr_p (zD_of zk_121 d_121_59 rfl rfl) rfl
theorem q_121_60  {x0 : Int32} (hS : zcat S ≤ 8) (h : zIs sh o 0 7) : zRun 121 60 L (.int x0 :: .ref o :: S) sh mi mj mr = (zCall 97 [.ref o, .int x0] sh mi mj mr).bind fun r => zRun 121 63 L (r.1.toList ++ S) r.2.1 r.2.2.1 r.2.2.2.1 r.2.2.2.2 := zr_V (zD_of zk_121 d_121_60 rfl rfl) rfl zk_97 rfl rfl rfl hS h
theorem q_121_63 : zRun 121 63 [l0, l1, l2, l3, l4, l5, l6, l7, l8, l9, l10, l11] (.long u :: S) sh mi mj mr = zRun 121 65 [l0, l1, l2, l3, l4, l5, zk2 l6, some (.long u), none, l9, l10, l11] S sh mi mj mr := zr_s2 (i := 7) (v := .long u) (L := [l0, l1, l2, l3, l4, l5, l6, l7, l8, l9, l10, l11]) (zD_of zk_121 d_121_63 rfl rfl) rfl rfl rfl rfl
theorem q_121_65 : zRun 121 65 [l0, l1, l2, l3, l4, l5, some (.int x), l7, l8, l9, l10, l11] S sh mi mj mr = zRun 121 67 [l0, l1, l2, l3, l4, l5, some (.int x), l7, l8, l9, l10, l11] (.int x :: S) sh mi mj mr := zr_l (zD_of zk_121 d_121_65 rfl rfl) rfl rfl rfl
theorem q_121_67  : zRun 121 67 L S sh mi mj mr = zRun 121 68 L (.int 1 :: S) sh mi mj mr := zr_p (zD_of zk_121 d_121_67 rfl rfl) rfl
theorem q_121_68  : zRun 121 68 L (.int y :: .int x :: S) sh mi mj mr = if x < y then zRun 121 106 L S sh mi mj mr else zRun 121 71 L S sh mi mj mr := zr_if (off := 38) (P := x < y) (zD_of zk_121 d_121_68 rfl rfl) rfl rfl (by decide)
theorem q_121_71 : zRun 121 71 [l0, l1, l2, l3, l4, l5, some (.int x), l7, l8, l9, l10, l11] S sh mi mj mr = zRun 121 73 [l0, l1, l2, l3, l4, l5, some (.int x), l7, l8, l9, l10, l11] (.int x :: S) sh mi mj mr := zr_l (zD_of zk_121 d_121_71 rfl rfl) rfl rfl rfl
theorem q_121_73  : zRun 121 73 L S sh mi mj mr = zRun 121 74 L (.int 3 :: S) sh mi mj mr := zr_p (zD_of zk_121 d_121_73 rfl rfl) rfl
theorem q_121_74  : zRun 121 74 L (.int y :: .int x :: S) sh mi mj mr = if y < x then zRun 121 106 L S sh mi mj mr else zRun 121 77 L S sh mi mj mr := zr_if (off := 32) (P := y < x) (zD_of zk_121 d_121_74 rfl rfl) rfl rfl (by decide)
theorem q_121_77 : zRun 121 77 [l0, l1, l2, l3, l4, l5, l6, some (.long u), l8, l9, l10, l11] S sh mi mj mr = zRun 121 79 [l0, l1, l2, l3, l4, l5, l6, some (.long u), l8, l9, l10, l11] (.long u :: S) sh mi mj mr := zr_l (zD_of zk_121 d_121_77 rfl rfl) rfl rfl rfl
theorem q_121_79  : zRun 121 79 L S sh mi mj mr = zRun 121 80 L (.long 1 :: S) sh mi mj mr := zr_p (zD_of zk_121 d_121_79 rfl rfl) rfl
theorem q_121_80  : zRun 121 80 L (.long v :: .long u :: S) sh mi mj mr = if u < v then zRun 121 106 L S sh mi mj mr else zRun 121 84 L S sh mi mj mr := zr_cmp (off := 25) (zD_of zk_121 d_121_80 rfl rfl) (zD_of zk_121 d_121_81 rfl rfl) rfl rfl (by decide) (lg_cmp_lt u v)
theorem q_121_81  : zRun 121 81 L (.int x :: S) sh mi mj mr = if x < 0 then zRun 121 106 L S sh mi mj mr else zRun 121 84 L S sh mi mj mr := zr_if (off := 25) (P := x < 0) (zD_of zk_121 d_121_81 rfl rfl) rfl rfl (by decide)
theorem q_121_84 : zRun 121 84 [l0, l1, l2, l3, l4, l5, some (.int x), l7, l8, l9, l10, l11] S sh mi mj mr = zRun 121 86 [l0, l1, l2, l3, l4, l5, some (.int x), l7, l8, l9, l10, l11] (.int x :: S) sh mi mj mr := zr_l (zD_of zk_121 d_121_84 rfl rfl) rfl rfl rfl
theorem q_121_86  : zRun 121 86 L S sh mi mj mr = zRun 121 87 L (.int 3 :: S) sh mi mj mr := zr_p (zD_of zk_121 d_121_86 rfl rfl) rfl
theorem q_121_87  : zRun 121 87 L (.int y :: .int x :: S) sh mi mj mr = if ¬ x = y then zRun 121 108 L S sh mi mj mr else zRun 121 90 L S sh mi mj mr := zr_if (off := 21) (P := ¬ x = y) (zD_of zk_121 d_121_87 rfl rfl) rfl rfl (by decide)
theorem q_121_90 : zRun 121 90 [l0, l1, l2, l3, l4, l5, l6, some (.long u), l8, l9, l10, l11] S sh mi mj mr = zRun 121 92 [l0, l1, l2, l3, l4, l5, l6, some (.long u), l8, l9, l10, l11] (.long u :: S) sh mi mj mr := zr_l (zD_of zk_121 d_121_90 rfl rfl) rfl rfl rfl
theorem q_121_92 : zRun 121 92 [l0, l1, l2, l3, l4, some (.int x), l6, l7, l8, l9, l10, l11] S sh mi mj mr = zRun 121 94 [l0, l1, l2, l3, l4, some (.int x), l6, l7, l8, l9, l10, l11] (.int x :: S) sh mi mj mr := zr_l (zD_of zk_121 d_121_92 rfl rfl) rfl rfl rfl
theorem q_121_94  : zRun 121 94 L (.int x :: S) sh mi mj mr = zRun 121 95 L (.long x.toInt64 :: S) sh mi mj mr := zr_p (zD_of zk_121 d_121_94 rfl rfl) rfl
theorem q_121_95  : zRun 121 95 L (.long v :: .long u :: S) sh mi mj mr = if v ≤ u then zRun 121 108 L S sh mi mj mr else zRun 121 99 L S sh mi mj mr := zr_cmp (off := 12) (zD_of zk_121 d_121_95 rfl rfl) (zD_of zk_121 d_121_96 rfl rfl) rfl rfl (by decide) (lg_cmp_ge u v)
theorem q_121_96  : zRun 121 96 L (.int x :: S) sh mi mj mr = if 0 ≤ x then zRun 121 108 L S sh mi mj mr else zRun 121 99 L S sh mi mj mr := zr_if (off := 12) (P := 0 ≤ x) (zD_of zk_121 d_121_96 rfl rfl) rfl rfl (by decide)
theorem q_121_99r : zRun 121 99 [some (.ref o), l1, l2, l3, l4, l5, l6, l7, l8, l9, l10, l11] S sh mi mj mr = zRun 121 100 [some (.ref o), l1, l2, l3, l4, l5, l6, l7, l8, l9, l10, l11] (.ref o :: S) sh mi mj mr := zr_l (zD_of zk_121 d_121_99 rfl rfl) rfl rfl rfl
theorem q_121_99n : zRun 121 99 [some (.null), l1, l2, l3, l4, l5, l6, l7, l8, l9, l10, l11] S sh mi mj mr = zRun 121 100 [some (.null), l1, l2, l3, l4, l5, l6, l7, l8, l9, l10, l11] (.null :: S) sh mi mj mr := zr_l (zD_of zk_121 d_121_99 rfl rfl) rfl rfl rfl
theorem q_121_100  {o0 : Nat} (hS : zcat S ≤ 8) : zRun 121 100 L (.ref o0 :: S) sh mi mj mr = (zCall 122 [.ref o0] sh mi mj mr).bind fun r => zRun 121 103 L (r.1.toList ++ S) r.2.1 r.2.2.1 r.2.2.2.1 r.2.2.2.2 := zr_S (zD_of zk_121 d_121_100 rfl rfl) rfl zk_122 rfl rfl rfl hS
theorem q_121_103  : zRun 121 103 L (.int x :: S) sh mi mj mr = if ¬ x = 0 then zRun 121 108 L S sh mi mj mr else zRun 121 106 L S sh mi mj mr := zr_if (off := 5) (P := ¬ x = 0) (zD_of zk_121 d_121_103 rfl rfl) rfl rfl (by decide)
theorem q_121_106  : zRun 121 106 L S sh mi mj mr = zRun 121 107 L (.int 0 :: S) sh mi mj mr := zr_p (zD_of zk_121 d_121_106 rfl rfl) rfl
theorem q_121_107 (h : x = 0 ∨ x = 1) : zRun 121 107 L ([.int x]) sh mi mj mr = some (some (.int x), sh, mi, mj, mr) := zr_ret (zD_of zk_121 d_121_107 rfl rfl) rfl rfl rfl rfl rfl (if_pos (zna_b h))
theorem q_121_108 : zRun 121 108 [l0, l1, l2, l3, l4, l5, some (.int x), l7, l8, l9, l10, l11] S sh mi mj mr = zRun 121 110 [l0, l1, l2, l3, l4, l5, some (.int x), l7, l8, l9, l10, l11] (.int x :: S) sh mi mj mr := zr_l (zD_of zk_121 d_121_108 rfl rfl) rfl rfl rfl
theorem q_121_110  : zRun 121 110 L S sh mi mj mr = zRun 121 111 L (.int 1 :: S) sh mi mj mr := zr_p (zD_of zk_121 d_121_110 rfl rfl) rfl
theorem q_121_111  : zRun 121 111 L (.int y :: .int x :: S) sh mi mj mr = if ¬ x = y then zRun 121 198 L S sh mi mj mr else zRun 121 114 L S sh mi mj mr := zr_if (off := 87) (P := ¬ x = y) (zD_of zk_121 d_121_111 rfl rfl) rfl rfl (by decide)
theorem q_121_114  : zRun 121 114 L S sh mi mj mr = zRun 121 115 L (.int 0 :: S) sh mi mj mr := zr_p (zD_of zk_121 d_121_114 rfl rfl) rfl
theorem q_121_115 : zRun 121 115 [l0, l1, l2, l3, l4, l5, l6, l7, l8, l9, l10, l11] (.int x :: S) sh mi mj mr = zRun 121 117 [l0, l1, l2, l3, l4, l5, l6, l7, zk2 l8, some (.int x), l10, l11] S sh mi mj mr := zr_s1 (i := 9) (v := .int x) (L := [l0, l1, l2, l3, l4, l5, l6, l7, l8, l9, l10, l11]) (zD_of zk_121 d_121_115 rfl rfl) rfl rfl rfl rfl
theorem q_121_117 : zRun 121 117 [l0, l1, l2, l3, l4, l5, l6, l7, l8, some (.int x), l10, l11] S sh mi mj mr = zRun 121 119 [l0, l1, l2, l3, l4, l5, l6, l7, l8, some (.int x), l10, l11] (.int x :: S) sh mi mj mr := zr_l (zD_of zk_121 d_121_117 rfl rfl) rfl rfl rfl
theorem q_121_119  : zRun 121 119 L S sh mi mj mr = zRun 121 121 L (.int 6 :: S) sh mi mj mr := zr_p (zD_of zk_121 d_121_119 rfl rfl) rfl
theorem q_121_121  : zRun 121 121 L (.int y :: .int x :: S) sh mi mj mr = if y ≤ x then zRun 121 170 L S sh mi mj mr else zRun 121 124 L S sh mi mj mr := zr_if (off := 49) (P := y ≤ x) (zD_of zk_121 d_121_121 rfl rfl) rfl rfl (by decide)
theorem q_121_124r : zRun 121 124 [some (.ref o), l1, l2, l3, l4, l5, l6, l7, l8, l9, l10, l11] S sh mi mj mr = zRun 121 125 [some (.ref o), l1, l2, l3, l4, l5, l6, l7, l8, l9, l10, l11] (.ref o :: S) sh mi mj mr := zr_l (zD_of zk_121 d_121_124 rfl rfl) rfl rfl rfl
theorem q_121_124n : zRun 121 124 [some (.null), l1, l2, l3, l4, l5, l6, l7, l8, l9, l10, l11] S sh mi mj mr = zRun 121 125 [some (.null), l1, l2, l3, l4, l5, l6, l7, l8, l9, l10, l11] (.null :: S) sh mi mj mr := zr_l (zD_of zk_121 d_121_124 rfl rfl) rfl rfl rfl
theorem q_121_125 : zRun 121 125 [l0, some (.int x), l2, l3, l4, l5, l6, l7, l8, l9, l10, l11] S sh mi mj mr = zRun 121 126 [l0, some (.int x), l2, l3, l4, l5, l6, l7, l8, l9, l10, l11] (.int x :: S) sh mi mj mr := zr_l (zD_of zk_121 d_121_125 rfl rfl) rfl rfl rfl
theorem q_121_126 : zRun 121 126 [l0, l1, l2, some (.int x), l4, l5, l6, l7, l8, l9, l10, l11] S sh mi mj mr = zRun 121 127 [l0, l1, l2, some (.int x), l4, l5, l6, l7, l8, l9, l10, l11] (.int x :: S) sh mi mj mr := zr_l (zD_of zk_121 d_121_126 rfl rfl) rfl rfl rfl
theorem q_121_127  : zRun 121 127 L S sh mi mj mr = zRun 121 128 L (.int 4 :: S) sh mi mj mr := zr_p (zD_of zk_121 d_121_127 rfl rfl) rfl
theorem q_121_128 : zRun 121 128 [l0, l1, l2, l3, l4, l5, l6, l7, l8, some (.int x), l10, l11] S sh mi mj mr = zRun 121 130 [l0, l1, l2, l3, l4, l5, l6, l7, l8, some (.int x), l10, l11] (.int x :: S) sh mi mj mr := zr_l (zD_of zk_121 d_121_128 rfl rfl) rfl rfl rfl
theorem q_121_130  : zRun 121 130 L (.int y :: .int x :: S) sh mi mj mr = zRun 121 131 L (.int (x * y) :: S) sh mi mj mr := zr_p (zD_of zk_121 d_121_130 rfl rfl) rfl
theorem q_121_131  : zRun 121 131 L (.int y :: .int x :: S) sh mi mj mr = zRun 121 132 L (.int (x >>> (y &&& 31)) :: S) sh mi mj mr := zr_p (zD_of zk_121 d_121_131 rfl rfl) rfl
theorem q_121_132  : zRun 121 132 L S sh mi mj mr = zRun 121 135 L (.int 256 :: S) sh mi mj mr := zr_p (zD_of zk_121 d_121_132 rfl rfl) rfl
theorem q_121_135  {x0 x1 : Int32} (hS : zcat S ≤ 8) : zRun 121 135 L (.int x1 :: .int x0 :: S) sh mi mj mr = (zCall 116 [.int x0, .int x1] sh mi mj mr).bind fun r => zRun 121 138 L (r.1.toList ++ S) r.2.1 r.2.2.1 r.2.2.2.1 r.2.2.2.2 := zr_S (zD_of zk_121 d_121_135 rfl rfl) rfl zk_116 rfl rfl rfl hS
theorem q_121_138  : zRun 121 138 L S sh mi mj mr = zRun 121 139 L (.int 1 :: S) sh mi mj mr := zr_p (zD_of zk_121 d_121_138 rfl rfl) rfl
theorem q_121_139  {x0 x1 x2 : Int32} (hS : zcat S ≤ 8) (h : zIs sh o 0 7) : zRun 121 139 L (.int x2 :: .int x1 :: .int x0 :: .ref o :: S) sh mi mj mr = (zCall 94 [.ref o, .int x0, .int x1, .int x2] sh mi mj mr).bind fun r => zRun 121 142 L (r.1.toList ++ S) r.2.1 r.2.2.1 r.2.2.2.1 r.2.2.2.2 := zr_V (zD_of zk_121 d_121_139 rfl rfl) rfl zk_94 rfl rfl rfl hS h
theorem q_121_142 : zRun 121 142 [l0, l1, l2, l3, l4, l5, l6, l7, l8, l9, l10, l11] (.long u :: S) sh mi mj mr = zRun 121 144 [l0, l1, l2, l3, l4, l5, l6, l7, l8, zk2 l9, some (.long u), none] S sh mi mj mr := zr_s2 (i := 10) (v := .long u) (L := [l0, l1, l2, l3, l4, l5, l6, l7, l8, l9, l10, l11]) (zD_of zk_121 d_121_142 rfl rfl) rfl rfl rfl rfl
theorem q_121_144 : zRun 121 144 [l0, l1, l2, l3, l4, l5, l6, l7, l8, l9, some (.long u), l11] S sh mi mj mr = zRun 121 146 [l0, l1, l2, l3, l4, l5, l6, l7, l8, l9, some (.long u), l11] (.long u :: S) sh mi mj mr := zr_l (zD_of zk_121 d_121_144 rfl rfl) rfl rfl rfl
theorem q_121_146  : zRun 121 146 L S sh mi mj mr = zRun 121 149 L (.long (-1000000000000000005) :: S) sh mi mj mr := zr_k64 (zD_of zk_121 d_121_146 rfl rfl) rfl
theorem q_121_149  : zRun 121 149 L (.long v :: .long u :: S) sh mi mj mr = if u = v then zRun 121 164 L S sh mi mj mr else zRun 121 153 L S sh mi mj mr := zr_cmp (off := 14) (zD_of zk_121 d_121_149 rfl rfl) (zD_of zk_121 d_121_150 rfl rfl) rfl rfl (by decide) (lg_cmp_eq u v)
theorem q_121_150  : zRun 121 150 L (.int x :: S) sh mi mj mr = if x = 0 then zRun 121 164 L S sh mi mj mr else zRun 121 153 L S sh mi mj mr := zr_if (off := 14) (P := x = 0) (zD_of zk_121 d_121_150 rfl rfl) rfl rfl (by decide)
theorem q_121_153 : zRun 121 153 [l0, l1, l2, l3, l4, l5, l6, l7, l8, l9, some (.long u), l11] S sh mi mj mr = zRun 121 155 [l0, l1, l2, l3, l4, l5, l6, l7, l8, l9, some (.long u), l11] (.long u :: S) sh mi mj mr := zr_l (zD_of zk_121 d_121_153 rfl rfl) rfl rfl rfl
theorem q_121_155 : zRun 121 155 [l0, l1, l2, l3, some (.int x), l5, l6, l7, l8, l9, l10, l11] S sh mi mj mr = zRun 121 157 [l0, l1, l2, l3, some (.int x), l5, l6, l7, l8, l9, l10, l11] (.int x :: S) sh mi mj mr := zr_l (zD_of zk_121 d_121_155 rfl rfl) rfl rfl rfl
theorem q_121_157  : zRun 121 157 L (.int x :: S) sh mi mj mr = zRun 121 158 L (.long x.toInt64 :: S) sh mi mj mr := zr_p (zD_of zk_121 d_121_157 rfl rfl) rfl
theorem q_121_158  : zRun 121 158 L (.long v :: .long u :: S) sh mi mj mr = if v < u then zRun 121 164 L S sh mi mj mr else zRun 121 162 L S sh mi mj mr := zr_cmp (off := 5) (zD_of zk_121 d_121_158 rfl rfl) (zD_of zk_121 d_121_159 rfl rfl) rfl rfl (by decide) (lg_cmp_gt u v)
theorem q_121_159  : zRun 121 159 L (.int x :: S) sh mi mj mr = if 0 < x then zRun 121 164 L S sh mi mj mr else zRun 121 162 L S sh mi mj mr := zr_if (off := 5) (P := 0 < x) (zD_of zk_121 d_121_159 rfl rfl) rfl rfl (by decide)
theorem q_121_162  : zRun 121 162 L S sh mi mj mr = zRun 121 163 L (.int 0 :: S) sh mi mj mr := zr_p (zD_of zk_121 d_121_162 rfl rfl) rfl
theorem q_121_163 (h : x = 0 ∨ x = 1) : zRun 121 163 L ([.int x]) sh mi mj mr = some (some (.int x), sh, mi, mj, mr) := zr_ret (zD_of zk_121 d_121_163 rfl rfl) rfl rfl rfl rfl rfl (if_pos (zna_b h))
theorem q_121_164  : zRun 121 164 [l0, l1, l2, l3, l4, l5, l6, l7, l8, some (.int x), l10, l11] S sh mi mj mr = zRun 121 167 [l0, l1, l2, l3, l4, l5, l6, l7, zk2 l8, some (.int (x + 1)), l10, l11] S sh mi mj mr := zr_s1 (i := 9) (v := .int (x + 1)) (L := [l0, l1, l2, l3, l4, l5, l6, l7, l8, some (.int x), l10, l11]) (zD_of zk_121 d_121_164 rfl rfl) rfl rfl rfl rfl
theorem q_121_167  : zRun 121 167 L S sh mi mj mr = zRun 121 117 L S sh mi mj mr := zr_go (off := (-50)) (zD_of zk_121 d_121_167 rfl rfl) rfl rfl (by decide)
theorem q_121_170r : zRun 121 170 [some (.ref o), l1, l2, l3, l4, l5, l6, l7, l8, l9, l10, l11] S sh mi mj mr = zRun 121 171 [some (.ref o), l1, l2, l3, l4, l5, l6, l7, l8, l9, l10, l11] (.ref o :: S) sh mi mj mr := zr_l (zD_of zk_121 d_121_170 rfl rfl) rfl rfl rfl
theorem q_121_170n : zRun 121 170 [some (.null), l1, l2, l3, l4, l5, l6, l7, l8, l9, l10, l11] S sh mi mj mr = zRun 121 171 [some (.null), l1, l2, l3, l4, l5, l6, l7, l8, l9, l10, l11] (.null :: S) sh mi mj mr := zr_l (zD_of zk_121 d_121_170 rfl rfl) rfl rfl rfl
theorem q_121_171 : zRun 121 171 [l0, some (.int x), l2, l3, l4, l5, l6, l7, l8, l9, l10, l11] S sh mi mj mr = zRun 121 172 [l0, some (.int x), l2, l3, l4, l5, l6, l7, l8, l9, l10, l11] (.int x :: S) sh mi mj mr := zr_l (zD_of zk_121 d_121_171 rfl rfl) rfl rfl rfl
theorem q_121_172  {x0 : Int32} (hS : zcat S ≤ 8) (h : zIs sh o 0 7) : zRun 121 172 L (.int x0 :: .ref o :: S) sh mi mj mr = (zCall 88 [.ref o, .int x0] sh mi mj mr).bind fun r => zRun 121 175 L (r.1.toList ++ S) r.2.1 r.2.2.1 r.2.2.2.1 r.2.2.2.2 := zr_V (zD_of zk_121 d_121_172 rfl rfl) rfl zk_88 rfl rfl rfl hS h
theorem q_121_175  : zRun 121 175 L (.int x :: S) sh mi mj mr = if 0 < x then zRun 121 192 L S sh mi mj mr else zRun 121 178 L S sh mi mj mr := zr_if (off := 17) (P := 0 < x) (zD_of zk_121 d_121_175 rfl rfl) rfl rfl (by decide)
theorem q_121_178r : zRun 121 178 [some (.ref o), l1, l2, l3, l4, l5, l6, l7, l8, l9, l10, l11] S sh mi mj mr = zRun 121 179 [some (.ref o), l1, l2, l3, l4, l5, l6, l7, l8, l9, l10, l11] (.ref o :: S) sh mi mj mr := zr_l (zD_of zk_121 d_121_178 rfl rfl) rfl rfl rfl
theorem q_121_178n : zRun 121 178 [some (.null), l1, l2, l3, l4, l5, l6, l7, l8, l9, l10, l11] S sh mi mj mr = zRun 121 179 [some (.null), l1, l2, l3, l4, l5, l6, l7, l8, l9, l10, l11] (.null :: S) sh mi mj mr := zr_l (zD_of zk_121 d_121_178 rfl rfl) rfl rfl rfl
theorem q_121_179 : zRun 121 179 [l0, some (.int x), l2, l3, l4, l5, l6, l7, l8, l9, l10, l11] S sh mi mj mr = zRun 121 180 [l0, some (.int x), l2, l3, l4, l5, l6, l7, l8, l9, l10, l11] (.int x :: S) sh mi mj mr := zr_l (zD_of zk_121 d_121_179 rfl rfl) rfl rfl rfl
theorem q_121_180  : zRun 121 180 L S sh mi mj mr = zRun 121 181 L (.int 2 :: S) sh mi mj mr := zr_p (zD_of zk_121 d_121_180 rfl rfl) rfl
theorem q_121_181  : zRun 121 181 L S sh mi mj mr = zRun 121 182 L (.int 1 :: S) sh mi mj mr := zr_p (zD_of zk_121 d_121_181 rfl rfl) rfl
theorem q_121_182  {x0 x1 x2 : Int32} (hS : zcat S ≤ 8) (h : zIs sh o 0 7) : zRun 121 182 L (.int x2 :: .int x1 :: .int x0 :: .ref o :: S) sh mi mj mr = (zCall 89 [.ref o, .int x0, .int x1, .int x2] sh mi mj mr).bind fun r => zRun 121 185 L (r.1.toList ++ S) r.2.1 r.2.2.1 r.2.2.2.1 r.2.2.2.2 := zr_V (zD_of zk_121 d_121_182 rfl rfl) rfl zk_89 rfl rfl rfl hS h
theorem q_121_185 : zRun 121 185 [l0, l1, l2, l3, some (.int x), l5, l6, l7, l8, l9, l10, l11] S sh mi mj mr = zRun 121 187 [l0, l1, l2, l3, some (.int x), l5, l6, l7, l8, l9, l10, l11] (.int x :: S) sh mi mj mr := zr_l (zD_of zk_121 d_121_185 rfl rfl) rfl rfl rfl
theorem q_121_187  : zRun 121 187 L (.int x :: S) sh mi mj mr = zRun 121 188 L (.long x.toInt64 :: S) sh mi mj mr := zr_p (zD_of zk_121 d_121_187 rfl rfl) rfl
theorem q_121_188  : zRun 121 188 L (.long v :: .long u :: S) sh mi mj mr = if u ≤ v then zRun 121 196 L S sh mi mj mr else zRun 121 192 L S sh mi mj mr := zr_cmp (off := 7) (zD_of zk_121 d_121_188 rfl rfl) (zD_of zk_121 d_121_189 rfl rfl) rfl rfl (by decide) (lg_cmp_le u v)
theorem q_121_189  : zRun 121 189 L (.int x :: S) sh mi mj mr = if x ≤ 0 then zRun 121 196 L S sh mi mj mr else zRun 121 192 L S sh mi mj mr := zr_if (off := 7) (P := x ≤ 0) (zD_of zk_121 d_121_189 rfl rfl) rfl rfl (by decide)
theorem q_121_192  : zRun 121 192 L S sh mi mj mr = zRun 121 193 L (.int 1 :: S) sh mi mj mr := zr_p (zD_of zk_121 d_121_192 rfl rfl) rfl
theorem q_121_193  : zRun 121 193 L S sh mi mj mr = zRun 121 197 L S sh mi mj mr := zr_go (off := 4) (zD_of zk_121 d_121_193 rfl rfl) rfl rfl (by decide)
theorem q_121_196  : zRun 121 196 L S sh mi mj mr = zRun 121 197 L (.int 0 :: S) sh mi mj mr := zr_p (zD_of zk_121 d_121_196 rfl rfl) rfl
theorem q_121_197 (h : x = 0 ∨ x = 1) : zRun 121 197 L ([.int x]) sh mi mj mr = some (some (.int x), sh, mi, mj, mr) := zr_ret (zD_of zk_121 d_121_197 rfl rfl) rfl rfl rfl rfl rfl (if_pos (zna_b h))
theorem q_121_198  : zRun 121 198 L S sh mi mj mr = zRun 121 199 L (.int 0 :: S) sh mi mj mr := zr_p (zD_of zk_121 d_121_198 rfl rfl) rfl
theorem q_121_199 : zRun 121 199 [l0, l1, l2, l3, l4, l5, l6, l7, l8, l9, l10, l11] (.int x :: S) sh mi mj mr = zRun 121 201 [l0, l1, l2, l3, l4, l5, l6, l7, zk2 l8, some (.int x), l10, l11] S sh mi mj mr := zr_s1 (i := 9) (v := .int x) (L := [l0, l1, l2, l3, l4, l5, l6, l7, l8, l9, l10, l11]) (zD_of zk_121 d_121_199 rfl rfl) rfl rfl rfl rfl
theorem q_121_201 : zRun 121 201 [l0, l1, l2, l3, l4, l5, l6, l7, l8, some (.int x), l10, l11] S sh mi mj mr = zRun 121 203 [l0, l1, l2, l3, l4, l5, l6, l7, l8, some (.int x), l10, l11] (.int x :: S) sh mi mj mr := zr_l (zD_of zk_121 d_121_201 rfl rfl) rfl rfl rfl
theorem q_121_203  : zRun 121 203 L S sh mi mj mr = zRun 121 204 L (.int 4 :: S) sh mi mj mr := zr_p (zD_of zk_121 d_121_203 rfl rfl) rfl
theorem q_121_204  : zRun 121 204 L (.int y :: .int x :: S) sh mi mj mr = if y ≤ x then zRun 121 281 L S sh mi mj mr else zRun 121 207 L S sh mi mj mr := zr_if (off := 77) (P := y ≤ x) (zD_of zk_121 d_121_204 rfl rfl) rfl rfl (by decide)
theorem q_121_207r : zRun 121 207 [some (.ref o), l1, l2, l3, l4, l5, l6, l7, l8, l9, l10, l11] S sh mi mj mr = zRun 121 208 [some (.ref o), l1, l2, l3, l4, l5, l6, l7, l8, l9, l10, l11] (.ref o :: S) sh mi mj mr := zr_l (zD_of zk_121 d_121_207 rfl rfl) rfl rfl rfl
theorem q_121_207n : zRun 121 207 [some (.null), l1, l2, l3, l4, l5, l6, l7, l8, l9, l10, l11] S sh mi mj mr = zRun 121 208 [some (.null), l1, l2, l3, l4, l5, l6, l7, l8, l9, l10, l11] (.null :: S) sh mi mj mr := zr_l (zD_of zk_121 d_121_207 rfl rfl) rfl rfl rfl
theorem q_121_208  : zRun 121 208 L S sh mi mj mr = zRun 121 209 L (.int 1 :: S) sh mi mj mr := zr_p (zD_of zk_121 d_121_208 rfl rfl) rfl
theorem q_121_209 : zRun 121 209 [l0, l1, l2, l3, l4, l5, l6, l7, l8, some (.int x), l10, l11] S sh mi mj mr = zRun 121 211 [l0, l1, l2, l3, l4, l5, l6, l7, l8, some (.int x), l10, l11] (.int x :: S) sh mi mj mr := zr_l (zD_of zk_121 d_121_209 rfl rfl) rfl rfl rfl
theorem q_121_211  : zRun 121 211 L (.int y :: .int x :: S) sh mi mj mr = zRun 121 212 L (.int (x + y) :: S) sh mi mj mr := zr_p (zD_of zk_121 d_121_211 rfl rfl) rfl
theorem q_121_212  {x0 : Int32} (hS : zcat S ≤ 8) (h : zIs sh o 0 7) : zRun 121 212 L (.int x0 :: .ref o :: S) sh mi mj mr = (zCall 97 [.ref o, .int x0] sh mi mj mr).bind fun r => zRun 121 215 L (r.1.toList ++ S) r.2.1 r.2.2.1 r.2.2.2.1 r.2.2.2.2 := zr_V (zD_of zk_121 d_121_212 rfl rfl) rfl zk_97 rfl rfl rfl hS h
theorem q_121_215r : zRun 121 215 [some (.ref o), l1, l2, l3, l4, l5, l6, l7, l8, l9, l10, l11] S sh mi mj mr = zRun 121 216 [some (.ref o), l1, l2, l3, l4, l5, l6, l7, l8, l9, l10, l11] (.ref o :: S) sh mi mj mr := zr_l (zD_of zk_121 d_121_215 rfl rfl) rfl rfl rfl
theorem q_121_215n : zRun 121 215 [some (.null), l1, l2, l3, l4, l5, l6, l7, l8, l9, l10, l11] S sh mi mj mr = zRun 121 216 [some (.null), l1, l2, l3, l4, l5, l6, l7, l8, l9, l10, l11] (.null :: S) sh mi mj mr := zr_l (zD_of zk_121 d_121_215 rfl rfl) rfl rfl rfl
theorem q_121_216 : zRun 121 216 [l0, l1, l2, l3, l4, l5, l6, l7, l8, some (.int x), l10, l11] S sh mi mj mr = zRun 121 218 [l0, l1, l2, l3, l4, l5, l6, l7, l8, some (.int x), l10, l11] (.int x :: S) sh mi mj mr := zr_l (zD_of zk_121 d_121_216 rfl rfl) rfl rfl rfl
theorem q_121_218  : zRun 121 218 L S sh mi mj mr = zRun 121 219 L (.int 0 :: S) sh mi mj mr := zr_p (zD_of zk_121 d_121_218 rfl rfl) rfl
theorem q_121_219  {x0 x1 : Int32} (hS : zcat S ≤ 8) (h : zIs sh o 0 7) : zRun 121 219 L (.int x1 :: .int x0 :: .ref o :: S) sh mi mj mr = (zCall 80 [.ref o, .int x0, .int x1] sh mi mj mr).bind fun r => zRun 121 222 L (r.1.toList ++ S) r.2.1 r.2.2.1 r.2.2.2.1 r.2.2.2.2 := zr_V (zD_of zk_121 d_121_219 rfl rfl) rfl zk_80 rfl rfl rfl hS h
theorem q_121_222  : zRun 121 222 L S sh mi mj mr = zRun 121 224 L (.int 1000000 :: S) sh mi mj mr := zr_k32 (zD_of zk_121 d_121_222 rfl rfl) (by first | exact Or.inl rfl | exact Or.inr rfl) rfl
theorem q_121_224  : zRun 121 224 L (.int y :: .int x :: S) sh mi mj mr = zRun 121 225 L (.int (x - y) :: S) sh mi mj mr := zr_p (zD_of zk_121 d_121_224 rfl rfl) rfl
theorem q_121_225  : zRun 121 225 L (.int x :: S) sh mi mj mr = zRun 121 226 L (.long x.toInt64 :: S) sh mi mj mr := zr_p (zD_of zk_121 d_121_225 rfl rfl) rfl
theorem q_121_226  : zRun 121 226 L (.long v :: .long u :: S) sh mi mj mr = if u < v then zRun 121 273 L S sh mi mj mr else zRun 121 230 L S sh mi mj mr := zr_cmp (off := 46) (zD_of zk_121 d_121_226 rfl rfl) (zD_of zk_121 d_121_227 rfl rfl) rfl rfl (by decide) (lg_cmp_lt u v)
theorem q_121_227  : zRun 121 227 L (.int x :: S) sh mi mj mr = if x < 0 then zRun 121 273 L S sh mi mj mr else zRun 121 230 L S sh mi mj mr := zr_if (off := 46) (P := x < 0) (zD_of zk_121 d_121_227 rfl rfl) rfl rfl (by decide)
theorem q_121_230r : zRun 121 230 [some (.ref o), l1, l2, l3, l4, l5, l6, l7, l8, l9, l10, l11] S sh mi mj mr = zRun 121 231 [some (.ref o), l1, l2, l3, l4, l5, l6, l7, l8, l9, l10, l11] (.ref o :: S) sh mi mj mr := zr_l (zD_of zk_121 d_121_230 rfl rfl) rfl rfl rfl
theorem q_121_230n : zRun 121 230 [some (.null), l1, l2, l3, l4, l5, l6, l7, l8, l9, l10, l11] S sh mi mj mr = zRun 121 231 [some (.null), l1, l2, l3, l4, l5, l6, l7, l8, l9, l10, l11] (.null :: S) sh mi mj mr := zr_l (zD_of zk_121 d_121_230 rfl rfl) rfl rfl rfl
theorem q_121_231  : zRun 121 231 L S sh mi mj mr = zRun 121 232 L (.int 5 :: S) sh mi mj mr := zr_p (zD_of zk_121 d_121_231 rfl rfl) rfl
theorem q_121_232 : zRun 121 232 [l0, l1, l2, l3, l4, l5, l6, l7, l8, some (.int x), l10, l11] S sh mi mj mr = zRun 121 234 [l0, l1, l2, l3, l4, l5, l6, l7, l8, some (.int x), l10, l11] (.int x :: S) sh mi mj mr := zr_l (zD_of zk_121 d_121_232 rfl rfl) rfl rfl rfl
theorem q_121_234  : zRun 121 234 L (.int y :: .int x :: S) sh mi mj mr = zRun 121 235 L (.int (x + y) :: S) sh mi mj mr := zr_p (zD_of zk_121 d_121_234 rfl rfl) rfl
theorem q_121_235  {x0 : Int32} (hS : zcat S ≤ 8) (h : zIs sh o 0 7) : zRun 121 235 L (.int x0 :: .ref o :: S) sh mi mj mr = (zCall 97 [.ref o, .int x0] sh mi mj mr).bind fun r => zRun 121 238 L (r.1.toList ++ S) r.2.1 r.2.2.1 r.2.2.2.1 r.2.2.2.2 := zr_V (zD_of zk_121 d_121_235 rfl rfl) rfl zk_97 rfl rfl rfl hS h
theorem q_121_238r : zRun 121 238 [some (.ref o), l1, l2, l3, l4, l5, l6, l7, l8, l9, l10, l11] S sh mi mj mr = zRun 121 239 [some (.ref o), l1, l2, l3, l4, l5, l6, l7, l8, l9, l10, l11] (.ref o :: S) sh mi mj mr := zr_l (zD_of zk_121 d_121_238 rfl rfl) rfl rfl rfl
theorem q_121_238n : zRun 121 238 [some (.null), l1, l2, l3, l4, l5, l6, l7, l8, l9, l10, l11] S sh mi mj mr = zRun 121 239 [some (.null), l1, l2, l3, l4, l5, l6, l7, l8, l9, l10, l11] (.null :: S) sh mi mj mr := zr_l (zD_of zk_121 d_121_238 rfl rfl) rfl rfl rfl
theorem q_121_239 : zRun 121 239 [l0, l1, l2, l3, l4, l5, l6, l7, l8, some (.int x), l10, l11] S sh mi mj mr = zRun 121 241 [l0, l1, l2, l3, l4, l5, l6, l7, l8, some (.int x), l10, l11] (.int x :: S) sh mi mj mr := zr_l (zD_of zk_121 d_121_239 rfl rfl) rfl rfl rfl
theorem q_121_241  : zRun 121 241 L S sh mi mj mr = zRun 121 242 L (.int 1 :: S) sh mi mj mr := zr_p (zD_of zk_121 d_121_241 rfl rfl) rfl
theorem q_121_242  {x0 x1 : Int32} (hS : zcat S ≤ 8) (h : zIs sh o 0 7) : zRun 121 242 L (.int x1 :: .int x0 :: .ref o :: S) sh mi mj mr = (zCall 80 [.ref o, .int x0, .int x1] sh mi mj mr).bind fun r => zRun 121 245 L (r.1.toList ++ S) r.2.1 r.2.2.1 r.2.2.2.1 r.2.2.2.2 := zr_V (zD_of zk_121 d_121_242 rfl rfl) rfl zk_80 rfl rfl rfl hS h
theorem q_121_245  : zRun 121 245 L S sh mi mj mr = zRun 121 247 L (.int 1000000 :: S) sh mi mj mr := zr_k32 (zD_of zk_121 d_121_245 rfl rfl) (by first | exact Or.inl rfl | exact Or.inr rfl) rfl
theorem q_121_247  : zRun 121 247 L (.int y :: .int x :: S) sh mi mj mr = zRun 121 248 L (.int (x - y) :: S) sh mi mj mr := zr_p (zD_of zk_121 d_121_247 rfl rfl) rfl
theorem q_121_248  : zRun 121 248 L (.int x :: S) sh mi mj mr = zRun 121 249 L (.long x.toInt64 :: S) sh mi mj mr := zr_p (zD_of zk_121 d_121_248 rfl rfl) rfl
theorem q_121_249  : zRun 121 249 L (.long v :: .long u :: S) sh mi mj mr = if v < u then zRun 121 273 L S sh mi mj mr else zRun 121 253 L S sh mi mj mr := zr_cmp (off := 23) (zD_of zk_121 d_121_249 rfl rfl) (zD_of zk_121 d_121_250 rfl rfl) rfl rfl (by decide) (lg_cmp_gt u v)
theorem q_121_250  : zRun 121 250 L (.int x :: S) sh mi mj mr = if 0 < x then zRun 121 273 L S sh mi mj mr else zRun 121 253 L S sh mi mj mr := zr_if (off := 23) (P := 0 < x) (zD_of zk_121 d_121_250 rfl rfl) rfl rfl (by decide)
theorem q_121_253r : zRun 121 253 [some (.ref o), l1, l2, l3, l4, l5, l6, l7, l8, l9, l10, l11] S sh mi mj mr = zRun 121 254 [some (.ref o), l1, l2, l3, l4, l5, l6, l7, l8, l9, l10, l11] (.ref o :: S) sh mi mj mr := zr_l (zD_of zk_121 d_121_253 rfl rfl) rfl rfl rfl
theorem q_121_253n : zRun 121 253 [some (.null), l1, l2, l3, l4, l5, l6, l7, l8, l9, l10, l11] S sh mi mj mr = zRun 121 254 [some (.null), l1, l2, l3, l4, l5, l6, l7, l8, l9, l10, l11] (.null :: S) sh mi mj mr := zr_l (zD_of zk_121 d_121_253 rfl rfl) rfl rfl rfl
theorem q_121_254  : zRun 121 254 L S sh mi mj mr = zRun 121 255 L (.int 1 :: S) sh mi mj mr := zr_p (zD_of zk_121 d_121_254 rfl rfl) rfl
theorem q_121_255 : zRun 121 255 [l0, l1, l2, l3, l4, l5, l6, l7, l8, some (.int x), l10, l11] S sh mi mj mr = zRun 121 257 [l0, l1, l2, l3, l4, l5, l6, l7, l8, some (.int x), l10, l11] (.int x :: S) sh mi mj mr := zr_l (zD_of zk_121 d_121_255 rfl rfl) rfl rfl rfl
theorem q_121_257  : zRun 121 257 L (.int y :: .int x :: S) sh mi mj mr = zRun 121 258 L (.int (x + y) :: S) sh mi mj mr := zr_p (zD_of zk_121 d_121_257 rfl rfl) rfl
theorem q_121_258  {x0 : Int32} (hS : zcat S ≤ 8) (h : zIs sh o 0 7) : zRun 121 258 L (.int x0 :: .ref o :: S) sh mi mj mr = (zCall 97 [.ref o, .int x0] sh mi mj mr).bind fun r => zRun 121 261 L (r.1.toList ++ S) r.2.1 r.2.2.1 r.2.2.2.1 r.2.2.2.2 := zr_V (zD_of zk_121 d_121_258 rfl rfl) rfl zk_97 rfl rfl rfl hS h
theorem q_121_261r : zRun 121 261 [some (.ref o), l1, l2, l3, l4, l5, l6, l7, l8, l9, l10, l11] S sh mi mj mr = zRun 121 262 [some (.ref o), l1, l2, l3, l4, l5, l6, l7, l8, l9, l10, l11] (.ref o :: S) sh mi mj mr := zr_l (zD_of zk_121 d_121_261 rfl rfl) rfl rfl rfl
theorem q_121_261n : zRun 121 261 [some (.null), l1, l2, l3, l4, l5, l6, l7, l8, l9, l10, l11] S sh mi mj mr = zRun 121 262 [some (.null), l1, l2, l3, l4, l5, l6, l7, l8, l9, l10, l11] (.null :: S) sh mi mj mr := zr_l (zD_of zk_121 d_121_261 rfl rfl) rfl rfl rfl
theorem q_121_262  : zRun 121 262 L S sh mi mj mr = zRun 121 263 L (.int 5 :: S) sh mi mj mr := zr_p (zD_of zk_121 d_121_262 rfl rfl) rfl
theorem q_121_263 : zRun 121 263 [l0, l1, l2, l3, l4, l5, l6, l7, l8, some (.int x), l10, l11] S sh mi mj mr = zRun 121 265 [l0, l1, l2, l3, l4, l5, l6, l7, l8, some (.int x), l10, l11] (.int x :: S) sh mi mj mr := zr_l (zD_of zk_121 d_121_263 rfl rfl) rfl rfl rfl
theorem q_121_265  : zRun 121 265 L (.int y :: .int x :: S) sh mi mj mr = zRun 121 266 L (.int (x + y) :: S) sh mi mj mr := zr_p (zD_of zk_121 d_121_265 rfl rfl) rfl
theorem q_121_266  {x0 : Int32} (hS : zcat S ≤ 8) (h : zIs sh o 0 7) : zRun 121 266 L (.int x0 :: .ref o :: S) sh mi mj mr = (zCall 97 [.ref o, .int x0] sh mi mj mr).bind fun r => zRun 121 269 L (r.1.toList ++ S) r.2.1 r.2.2.1 r.2.2.2.1 r.2.2.2.2 := zr_V (zD_of zk_121 d_121_266 rfl rfl) rfl zk_97 rfl rfl rfl hS h
theorem q_121_269  : zRun 121 269 L (.long v :: .long u :: S) sh mi mj mr = if u ≤ v then zRun 121 275 L S sh mi mj mr else zRun 121 273 L S sh mi mj mr := zr_cmp (off := 5) (zD_of zk_121 d_121_269 rfl rfl) (zD_of zk_121 d_121_270 rfl rfl) rfl rfl (by decide) (lg_cmp_le u v)
theorem q_121_270  : zRun 121 270 L (.int x :: S) sh mi mj mr = if x ≤ 0 then zRun 121 275 L S sh mi mj mr else zRun 121 273 L S sh mi mj mr := zr_if (off := 5) (P := x ≤ 0) (zD_of zk_121 d_121_270 rfl rfl) rfl rfl (by decide)
theorem q_121_273  : zRun 121 273 L S sh mi mj mr = zRun 121 274 L (.int 0 :: S) sh mi mj mr := zr_p (zD_of zk_121 d_121_273 rfl rfl) rfl
theorem q_121_274 (h : x = 0 ∨ x = 1) : zRun 121 274 L ([.int x]) sh mi mj mr = some (some (.int x), sh, mi, mj, mr) := zr_ret (zD_of zk_121 d_121_274 rfl rfl) rfl rfl rfl rfl rfl (if_pos (zna_b h))
theorem q_121_275  : zRun 121 275 [l0, l1, l2, l3, l4, l5, l6, l7, l8, some (.int x), l10, l11] S sh mi mj mr = zRun 121 278 [l0, l1, l2, l3, l4, l5, l6, l7, zk2 l8, some (.int (x + 1)), l10, l11] S sh mi mj mr := zr_s1 (i := 9) (v := .int (x + 1)) (L := [l0, l1, l2, l3, l4, l5, l6, l7, l8, some (.int x), l10, l11]) (zD_of zk_121 d_121_275 rfl rfl) rfl rfl rfl rfl
theorem q_121_278  : zRun 121 278 L S sh mi mj mr = zRun 121 201 L S sh mi mj mr := zr_go (off := (-77)) (zD_of zk_121 d_121_278 rfl rfl) rfl rfl (by decide)
theorem q_121_281r : zRun 121 281 [some (.ref o), l1, l2, l3, l4, l5, l6, l7, l8, l9, l10, l11] S sh mi mj mr = zRun 121 282 [some (.ref o), l1, l2, l3, l4, l5, l6, l7, l8, l9, l10, l11] (.ref o :: S) sh mi mj mr := zr_l (zD_of zk_121 d_121_281 rfl rfl) rfl rfl rfl
theorem q_121_281n : zRun 121 281 [some (.null), l1, l2, l3, l4, l5, l6, l7, l8, l9, l10, l11] S sh mi mj mr = zRun 121 282 [some (.null), l1, l2, l3, l4, l5, l6, l7, l8, l9, l10, l11] (.null :: S) sh mi mj mr := zr_l (zD_of zk_121 d_121_281 rfl rfl) rfl rfl rfl
theorem q_121_282  : zRun 121 282 L S sh mi mj mr = zRun 121 283 L (.int 0 :: S) sh mi mj mr := zr_p (zD_of zk_121 d_121_282 rfl rfl) rfl
theorem q_121_283  {x0 : Int32} (hS : zcat S ≤ 8) (h : zIs sh o 0 7) : zRun 121 283 L (.int x0 :: .ref o :: S) sh mi mj mr = (zCall 101 [.ref o, .int x0] sh mi mj mr).bind fun r => zRun 121 286 L (r.1.toList ++ S) r.2.1 r.2.2.1 r.2.2.2.1 r.2.2.2.2 := zr_V (zD_of zk_121 d_121_283 rfl rfl) rfl zk_101 rfl rfl rfl hS h
theorem q_121_286  : zRun 121 286 L (.int x :: S) sh mi mj mr = zRun 121 287 L S sh mi mj mr := zr_p (zD_of zk_121 d_121_286 rfl rfl) rfl
theorem q_121_287  : zRun 121 287 L S sh mi mj mr = zRun 121 288 L (.int 0 :: S) sh mi mj mr := zr_p (zD_of zk_121 d_121_287 rfl rfl) rfl
theorem q_121_288 : zRun 121 288 [l0, l1, l2, l3, l4, l5, l6, l7, l8, l9, l10, l11] (.int x :: S) sh mi mj mr = zRun 121 290 [l0, l1, l2, l3, l4, l5, l6, l7, zk2 l8, some (.int x), l10, l11] S sh mi mj mr := zr_s1 (i := 9) (v := .int x) (L := [l0, l1, l2, l3, l4, l5, l6, l7, l8, l9, l10, l11]) (zD_of zk_121 d_121_288 rfl rfl) rfl rfl rfl rfl
theorem q_121_290 : zRun 121 290 [l0, l1, l2, l3, l4, l5, l6, l7, l8, some (.int x), l10, l11] S sh mi mj mr = zRun 121 292 [l0, l1, l2, l3, l4, l5, l6, l7, l8, some (.int x), l10, l11] (.int x :: S) sh mi mj mr := zr_l (zD_of zk_121 d_121_290 rfl rfl) rfl rfl rfl
theorem q_121_292  : zRun 121 292 L S sh mi mj mr = zRun 121 293 L (.int 4 :: S) sh mi mj mr := zr_p (zD_of zk_121 d_121_292 rfl rfl) rfl
theorem q_121_293  : zRun 121 293 L (.int y :: .int x :: S) sh mi mj mr = if y ≤ x then zRun 121 327 L S sh mi mj mr else zRun 121 296 L S sh mi mj mr := zr_if (off := 34) (P := y ≤ x) (zD_of zk_121 d_121_293 rfl rfl) rfl rfl (by decide)
theorem q_121_296r : zRun 121 296 [some (.ref o), l1, l2, l3, l4, l5, l6, l7, l8, l9, l10, l11] S sh mi mj mr = zRun 121 297 [some (.ref o), l1, l2, l3, l4, l5, l6, l7, l8, l9, l10, l11] (.ref o :: S) sh mi mj mr := zr_l (zD_of zk_121 d_121_296 rfl rfl) rfl rfl rfl
theorem q_121_296n : zRun 121 296 [some (.null), l1, l2, l3, l4, l5, l6, l7, l8, l9, l10, l11] S sh mi mj mr = zRun 121 297 [some (.null), l1, l2, l3, l4, l5, l6, l7, l8, l9, l10, l11] (.null :: S) sh mi mj mr := zr_l (zD_of zk_121 d_121_296 rfl rfl) rfl rfl rfl
theorem q_121_297 : zRun 121 297 [l0, l1, l2, l3, l4, l5, l6, l7, l8, some (.int x), l10, l11] S sh mi mj mr = zRun 121 299 [l0, l1, l2, l3, l4, l5, l6, l7, l8, some (.int x), l10, l11] (.int x :: S) sh mi mj mr := zr_l (zD_of zk_121 d_121_297 rfl rfl) rfl rfl rfl
theorem q_121_299r : zRun 121 299 [some (.ref o), l1, l2, l3, l4, l5, l6, l7, l8, l9, l10, l11] S sh mi mj mr = zRun 121 300 [some (.ref o), l1, l2, l3, l4, l5, l6, l7, l8, l9, l10, l11] (.ref o :: S) sh mi mj mr := zr_l (zD_of zk_121 d_121_299 rfl rfl) rfl rfl rfl
theorem q_121_299n : zRun 121 299 [some (.null), l1, l2, l3, l4, l5, l6, l7, l8, l9, l10, l11] S sh mi mj mr = zRun 121 300 [some (.null), l1, l2, l3, l4, l5, l6, l7, l8, l9, l10, l11] (.null :: S) sh mi mj mr := zr_l (zD_of zk_121 d_121_299 rfl rfl) rfl rfl rfl
theorem q_121_300  : zRun 121 300 L S sh mi mj mr = zRun 121 301 L (.int 1 :: S) sh mi mj mr := zr_p (zD_of zk_121 d_121_300 rfl rfl) rfl
theorem q_121_301 : zRun 121 301 [l0, l1, l2, l3, l4, l5, l6, l7, l8, some (.int x), l10, l11] S sh mi mj mr = zRun 121 303 [l0, l1, l2, l3, l4, l5, l6, l7, l8, some (.int x), l10, l11] (.int x :: S) sh mi mj mr := zr_l (zD_of zk_121 d_121_301 rfl rfl) rfl rfl rfl
theorem q_121_303  : zRun 121 303 L (.int y :: .int x :: S) sh mi mj mr = zRun 121 304 L (.int (x + y) :: S) sh mi mj mr := zr_p (zD_of zk_121 d_121_303 rfl rfl) rfl
theorem q_121_304  {x0 : Int32} (hS : zcat S ≤ 8) (h : zIs sh o 0 7) : zRun 121 304 L (.int x0 :: .ref o :: S) sh mi mj mr = (zCall 97 [.ref o, .int x0] sh mi mj mr).bind fun r => zRun 121 307 L (r.1.toList ++ S) r.2.1 r.2.2.1 r.2.2.2.1 r.2.2.2.2 := zr_V (zD_of zk_121 d_121_304 rfl rfl) rfl zk_97 rfl rfl rfl hS h
theorem q_121_307  : zRun 121 307 L (.long u :: S) sh mi mj mr = zRun 121 308 L (.int u.toInt32 :: S) sh mi mj mr := zr_p (zD_of zk_121 d_121_307 rfl rfl) rfl
theorem q_121_308r : zRun 121 308 [some (.ref o), l1, l2, l3, l4, l5, l6, l7, l8, l9, l10, l11] S sh mi mj mr = zRun 121 309 [some (.ref o), l1, l2, l3, l4, l5, l6, l7, l8, l9, l10, l11] (.ref o :: S) sh mi mj mr := zr_l (zD_of zk_121 d_121_308 rfl rfl) rfl rfl rfl
theorem q_121_308n : zRun 121 308 [some (.null), l1, l2, l3, l4, l5, l6, l7, l8, l9, l10, l11] S sh mi mj mr = zRun 121 309 [some (.null), l1, l2, l3, l4, l5, l6, l7, l8, l9, l10, l11] (.null :: S) sh mi mj mr := zr_l (zD_of zk_121 d_121_308 rfl rfl) rfl rfl rfl
theorem q_121_309  : zRun 121 309 L S sh mi mj mr = zRun 121 310 L (.int 5 :: S) sh mi mj mr := zr_p (zD_of zk_121 d_121_309 rfl rfl) rfl
theorem q_121_310 : zRun 121 310 [l0, l1, l2, l3, l4, l5, l6, l7, l8, some (.int x), l10, l11] S sh mi mj mr = zRun 121 312 [l0, l1, l2, l3, l4, l5, l6, l7, l8, some (.int x), l10, l11] (.int x :: S) sh mi mj mr := zr_l (zD_of zk_121 d_121_310 rfl rfl) rfl rfl rfl
theorem q_121_312  : zRun 121 312 L (.int y :: .int x :: S) sh mi mj mr = zRun 121 313 L (.int (x + y) :: S) sh mi mj mr := zr_p (zD_of zk_121 d_121_312 rfl rfl) rfl
theorem q_121_313  {x0 : Int32} (hS : zcat S ≤ 8) (h : zIs sh o 0 7) : zRun 121 313 L (.int x0 :: .ref o :: S) sh mi mj mr = (zCall 97 [.ref o, .int x0] sh mi mj mr).bind fun r => zRun 121 316 L (r.1.toList ++ S) r.2.1 r.2.2.1 r.2.2.2.1 r.2.2.2.2 := zr_V (zD_of zk_121 d_121_313 rfl rfl) rfl zk_97 rfl rfl rfl hS h
theorem q_121_316  : zRun 121 316 L (.long u :: S) sh mi mj mr = zRun 121 317 L (.int u.toInt32 :: S) sh mi mj mr := zr_p (zD_of zk_121 d_121_316 rfl rfl) rfl
theorem q_121_317  {x0 x1 x2 : Int32} (hS : zcat S ≤ 8) (h : zIs sh o 0 7) : zRun 121 317 L (.int x2 :: .int x1 :: .int x0 :: .ref o :: S) sh mi mj mr = (zCall 79 [.ref o, .int x0, .int x1, .int x2] sh mi mj mr).bind fun r => zRun 121 320 L (r.1.toList ++ S) r.2.1 r.2.2.1 r.2.2.2.1 r.2.2.2.2 := zr_V (zD_of zk_121 d_121_317 rfl rfl) rfl zk_79 rfl rfl rfl hS h
theorem q_121_320  : zRun 121 320 L (.int x :: S) sh mi mj mr = zRun 121 321 L S sh mi mj mr := zr_p (zD_of zk_121 d_121_320 rfl rfl) rfl
theorem q_121_321  : zRun 121 321 [l0, l1, l2, l3, l4, l5, l6, l7, l8, some (.int x), l10, l11] S sh mi mj mr = zRun 121 324 [l0, l1, l2, l3, l4, l5, l6, l7, zk2 l8, some (.int (x + 1)), l10, l11] S sh mi mj mr := zr_s1 (i := 9) (v := .int (x + 1)) (L := [l0, l1, l2, l3, l4, l5, l6, l7, l8, some (.int x), l10, l11]) (zD_of zk_121 d_121_321 rfl rfl) rfl rfl rfl rfl
theorem q_121_324  : zRun 121 324 L S sh mi mj mr = zRun 121 290 L S sh mi mj mr := zr_go (off := (-34)) (zD_of zk_121 d_121_324 rfl rfl) rfl rfl (by decide)
theorem q_121_327r : zRun 121 327 [some (.ref o), l1, l2, l3, l4, l5, l6, l7, l8, l9, l10, l11] S sh mi mj mr = zRun 121 328 [some (.ref o), l1, l2, l3, l4, l5, l6, l7, l8, l9, l10, l11] (.ref o :: S) sh mi mj mr := zr_l (zD_of zk_121 d_121_327 rfl rfl) rfl rfl rfl
theorem q_121_327n : zRun 121 327 [some (.null), l1, l2, l3, l4, l5, l6, l7, l8, l9, l10, l11] S sh mi mj mr = zRun 121 328 [some (.null), l1, l2, l3, l4, l5, l6, l7, l8, l9, l10, l11] (.null :: S) sh mi mj mr := zr_l (zD_of zk_121 d_121_327 rfl rfl) rfl rfl rfl
theorem q_121_328 : zRun 121 328 [l0, some (.int x), l2, l3, l4, l5, l6, l7, l8, l9, l10, l11] S sh mi mj mr = zRun 121 329 [l0, some (.int x), l2, l3, l4, l5, l6, l7, l8, l9, l10, l11] (.int x :: S) sh mi mj mr := zr_l (zD_of zk_121 d_121_328 rfl rfl) rfl rfl rfl
theorem q_121_329  : zRun 121 329 L S sh mi mj mr = zRun 121 332 L (.int 170 :: S) sh mi mj mr := zr_p (zD_of zk_121 d_121_329 rfl rfl) rfl
theorem q_121_332  : zRun 121 332 L S sh mi mj mr = zRun 121 333 L (.int 1 :: S) sh mi mj mr := zr_p (zD_of zk_121 d_121_332 rfl rfl) rfl
theorem q_121_333  {x0 x1 x2 : Int32} (hS : zcat S ≤ 8) (h : zIs sh o 0 7) : zRun 121 333 L (.int x2 :: .int x1 :: .int x0 :: .ref o :: S) sh mi mj mr = (zCall 94 [.ref o, .int x0, .int x1, .int x2] sh mi mj mr).bind fun r => zRun 121 336 L (r.1.toList ++ S) r.2.1 r.2.2.1 r.2.2.2.1 r.2.2.2.2 := zr_V (zD_of zk_121 d_121_333 rfl rfl) rfl zk_94 rfl rfl rfl hS h
theorem q_121_336 : zRun 121 336 [l0, l1, l2, l3, l4, l5, l6, l7, l8, l9, l10, l11] (.long u :: S) sh mi mj mr = zRun 121 338 [l0, l1, l2, l3, l4, l5, l6, l7, zk2 l8, some (.long u), none, l11] S sh mi mj mr := zr_s2 (i := 9) (v := .long u) (L := [l0, l1, l2, l3, l4, l5, l6, l7, l8, l9, l10, l11]) (zD_of zk_121 d_121_336 rfl rfl) rfl rfl rfl rfl
theorem q_121_338r : zRun 121 338 [some (.ref o), l1, l2, l3, l4, l5, l6, l7, l8, l9, l10, l11] S sh mi mj mr = zRun 121 339 [some (.ref o), l1, l2, l3, l4, l5, l6, l7, l8, l9, l10, l11] (.ref o :: S) sh mi mj mr := zr_l (zD_of zk_121 d_121_338 rfl rfl) rfl rfl rfl
theorem q_121_338n : zRun 121 338 [some (.null), l1, l2, l3, l4, l5, l6, l7, l8, l9, l10, l11] S sh mi mj mr = zRun 121 339 [some (.null), l1, l2, l3, l4, l5, l6, l7, l8, l9, l10, l11] (.null :: S) sh mi mj mr := zr_l (zD_of zk_121 d_121_338 rfl rfl) rfl rfl rfl
theorem q_121_339 : zRun 121 339 [l0, some (.int x), l2, l3, l4, l5, l6, l7, l8, l9, l10, l11] S sh mi mj mr = zRun 121 340 [l0, some (.int x), l2, l3, l4, l5, l6, l7, l8, l9, l10, l11] (.int x :: S) sh mi mj mr := zr_l (zD_of zk_121 d_121_339 rfl rfl) rfl rfl rfl
theorem q_121_340  {x0 : Int32} (hS : zcat S ≤ 8) (h : zIs sh o 0 7) : zRun 121 340 L (.int x0 :: .ref o :: S) sh mi mj mr = (zCall 88 [.ref o, .int x0] sh mi mj mr).bind fun r => zRun 121 343 L (r.1.toList ++ S) r.2.1 r.2.2.1 r.2.2.2.1 r.2.2.2.2 := zr_V (zD_of zk_121 d_121_340 rfl rfl) rfl zk_88 rfl rfl rfl hS h
theorem q_121_343  : zRun 121 343 L (.int x :: S) sh mi mj mr = if ¬ x = 0 then zRun 121 364 L S sh mi mj mr else zRun 121 346 L S sh mi mj mr := zr_if (off := 21) (P := ¬ x = 0) (zD_of zk_121 d_121_343 rfl rfl) rfl rfl (by decide)
theorem q_121_346r : zRun 121 346 [some (.ref o), l1, l2, l3, l4, l5, l6, l7, l8, l9, l10, l11] S sh mi mj mr = zRun 121 347 [some (.ref o), l1, l2, l3, l4, l5, l6, l7, l8, l9, l10, l11] (.ref o :: S) sh mi mj mr := zr_l (zD_of zk_121 d_121_346 rfl rfl) rfl rfl rfl
theorem q_121_346n : zRun 121 346 [some (.null), l1, l2, l3, l4, l5, l6, l7, l8, l9, l10, l11] S sh mi mj mr = zRun 121 347 [some (.null), l1, l2, l3, l4, l5, l6, l7, l8, l9, l10, l11] (.null :: S) sh mi mj mr := zr_l (zD_of zk_121 d_121_346 rfl rfl) rfl rfl rfl
theorem q_121_347 : zRun 121 347 [l0, some (.int x), l2, l3, l4, l5, l6, l7, l8, l9, l10, l11] S sh mi mj mr = zRun 121 348 [l0, some (.int x), l2, l3, l4, l5, l6, l7, l8, l9, l10, l11] (.int x :: S) sh mi mj mr := zr_l (zD_of zk_121 d_121_347 rfl rfl) rfl rfl rfl
theorem q_121_348  : zRun 121 348 L S sh mi mj mr = zRun 121 349 L (.int 2 :: S) sh mi mj mr := zr_p (zD_of zk_121 d_121_348 rfl rfl) rfl
theorem q_121_349  : zRun 121 349 L S sh mi mj mr = zRun 121 350 L (.int 0 :: S) sh mi mj mr := zr_p (zD_of zk_121 d_121_349 rfl rfl) rfl
theorem q_121_350  {x0 x1 x2 : Int32} (hS : zcat S ≤ 8) (h : zIs sh o 0 7) : zRun 121 350 L (.int x2 :: .int x1 :: .int x0 :: .ref o :: S) sh mi mj mr = (zCall 89 [.ref o, .int x0, .int x1, .int x2] sh mi mj mr).bind fun r => zRun 121 353 L (r.1.toList ++ S) r.2.1 r.2.2.1 r.2.2.2.1 r.2.2.2.2 := zr_V (zD_of zk_121 d_121_350 rfl rfl) rfl zk_89 rfl rfl rfl hS h
theorem q_121_353 : zRun 121 353 [l0, l1, l2, l3, some (.int x), l5, l6, l7, l8, l9, l10, l11] S sh mi mj mr = zRun 121 355 [l0, l1, l2, l3, some (.int x), l5, l6, l7, l8, l9, l10, l11] (.int x :: S) sh mi mj mr := zr_l (zD_of zk_121 d_121_353 rfl rfl) rfl rfl rfl
theorem q_121_355  : zRun 121 355 L (.int x :: S) sh mi mj mr = zRun 121 356 L (.long x.toInt64 :: S) sh mi mj mr := zr_p (zD_of zk_121 d_121_355 rfl rfl) rfl
theorem q_121_356  : zRun 121 356 L (.long v :: .long u :: S) sh mi mj mr = if u ≤ v then zRun 121 364 L S sh mi mj mr else zRun 121 360 L S sh mi mj mr := zr_cmp (off := 7) (zD_of zk_121 d_121_356 rfl rfl) (zD_of zk_121 d_121_357 rfl rfl) rfl rfl (by decide) (lg_cmp_le u v)
theorem q_121_357  : zRun 121 357 L (.int x :: S) sh mi mj mr = if x ≤ 0 then zRun 121 364 L S sh mi mj mr else zRun 121 360 L S sh mi mj mr := zr_if (off := 7) (P := x ≤ 0) (zD_of zk_121 d_121_357 rfl rfl) rfl rfl (by decide)
theorem q_121_360  : zRun 121 360 L S sh mi mj mr = zRun 121 361 L (.int 1 :: S) sh mi mj mr := zr_p (zD_of zk_121 d_121_360 rfl rfl) rfl
theorem q_121_361  : zRun 121 361 L S sh mi mj mr = zRun 121 365 L S sh mi mj mr := zr_go (off := 4) (zD_of zk_121 d_121_361 rfl rfl) rfl rfl (by decide)
theorem q_121_364  : zRun 121 364 L S sh mi mj mr = zRun 121 365 L (.int 0 :: S) sh mi mj mr := zr_p (zD_of zk_121 d_121_364 rfl rfl) rfl
theorem q_121_365 : zRun 121 365 [l0, l1, l2, l3, l4, l5, l6, l7, l8, l9, l10, l11] (.int x :: S) sh mi mj mr = zRun 121 367 [l0, l1, l2, l3, l4, l5, l6, l7, l8, l9, zk2 l10, some (.int x)] S sh mi mj mr := zr_s1 (i := 11) (v := .int x) (L := [l0, l1, l2, l3, l4, l5, l6, l7, l8, l9, l10, l11]) (zD_of zk_121 d_121_365 rfl rfl) rfl rfl rfl rfl
theorem q_121_367r : zRun 121 367 [some (.ref o), l1, l2, l3, l4, l5, l6, l7, l8, l9, l10, l11] S sh mi mj mr = zRun 121 368 [some (.ref o), l1, l2, l3, l4, l5, l6, l7, l8, l9, l10, l11] (.ref o :: S) sh mi mj mr := zr_l (zD_of zk_121 d_121_367 rfl rfl) rfl rfl rfl
theorem q_121_367n : zRun 121 367 [some (.null), l1, l2, l3, l4, l5, l6, l7, l8, l9, l10, l11] S sh mi mj mr = zRun 121 368 [some (.null), l1, l2, l3, l4, l5, l6, l7, l8, l9, l10, l11] (.null :: S) sh mi mj mr := zr_l (zD_of zk_121 d_121_367 rfl rfl) rfl rfl rfl
theorem q_121_368  : zRun 121 368 L S sh mi mj mr = zRun 121 369 L (.int 0 :: S) sh mi mj mr := zr_p (zD_of zk_121 d_121_368 rfl rfl) rfl
theorem q_121_369  {x0 : Int32} (hS : zcat S ≤ 8) (h : zIs sh o 0 7) : zRun 121 369 L (.int x0 :: .ref o :: S) sh mi mj mr = (zCall 102 [.ref o, .int x0] sh mi mj mr).bind fun r => zRun 121 372 L (r.1.toList ++ S) r.2.1 r.2.2.1 r.2.2.2.1 r.2.2.2.2 := zr_V (zD_of zk_121 d_121_369 rfl rfl) rfl zk_102 rfl rfl rfl hS h
theorem q_121_372  : zRun 121 372 L (.int x :: S) sh mi mj mr = zRun 121 373 L S sh mi mj mr := zr_p (zD_of zk_121 d_121_372 rfl rfl) rfl
theorem q_121_373 : zRun 121 373 [l0, l1, l2, l3, l4, l5, l6, l7, l8, l9, l10, some (.int x)] S sh mi mj mr = zRun 121 375 [l0, l1, l2, l3, l4, l5, l6, l7, l8, l9, l10, some (.int x)] (.int x :: S) sh mi mj mr := zr_l (zD_of zk_121 d_121_373 rfl rfl) rfl rfl rfl
theorem q_121_375  : zRun 121 375 L (.int x :: S) sh mi mj mr = if ¬ x = 0 then zRun 121 427 L S sh mi mj mr else zRun 121 378 L S sh mi mj mr := zr_if (off := 52) (P := ¬ x = 0) (zD_of zk_121 d_121_375 rfl rfl) rfl rfl (by decide)
theorem q_121_378 : zRun 121 378 [l0, l1, l2, l3, l4, l5, some (.int x), l7, l8, l9, l10, l11] S sh mi mj mr = zRun 121 380 [l0, l1, l2, l3, l4, l5, some (.int x), l7, l8, l9, l10, l11] (.int x :: S) sh mi mj mr := zr_l (zD_of zk_121 d_121_378 rfl rfl) rfl rfl rfl
theorem q_121_380  : zRun 121 380 L S sh mi mj mr = zRun 121 381 L (.int 2 :: S) sh mi mj mr := zr_p (zD_of zk_121 d_121_380 rfl rfl) rfl
theorem q_121_381  : zRun 121 381 L (.int y :: .int x :: S) sh mi mj mr = if ¬ x = y then zRun 121 405 L S sh mi mj mr else zRun 121 384 L S sh mi mj mr := zr_if (off := 24) (P := ¬ x = y) (zD_of zk_121 d_121_381 rfl rfl) rfl rfl (by decide)
theorem q_121_384 : zRun 121 384 [l0, l1, l2, l3, l4, l5, l6, l7, l8, some (.long u), l10, l11] S sh mi mj mr = zRun 121 386 [l0, l1, l2, l3, l4, l5, l6, l7, l8, some (.long u), l10, l11] (.long u :: S) sh mi mj mr := zr_l (zD_of zk_121 d_121_384 rfl rfl) rfl rfl rfl
theorem q_121_386  : zRun 121 386 L S sh mi mj mr = zRun 121 389 L (.long (-1000000000000000005) :: S) sh mi mj mr := zr_k64 (zD_of zk_121 d_121_386 rfl rfl) rfl
theorem q_121_389  : zRun 121 389 L (.long v :: .long u :: S) sh mi mj mr = if u = v then zRun 121 427 L S sh mi mj mr else zRun 121 393 L S sh mi mj mr := zr_cmp (off := 37) (zD_of zk_121 d_121_389 rfl rfl) (zD_of zk_121 d_121_390 rfl rfl) rfl rfl (by decide) (lg_cmp_eq u v)
theorem q_121_390  : zRun 121 390 L (.int x :: S) sh mi mj mr = if x = 0 then zRun 121 427 L S sh mi mj mr else zRun 121 393 L S sh mi mj mr := zr_if (off := 37) (P := x = 0) (zD_of zk_121 d_121_390 rfl rfl) rfl rfl (by decide)
theorem q_121_393 : zRun 121 393 [l0, l1, l2, l3, l4, l5, l6, l7, l8, some (.long u), l10, l11] S sh mi mj mr = zRun 121 395 [l0, l1, l2, l3, l4, l5, l6, l7, l8, some (.long u), l10, l11] (.long u :: S) sh mi mj mr := zr_l (zD_of zk_121 d_121_393 rfl rfl) rfl rfl rfl
theorem q_121_395 : zRun 121 395 [l0, l1, l2, l3, some (.int x), l5, l6, l7, l8, l9, l10, l11] S sh mi mj mr = zRun 121 397 [l0, l1, l2, l3, some (.int x), l5, l6, l7, l8, l9, l10, l11] (.int x :: S) sh mi mj mr := zr_l (zD_of zk_121 d_121_395 rfl rfl) rfl rfl rfl
theorem q_121_397  : zRun 121 397 L (.int x :: S) sh mi mj mr = zRun 121 398 L (.long x.toInt64 :: S) sh mi mj mr := zr_p (zD_of zk_121 d_121_397 rfl rfl) rfl
theorem q_121_398  : zRun 121 398 L (.long v :: .long u :: S) sh mi mj mr = if v < u then zRun 121 427 L S sh mi mj mr else zRun 121 402 L S sh mi mj mr := zr_cmp (off := 28) (zD_of zk_121 d_121_398 rfl rfl) (zD_of zk_121 d_121_399 rfl rfl) rfl rfl (by decide) (lg_cmp_gt u v)
theorem q_121_399  : zRun 121 399 L (.int x :: S) sh mi mj mr = if 0 < x then zRun 121 427 L S sh mi mj mr else zRun 121 402 L S sh mi mj mr := zr_if (off := 28) (P := 0 < x) (zD_of zk_121 d_121_399 rfl rfl) rfl rfl (by decide)
theorem q_121_402  : zRun 121 402 L S sh mi mj mr = zRun 121 423 L S sh mi mj mr := zr_go (off := 21) (zD_of zk_121 d_121_402 rfl rfl) rfl rfl (by decide)
theorem q_121_405 : zRun 121 405 [l0, l1, l2, l3, l4, l5, l6, l7, l8, some (.long u), l10, l11] S sh mi mj mr = zRun 121 407 [l0, l1, l2, l3, l4, l5, l6, l7, l8, some (.long u), l10, l11] (.long u :: S) sh mi mj mr := zr_l (zD_of zk_121 d_121_405 rfl rfl) rfl rfl rfl
theorem q_121_407  : zRun 121 407 L S sh mi mj mr = zRun 121 410 L (.long (-1000000000000000005) :: S) sh mi mj mr := zr_k64 (zD_of zk_121 d_121_407 rfl rfl) rfl
theorem q_121_410  : zRun 121 410 L (.long v :: .long u :: S) sh mi mj mr = if u = v then zRun 121 423 L S sh mi mj mr else zRun 121 414 L S sh mi mj mr := zr_cmp (off := 12) (zD_of zk_121 d_121_410 rfl rfl) (zD_of zk_121 d_121_411 rfl rfl) rfl rfl (by decide) (lg_cmp_eq u v)
theorem q_121_411  : zRun 121 411 L (.int x :: S) sh mi mj mr = if x = 0 then zRun 121 423 L S sh mi mj mr else zRun 121 414 L S sh mi mj mr := zr_if (off := 12) (P := x = 0) (zD_of zk_121 d_121_411 rfl rfl) rfl rfl (by decide)
theorem q_121_414 : zRun 121 414 [l0, l1, l2, l3, l4, l5, l6, l7, l8, some (.long u), l10, l11] S sh mi mj mr = zRun 121 416 [l0, l1, l2, l3, l4, l5, l6, l7, l8, some (.long u), l10, l11] (.long u :: S) sh mi mj mr := zr_l (zD_of zk_121 d_121_414 rfl rfl) rfl rfl rfl
theorem q_121_416 : zRun 121 416 [l0, l1, l2, l3, some (.int x), l5, l6, l7, l8, l9, l10, l11] S sh mi mj mr = zRun 121 418 [l0, l1, l2, l3, some (.int x), l5, l6, l7, l8, l9, l10, l11] (.int x :: S) sh mi mj mr := zr_l (zD_of zk_121 d_121_416 rfl rfl) rfl rfl rfl
theorem q_121_418  : zRun 121 418 L (.int x :: S) sh mi mj mr = zRun 121 419 L (.long x.toInt64 :: S) sh mi mj mr := zr_p (zD_of zk_121 d_121_418 rfl rfl) rfl
theorem q_121_419  : zRun 121 419 L (.long v :: .long u :: S) sh mi mj mr = if u ≤ v then zRun 121 427 L S sh mi mj mr else zRun 121 423 L S sh mi mj mr := zr_cmp (off := 7) (zD_of zk_121 d_121_419 rfl rfl) (zD_of zk_121 d_121_420 rfl rfl) rfl rfl (by decide) (lg_cmp_le u v)
theorem q_121_420  : zRun 121 420 L (.int x :: S) sh mi mj mr = if x ≤ 0 then zRun 121 427 L S sh mi mj mr else zRun 121 423 L S sh mi mj mr := zr_if (off := 7) (P := x ≤ 0) (zD_of zk_121 d_121_420 rfl rfl) rfl rfl (by decide)
theorem q_121_423  : zRun 121 423 L S sh mi mj mr = zRun 121 424 L (.int 1 :: S) sh mi mj mr := zr_p (zD_of zk_121 d_121_423 rfl rfl) rfl
theorem q_121_424  : zRun 121 424 L S sh mi mj mr = zRun 121 428 L S sh mi mj mr := zr_go (off := 4) (zD_of zk_121 d_121_424 rfl rfl) rfl rfl (by decide)
theorem q_121_427  : zRun 121 427 L S sh mi mj mr = zRun 121 428 L (.int 0 :: S) sh mi mj mr := zr_p (zD_of zk_121 d_121_427 rfl rfl) rfl
theorem q_121_428 (h : x = 0 ∨ x = 1) : zRun 121 428 L ([.int x]) sh mi mj mr = some (some (.int x), sh, mi, mj, mr) := zr_ret (zD_of zk_121 d_121_428 rfl rfl) rfl rfl rfl rfl rfl (if_pos (zna_b h))
theorem e_121 {x0 x1 x2 : Int32} {o0 : Nat} : zCall 121 [.ref o0, .int x0, .int x1, .int x2] sh mi mj mr = zRun 121 0 [some (.ref o0), some (.int x0), some (.int x1), some (.int x2), none, none, none, none, none, none, none, none] [] sh mi mj mr := rfl
theorem d_122_0 : decode cL_isPoint 0 = .ok (.iconst 1, 1) := by decide +kernel
theorem d_122_1 : decode cL_isPoint 1 = .ok (.istore_n 1, 1) := by decide +kernel
theorem d_122_2 : decode cL_isPoint 2 = .ok (.iconst 0, 1) := by decide +kernel
theorem d_122_3 : decode cL_isPoint 3 = .ok (.istore_n 2, 1) := by decide +kernel
theorem d_122_4 : decode cL_isPoint 4 = .ok (.iload_n 2, 1) := by decide +kernel
theorem d_122_5 : decode cL_isPoint 5 = .ok (.iconst 4, 1) := by decide +kernel
theorem d_122_6 : decode cL_isPoint 6 = .ok (.if_icmp .ge 37, 3) := by decide +kernel
theorem d_122_9 : decode cL_isPoint 9 = .ok (.iload_n 1, 1) := by decide +kernel
theorem d_122_10 : decode cL_isPoint 10 = .ok (.ifCond .eq 25, 3) := by decide +kernel
theorem d_122_13 : decode cL_isPoint 13 = .ok (.aload_n 0, 1) := by decide +kernel
theorem d_122_14 : decode cL_isPoint 14 = .ok (.iconst 1, 1) := by decide +kernel
theorem d_122_15 : decode cL_isPoint 15 = .ok (.iload_n 2, 1) := by decide +kernel
theorem d_122_16 : decode cL_isPoint 16 = .ok (.iadd, 1) := by decide +kernel
theorem d_122_17 : decode cL_isPoint 17 = .ok (.invokevirtual 127, 3) := by decide +kernel
theorem d_122_20 : decode cL_isPoint 20 = .ok (.aload_n 0, 1) := by decide +kernel
theorem d_122_21 : decode cL_isPoint 21 = .ok (.iconst 5, 1) := by decide +kernel
theorem d_122_22 : decode cL_isPoint 22 = .ok (.iload_n 2, 1) := by decide +kernel
theorem d_122_23 : decode cL_isPoint 23 = .ok (.iadd, 1) := by decide +kernel
theorem d_122_24 : decode cL_isPoint 24 = .ok (.invokevirtual 127, 3) := by decide +kernel
theorem d_122_27 : decode cL_isPoint 27 = .ok (.lcmp, 1) := by decide +kernel
theorem d_122_28 : decode cL_isPoint 28 = .ok (.ifCond .ne 7, 3) := by decide +kernel
theorem d_122_31 : decode cL_isPoint 31 = .ok (.iconst 1, 1) := by decide +kernel
theorem d_122_32 : decode cL_isPoint 32 = .ok (.goto 4, 3) := by decide +kernel
theorem d_122_35 : decode cL_isPoint 35 = .ok (.iconst 0, 1) := by decide +kernel
theorem d_122_36 : decode cL_isPoint 36 = .ok (.istore_n 1, 1) := by decide +kernel
theorem d_122_37 : decode cL_isPoint 37 = .ok (.iinc 2 1, 3) := by decide +kernel
theorem d_122_40 : decode cL_isPoint 40 = .ok (.goto (-36), 3) := by decide +kernel
theorem d_122_43 : decode cL_isPoint 43 = .ok (.iload_n 1, 1) := by decide +kernel
theorem d_122_44 : decode cL_isPoint 44 = .ok (.ireturn, 1) := by decide +kernel
theorem q_122_0  : zRun 122 0 L S sh mi mj mr = zRun 122 1 L (.int 1 :: S) sh mi mj mr := zr_p (zD_of zk_122 d_122_0 rfl rfl) rfl
theorem q_122_1 : zRun 122 1 [l0, l1, l2] (.int x :: S) sh mi mj mr = zRun 122 2 [zk2 l0, some (.int x), l2] S sh mi mj mr := zr_s1 (i := 1) (v := .int x) (L := [l0, l1, l2]) (zD_of zk_122 d_122_1 rfl rfl) rfl rfl rfl rfl
theorem q_122_2  : zRun 122 2 L S sh mi mj mr = zRun 122 3 L (.int 0 :: S) sh mi mj mr := zr_p (zD_of zk_122 d_122_2 rfl rfl) rfl
theorem q_122_3 : zRun 122 3 [l0, l1, l2] (.int x :: S) sh mi mj mr = zRun 122 4 [l0, zk2 l1, some (.int x)] S sh mi mj mr := zr_s1 (i := 2) (v := .int x) (L := [l0, l1, l2]) (zD_of zk_122 d_122_3 rfl rfl) rfl rfl rfl rfl
theorem q_122_4 : zRun 122 4 [l0, l1, some (.int x)] S sh mi mj mr = zRun 122 5 [l0, l1, some (.int x)] (.int x :: S) sh mi mj mr := zr_l (zD_of zk_122 d_122_4 rfl rfl) rfl rfl rfl
theorem q_122_5  : zRun 122 5 L S sh mi mj mr = zRun 122 6 L (.int 4 :: S) sh mi mj mr := zr_p (zD_of zk_122 d_122_5 rfl rfl) rfl
theorem q_122_6  : zRun 122 6 L (.int y :: .int x :: S) sh mi mj mr = if y ≤ x then zRun 122 43 L S sh mi mj mr else zRun 122 9 L S sh mi mj mr := zr_if (off := 37) (P := y ≤ x) (zD_of zk_122 d_122_6 rfl rfl) rfl rfl (by decide)
theorem q_122_9 : zRun 122 9 [l0, some (.int x), l2] S sh mi mj mr = zRun 122 10 [l0, some (.int x), l2] (.int x :: S) sh mi mj mr := zr_l (zD_of zk_122 d_122_9 rfl rfl) rfl rfl rfl
theorem q_122_10  : zRun 122 10 L (.int x :: S) sh mi mj mr = if x = 0 then zRun 122 35 L S sh mi mj mr else zRun 122 13 L S sh mi mj mr := zr_if (off := 25) (P := x = 0) (zD_of zk_122 d_122_10 rfl rfl) rfl rfl (by decide)
theorem q_122_13r : zRun 122 13 [some (.ref o), l1, l2] S sh mi mj mr = zRun 122 14 [some (.ref o), l1, l2] (.ref o :: S) sh mi mj mr := zr_l (zD_of zk_122 d_122_13 rfl rfl) rfl rfl rfl
theorem q_122_13n : zRun 122 13 [some (.null), l1, l2] S sh mi mj mr = zRun 122 14 [some (.null), l1, l2] (.null :: S) sh mi mj mr := zr_l (zD_of zk_122 d_122_13 rfl rfl) rfl rfl rfl
theorem q_122_14  : zRun 122 14 L S sh mi mj mr = zRun 122 15 L (.int 1 :: S) sh mi mj mr := zr_p (zD_of zk_122 d_122_14 rfl rfl) rfl
theorem q_122_15 : zRun 122 15 [l0, l1, some (.int x)] S sh mi mj mr = zRun 122 16 [l0, l1, some (.int x)] (.int x :: S) sh mi mj mr := zr_l (zD_of zk_122 d_122_15 rfl rfl) rfl rfl rfl
theorem q_122_16  : zRun 122 16 L (.int y :: .int x :: S) sh mi mj mr = zRun 122 17 L (.int (x + y) :: S) sh mi mj mr := zr_p (zD_of zk_122 d_122_16 rfl rfl) rfl
theorem q_122_17  {x0 : Int32} (hS : zcat S ≤ 8) (h : zIs sh o 0 7) : zRun 122 17 L (.int x0 :: .ref o :: S) sh mi mj mr = (zCall 97 [.ref o, .int x0] sh mi mj mr).bind fun r => zRun 122 20 L (r.1.toList ++ S) r.2.1 r.2.2.1 r.2.2.2.1 r.2.2.2.2 := zr_V (zD_of zk_122 d_122_17 rfl rfl) rfl zk_97 rfl rfl rfl hS h
theorem q_122_20r : zRun 122 20 [some (.ref o), l1, l2] S sh mi mj mr = zRun 122 21 [some (.ref o), l1, l2] (.ref o :: S) sh mi mj mr := zr_l (zD_of zk_122 d_122_20 rfl rfl) rfl rfl rfl
theorem q_122_20n : zRun 122 20 [some (.null), l1, l2] S sh mi mj mr = zRun 122 21 [some (.null), l1, l2] (.null :: S) sh mi mj mr := zr_l (zD_of zk_122 d_122_20 rfl rfl) rfl rfl rfl
theorem q_122_21  : zRun 122 21 L S sh mi mj mr = zRun 122 22 L (.int 5 :: S) sh mi mj mr := zr_p (zD_of zk_122 d_122_21 rfl rfl) rfl
theorem q_122_22 : zRun 122 22 [l0, l1, some (.int x)] S sh mi mj mr = zRun 122 23 [l0, l1, some (.int x)] (.int x :: S) sh mi mj mr := zr_l (zD_of zk_122 d_122_22 rfl rfl) rfl rfl rfl
theorem q_122_23  : zRun 122 23 L (.int y :: .int x :: S) sh mi mj mr = zRun 122 24 L (.int (x + y) :: S) sh mi mj mr := zr_p (zD_of zk_122 d_122_23 rfl rfl) rfl
theorem q_122_24  {x0 : Int32} (hS : zcat S ≤ 8) (h : zIs sh o 0 7) : zRun 122 24 L (.int x0 :: .ref o :: S) sh mi mj mr = (zCall 97 [.ref o, .int x0] sh mi mj mr).bind fun r => zRun 122 27 L (r.1.toList ++ S) r.2.1 r.2.2.1 r.2.2.2.1 r.2.2.2.2 := zr_V (zD_of zk_122 d_122_24 rfl rfl) rfl zk_97 rfl rfl rfl hS h
theorem q_122_27  : zRun 122 27 L (.long v :: .long u :: S) sh mi mj mr = if ¬ u = v then zRun 122 35 L S sh mi mj mr else zRun 122 31 L S sh mi mj mr := zr_cmp (off := 7) (zD_of zk_122 d_122_27 rfl rfl) (zD_of zk_122 d_122_28 rfl rfl) rfl rfl (by decide) (not_congr (lg_cmp_eq u v))
theorem q_122_28  : zRun 122 28 L (.int x :: S) sh mi mj mr = if ¬ x = 0 then zRun 122 35 L S sh mi mj mr else zRun 122 31 L S sh mi mj mr := zr_if (off := 7) (P := ¬ x = 0) (zD_of zk_122 d_122_28 rfl rfl) rfl rfl (by decide)
theorem q_122_31  : zRun 122 31 L S sh mi mj mr = zRun 122 32 L (.int 1 :: S) sh mi mj mr := zr_p (zD_of zk_122 d_122_31 rfl rfl) rfl
theorem q_122_32  : zRun 122 32 L S sh mi mj mr = zRun 122 36 L S sh mi mj mr := zr_go (off := 4) (zD_of zk_122 d_122_32 rfl rfl) rfl rfl (by decide)
theorem q_122_35  : zRun 122 35 L S sh mi mj mr = zRun 122 36 L (.int 0 :: S) sh mi mj mr := zr_p (zD_of zk_122 d_122_35 rfl rfl) rfl
theorem q_122_36 : zRun 122 36 [l0, l1, l2] (.int x :: S) sh mi mj mr = zRun 122 37 [zk2 l0, some (.int x), l2] S sh mi mj mr := zr_s1 (i := 1) (v := .int x) (L := [l0, l1, l2]) (zD_of zk_122 d_122_36 rfl rfl) rfl rfl rfl rfl
theorem q_122_37  : zRun 122 37 [l0, l1, some (.int x)] S sh mi mj mr = zRun 122 40 [l0, zk2 l1, some (.int (x + 1))] S sh mi mj mr := zr_s1 (i := 2) (v := .int (x + 1)) (L := [l0, l1, some (.int x)]) (zD_of zk_122 d_122_37 rfl rfl) rfl rfl rfl rfl
theorem q_122_40  : zRun 122 40 L S sh mi mj mr = zRun 122 4 L S sh mi mj mr := zr_go (off := (-36)) (zD_of zk_122 d_122_40 rfl rfl) rfl rfl (by decide)
theorem q_122_43 : zRun 122 43 [l0, some (.int x), l2] S sh mi mj mr = zRun 122 44 [l0, some (.int x), l2] (.int x :: S) sh mi mj mr := zr_l (zD_of zk_122 d_122_43 rfl rfl) rfl rfl rfl
theorem q_122_44 (h : x = 0 ∨ x = 1) : zRun 122 44 L ([.int x]) sh mi mj mr = some (some (.int x), sh, mi, mj, mr) := zr_ret (zD_of zk_122 d_122_44 rfl rfl) rfl rfl rfl rfl rfl (if_pos (zna_b h))
theorem e_122 {o0 : Nat} : zCall 122 [.ref o0] sh mi mj mr = zRun 122 0 [some (.ref o0), none, none] [] sh mi mj mr := rfl
theorem d_123_0 : decode cL_tightens 0 = .ok (.aload_n 0, 1) := by decide +kernel
theorem d_123_1 : decode cL_tightens 1 = .ok (.iload_n 1, 1) := by decide +kernel
theorem d_123_2 : decode cL_tightens 2 = .ok (.iload_n 2, 1) := by decide +kernel
theorem d_123_3 : decode cL_tightens 3 = .ok (.iconst 0, 1) := by decide +kernel
theorem d_123_4 : decode cL_tightens 4 = .ok (.invokevirtual 140, 3) := by decide +kernel
theorem d_123_7 : decode cL_tightens 7 = .ok (.lstore_n 3, 1) := by decide +kernel
theorem d_123_8 : decode cL_tightens 8 = .ok (.aload_n 0, 1) := by decide +kernel
theorem d_123_9 : decode cL_tightens 9 = .ok (.iload_n 1, 1) := by decide +kernel
theorem d_123_10 : decode cL_tightens 10 = .ok (.iload_n 2, 1) := by decide +kernel
theorem d_123_11 : decode cL_tightens 11 = .ok (.iconst 1, 1) := by decide +kernel
theorem d_123_12 : decode cL_tightens 12 = .ok (.invokevirtual 140, 3) := by decide +kernel
theorem d_123_15 : decode cL_tightens 15 = .ok (.lstore 5, 2) := by decide +kernel
theorem d_123_17 : decode cL_tightens 17 = .ok (.aload_n 0, 1) := by decide +kernel
theorem d_123_18 : decode cL_tightens 18 = .ok (.iload_n 1, 1) := by decide +kernel
theorem d_123_19 : decode cL_tightens 19 = .ok (.iconst 0, 1) := by decide +kernel
theorem d_123_20 : decode cL_tightens 20 = .ok (.iconst 0, 1) := by decide +kernel
theorem d_123_21 : decode cL_tightens 21 = .ok (.invokevirtual 140, 3) := by decide +kernel
theorem d_123_24 : decode cL_tightens 24 = .ok (.aload_n 0, 1) := by decide +kernel
theorem d_123_25 : decode cL_tightens 25 = .ok (.iload_n 1, 1) := by decide +kernel
theorem d_123_26 : decode cL_tightens 26 = .ok (.iconst 2, 1) := by decide +kernel
theorem d_123_27 : decode cL_tightens 27 = .ok (.iconst 0, 1) := by decide +kernel
theorem d_123_28 : decode cL_tightens 28 = .ok (.invokevirtual 98, 3) := by decide +kernel
theorem d_123_31 : decode cL_tightens 31 = .ok (.lcmp, 1) := by decide +kernel
theorem d_123_32 : decode cL_tightens 32 = .ok (.ifCond .ne 21, 3) := by decide +kernel
theorem d_123_35 : decode cL_tightens 35 = .ok (.aload_n 0, 1) := by decide +kernel
theorem d_123_36 : decode cL_tightens 36 = .ok (.iload_n 1, 1) := by decide +kernel
theorem d_123_37 : decode cL_tightens 37 = .ok (.iconst 0, 1) := by decide +kernel
theorem d_123_38 : decode cL_tightens 38 = .ok (.iconst 1, 1) := by decide +kernel
theorem d_123_39 : decode cL_tightens 39 = .ok (.invokevirtual 140, 3) := by decide +kernel
theorem d_123_42 : decode cL_tightens 42 = .ok (.aload_n 0, 1) := by decide +kernel
theorem d_123_43 : decode cL_tightens 43 = .ok (.iload_n 1, 1) := by decide +kernel
theorem d_123_44 : decode cL_tightens 44 = .ok (.iconst 2, 1) := by decide +kernel
theorem d_123_45 : decode cL_tightens 45 = .ok (.iconst 1, 1) := by decide +kernel
theorem d_123_46 : decode cL_tightens 46 = .ok (.invokevirtual 98, 3) := by decide +kernel
theorem d_123_49 : decode cL_tightens 49 = .ok (.lcmp, 1) := by decide +kernel
theorem d_123_50 : decode cL_tightens 50 = .ok (.ifCond .eq 5, 3) := by decide +kernel
theorem d_123_53 : decode cL_tightens 53 = .ok (.iconst 0, 1) := by decide +kernel
theorem d_123_54 : decode cL_tightens 54 = .ok (.ireturn, 1) := by decide +kernel
theorem d_123_55 : decode cL_tightens 55 = .ok (.iconst 0, 1) := by decide +kernel
theorem d_123_56 : decode cL_tightens 56 = .ok (.istore 7, 2) := by decide +kernel
theorem d_123_58 : decode cL_tightens 58 = .ok (.iload 7, 2) := by decide +kernel
theorem d_123_60 : decode cL_tightens 60 = .ok (.sipush 256, 3) := by decide +kernel
theorem d_123_63 : decode cL_tightens 63 = .ok (.if_icmp .ge 75, 3) := by decide +kernel
theorem d_123_66 : decode cL_tightens 66 = .ok (.aload_n 0, 1) := by decide +kernel
theorem d_123_67 : decode cL_tightens 67 = .ok (.iload_n 1, 1) := by decide +kernel
theorem d_123_68 : decode cL_tightens 68 = .ok (.iload 7, 2) := by decide +kernel
theorem d_123_70 : decode cL_tightens 70 = .ok (.iconst 0, 1) := by decide +kernel
theorem d_123_71 : decode cL_tightens 71 = .ok (.invokevirtual 119, 3) := by decide +kernel
theorem d_123_74 : decode cL_tightens 74 = .ok (.lstore 8, 2) := by decide +kernel
theorem d_123_76 : decode cL_tightens 76 = .ok (.aload_n 0, 1) := by decide +kernel
theorem d_123_77 : decode cL_tightens 77 = .ok (.iload_n 1, 1) := by decide +kernel
theorem d_123_78 : decode cL_tightens 78 = .ok (.iload 7, 2) := by decide +kernel
theorem d_123_80 : decode cL_tightens 80 = .ok (.iconst 1, 1) := by decide +kernel
theorem d_123_81 : decode cL_tightens 81 = .ok (.invokevirtual 119, 3) := by decide +kernel
theorem d_123_84 : decode cL_tightens 84 = .ok (.lstore 10, 2) := by decide +kernel
theorem d_123_86 : decode cL_tightens 86 = .ok (.lload 8, 2) := by decide +kernel
theorem d_123_88 : decode cL_tightens 88 = .ok (.ldc2_w 90, 3) := by decide +kernel
theorem d_123_91 : decode cL_tightens 91 = .ok (.lcmp, 1) := by decide +kernel
theorem d_123_92 : decode cL_tightens 92 = .ok (.ifCond .ne 6, 3) := by decide +kernel
theorem d_123_95 : decode cL_tightens 95 = .ok (.goto 37, 3) := by decide +kernel
theorem d_123_98 : decode cL_tightens 98 = .ok (.lload_n 3, 1) := by decide +kernel
theorem d_123_99 : decode cL_tightens 99 = .ok (.ldc2_w 90, 3) := by decide +kernel
theorem d_123_102 : decode cL_tightens 102 = .ok (.lcmp, 1) := by decide +kernel
theorem d_123_103 : decode cL_tightens 103 = .ok (.ifCond .eq 10, 3) := by decide +kernel
theorem d_123_106 : decode cL_tightens 106 = .ok (.lload 10, 2) := by decide +kernel
theorem d_123_108 : decode cL_tightens 108 = .ok (.lload_n 3, 1) := by decide +kernel
theorem d_123_109 : decode cL_tightens 109 = .ok (.lcmp, 1) := by decide +kernel
theorem d_123_110 : decode cL_tightens 110 = .ok (.ifCond .lt 20, 3) := by decide +kernel
theorem d_123_113 : decode cL_tightens 113 = .ok (.lload 5, 2) := by decide +kernel
theorem d_123_115 : decode cL_tightens 115 = .ok (.ldc2_w 90, 3) := by decide +kernel
theorem d_123_118 : decode cL_tightens 118 = .ok (.lcmp, 1) := by decide +kernel
theorem d_123_119 : decode cL_tightens 119 = .ok (.ifCond .eq 13, 3) := by decide +kernel
theorem d_123_122 : decode cL_tightens 122 = .ok (.lload 8, 2) := by decide +kernel
theorem d_123_124 : decode cL_tightens 124 = .ok (.lload 5, 2) := by decide +kernel
theorem d_123_126 : decode cL_tightens 126 = .ok (.lcmp, 1) := by decide +kernel
theorem d_123_127 : decode cL_tightens 127 = .ok (.ifCond .le 5, 3) := by decide +kernel
theorem d_123_130 : decode cL_tightens 130 = .ok (.iconst 0, 1) := by decide +kernel
theorem d_123_131 : decode cL_tightens 131 = .ok (.ireturn, 1) := by decide +kernel
theorem d_123_132 : decode cL_tightens 132 = .ok (.iinc 7 37, 3) := by decide +kernel
theorem d_123_135 : decode cL_tightens 135 = .ok (.goto (-77), 3) := by decide +kernel
theorem d_123_138 : decode cL_tightens 138 = .ok (.iconst 1, 1) := by decide +kernel
theorem d_123_139 : decode cL_tightens 139 = .ok (.ireturn, 1) := by decide +kernel
theorem q_123_0r : zRun 123 0 [some (.ref o), l1, l2, l3, l4, l5, l6, l7, l8, l9, l10, l11] S sh mi mj mr = zRun 123 1 [some (.ref o), l1, l2, l3, l4, l5, l6, l7, l8, l9, l10, l11] (.ref o :: S) sh mi mj mr := zr_l (zD_of zk_123 d_123_0 rfl rfl) rfl rfl rfl
theorem q_123_0n : zRun 123 0 [some (.null), l1, l2, l3, l4, l5, l6, l7, l8, l9, l10, l11] S sh mi mj mr = zRun 123 1 [some (.null), l1, l2, l3, l4, l5, l6, l7, l8, l9, l10, l11] (.null :: S) sh mi mj mr := zr_l (zD_of zk_123 d_123_0 rfl rfl) rfl rfl rfl
theorem q_123_1 : zRun 123 1 [l0, some (.int x), l2, l3, l4, l5, l6, l7, l8, l9, l10, l11] S sh mi mj mr = zRun 123 2 [l0, some (.int x), l2, l3, l4, l5, l6, l7, l8, l9, l10, l11] (.int x :: S) sh mi mj mr := zr_l (zD_of zk_123 d_123_1 rfl rfl) rfl rfl rfl
theorem q_123_2 : zRun 123 2 [l0, l1, some (.int x), l3, l4, l5, l6, l7, l8, l9, l10, l11] S sh mi mj mr = zRun 123 3 [l0, l1, some (.int x), l3, l4, l5, l6, l7, l8, l9, l10, l11] (.int x :: S) sh mi mj mr := zr_l (zD_of zk_123 d_123_2 rfl rfl) rfl rfl rfl
theorem q_123_3  : zRun 123 3 L S sh mi mj mr = zRun 123 4 L (.int 0 :: S) sh mi mj mr := zr_p (zD_of zk_123 d_123_3 rfl rfl) rfl
theorem q_123_4  {x0 x1 x2 : Int32} (hS : zcat S ≤ 8) (h : zIs sh o 0 7) : zRun 123 4 L (.int x2 :: .int x1 :: .int x0 :: .ref o :: S) sh mi mj mr = (zCall 98 [.ref o, .int x0, .int x1, .int x2] sh mi mj mr).bind fun r => zRun 123 7 L (r.1.toList ++ S) r.2.1 r.2.2.1 r.2.2.2.1 r.2.2.2.2 := zr_V (zD_of zk_123 d_123_4 rfl rfl) rfl zk_98 rfl rfl rfl hS h
theorem q_123_7 : zRun 123 7 [l0, l1, l2, l3, l4, l5, l6, l7, l8, l9, l10, l11] (.long u :: S) sh mi mj mr = zRun 123 8 [l0, l1, zk2 l2, some (.long u), none, l5, l6, l7, l8, l9, l10, l11] S sh mi mj mr := zr_s2 (i := 3) (v := .long u) (L := [l0, l1, l2, l3, l4, l5, l6, l7, l8, l9, l10, l11]) (zD_of zk_123 d_123_7 rfl rfl) rfl rfl rfl rfl
theorem q_123_8r : zRun 123 8 [some (.ref o), l1, l2, l3, l4, l5, l6, l7, l8, l9, l10, l11] S sh mi mj mr = zRun 123 9 [some (.ref o), l1, l2, l3, l4, l5, l6, l7, l8, l9, l10, l11] (.ref o :: S) sh mi mj mr := zr_l (zD_of zk_123 d_123_8 rfl rfl) rfl rfl rfl
theorem q_123_8n : zRun 123 8 [some (.null), l1, l2, l3, l4, l5, l6, l7, l8, l9, l10, l11] S sh mi mj mr = zRun 123 9 [some (.null), l1, l2, l3, l4, l5, l6, l7, l8, l9, l10, l11] (.null :: S) sh mi mj mr := zr_l (zD_of zk_123 d_123_8 rfl rfl) rfl rfl rfl
theorem q_123_9 : zRun 123 9 [l0, some (.int x), l2, l3, l4, l5, l6, l7, l8, l9, l10, l11] S sh mi mj mr = zRun 123 10 [l0, some (.int x), l2, l3, l4, l5, l6, l7, l8, l9, l10, l11] (.int x :: S) sh mi mj mr := zr_l (zD_of zk_123 d_123_9 rfl rfl) rfl rfl rfl
theorem q_123_10 : zRun 123 10 [l0, l1, some (.int x), l3, l4, l5, l6, l7, l8, l9, l10, l11] S sh mi mj mr = zRun 123 11 [l0, l1, some (.int x), l3, l4, l5, l6, l7, l8, l9, l10, l11] (.int x :: S) sh mi mj mr := zr_l (zD_of zk_123 d_123_10 rfl rfl) rfl rfl rfl
theorem q_123_11  : zRun 123 11 L S sh mi mj mr = zRun 123 12 L (.int 1 :: S) sh mi mj mr := zr_p (zD_of zk_123 d_123_11 rfl rfl) rfl
theorem q_123_12  {x0 x1 x2 : Int32} (hS : zcat S ≤ 8) (h : zIs sh o 0 7) : zRun 123 12 L (.int x2 :: .int x1 :: .int x0 :: .ref o :: S) sh mi mj mr = (zCall 98 [.ref o, .int x0, .int x1, .int x2] sh mi mj mr).bind fun r => zRun 123 15 L (r.1.toList ++ S) r.2.1 r.2.2.1 r.2.2.2.1 r.2.2.2.2 := zr_V (zD_of zk_123 d_123_12 rfl rfl) rfl zk_98 rfl rfl rfl hS h
theorem q_123_15 : zRun 123 15 [l0, l1, l2, l3, l4, l5, l6, l7, l8, l9, l10, l11] (.long u :: S) sh mi mj mr = zRun 123 17 [l0, l1, l2, l3, zk2 l4, some (.long u), none, l7, l8, l9, l10, l11] S sh mi mj mr := zr_s2 (i := 5) (v := .long u) (L := [l0, l1, l2, l3, l4, l5, l6, l7, l8, l9, l10, l11]) (zD_of zk_123 d_123_15 rfl rfl) rfl rfl rfl rfl
theorem q_123_17r : zRun 123 17 [some (.ref o), l1, l2, l3, l4, l5, l6, l7, l8, l9, l10, l11] S sh mi mj mr = zRun 123 18 [some (.ref o), l1, l2, l3, l4, l5, l6, l7, l8, l9, l10, l11] (.ref o :: S) sh mi mj mr := zr_l (zD_of zk_123 d_123_17 rfl rfl) rfl rfl rfl
theorem q_123_17n : zRun 123 17 [some (.null), l1, l2, l3, l4, l5, l6, l7, l8, l9, l10, l11] S sh mi mj mr = zRun 123 18 [some (.null), l1, l2, l3, l4, l5, l6, l7, l8, l9, l10, l11] (.null :: S) sh mi mj mr := zr_l (zD_of zk_123 d_123_17 rfl rfl) rfl rfl rfl
theorem q_123_18 : zRun 123 18 [l0, some (.int x), l2, l3, l4, l5, l6, l7, l8, l9, l10, l11] S sh mi mj mr = zRun 123 19 [l0, some (.int x), l2, l3, l4, l5, l6, l7, l8, l9, l10, l11] (.int x :: S) sh mi mj mr := zr_l (zD_of zk_123 d_123_18 rfl rfl) rfl rfl rfl
theorem q_123_19  : zRun 123 19 L S sh mi mj mr = zRun 123 20 L (.int 0 :: S) sh mi mj mr := zr_p (zD_of zk_123 d_123_19 rfl rfl) rfl
theorem q_123_20  : zRun 123 20 L S sh mi mj mr = zRun 123 21 L (.int 0 :: S) sh mi mj mr := zr_p (zD_of zk_123 d_123_20 rfl rfl) rfl
theorem q_123_21  {x0 x1 x2 : Int32} (hS : zcat S ≤ 8) (h : zIs sh o 0 7) : zRun 123 21 L (.int x2 :: .int x1 :: .int x0 :: .ref o :: S) sh mi mj mr = (zCall 98 [.ref o, .int x0, .int x1, .int x2] sh mi mj mr).bind fun r => zRun 123 24 L (r.1.toList ++ S) r.2.1 r.2.2.1 r.2.2.2.1 r.2.2.2.2 := zr_V (zD_of zk_123 d_123_21 rfl rfl) rfl zk_98 rfl rfl rfl hS h
theorem q_123_24r : zRun 123 24 [some (.ref o), l1, l2, l3, l4, l5, l6, l7, l8, l9, l10, l11] S sh mi mj mr = zRun 123 25 [some (.ref o), l1, l2, l3, l4, l5, l6, l7, l8, l9, l10, l11] (.ref o :: S) sh mi mj mr := zr_l (zD_of zk_123 d_123_24 rfl rfl) rfl rfl rfl
theorem q_123_24n : zRun 123 24 [some (.null), l1, l2, l3, l4, l5, l6, l7, l8, l9, l10, l11] S sh mi mj mr = zRun 123 25 [some (.null), l1, l2, l3, l4, l5, l6, l7, l8, l9, l10, l11] (.null :: S) sh mi mj mr := zr_l (zD_of zk_123 d_123_24 rfl rfl) rfl rfl rfl
theorem q_123_25 : zRun 123 25 [l0, some (.int x), l2, l3, l4, l5, l6, l7, l8, l9, l10, l11] S sh mi mj mr = zRun 123 26 [l0, some (.int x), l2, l3, l4, l5, l6, l7, l8, l9, l10, l11] (.int x :: S) sh mi mj mr := zr_l (zD_of zk_123 d_123_25 rfl rfl) rfl rfl rfl
theorem q_123_26  : zRun 123 26 L S sh mi mj mr = zRun 123 27 L (.int 2 :: S) sh mi mj mr := zr_p (zD_of zk_123 d_123_26 rfl rfl) rfl
theorem q_123_27  : zRun 123 27 L S sh mi mj mr = zRun 123 28 L (.int 0 :: S) sh mi mj mr := zr_p (zD_of zk_123 d_123_27 rfl rfl) rfl
theorem q_123_28  {x0 x1 x2 : Int32} (hS : zcat S ≤ 8) (h : zIs sh o 0 7) : zRun 123 28 L (.int x2 :: .int x1 :: .int x0 :: .ref o :: S) sh mi mj mr = (zCall 89 [.ref o, .int x0, .int x1, .int x2] sh mi mj mr).bind fun r => zRun 123 31 L (r.1.toList ++ S) r.2.1 r.2.2.1 r.2.2.2.1 r.2.2.2.2 := zr_V (zD_of zk_123 d_123_28 rfl rfl) rfl zk_89 rfl rfl rfl hS h
theorem q_123_31  : zRun 123 31 L (.long v :: .long u :: S) sh mi mj mr = if ¬ u = v then zRun 123 53 L S sh mi mj mr else zRun 123 35 L S sh mi mj mr := zr_cmp (off := 21) (zD_of zk_123 d_123_31 rfl rfl) (zD_of zk_123 d_123_32 rfl rfl) rfl rfl (by decide) (not_congr (lg_cmp_eq u v))
theorem q_123_32  : zRun 123 32 L (.int x :: S) sh mi mj mr = if ¬ x = 0 then zRun 123 53 L S sh mi mj mr else zRun 123 35 L S sh mi mj mr := zr_if (off := 21) (P := ¬ x = 0) (zD_of zk_123 d_123_32 rfl rfl) rfl rfl (by decide)
theorem q_123_35r : zRun 123 35 [some (.ref o), l1, l2, l3, l4, l5, l6, l7, l8, l9, l10, l11] S sh mi mj mr = zRun 123 36 [some (.ref o), l1, l2, l3, l4, l5, l6, l7, l8, l9, l10, l11] (.ref o :: S) sh mi mj mr := zr_l (zD_of zk_123 d_123_35 rfl rfl) rfl rfl rfl
theorem q_123_35n : zRun 123 35 [some (.null), l1, l2, l3, l4, l5, l6, l7, l8, l9, l10, l11] S sh mi mj mr = zRun 123 36 [some (.null), l1, l2, l3, l4, l5, l6, l7, l8, l9, l10, l11] (.null :: S) sh mi mj mr := zr_l (zD_of zk_123 d_123_35 rfl rfl) rfl rfl rfl
theorem q_123_36 : zRun 123 36 [l0, some (.int x), l2, l3, l4, l5, l6, l7, l8, l9, l10, l11] S sh mi mj mr = zRun 123 37 [l0, some (.int x), l2, l3, l4, l5, l6, l7, l8, l9, l10, l11] (.int x :: S) sh mi mj mr := zr_l (zD_of zk_123 d_123_36 rfl rfl) rfl rfl rfl
theorem q_123_37  : zRun 123 37 L S sh mi mj mr = zRun 123 38 L (.int 0 :: S) sh mi mj mr := zr_p (zD_of zk_123 d_123_37 rfl rfl) rfl
theorem q_123_38  : zRun 123 38 L S sh mi mj mr = zRun 123 39 L (.int 1 :: S) sh mi mj mr := zr_p (zD_of zk_123 d_123_38 rfl rfl) rfl
theorem q_123_39  {x0 x1 x2 : Int32} (hS : zcat S ≤ 8) (h : zIs sh o 0 7) : zRun 123 39 L (.int x2 :: .int x1 :: .int x0 :: .ref o :: S) sh mi mj mr = (zCall 98 [.ref o, .int x0, .int x1, .int x2] sh mi mj mr).bind fun r => zRun 123 42 L (r.1.toList ++ S) r.2.1 r.2.2.1 r.2.2.2.1 r.2.2.2.2 := zr_V (zD_of zk_123 d_123_39 rfl rfl) rfl zk_98 rfl rfl rfl hS h
theorem q_123_42r : zRun 123 42 [some (.ref o), l1, l2, l3, l4, l5, l6, l7, l8, l9, l10, l11] S sh mi mj mr = zRun 123 43 [some (.ref o), l1, l2, l3, l4, l5, l6, l7, l8, l9, l10, l11] (.ref o :: S) sh mi mj mr := zr_l (zD_of zk_123 d_123_42 rfl rfl) rfl rfl rfl
theorem q_123_42n : zRun 123 42 [some (.null), l1, l2, l3, l4, l5, l6, l7, l8, l9, l10, l11] S sh mi mj mr = zRun 123 43 [some (.null), l1, l2, l3, l4, l5, l6, l7, l8, l9, l10, l11] (.null :: S) sh mi mj mr := zr_l (zD_of zk_123 d_123_42 rfl rfl) rfl rfl rfl
theorem q_123_43 : zRun 123 43 [l0, some (.int x), l2, l3, l4, l5, l6, l7, l8, l9, l10, l11] S sh mi mj mr = zRun 123 44 [l0, some (.int x), l2, l3, l4, l5, l6, l7, l8, l9, l10, l11] (.int x :: S) sh mi mj mr := zr_l (zD_of zk_123 d_123_43 rfl rfl) rfl rfl rfl
theorem q_123_44  : zRun 123 44 L S sh mi mj mr = zRun 123 45 L (.int 2 :: S) sh mi mj mr := zr_p (zD_of zk_123 d_123_44 rfl rfl) rfl
theorem q_123_45  : zRun 123 45 L S sh mi mj mr = zRun 123 46 L (.int 1 :: S) sh mi mj mr := zr_p (zD_of zk_123 d_123_45 rfl rfl) rfl
theorem q_123_46  {x0 x1 x2 : Int32} (hS : zcat S ≤ 8) (h : zIs sh o 0 7) : zRun 123 46 L (.int x2 :: .int x1 :: .int x0 :: .ref o :: S) sh mi mj mr = (zCall 89 [.ref o, .int x0, .int x1, .int x2] sh mi mj mr).bind fun r => zRun 123 49 L (r.1.toList ++ S) r.2.1 r.2.2.1 r.2.2.2.1 r.2.2.2.2 := zr_V (zD_of zk_123 d_123_46 rfl rfl) rfl zk_89 rfl rfl rfl hS h
theorem q_123_49  : zRun 123 49 L (.long v :: .long u :: S) sh mi mj mr = if u = v then zRun 123 55 L S sh mi mj mr else zRun 123 53 L S sh mi mj mr := zr_cmp (off := 5) (zD_of zk_123 d_123_49 rfl rfl) (zD_of zk_123 d_123_50 rfl rfl) rfl rfl (by decide) (lg_cmp_eq u v)
theorem q_123_50  : zRun 123 50 L (.int x :: S) sh mi mj mr = if x = 0 then zRun 123 55 L S sh mi mj mr else zRun 123 53 L S sh mi mj mr := zr_if (off := 5) (P := x = 0) (zD_of zk_123 d_123_50 rfl rfl) rfl rfl (by decide)
theorem q_123_53  : zRun 123 53 L S sh mi mj mr = zRun 123 54 L (.int 0 :: S) sh mi mj mr := zr_p (zD_of zk_123 d_123_53 rfl rfl) rfl
theorem q_123_54 (h : x = 0 ∨ x = 1) : zRun 123 54 L ([.int x]) sh mi mj mr = some (some (.int x), sh, mi, mj, mr) := zr_ret (zD_of zk_123 d_123_54 rfl rfl) rfl rfl rfl rfl rfl (if_pos (zna_b h))
theorem q_123_55  : zRun 123 55 L S sh mi mj mr = zRun 123 56 L (.int 0 :: S) sh mi mj mr := zr_p (zD_of zk_123 d_123_55 rfl rfl) rfl
theorem q_123_56 : zRun 123 56 [l0, l1, l2, l3, l4, l5, l6, l7, l8, l9, l10, l11] (.int x :: S) sh mi mj mr = zRun 123 58 [l0, l1, l2, l3, l4, l5, zk2 l6, some (.int x), l8, l9, l10, l11] S sh mi mj mr := zr_s1 (i := 7) (v := .int x) (L := [l0, l1, l2, l3, l4, l5, l6, l7, l8, l9, l10, l11]) (zD_of zk_123 d_123_56 rfl rfl) rfl rfl rfl rfl
theorem q_123_58 : zRun 123 58 [l0, l1, l2, l3, l4, l5, l6, some (.int x), l8, l9, l10, l11] S sh mi mj mr = zRun 123 60 [l0, l1, l2, l3, l4, l5, l6, some (.int x), l8, l9, l10, l11] (.int x :: S) sh mi mj mr := zr_l (zD_of zk_123 d_123_58 rfl rfl) rfl rfl rfl
theorem q_123_60  : zRun 123 60 L S sh mi mj mr = zRun 123 63 L (.int 256 :: S) sh mi mj mr := zr_p (zD_of zk_123 d_123_60 rfl rfl) rfl
theorem q_123_63  : zRun 123 63 L (.int y :: .int x :: S) sh mi mj mr = if y ≤ x then zRun 123 138 L S sh mi mj mr else zRun 123 66 L S sh mi mj mr := zr_if (off := 75) (P := y ≤ x) (zD_of zk_123 d_123_63 rfl rfl) rfl rfl (by decide)
theorem q_123_66r : zRun 123 66 [some (.ref o), l1, l2, l3, l4, l5, l6, l7, l8, l9, l10, l11] S sh mi mj mr = zRun 123 67 [some (.ref o), l1, l2, l3, l4, l5, l6, l7, l8, l9, l10, l11] (.ref o :: S) sh mi mj mr := zr_l (zD_of zk_123 d_123_66 rfl rfl) rfl rfl rfl
theorem q_123_66n : zRun 123 66 [some (.null), l1, l2, l3, l4, l5, l6, l7, l8, l9, l10, l11] S sh mi mj mr = zRun 123 67 [some (.null), l1, l2, l3, l4, l5, l6, l7, l8, l9, l10, l11] (.null :: S) sh mi mj mr := zr_l (zD_of zk_123 d_123_66 rfl rfl) rfl rfl rfl
theorem q_123_67 : zRun 123 67 [l0, some (.int x), l2, l3, l4, l5, l6, l7, l8, l9, l10, l11] S sh mi mj mr = zRun 123 68 [l0, some (.int x), l2, l3, l4, l5, l6, l7, l8, l9, l10, l11] (.int x :: S) sh mi mj mr := zr_l (zD_of zk_123 d_123_67 rfl rfl) rfl rfl rfl
theorem q_123_68 : zRun 123 68 [l0, l1, l2, l3, l4, l5, l6, some (.int x), l8, l9, l10, l11] S sh mi mj mr = zRun 123 70 [l0, l1, l2, l3, l4, l5, l6, some (.int x), l8, l9, l10, l11] (.int x :: S) sh mi mj mr := zr_l (zD_of zk_123 d_123_68 rfl rfl) rfl rfl rfl
theorem q_123_70  : zRun 123 70 L S sh mi mj mr = zRun 123 71 L (.int 0 :: S) sh mi mj mr := zr_p (zD_of zk_123 d_123_70 rfl rfl) rfl
theorem q_123_71  {x0 x1 x2 : Int32} (hS : zcat S ≤ 8) (h : zIs sh o 0 7) : zRun 123 71 L (.int x2 :: .int x1 :: .int x0 :: .ref o :: S) sh mi mj mr = (zCall 94 [.ref o, .int x0, .int x1, .int x2] sh mi mj mr).bind fun r => zRun 123 74 L (r.1.toList ++ S) r.2.1 r.2.2.1 r.2.2.2.1 r.2.2.2.2 := zr_V (zD_of zk_123 d_123_71 rfl rfl) rfl zk_94 rfl rfl rfl hS h
theorem q_123_74 : zRun 123 74 [l0, l1, l2, l3, l4, l5, l6, l7, l8, l9, l10, l11] (.long u :: S) sh mi mj mr = zRun 123 76 [l0, l1, l2, l3, l4, l5, l6, zk2 l7, some (.long u), none, l10, l11] S sh mi mj mr := zr_s2 (i := 8) (v := .long u) (L := [l0, l1, l2, l3, l4, l5, l6, l7, l8, l9, l10, l11]) (zD_of zk_123 d_123_74 rfl rfl) rfl rfl rfl rfl
theorem q_123_76r : zRun 123 76 [some (.ref o), l1, l2, l3, l4, l5, l6, l7, l8, l9, l10, l11] S sh mi mj mr = zRun 123 77 [some (.ref o), l1, l2, l3, l4, l5, l6, l7, l8, l9, l10, l11] (.ref o :: S) sh mi mj mr := zr_l (zD_of zk_123 d_123_76 rfl rfl) rfl rfl rfl
theorem q_123_76n : zRun 123 76 [some (.null), l1, l2, l3, l4, l5, l6, l7, l8, l9, l10, l11] S sh mi mj mr = zRun 123 77 [some (.null), l1, l2, l3, l4, l5, l6, l7, l8, l9, l10, l11] (.null :: S) sh mi mj mr := zr_l (zD_of zk_123 d_123_76 rfl rfl) rfl rfl rfl
theorem q_123_77 : zRun 123 77 [l0, some (.int x), l2, l3, l4, l5, l6, l7, l8, l9, l10, l11] S sh mi mj mr = zRun 123 78 [l0, some (.int x), l2, l3, l4, l5, l6, l7, l8, l9, l10, l11] (.int x :: S) sh mi mj mr := zr_l (zD_of zk_123 d_123_77 rfl rfl) rfl rfl rfl
theorem q_123_78 : zRun 123 78 [l0, l1, l2, l3, l4, l5, l6, some (.int x), l8, l9, l10, l11] S sh mi mj mr = zRun 123 80 [l0, l1, l2, l3, l4, l5, l6, some (.int x), l8, l9, l10, l11] (.int x :: S) sh mi mj mr := zr_l (zD_of zk_123 d_123_78 rfl rfl) rfl rfl rfl
theorem q_123_80  : zRun 123 80 L S sh mi mj mr = zRun 123 81 L (.int 1 :: S) sh mi mj mr := zr_p (zD_of zk_123 d_123_80 rfl rfl) rfl
theorem q_123_81  {x0 x1 x2 : Int32} (hS : zcat S ≤ 8) (h : zIs sh o 0 7) : zRun 123 81 L (.int x2 :: .int x1 :: .int x0 :: .ref o :: S) sh mi mj mr = (zCall 94 [.ref o, .int x0, .int x1, .int x2] sh mi mj mr).bind fun r => zRun 123 84 L (r.1.toList ++ S) r.2.1 r.2.2.1 r.2.2.2.1 r.2.2.2.2 := zr_V (zD_of zk_123 d_123_81 rfl rfl) rfl zk_94 rfl rfl rfl hS h
theorem q_123_84 : zRun 123 84 [l0, l1, l2, l3, l4, l5, l6, l7, l8, l9, l10, l11] (.long u :: S) sh mi mj mr = zRun 123 86 [l0, l1, l2, l3, l4, l5, l6, l7, l8, zk2 l9, some (.long u), none] S sh mi mj mr := zr_s2 (i := 10) (v := .long u) (L := [l0, l1, l2, l3, l4, l5, l6, l7, l8, l9, l10, l11]) (zD_of zk_123 d_123_84 rfl rfl) rfl rfl rfl rfl
theorem q_123_86 : zRun 123 86 [l0, l1, l2, l3, l4, l5, l6, l7, some (.long u), l9, l10, l11] S sh mi mj mr = zRun 123 88 [l0, l1, l2, l3, l4, l5, l6, l7, some (.long u), l9, l10, l11] (.long u :: S) sh mi mj mr := zr_l (zD_of zk_123 d_123_86 rfl rfl) rfl rfl rfl
theorem q_123_88  : zRun 123 88 L S sh mi mj mr = zRun 123 91 L (.long (-1000000000000000005) :: S) sh mi mj mr := zr_k64 (zD_of zk_123 d_123_88 rfl rfl) rfl
theorem q_123_91  : zRun 123 91 L (.long v :: .long u :: S) sh mi mj mr = if ¬ u = v then zRun 123 98 L S sh mi mj mr else zRun 123 95 L S sh mi mj mr := zr_cmp (off := 6) (zD_of zk_123 d_123_91 rfl rfl) (zD_of zk_123 d_123_92 rfl rfl) rfl rfl (by decide) (not_congr (lg_cmp_eq u v))
theorem q_123_92  : zRun 123 92 L (.int x :: S) sh mi mj mr = if ¬ x = 0 then zRun 123 98 L S sh mi mj mr else zRun 123 95 L S sh mi mj mr := zr_if (off := 6) (P := ¬ x = 0) (zD_of zk_123 d_123_92 rfl rfl) rfl rfl (by decide)
theorem q_123_95  : zRun 123 95 L S sh mi mj mr = zRun 123 132 L S sh mi mj mr := zr_go (off := 37) (zD_of zk_123 d_123_95 rfl rfl) rfl rfl (by decide)
theorem q_123_98 : zRun 123 98 [l0, l1, l2, some (.long u), l4, l5, l6, l7, l8, l9, l10, l11] S sh mi mj mr = zRun 123 99 [l0, l1, l2, some (.long u), l4, l5, l6, l7, l8, l9, l10, l11] (.long u :: S) sh mi mj mr := zr_l (zD_of zk_123 d_123_98 rfl rfl) rfl rfl rfl
theorem q_123_99  : zRun 123 99 L S sh mi mj mr = zRun 123 102 L (.long (-1000000000000000005) :: S) sh mi mj mr := zr_k64 (zD_of zk_123 d_123_99 rfl rfl) rfl
theorem q_123_102  : zRun 123 102 L (.long v :: .long u :: S) sh mi mj mr = if u = v then zRun 123 113 L S sh mi mj mr else zRun 123 106 L S sh mi mj mr := zr_cmp (off := 10) (zD_of zk_123 d_123_102 rfl rfl) (zD_of zk_123 d_123_103 rfl rfl) rfl rfl (by decide) (lg_cmp_eq u v)
theorem q_123_103  : zRun 123 103 L (.int x :: S) sh mi mj mr = if x = 0 then zRun 123 113 L S sh mi mj mr else zRun 123 106 L S sh mi mj mr := zr_if (off := 10) (P := x = 0) (zD_of zk_123 d_123_103 rfl rfl) rfl rfl (by decide)
theorem q_123_106 : zRun 123 106 [l0, l1, l2, l3, l4, l5, l6, l7, l8, l9, some (.long u), l11] S sh mi mj mr = zRun 123 108 [l0, l1, l2, l3, l4, l5, l6, l7, l8, l9, some (.long u), l11] (.long u :: S) sh mi mj mr := zr_l (zD_of zk_123 d_123_106 rfl rfl) rfl rfl rfl
theorem q_123_108 : zRun 123 108 [l0, l1, l2, some (.long u), l4, l5, l6, l7, l8, l9, l10, l11] S sh mi mj mr = zRun 123 109 [l0, l1, l2, some (.long u), l4, l5, l6, l7, l8, l9, l10, l11] (.long u :: S) sh mi mj mr := zr_l (zD_of zk_123 d_123_108 rfl rfl) rfl rfl rfl
theorem q_123_109  : zRun 123 109 L (.long v :: .long u :: S) sh mi mj mr = if u < v then zRun 123 130 L S sh mi mj mr else zRun 123 113 L S sh mi mj mr := zr_cmp (off := 20) (zD_of zk_123 d_123_109 rfl rfl) (zD_of zk_123 d_123_110 rfl rfl) rfl rfl (by decide) (lg_cmp_lt u v)
theorem q_123_110  : zRun 123 110 L (.int x :: S) sh mi mj mr = if x < 0 then zRun 123 130 L S sh mi mj mr else zRun 123 113 L S sh mi mj mr := zr_if (off := 20) (P := x < 0) (zD_of zk_123 d_123_110 rfl rfl) rfl rfl (by decide)
theorem q_123_113 : zRun 123 113 [l0, l1, l2, l3, l4, some (.long u), l6, l7, l8, l9, l10, l11] S sh mi mj mr = zRun 123 115 [l0, l1, l2, l3, l4, some (.long u), l6, l7, l8, l9, l10, l11] (.long u :: S) sh mi mj mr := zr_l (zD_of zk_123 d_123_113 rfl rfl) rfl rfl rfl
theorem q_123_115  : zRun 123 115 L S sh mi mj mr = zRun 123 118 L (.long (-1000000000000000005) :: S) sh mi mj mr := zr_k64 (zD_of zk_123 d_123_115 rfl rfl) rfl
theorem q_123_118  : zRun 123 118 L (.long v :: .long u :: S) sh mi mj mr = if u = v then zRun 123 132 L S sh mi mj mr else zRun 123 122 L S sh mi mj mr := zr_cmp (off := 13) (zD_of zk_123 d_123_118 rfl rfl) (zD_of zk_123 d_123_119 rfl rfl) rfl rfl (by decide) (lg_cmp_eq u v)
theorem q_123_119  : zRun 123 119 L (.int x :: S) sh mi mj mr = if x = 0 then zRun 123 132 L S sh mi mj mr else zRun 123 122 L S sh mi mj mr := zr_if (off := 13) (P := x = 0) (zD_of zk_123 d_123_119 rfl rfl) rfl rfl (by decide)
theorem q_123_122 : zRun 123 122 [l0, l1, l2, l3, l4, l5, l6, l7, some (.long u), l9, l10, l11] S sh mi mj mr = zRun 123 124 [l0, l1, l2, l3, l4, l5, l6, l7, some (.long u), l9, l10, l11] (.long u :: S) sh mi mj mr := zr_l (zD_of zk_123 d_123_122 rfl rfl) rfl rfl rfl
theorem q_123_124 : zRun 123 124 [l0, l1, l2, l3, l4, some (.long u), l6, l7, l8, l9, l10, l11] S sh mi mj mr = zRun 123 126 [l0, l1, l2, l3, l4, some (.long u), l6, l7, l8, l9, l10, l11] (.long u :: S) sh mi mj mr := zr_l (zD_of zk_123 d_123_124 rfl rfl) rfl rfl rfl
theorem q_123_126  : zRun 123 126 L (.long v :: .long u :: S) sh mi mj mr = if u ≤ v then zRun 123 132 L S sh mi mj mr else zRun 123 130 L S sh mi mj mr := zr_cmp (off := 5) (zD_of zk_123 d_123_126 rfl rfl) (zD_of zk_123 d_123_127 rfl rfl) rfl rfl (by decide) (lg_cmp_le u v)
theorem q_123_127  : zRun 123 127 L (.int x :: S) sh mi mj mr = if x ≤ 0 then zRun 123 132 L S sh mi mj mr else zRun 123 130 L S sh mi mj mr := zr_if (off := 5) (P := x ≤ 0) (zD_of zk_123 d_123_127 rfl rfl) rfl rfl (by decide)
theorem q_123_130  : zRun 123 130 L S sh mi mj mr = zRun 123 131 L (.int 0 :: S) sh mi mj mr := zr_p (zD_of zk_123 d_123_130 rfl rfl) rfl
theorem q_123_131 (h : x = 0 ∨ x = 1) : zRun 123 131 L ([.int x]) sh mi mj mr = some (some (.int x), sh, mi, mj, mr) := zr_ret (zD_of zk_123 d_123_131 rfl rfl) rfl rfl rfl rfl rfl (if_pos (zna_b h))
theorem q_123_132  : zRun 123 132 [l0, l1, l2, l3, l4, l5, l6, some (.int x), l8, l9, l10, l11] S sh mi mj mr = zRun 123 135 [l0, l1, l2, l3, l4, l5, zk2 l6, some (.int (x + 37)), l8, l9, l10, l11] S sh mi mj mr := zr_s1 (i := 7) (v := .int (x + 37)) (L := [l0, l1, l2, l3, l4, l5, l6, some (.int x), l8, l9, l10, l11]) (zD_of zk_123 d_123_132 rfl rfl) rfl rfl rfl rfl
theorem q_123_135  : zRun 123 135 L S sh mi mj mr = zRun 123 58 L S sh mi mj mr := zr_go (off := (-77)) (zD_of zk_123 d_123_135 rfl rfl) rfl rfl (by decide)
theorem q_123_138  : zRun 123 138 L S sh mi mj mr = zRun 123 139 L (.int 1 :: S) sh mi mj mr := zr_p (zD_of zk_123 d_123_138 rfl rfl) rfl
theorem q_123_139 (h : x = 0 ∨ x = 1) : zRun 123 139 L ([.int x]) sh mi mj mr = some (some (.int x), sh, mi, mj, mr) := zr_ret (zD_of zk_123 d_123_139 rfl rfl) rfl rfl rfl rfl rfl (if_pos (zna_b h))
theorem e_123 {x0 x1 : Int32} {o0 : Nat} : zCall 123 [.ref o0, .int x0, .int x1] sh mi mj mr = zRun 123 0 [some (.ref o0), some (.int x0), some (.int x1), none, none, none, none, none, none, none, none, none] [] sh mi mj mr := rfl
theorem d_124_0 : decode cL_zeros 0 = .ok (.aload_n 0, 1) := by decide +kernel
theorem d_124_1 : decode cL_zeros 1 = .ok (.iload_n 1, 1) := by decide +kernel
theorem d_124_2 : decode cL_zeros 2 = .ok (.invokevirtual 95, 3) := by decide +kernel
theorem d_124_5 : decode cL_zeros 5 = .ok (.ifCond .gt 27, 3) := by decide +kernel
theorem d_124_8 : decode cL_zeros 8 = .ok (.aload_n 0, 1) := by decide +kernel
theorem d_124_9 : decode cL_zeros 9 = .ok (.iload_n 1, 1) := by decide +kernel
theorem d_124_10 : decode cL_zeros 10 = .ok (.iconst 2, 1) := by decide +kernel
theorem d_124_11 : decode cL_zeros 11 = .ok (.iconst 0, 1) := by decide +kernel
theorem d_124_12 : decode cL_zeros 12 = .ok (.invokevirtual 98, 3) := by decide +kernel
theorem d_124_15 : decode cL_zeros 15 = .ok (.lconst 0, 1) := by decide +kernel
theorem d_124_16 : decode cL_zeros 16 = .ok (.lcmp, 1) := by decide +kernel
theorem d_124_17 : decode cL_zeros 17 = .ok (.ifCond .gt 19, 3) := by decide +kernel
theorem d_124_20 : decode cL_zeros 20 = .ok (.aload_n 0, 1) := by decide +kernel
theorem d_124_21 : decode cL_zeros 21 = .ok (.iload_n 1, 1) := by decide +kernel
theorem d_124_22 : decode cL_zeros 22 = .ok (.iconst 2, 1) := by decide +kernel
theorem d_124_23 : decode cL_zeros 23 = .ok (.iconst 1, 1) := by decide +kernel
theorem d_124_24 : decode cL_zeros 24 = .ok (.invokevirtual 98, 3) := by decide +kernel
theorem d_124_27 : decode cL_zeros 27 = .ok (.lconst 0, 1) := by decide +kernel
theorem d_124_28 : decode cL_zeros 28 = .ok (.lcmp, 1) := by decide +kernel
theorem d_124_29 : decode cL_zeros 29 = .ok (.ifCond .lt 7, 3) := by decide +kernel
theorem d_124_32 : decode cL_zeros 32 = .ok (.iconst 1, 1) := by decide +kernel
theorem d_124_33 : decode cL_zeros 33 = .ok (.goto 4, 3) := by decide +kernel
theorem d_124_36 : decode cL_zeros 36 = .ok (.iconst 0, 1) := by decide +kernel
theorem d_124_37 : decode cL_zeros 37 = .ok (.istore_n 3, 1) := by decide +kernel
theorem d_124_38 : decode cL_zeros 38 = .ok (.aload_n 0, 1) := by decide +kernel
theorem d_124_39 : decode cL_zeros 39 = .ok (.iload_n 1, 1) := by decide +kernel
theorem d_124_40 : decode cL_zeros 40 = .ok (.iload_n 2, 1) := by decide +kernel
theorem d_124_41 : decode cL_zeros 41 = .ok (.iconst 1, 1) := by decide +kernel
theorem d_124_42 : decode cL_zeros 42 = .ok (.invokevirtual 143, 3) := by decide +kernel
theorem d_124_45 : decode cL_zeros 45 = .ok (.iload_n 3, 1) := by decide +kernel
theorem d_124_46 : decode cL_zeros 46 = .ok (.ifCond .eq 7, 3) := by decide +kernel
theorem d_124_49 : decode cL_zeros 49 = .ok (.iconst 1, 1) := by decide +kernel
theorem d_124_50 : decode cL_zeros 50 = .ok (.goto 4, 3) := by decide +kernel
theorem d_124_53 : decode cL_zeros 53 = .ok (.iconst 0, 1) := by decide +kernel
theorem d_124_54 : decode cL_zeros 54 = .ok (.if_icmp .eq 5, 3) := by decide +kernel
theorem d_124_57 : decode cL_zeros 57 = .ok (.iconst 0, 1) := by decide +kernel
theorem d_124_58 : decode cL_zeros 58 = .ok (.ireturn, 1) := by decide +kernel
theorem d_124_59 : decode cL_zeros 59 = .ok (.aload_n 0, 1) := by decide +kernel
theorem d_124_60 : decode cL_zeros 60 = .ok (.iload_n 2, 1) := by decide +kernel
theorem d_124_61 : decode cL_zeros 61 = .ok (.iconst 0, 1) := by decide +kernel
theorem d_124_62 : decode cL_zeros 62 = .ok (.invokevirtual 82, 3) := by decide +kernel
theorem d_124_65 : decode cL_zeros 65 = .ok (.ldc 85, 2) := by decide +kernel
theorem d_124_67 : decode cL_zeros 67 = .ok (.isub, 1) := by decide +kernel
theorem d_124_68 : decode cL_zeros 68 = .ok (.istore 4, 2) := by decide +kernel
theorem d_124_70 : decode cL_zeros 70 = .ok (.aload_n 0, 1) := by decide +kernel
theorem d_124_71 : decode cL_zeros 71 = .ok (.iload_n 2, 1) := by decide +kernel
theorem d_124_72 : decode cL_zeros 72 = .ok (.iconst 1, 1) := by decide +kernel
theorem d_124_73 : decode cL_zeros 73 = .ok (.invokevirtual 82, 3) := by decide +kernel
theorem d_124_76 : decode cL_zeros 76 = .ok (.ldc 85, 2) := by decide +kernel
theorem d_124_78 : decode cL_zeros 78 = .ok (.isub, 1) := by decide +kernel
theorem d_124_79 : decode cL_zeros 79 = .ok (.iload 4, 2) := by decide +kernel
theorem d_124_81 : decode cL_zeros 81 = .ok (.isub, 1) := by decide +kernel
theorem d_124_82 : decode cL_zeros 82 = .ok (.istore 5, 2) := by decide +kernel
theorem d_124_84 : decode cL_zeros 84 = .ok (.aload_n 0, 1) := by decide +kernel
theorem d_124_85 : decode cL_zeros 85 = .ok (.iload_n 1, 1) := by decide +kernel
theorem d_124_86 : decode cL_zeros 86 = .ok (.iload_n 2, 1) := by decide +kernel
theorem d_124_87 : decode cL_zeros 87 = .ok (.iconst 4, 1) := by decide +kernel
theorem d_124_88 : decode cL_zeros 88 = .ok (.invokevirtual 143, 3) := by decide +kernel
theorem d_124_91 : decode cL_zeros 91 = .ok (.istore 6, 2) := by decide +kernel
theorem d_124_93 : decode cL_zeros 93 = .ok (.aload_n 0, 1) := by decide +kernel
theorem d_124_94 : decode cL_zeros 94 = .ok (.iconst 0, 1) := by decide +kernel
theorem d_124_95 : decode cL_zeros 95 = .ok (.invokevirtual 134, 3) := by decide +kernel
theorem d_124_98 : decode cL_zeros 98 = .ok (.pop, 1) := by decide +kernel
theorem d_124_99 : decode cL_zeros 99 = .ok (.iconst 0, 1) := by decide +kernel
theorem d_124_100 : decode cL_zeros 100 = .ok (.istore 7, 2) := by decide +kernel
theorem d_124_102 : decode cL_zeros 102 = .ok (.iload 7, 2) := by decide +kernel
theorem d_124_104 : decode cL_zeros 104 = .ok (.iconst 4, 1) := by decide +kernel
theorem d_124_105 : decode cL_zeros 105 = .ok (.if_icmp .ge 99, 3) := by decide +kernel
theorem d_124_108 : decode cL_zeros 108 = .ok (.aload_n 0, 1) := by decide +kernel
theorem d_124_109 : decode cL_zeros 109 = .ok (.iload_n 2, 1) := by decide +kernel
theorem d_124_110 : decode cL_zeros 110 = .ok (.iload 4, 2) := by decide +kernel
theorem d_124_112 : decode cL_zeros 112 = .ok (.iload 5, 2) := by decide +kernel
theorem d_124_114 : decode cL_zeros 114 = .ok (.iload 7, 2) := by decide +kernel
theorem d_124_116 : decode cL_zeros 116 = .ok (.imul, 1) := by decide +kernel
theorem d_124_117 : decode cL_zeros 117 = .ok (.iconst 4, 1) := by decide +kernel
theorem d_124_118 : decode cL_zeros 118 = .ok (.idiv, 1) := by decide +kernel
theorem d_124_119 : decode cL_zeros 119 = .ok (.iadd, 1) := by decide +kernel
theorem d_124_120 : decode cL_zeros 120 = .ok (.iload 4, 2) := by decide +kernel
theorem d_124_122 : decode cL_zeros 122 = .ok (.iload 5, 2) := by decide +kernel
theorem d_124_124 : decode cL_zeros 124 = .ok (.iload 7, 2) := by decide +kernel
theorem d_124_126 : decode cL_zeros 126 = .ok (.iconst 1, 1) := by decide +kernel
theorem d_124_127 : decode cL_zeros 127 = .ok (.iadd, 1) := by decide +kernel
theorem d_124_128 : decode cL_zeros 128 = .ok (.imul, 1) := by decide +kernel
theorem d_124_129 : decode cL_zeros 129 = .ok (.iconst 4, 1) := by decide +kernel
theorem d_124_130 : decode cL_zeros 130 = .ok (.idiv, 1) := by decide +kernel
theorem d_124_131 : decode cL_zeros 131 = .ok (.iadd, 1) := by decide +kernel
theorem d_124_132 : decode cL_zeros 132 = .ok (.invokevirtual 31, 3) := by decide +kernel
theorem d_124_135 : decode cL_zeros 135 = .ok (.pop, 1) := by decide +kernel
theorem d_124_136 : decode cL_zeros 136 = .ok (.aload_n 0, 1) := by decide +kernel
theorem d_124_137 : decode cL_zeros 137 = .ok (.iload_n 1, 1) := by decide +kernel
theorem d_124_138 : decode cL_zeros 138 = .ok (.invokevirtual 95, 3) := by decide +kernel
theorem d_124_141 : decode cL_zeros 141 = .ok (.ifCond .gt 27, 3) := by decide +kernel
theorem d_124_144 : decode cL_zeros 144 = .ok (.aload_n 0, 1) := by decide +kernel
theorem d_124_145 : decode cL_zeros 145 = .ok (.iload_n 1, 1) := by decide +kernel
theorem d_124_146 : decode cL_zeros 146 = .ok (.iconst 2, 1) := by decide +kernel
theorem d_124_147 : decode cL_zeros 147 = .ok (.iconst 0, 1) := by decide +kernel
theorem d_124_148 : decode cL_zeros 148 = .ok (.invokevirtual 98, 3) := by decide +kernel
theorem d_124_151 : decode cL_zeros 151 = .ok (.lconst 0, 1) := by decide +kernel
theorem d_124_152 : decode cL_zeros 152 = .ok (.lcmp, 1) := by decide +kernel
theorem d_124_153 : decode cL_zeros 153 = .ok (.ifCond .gt 19, 3) := by decide +kernel
theorem d_124_156 : decode cL_zeros 156 = .ok (.aload_n 0, 1) := by decide +kernel
theorem d_124_157 : decode cL_zeros 157 = .ok (.iload_n 1, 1) := by decide +kernel
theorem d_124_158 : decode cL_zeros 158 = .ok (.iconst 2, 1) := by decide +kernel
theorem d_124_159 : decode cL_zeros 159 = .ok (.iconst 1, 1) := by decide +kernel
theorem d_124_160 : decode cL_zeros 160 = .ok (.invokevirtual 98, 3) := by decide +kernel
theorem d_124_163 : decode cL_zeros 163 = .ok (.lconst 0, 1) := by decide +kernel
theorem d_124_164 : decode cL_zeros 164 = .ok (.lcmp, 1) := by decide +kernel
theorem d_124_165 : decode cL_zeros 165 = .ok (.ifCond .lt 7, 3) := by decide +kernel
theorem d_124_168 : decode cL_zeros 168 = .ok (.iconst 1, 1) := by decide +kernel
theorem d_124_169 : decode cL_zeros 169 = .ok (.goto 4, 3) := by decide +kernel
theorem d_124_172 : decode cL_zeros 172 = .ok (.iconst 0, 1) := by decide +kernel
theorem d_124_173 : decode cL_zeros 173 = .ok (.istore 8, 2) := by decide +kernel
theorem d_124_175 : decode cL_zeros 175 = .ok (.iload 8, 2) := by decide +kernel
theorem d_124_177 : decode cL_zeros 177 = .ok (.iload 6, 2) := by decide +kernel
theorem d_124_179 : decode cL_zeros 179 = .ok (.iload 7, 2) := by decide +kernel
theorem d_124_181 : decode cL_zeros 181 = .ok (.ishr, 1) := by decide +kernel
theorem d_124_182 : decode cL_zeros 182 = .ok (.iconst 1, 1) := by decide +kernel
theorem d_124_183 : decode cL_zeros 183 = .ok (.iand, 1) := by decide +kernel
theorem d_124_184 : decode cL_zeros 184 = .ok (.iconst 1, 1) := by decide +kernel
theorem d_124_185 : decode cL_zeros 185 = .ok (.if_icmp .ne 7, 3) := by decide +kernel
theorem d_124_188 : decode cL_zeros 188 = .ok (.iconst 1, 1) := by decide +kernel
theorem d_124_189 : decode cL_zeros 189 = .ok (.goto 4, 3) := by decide +kernel
theorem d_124_192 : decode cL_zeros 192 = .ok (.iconst 0, 1) := by decide +kernel
theorem d_124_193 : decode cL_zeros 193 = .ok (.if_icmp .eq 5, 3) := by decide +kernel
theorem d_124_196 : decode cL_zeros 196 = .ok (.iconst 0, 1) := by decide +kernel
theorem d_124_197 : decode cL_zeros 197 = .ok (.ireturn, 1) := by decide +kernel
theorem d_124_198 : decode cL_zeros 198 = .ok (.iinc 7 1, 3) := by decide +kernel
theorem d_124_201 : decode cL_zeros 201 = .ok (.goto (-99), 3) := by decide +kernel
theorem d_124_204 : decode cL_zeros 204 = .ok (.aload_n 0, 1) := by decide +kernel
theorem d_124_205 : decode cL_zeros 205 = .ok (.iconst 0, 1) := by decide +kernel
theorem d_124_206 : decode cL_zeros 206 = .ok (.invokevirtual 137, 3) := by decide +kernel
theorem d_124_209 : decode cL_zeros 209 = .ok (.ifCond .le 28, 3) := by decide +kernel
theorem d_124_212 : decode cL_zeros 212 = .ok (.iload 6, 2) := by decide +kernel
theorem d_124_214 : decode cL_zeros 214 = .ok (.bipush 16, 2) := by decide +kernel
theorem d_124_216 : decode cL_zeros 216 = .ok (.if_icmp .ge 21, 3) := by decide +kernel
theorem d_124_219 : decode cL_zeros 219 = .ok (.aload_n 0, 1) := by decide +kernel
theorem d_124_220 : decode cL_zeros 220 = .ok (.iload_n 2, 1) := by decide +kernel
theorem d_124_221 : decode cL_zeros 221 = .ok (.iconst 0, 1) := by decide +kernel
theorem d_124_222 : decode cL_zeros 222 = .ok (.invokevirtual 82, 3) := by decide +kernel
theorem d_124_225 : decode cL_zeros 225 = .ok (.iload 4, 2) := by decide +kernel
theorem d_124_227 : decode cL_zeros 227 = .ok (.ldc 85, 2) := by decide +kernel
theorem d_124_229 : decode cL_zeros 229 = .ok (.iadd, 1) := by decide +kernel
theorem d_124_230 : decode cL_zeros 230 = .ok (.if_icmp .ne 7, 3) := by decide +kernel
theorem d_124_233 : decode cL_zeros 233 = .ok (.iconst 1, 1) := by decide +kernel
theorem d_124_234 : decode cL_zeros 234 = .ok (.goto 4, 3) := by decide +kernel
theorem d_124_237 : decode cL_zeros 237 = .ok (.iconst 0, 1) := by decide +kernel
theorem d_124_238 : decode cL_zeros 238 = .ok (.ireturn, 1) := by decide +kernel
theorem q_124_0r : zRun 124 0 [some (.ref o), l1, l2, l3, l4, l5, l6, l7, l8] S sh mi mj mr = zRun 124 1 [some (.ref o), l1, l2, l3, l4, l5, l6, l7, l8] (.ref o :: S) sh mi mj mr := zr_l (zD_of zk_124 d_124_0 rfl rfl) rfl rfl rfl
theorem q_124_0n : zRun 124 0 [some (.null), l1, l2, l3, l4, l5, l6, l7, l8] S sh mi mj mr = zRun 124 1 [some (.null), l1, l2, l3, l4, l5, l6, l7, l8] (.null :: S) sh mi mj mr := zr_l (zD_of zk_124 d_124_0 rfl rfl) rfl rfl rfl
theorem q_124_1 : zRun 124 1 [l0, some (.int x), l2, l3, l4, l5, l6, l7, l8] S sh mi mj mr = zRun 124 2 [l0, some (.int x), l2, l3, l4, l5, l6, l7, l8] (.int x :: S) sh mi mj mr := zr_l (zD_of zk_124 d_124_1 rfl rfl) rfl rfl rfl
theorem q_124_2  {x0 : Int32} (hS : zcat S ≤ 8) (h : zIs sh o 0 7) : zRun 124 2 L (.int x0 :: .ref o :: S) sh mi mj mr = (zCall 88 [.ref o, .int x0] sh mi mj mr).bind fun r => zRun 124 5 L (r.1.toList ++ S) r.2.1 r.2.2.1 r.2.2.2.1 r.2.2.2.2 := zr_V (zD_of zk_124 d_124_2 rfl rfl) rfl zk_88 rfl rfl rfl hS h
theorem q_124_5  : zRun 124 5 L (.int x :: S) sh mi mj mr = if 0 < x then zRun 124 32 L S sh mi mj mr else zRun 124 8 L S sh mi mj mr := zr_if (off := 27) (P := 0 < x) (zD_of zk_124 d_124_5 rfl rfl) rfl rfl (by decide)
theorem q_124_8r : zRun 124 8 [some (.ref o), l1, l2, l3, l4, l5, l6, l7, l8] S sh mi mj mr = zRun 124 9 [some (.ref o), l1, l2, l3, l4, l5, l6, l7, l8] (.ref o :: S) sh mi mj mr := zr_l (zD_of zk_124 d_124_8 rfl rfl) rfl rfl rfl
theorem q_124_8n : zRun 124 8 [some (.null), l1, l2, l3, l4, l5, l6, l7, l8] S sh mi mj mr = zRun 124 9 [some (.null), l1, l2, l3, l4, l5, l6, l7, l8] (.null :: S) sh mi mj mr := zr_l (zD_of zk_124 d_124_8 rfl rfl) rfl rfl rfl
theorem q_124_9 : zRun 124 9 [l0, some (.int x), l2, l3, l4, l5, l6, l7, l8] S sh mi mj mr = zRun 124 10 [l0, some (.int x), l2, l3, l4, l5, l6, l7, l8] (.int x :: S) sh mi mj mr := zr_l (zD_of zk_124 d_124_9 rfl rfl) rfl rfl rfl
theorem q_124_10  : zRun 124 10 L S sh mi mj mr = zRun 124 11 L (.int 2 :: S) sh mi mj mr := zr_p (zD_of zk_124 d_124_10 rfl rfl) rfl
theorem q_124_11  : zRun 124 11 L S sh mi mj mr = zRun 124 12 L (.int 0 :: S) sh mi mj mr := zr_p (zD_of zk_124 d_124_11 rfl rfl) rfl
theorem q_124_12  {x0 x1 x2 : Int32} (hS : zcat S ≤ 8) (h : zIs sh o 0 7) : zRun 124 12 L (.int x2 :: .int x1 :: .int x0 :: .ref o :: S) sh mi mj mr = (zCall 89 [.ref o, .int x0, .int x1, .int x2] sh mi mj mr).bind fun r => zRun 124 15 L (r.1.toList ++ S) r.2.1 r.2.2.1 r.2.2.2.1 r.2.2.2.2 := zr_V (zD_of zk_124 d_124_12 rfl rfl) rfl zk_89 rfl rfl rfl hS h
theorem q_124_15  : zRun 124 15 L S sh mi mj mr = zRun 124 16 L (.long 0 :: S) sh mi mj mr := zr_p (zD_of zk_124 d_124_15 rfl rfl) rfl
theorem q_124_16  : zRun 124 16 L (.long v :: .long u :: S) sh mi mj mr = if v < u then zRun 124 36 L S sh mi mj mr else zRun 124 20 L S sh mi mj mr := zr_cmp (off := 19) (zD_of zk_124 d_124_16 rfl rfl) (zD_of zk_124 d_124_17 rfl rfl) rfl rfl (by decide) (lg_cmp_gt u v)
theorem q_124_17  : zRun 124 17 L (.int x :: S) sh mi mj mr = if 0 < x then zRun 124 36 L S sh mi mj mr else zRun 124 20 L S sh mi mj mr := zr_if (off := 19) (P := 0 < x) (zD_of zk_124 d_124_17 rfl rfl) rfl rfl (by decide)
theorem q_124_20r : zRun 124 20 [some (.ref o), l1, l2, l3, l4, l5, l6, l7, l8] S sh mi mj mr = zRun 124 21 [some (.ref o), l1, l2, l3, l4, l5, l6, l7, l8] (.ref o :: S) sh mi mj mr := zr_l (zD_of zk_124 d_124_20 rfl rfl) rfl rfl rfl
theorem q_124_20n : zRun 124 20 [some (.null), l1, l2, l3, l4, l5, l6, l7, l8] S sh mi mj mr = zRun 124 21 [some (.null), l1, l2, l3, l4, l5, l6, l7, l8] (.null :: S) sh mi mj mr := zr_l (zD_of zk_124 d_124_20 rfl rfl) rfl rfl rfl
theorem q_124_21 : zRun 124 21 [l0, some (.int x), l2, l3, l4, l5, l6, l7, l8] S sh mi mj mr = zRun 124 22 [l0, some (.int x), l2, l3, l4, l5, l6, l7, l8] (.int x :: S) sh mi mj mr := zr_l (zD_of zk_124 d_124_21 rfl rfl) rfl rfl rfl
theorem q_124_22  : zRun 124 22 L S sh mi mj mr = zRun 124 23 L (.int 2 :: S) sh mi mj mr := zr_p (zD_of zk_124 d_124_22 rfl rfl) rfl
theorem q_124_23  : zRun 124 23 L S sh mi mj mr = zRun 124 24 L (.int 1 :: S) sh mi mj mr := zr_p (zD_of zk_124 d_124_23 rfl rfl) rfl
theorem q_124_24  {x0 x1 x2 : Int32} (hS : zcat S ≤ 8) (h : zIs sh o 0 7) : zRun 124 24 L (.int x2 :: .int x1 :: .int x0 :: .ref o :: S) sh mi mj mr = (zCall 89 [.ref o, .int x0, .int x1, .int x2] sh mi mj mr).bind fun r => zRun 124 27 L (r.1.toList ++ S) r.2.1 r.2.2.1 r.2.2.2.1 r.2.2.2.2 := zr_V (zD_of zk_124 d_124_24 rfl rfl) rfl zk_89 rfl rfl rfl hS h
theorem q_124_27  : zRun 124 27 L S sh mi mj mr = zRun 124 28 L (.long 0 :: S) sh mi mj mr := zr_p (zD_of zk_124 d_124_27 rfl rfl) rfl
theorem q_124_28  : zRun 124 28 L (.long v :: .long u :: S) sh mi mj mr = if u < v then zRun 124 36 L S sh mi mj mr else zRun 124 32 L S sh mi mj mr := zr_cmp (off := 7) (zD_of zk_124 d_124_28 rfl rfl) (zD_of zk_124 d_124_29 rfl rfl) rfl rfl (by decide) (lg_cmp_lt u v)
theorem q_124_29  : zRun 124 29 L (.int x :: S) sh mi mj mr = if x < 0 then zRun 124 36 L S sh mi mj mr else zRun 124 32 L S sh mi mj mr := zr_if (off := 7) (P := x < 0) (zD_of zk_124 d_124_29 rfl rfl) rfl rfl (by decide)
theorem q_124_32  : zRun 124 32 L S sh mi mj mr = zRun 124 33 L (.int 1 :: S) sh mi mj mr := zr_p (zD_of zk_124 d_124_32 rfl rfl) rfl
theorem q_124_33  : zRun 124 33 L S sh mi mj mr = zRun 124 37 L S sh mi mj mr := zr_go (off := 4) (zD_of zk_124 d_124_33 rfl rfl) rfl rfl (by decide)
theorem q_124_36  : zRun 124 36 L S sh mi mj mr = zRun 124 37 L (.int 0 :: S) sh mi mj mr := zr_p (zD_of zk_124 d_124_36 rfl rfl) rfl
theorem q_124_37 : zRun 124 37 [l0, l1, l2, l3, l4, l5, l6, l7, l8] (.int x :: S) sh mi mj mr = zRun 124 38 [l0, l1, zk2 l2, some (.int x), l4, l5, l6, l7, l8] S sh mi mj mr := zr_s1 (i := 3) (v := .int x) (L := [l0, l1, l2, l3, l4, l5, l6, l7, l8]) (zD_of zk_124 d_124_37 rfl rfl) rfl rfl rfl rfl
theorem q_124_38r : zRun 124 38 [some (.ref o), l1, l2, l3, l4, l5, l6, l7, l8] S sh mi mj mr = zRun 124 39 [some (.ref o), l1, l2, l3, l4, l5, l6, l7, l8] (.ref o :: S) sh mi mj mr := zr_l (zD_of zk_124 d_124_38 rfl rfl) rfl rfl rfl
theorem q_124_38n : zRun 124 38 [some (.null), l1, l2, l3, l4, l5, l6, l7, l8] S sh mi mj mr = zRun 124 39 [some (.null), l1, l2, l3, l4, l5, l6, l7, l8] (.null :: S) sh mi mj mr := zr_l (zD_of zk_124 d_124_38 rfl rfl) rfl rfl rfl
theorem q_124_39 : zRun 124 39 [l0, some (.int x), l2, l3, l4, l5, l6, l7, l8] S sh mi mj mr = zRun 124 40 [l0, some (.int x), l2, l3, l4, l5, l6, l7, l8] (.int x :: S) sh mi mj mr := zr_l (zD_of zk_124 d_124_39 rfl rfl) rfl rfl rfl
theorem q_124_40 : zRun 124 40 [l0, l1, some (.int x), l3, l4, l5, l6, l7, l8] S sh mi mj mr = zRun 124 41 [l0, l1, some (.int x), l3, l4, l5, l6, l7, l8] (.int x :: S) sh mi mj mr := zr_l (zD_of zk_124 d_124_40 rfl rfl) rfl rfl rfl
theorem q_124_41  : zRun 124 41 L S sh mi mj mr = zRun 124 42 L (.int 1 :: S) sh mi mj mr := zr_p (zD_of zk_124 d_124_41 rfl rfl) rfl
theorem q_124_42  {x0 x1 x2 : Int32} (hS : zcat S ≤ 8) (h : zIs sh o 0 7) : zRun 124 42 L (.int x2 :: .int x1 :: .int x0 :: .ref o :: S) sh mi mj mr = (zCall 99 [.ref o, .int x0, .int x1, .int x2] sh mi mj mr).bind fun r => zRun 124 45 L (r.1.toList ++ S) r.2.1 r.2.2.1 r.2.2.2.1 r.2.2.2.2 := zr_V (zD_of zk_124 d_124_42 rfl rfl) rfl zk_99 rfl rfl rfl hS h
theorem q_124_45 : zRun 124 45 [l0, l1, l2, some (.int x), l4, l5, l6, l7, l8] S sh mi mj mr = zRun 124 46 [l0, l1, l2, some (.int x), l4, l5, l6, l7, l8] (.int x :: S) sh mi mj mr := zr_l (zD_of zk_124 d_124_45 rfl rfl) rfl rfl rfl
theorem q_124_46  : zRun 124 46 L (.int x :: S) sh mi mj mr = if x = 0 then zRun 124 53 L S sh mi mj mr else zRun 124 49 L S sh mi mj mr := zr_if (off := 7) (P := x = 0) (zD_of zk_124 d_124_46 rfl rfl) rfl rfl (by decide)
theorem q_124_49  : zRun 124 49 L S sh mi mj mr = zRun 124 50 L (.int 1 :: S) sh mi mj mr := zr_p (zD_of zk_124 d_124_49 rfl rfl) rfl
theorem q_124_50  : zRun 124 50 L S sh mi mj mr = zRun 124 54 L S sh mi mj mr := zr_go (off := 4) (zD_of zk_124 d_124_50 rfl rfl) rfl rfl (by decide)
theorem q_124_53  : zRun 124 53 L S sh mi mj mr = zRun 124 54 L (.int 0 :: S) sh mi mj mr := zr_p (zD_of zk_124 d_124_53 rfl rfl) rfl
theorem q_124_54  : zRun 124 54 L (.int y :: .int x :: S) sh mi mj mr = if x = y then zRun 124 59 L S sh mi mj mr else zRun 124 57 L S sh mi mj mr := zr_if (off := 5) (P := x = y) (zD_of zk_124 d_124_54 rfl rfl) rfl rfl (by decide)
theorem q_124_57  : zRun 124 57 L S sh mi mj mr = zRun 124 58 L (.int 0 :: S) sh mi mj mr := zr_p (zD_of zk_124 d_124_57 rfl rfl) rfl
theorem q_124_58 (h : x = 0 ∨ x = 1) : zRun 124 58 L ([.int x]) sh mi mj mr = some (some (.int x), sh, mi, mj, mr) := zr_ret (zD_of zk_124 d_124_58 rfl rfl) rfl rfl rfl rfl rfl (if_pos (zna_b h))
theorem q_124_59r : zRun 124 59 [some (.ref o), l1, l2, l3, l4, l5, l6, l7, l8] S sh mi mj mr = zRun 124 60 [some (.ref o), l1, l2, l3, l4, l5, l6, l7, l8] (.ref o :: S) sh mi mj mr := zr_l (zD_of zk_124 d_124_59 rfl rfl) rfl rfl rfl
theorem q_124_59n : zRun 124 59 [some (.null), l1, l2, l3, l4, l5, l6, l7, l8] S sh mi mj mr = zRun 124 60 [some (.null), l1, l2, l3, l4, l5, l6, l7, l8] (.null :: S) sh mi mj mr := zr_l (zD_of zk_124 d_124_59 rfl rfl) rfl rfl rfl
theorem q_124_60 : zRun 124 60 [l0, l1, some (.int x), l3, l4, l5, l6, l7, l8] S sh mi mj mr = zRun 124 61 [l0, l1, some (.int x), l3, l4, l5, l6, l7, l8] (.int x :: S) sh mi mj mr := zr_l (zD_of zk_124 d_124_60 rfl rfl) rfl rfl rfl
theorem q_124_61  : zRun 124 61 L S sh mi mj mr = zRun 124 62 L (.int 0 :: S) sh mi mj mr := zr_p (zD_of zk_124 d_124_61 rfl rfl) rfl
theorem q_124_62  {x0 x1 : Int32} (hS : zcat S ≤ 8) (h : zIs sh o 0 7) : zRun 124 62 L (.int x1 :: .int x0 :: .ref o :: S) sh mi mj mr = (zCall 80 [.ref o, .int x0, .int x1] sh mi mj mr).bind fun r => zRun 124 65 L (r.1.toList ++ S) r.2.1 r.2.2.1 r.2.2.2.1 r.2.2.2.2 := zr_V (zD_of zk_124 d_124_62 rfl rfl) rfl zk_80 rfl rfl rfl hS h
theorem q_124_65  : zRun 124 65 L S sh mi mj mr = zRun 124 67 L (.int 1000000 :: S) sh mi mj mr := zr_k32 (zD_of zk_124 d_124_65 rfl rfl) (by first | exact Or.inl rfl | exact Or.inr rfl) rfl
theorem q_124_67  : zRun 124 67 L (.int y :: .int x :: S) sh mi mj mr = zRun 124 68 L (.int (x - y) :: S) sh mi mj mr := zr_p (zD_of zk_124 d_124_67 rfl rfl) rfl
theorem q_124_68 : zRun 124 68 [l0, l1, l2, l3, l4, l5, l6, l7, l8] (.int x :: S) sh mi mj mr = zRun 124 70 [l0, l1, l2, zk2 l3, some (.int x), l5, l6, l7, l8] S sh mi mj mr := zr_s1 (i := 4) (v := .int x) (L := [l0, l1, l2, l3, l4, l5, l6, l7, l8]) (zD_of zk_124 d_124_68 rfl rfl) rfl rfl rfl rfl
theorem q_124_70r : zRun 124 70 [some (.ref o), l1, l2, l3, l4, l5, l6, l7, l8] S sh mi mj mr = zRun 124 71 [some (.ref o), l1, l2, l3, l4, l5, l6, l7, l8] (.ref o :: S) sh mi mj mr := zr_l (zD_of zk_124 d_124_70 rfl rfl) rfl rfl rfl
theorem q_124_70n : zRun 124 70 [some (.null), l1, l2, l3, l4, l5, l6, l7, l8] S sh mi mj mr = zRun 124 71 [some (.null), l1, l2, l3, l4, l5, l6, l7, l8] (.null :: S) sh mi mj mr := zr_l (zD_of zk_124 d_124_70 rfl rfl) rfl rfl rfl
theorem q_124_71 : zRun 124 71 [l0, l1, some (.int x), l3, l4, l5, l6, l7, l8] S sh mi mj mr = zRun 124 72 [l0, l1, some (.int x), l3, l4, l5, l6, l7, l8] (.int x :: S) sh mi mj mr := zr_l (zD_of zk_124 d_124_71 rfl rfl) rfl rfl rfl
theorem q_124_72  : zRun 124 72 L S sh mi mj mr = zRun 124 73 L (.int 1 :: S) sh mi mj mr := zr_p (zD_of zk_124 d_124_72 rfl rfl) rfl
theorem q_124_73  {x0 x1 : Int32} (hS : zcat S ≤ 8) (h : zIs sh o 0 7) : zRun 124 73 L (.int x1 :: .int x0 :: .ref o :: S) sh mi mj mr = (zCall 80 [.ref o, .int x0, .int x1] sh mi mj mr).bind fun r => zRun 124 76 L (r.1.toList ++ S) r.2.1 r.2.2.1 r.2.2.2.1 r.2.2.2.2 := zr_V (zD_of zk_124 d_124_73 rfl rfl) rfl zk_80 rfl rfl rfl hS h
theorem q_124_76  : zRun 124 76 L S sh mi mj mr = zRun 124 78 L (.int 1000000 :: S) sh mi mj mr := zr_k32 (zD_of zk_124 d_124_76 rfl rfl) (by first | exact Or.inl rfl | exact Or.inr rfl) rfl
theorem q_124_78  : zRun 124 78 L (.int y :: .int x :: S) sh mi mj mr = zRun 124 79 L (.int (x - y) :: S) sh mi mj mr := zr_p (zD_of zk_124 d_124_78 rfl rfl) rfl
theorem q_124_79 : zRun 124 79 [l0, l1, l2, l3, some (.int x), l5, l6, l7, l8] S sh mi mj mr = zRun 124 81 [l0, l1, l2, l3, some (.int x), l5, l6, l7, l8] (.int x :: S) sh mi mj mr := zr_l (zD_of zk_124 d_124_79 rfl rfl) rfl rfl rfl
theorem q_124_81  : zRun 124 81 L (.int y :: .int x :: S) sh mi mj mr = zRun 124 82 L (.int (x - y) :: S) sh mi mj mr := zr_p (zD_of zk_124 d_124_81 rfl rfl) rfl
theorem q_124_82 : zRun 124 82 [l0, l1, l2, l3, l4, l5, l6, l7, l8] (.int x :: S) sh mi mj mr = zRun 124 84 [l0, l1, l2, l3, zk2 l4, some (.int x), l6, l7, l8] S sh mi mj mr := zr_s1 (i := 5) (v := .int x) (L := [l0, l1, l2, l3, l4, l5, l6, l7, l8]) (zD_of zk_124 d_124_82 rfl rfl) rfl rfl rfl rfl
theorem q_124_84r : zRun 124 84 [some (.ref o), l1, l2, l3, l4, l5, l6, l7, l8] S sh mi mj mr = zRun 124 85 [some (.ref o), l1, l2, l3, l4, l5, l6, l7, l8] (.ref o :: S) sh mi mj mr := zr_l (zD_of zk_124 d_124_84 rfl rfl) rfl rfl rfl
theorem q_124_84n : zRun 124 84 [some (.null), l1, l2, l3, l4, l5, l6, l7, l8] S sh mi mj mr = zRun 124 85 [some (.null), l1, l2, l3, l4, l5, l6, l7, l8] (.null :: S) sh mi mj mr := zr_l (zD_of zk_124 d_124_84 rfl rfl) rfl rfl rfl
theorem q_124_85 : zRun 124 85 [l0, some (.int x), l2, l3, l4, l5, l6, l7, l8] S sh mi mj mr = zRun 124 86 [l0, some (.int x), l2, l3, l4, l5, l6, l7, l8] (.int x :: S) sh mi mj mr := zr_l (zD_of zk_124 d_124_85 rfl rfl) rfl rfl rfl
theorem q_124_86 : zRun 124 86 [l0, l1, some (.int x), l3, l4, l5, l6, l7, l8] S sh mi mj mr = zRun 124 87 [l0, l1, some (.int x), l3, l4, l5, l6, l7, l8] (.int x :: S) sh mi mj mr := zr_l (zD_of zk_124 d_124_86 rfl rfl) rfl rfl rfl
theorem q_124_87  : zRun 124 87 L S sh mi mj mr = zRun 124 88 L (.int 4 :: S) sh mi mj mr := zr_p (zD_of zk_124 d_124_87 rfl rfl) rfl
theorem q_124_88  {x0 x1 x2 : Int32} (hS : zcat S ≤ 8) (h : zIs sh o 0 7) : zRun 124 88 L (.int x2 :: .int x1 :: .int x0 :: .ref o :: S) sh mi mj mr = (zCall 99 [.ref o, .int x0, .int x1, .int x2] sh mi mj mr).bind fun r => zRun 124 91 L (r.1.toList ++ S) r.2.1 r.2.2.1 r.2.2.2.1 r.2.2.2.2 := zr_V (zD_of zk_124 d_124_88 rfl rfl) rfl zk_99 rfl rfl rfl hS h
theorem q_124_91 : zRun 124 91 [l0, l1, l2, l3, l4, l5, l6, l7, l8] (.int x :: S) sh mi mj mr = zRun 124 93 [l0, l1, l2, l3, l4, zk2 l5, some (.int x), l7, l8] S sh mi mj mr := zr_s1 (i := 6) (v := .int x) (L := [l0, l1, l2, l3, l4, l5, l6, l7, l8]) (zD_of zk_124 d_124_91 rfl rfl) rfl rfl rfl rfl
theorem q_124_93r : zRun 124 93 [some (.ref o), l1, l2, l3, l4, l5, l6, l7, l8] S sh mi mj mr = zRun 124 94 [some (.ref o), l1, l2, l3, l4, l5, l6, l7, l8] (.ref o :: S) sh mi mj mr := zr_l (zD_of zk_124 d_124_93 rfl rfl) rfl rfl rfl
theorem q_124_93n : zRun 124 93 [some (.null), l1, l2, l3, l4, l5, l6, l7, l8] S sh mi mj mr = zRun 124 94 [some (.null), l1, l2, l3, l4, l5, l6, l7, l8] (.null :: S) sh mi mj mr := zr_l (zD_of zk_124 d_124_93 rfl rfl) rfl rfl rfl
theorem q_124_94  : zRun 124 94 L S sh mi mj mr = zRun 124 95 L (.int 0 :: S) sh mi mj mr := zr_p (zD_of zk_124 d_124_94 rfl rfl) rfl
theorem q_124_95  {x0 : Int32} (hS : zcat S ≤ 8) (h : zIs sh o 0 7) : zRun 124 95 L (.int x0 :: .ref o :: S) sh mi mj mr = (zCall 101 [.ref o, .int x0] sh mi mj mr).bind fun r => zRun 124 98 L (r.1.toList ++ S) r.2.1 r.2.2.1 r.2.2.2.1 r.2.2.2.2 := zr_V (zD_of zk_124 d_124_95 rfl rfl) rfl zk_101 rfl rfl rfl hS h
theorem q_124_98  : zRun 124 98 L (.int x :: S) sh mi mj mr = zRun 124 99 L S sh mi mj mr := zr_p (zD_of zk_124 d_124_98 rfl rfl) rfl
theorem q_124_99  : zRun 124 99 L S sh mi mj mr = zRun 124 100 L (.int 0 :: S) sh mi mj mr := zr_p (zD_of zk_124 d_124_99 rfl rfl) rfl
theorem q_124_100 : zRun 124 100 [l0, l1, l2, l3, l4, l5, l6, l7, l8] (.int x :: S) sh mi mj mr = zRun 124 102 [l0, l1, l2, l3, l4, l5, zk2 l6, some (.int x), l8] S sh mi mj mr := zr_s1 (i := 7) (v := .int x) (L := [l0, l1, l2, l3, l4, l5, l6, l7, l8]) (zD_of zk_124 d_124_100 rfl rfl) rfl rfl rfl rfl
theorem q_124_102 : zRun 124 102 [l0, l1, l2, l3, l4, l5, l6, some (.int x), l8] S sh mi mj mr = zRun 124 104 [l0, l1, l2, l3, l4, l5, l6, some (.int x), l8] (.int x :: S) sh mi mj mr := zr_l (zD_of zk_124 d_124_102 rfl rfl) rfl rfl rfl
theorem q_124_104  : zRun 124 104 L S sh mi mj mr = zRun 124 105 L (.int 4 :: S) sh mi mj mr := zr_p (zD_of zk_124 d_124_104 rfl rfl) rfl
theorem q_124_105  : zRun 124 105 L (.int y :: .int x :: S) sh mi mj mr = if y ≤ x then zRun 124 204 L S sh mi mj mr else zRun 124 108 L S sh mi mj mr := zr_if (off := 99) (P := y ≤ x) (zD_of zk_124 d_124_105 rfl rfl) rfl rfl (by decide)
theorem q_124_108r : zRun 124 108 [some (.ref o), l1, l2, l3, l4, l5, l6, l7, l8] S sh mi mj mr = zRun 124 109 [some (.ref o), l1, l2, l3, l4, l5, l6, l7, l8] (.ref o :: S) sh mi mj mr := zr_l (zD_of zk_124 d_124_108 rfl rfl) rfl rfl rfl
theorem q_124_108n : zRun 124 108 [some (.null), l1, l2, l3, l4, l5, l6, l7, l8] S sh mi mj mr = zRun 124 109 [some (.null), l1, l2, l3, l4, l5, l6, l7, l8] (.null :: S) sh mi mj mr := zr_l (zD_of zk_124 d_124_108 rfl rfl) rfl rfl rfl
theorem q_124_109 : zRun 124 109 [l0, l1, some (.int x), l3, l4, l5, l6, l7, l8] S sh mi mj mr = zRun 124 110 [l0, l1, some (.int x), l3, l4, l5, l6, l7, l8] (.int x :: S) sh mi mj mr := zr_l (zD_of zk_124 d_124_109 rfl rfl) rfl rfl rfl
theorem q_124_110 : zRun 124 110 [l0, l1, l2, l3, some (.int x), l5, l6, l7, l8] S sh mi mj mr = zRun 124 112 [l0, l1, l2, l3, some (.int x), l5, l6, l7, l8] (.int x :: S) sh mi mj mr := zr_l (zD_of zk_124 d_124_110 rfl rfl) rfl rfl rfl
theorem q_124_112 : zRun 124 112 [l0, l1, l2, l3, l4, some (.int x), l6, l7, l8] S sh mi mj mr = zRun 124 114 [l0, l1, l2, l3, l4, some (.int x), l6, l7, l8] (.int x :: S) sh mi mj mr := zr_l (zD_of zk_124 d_124_112 rfl rfl) rfl rfl rfl
theorem q_124_114 : zRun 124 114 [l0, l1, l2, l3, l4, l5, l6, some (.int x), l8] S sh mi mj mr = zRun 124 116 [l0, l1, l2, l3, l4, l5, l6, some (.int x), l8] (.int x :: S) sh mi mj mr := zr_l (zD_of zk_124 d_124_114 rfl rfl) rfl rfl rfl
theorem q_124_116  : zRun 124 116 L (.int y :: .int x :: S) sh mi mj mr = zRun 124 117 L (.int (x * y) :: S) sh mi mj mr := zr_p (zD_of zk_124 d_124_116 rfl rfl) rfl
theorem q_124_117  : zRun 124 117 L S sh mi mj mr = zRun 124 118 L (.int 4 :: S) sh mi mj mr := zr_p (zD_of zk_124 d_124_117 rfl rfl) rfl
theorem q_124_118 (h : ¬ y = 0) : zRun 124 118 L (.int y :: .int x :: S) sh mi mj mr = zRun 124 119 L (.int (x / y) :: S) sh mi mj mr := zr_p (zD_of zk_124 d_124_118 rfl rfl) (if_neg h)
theorem q_124_119  : zRun 124 119 L (.int y :: .int x :: S) sh mi mj mr = zRun 124 120 L (.int (x + y) :: S) sh mi mj mr := zr_p (zD_of zk_124 d_124_119 rfl rfl) rfl
theorem q_124_120 : zRun 124 120 [l0, l1, l2, l3, some (.int x), l5, l6, l7, l8] S sh mi mj mr = zRun 124 122 [l0, l1, l2, l3, some (.int x), l5, l6, l7, l8] (.int x :: S) sh mi mj mr := zr_l (zD_of zk_124 d_124_120 rfl rfl) rfl rfl rfl
theorem q_124_122 : zRun 124 122 [l0, l1, l2, l3, l4, some (.int x), l6, l7, l8] S sh mi mj mr = zRun 124 124 [l0, l1, l2, l3, l4, some (.int x), l6, l7, l8] (.int x :: S) sh mi mj mr := zr_l (zD_of zk_124 d_124_122 rfl rfl) rfl rfl rfl
theorem q_124_124 : zRun 124 124 [l0, l1, l2, l3, l4, l5, l6, some (.int x), l8] S sh mi mj mr = zRun 124 126 [l0, l1, l2, l3, l4, l5, l6, some (.int x), l8] (.int x :: S) sh mi mj mr := zr_l (zD_of zk_124 d_124_124 rfl rfl) rfl rfl rfl
theorem q_124_126  : zRun 124 126 L S sh mi mj mr = zRun 124 127 L (.int 1 :: S) sh mi mj mr := zr_p (zD_of zk_124 d_124_126 rfl rfl) rfl
theorem q_124_127  : zRun 124 127 L (.int y :: .int x :: S) sh mi mj mr = zRun 124 128 L (.int (x + y) :: S) sh mi mj mr := zr_p (zD_of zk_124 d_124_127 rfl rfl) rfl
theorem q_124_128  : zRun 124 128 L (.int y :: .int x :: S) sh mi mj mr = zRun 124 129 L (.int (x * y) :: S) sh mi mj mr := zr_p (zD_of zk_124 d_124_128 rfl rfl) rfl
theorem q_124_129  : zRun 124 129 L S sh mi mj mr = zRun 124 130 L (.int 4 :: S) sh mi mj mr := zr_p (zD_of zk_124 d_124_129 rfl rfl) rfl
theorem q_124_130 (h : ¬ y = 0) : zRun 124 130 L (.int y :: .int x :: S) sh mi mj mr = zRun 124 131 L (.int (x / y) :: S) sh mi mj mr := zr_p (zD_of zk_124 d_124_130 rfl rfl) (if_neg h)
theorem q_124_131  : zRun 124 131 L (.int y :: .int x :: S) sh mi mj mr = zRun 124 132 L (.int (x + y) :: S) sh mi mj mr := zr_p (zD_of zk_124 d_124_131 rfl rfl) rfl
theorem q_124_132  {x0 x1 x2 : Int32} (hS : zcat S ≤ 8) (h : zIs sh o 0 7) : zRun 124 132 L (.int x2 :: .int x1 :: .int x0 :: .ref o :: S) sh mi mj mr = (zCall 79 [.ref o, .int x0, .int x1, .int x2] sh mi mj mr).bind fun r => zRun 124 135 L (r.1.toList ++ S) r.2.1 r.2.2.1 r.2.2.2.1 r.2.2.2.2 := zr_V (zD_of zk_124 d_124_132 rfl rfl) rfl zk_79 rfl rfl rfl hS h
theorem q_124_135  : zRun 124 135 L (.int x :: S) sh mi mj mr = zRun 124 136 L S sh mi mj mr := zr_p (zD_of zk_124 d_124_135 rfl rfl) rfl
theorem q_124_136r : zRun 124 136 [some (.ref o), l1, l2, l3, l4, l5, l6, l7, l8] S sh mi mj mr = zRun 124 137 [some (.ref o), l1, l2, l3, l4, l5, l6, l7, l8] (.ref o :: S) sh mi mj mr := zr_l (zD_of zk_124 d_124_136 rfl rfl) rfl rfl rfl
theorem q_124_136n : zRun 124 136 [some (.null), l1, l2, l3, l4, l5, l6, l7, l8] S sh mi mj mr = zRun 124 137 [some (.null), l1, l2, l3, l4, l5, l6, l7, l8] (.null :: S) sh mi mj mr := zr_l (zD_of zk_124 d_124_136 rfl rfl) rfl rfl rfl
theorem q_124_137 : zRun 124 137 [l0, some (.int x), l2, l3, l4, l5, l6, l7, l8] S sh mi mj mr = zRun 124 138 [l0, some (.int x), l2, l3, l4, l5, l6, l7, l8] (.int x :: S) sh mi mj mr := zr_l (zD_of zk_124 d_124_137 rfl rfl) rfl rfl rfl
theorem q_124_138  {x0 : Int32} (hS : zcat S ≤ 8) (h : zIs sh o 0 7) : zRun 124 138 L (.int x0 :: .ref o :: S) sh mi mj mr = (zCall 88 [.ref o, .int x0] sh mi mj mr).bind fun r => zRun 124 141 L (r.1.toList ++ S) r.2.1 r.2.2.1 r.2.2.2.1 r.2.2.2.2 := zr_V (zD_of zk_124 d_124_138 rfl rfl) rfl zk_88 rfl rfl rfl hS h
theorem q_124_141  : zRun 124 141 L (.int x :: S) sh mi mj mr = if 0 < x then zRun 124 168 L S sh mi mj mr else zRun 124 144 L S sh mi mj mr := zr_if (off := 27) (P := 0 < x) (zD_of zk_124 d_124_141 rfl rfl) rfl rfl (by decide)
theorem q_124_144r : zRun 124 144 [some (.ref o), l1, l2, l3, l4, l5, l6, l7, l8] S sh mi mj mr = zRun 124 145 [some (.ref o), l1, l2, l3, l4, l5, l6, l7, l8] (.ref o :: S) sh mi mj mr := zr_l (zD_of zk_124 d_124_144 rfl rfl) rfl rfl rfl
theorem q_124_144n : zRun 124 144 [some (.null), l1, l2, l3, l4, l5, l6, l7, l8] S sh mi mj mr = zRun 124 145 [some (.null), l1, l2, l3, l4, l5, l6, l7, l8] (.null :: S) sh mi mj mr := zr_l (zD_of zk_124 d_124_144 rfl rfl) rfl rfl rfl
theorem q_124_145 : zRun 124 145 [l0, some (.int x), l2, l3, l4, l5, l6, l7, l8] S sh mi mj mr = zRun 124 146 [l0, some (.int x), l2, l3, l4, l5, l6, l7, l8] (.int x :: S) sh mi mj mr := zr_l (zD_of zk_124 d_124_145 rfl rfl) rfl rfl rfl
theorem q_124_146  : zRun 124 146 L S sh mi mj mr = zRun 124 147 L (.int 2 :: S) sh mi mj mr := zr_p (zD_of zk_124 d_124_146 rfl rfl) rfl
theorem q_124_147  : zRun 124 147 L S sh mi mj mr = zRun 124 148 L (.int 0 :: S) sh mi mj mr := zr_p (zD_of zk_124 d_124_147 rfl rfl) rfl
theorem q_124_148  {x0 x1 x2 : Int32} (hS : zcat S ≤ 8) (h : zIs sh o 0 7) : zRun 124 148 L (.int x2 :: .int x1 :: .int x0 :: .ref o :: S) sh mi mj mr = (zCall 89 [.ref o, .int x0, .int x1, .int x2] sh mi mj mr).bind fun r => zRun 124 151 L (r.1.toList ++ S) r.2.1 r.2.2.1 r.2.2.2.1 r.2.2.2.2 := zr_V (zD_of zk_124 d_124_148 rfl rfl) rfl zk_89 rfl rfl rfl hS h
theorem q_124_151  : zRun 124 151 L S sh mi mj mr = zRun 124 152 L (.long 0 :: S) sh mi mj mr := zr_p (zD_of zk_124 d_124_151 rfl rfl) rfl
theorem q_124_152  : zRun 124 152 L (.long v :: .long u :: S) sh mi mj mr = if v < u then zRun 124 172 L S sh mi mj mr else zRun 124 156 L S sh mi mj mr := zr_cmp (off := 19) (zD_of zk_124 d_124_152 rfl rfl) (zD_of zk_124 d_124_153 rfl rfl) rfl rfl (by decide) (lg_cmp_gt u v)
theorem q_124_153  : zRun 124 153 L (.int x :: S) sh mi mj mr = if 0 < x then zRun 124 172 L S sh mi mj mr else zRun 124 156 L S sh mi mj mr := zr_if (off := 19) (P := 0 < x) (zD_of zk_124 d_124_153 rfl rfl) rfl rfl (by decide)
theorem q_124_156r : zRun 124 156 [some (.ref o), l1, l2, l3, l4, l5, l6, l7, l8] S sh mi mj mr = zRun 124 157 [some (.ref o), l1, l2, l3, l4, l5, l6, l7, l8] (.ref o :: S) sh mi mj mr := zr_l (zD_of zk_124 d_124_156 rfl rfl) rfl rfl rfl
theorem q_124_156n : zRun 124 156 [some (.null), l1, l2, l3, l4, l5, l6, l7, l8] S sh mi mj mr = zRun 124 157 [some (.null), l1, l2, l3, l4, l5, l6, l7, l8] (.null :: S) sh mi mj mr := zr_l (zD_of zk_124 d_124_156 rfl rfl) rfl rfl rfl
theorem q_124_157 : zRun 124 157 [l0, some (.int x), l2, l3, l4, l5, l6, l7, l8] S sh mi mj mr = zRun 124 158 [l0, some (.int x), l2, l3, l4, l5, l6, l7, l8] (.int x :: S) sh mi mj mr := zr_l (zD_of zk_124 d_124_157 rfl rfl) rfl rfl rfl
theorem q_124_158  : zRun 124 158 L S sh mi mj mr = zRun 124 159 L (.int 2 :: S) sh mi mj mr := zr_p (zD_of zk_124 d_124_158 rfl rfl) rfl
theorem q_124_159  : zRun 124 159 L S sh mi mj mr = zRun 124 160 L (.int 1 :: S) sh mi mj mr := zr_p (zD_of zk_124 d_124_159 rfl rfl) rfl
theorem q_124_160  {x0 x1 x2 : Int32} (hS : zcat S ≤ 8) (h : zIs sh o 0 7) : zRun 124 160 L (.int x2 :: .int x1 :: .int x0 :: .ref o :: S) sh mi mj mr = (zCall 89 [.ref o, .int x0, .int x1, .int x2] sh mi mj mr).bind fun r => zRun 124 163 L (r.1.toList ++ S) r.2.1 r.2.2.1 r.2.2.2.1 r.2.2.2.2 := zr_V (zD_of zk_124 d_124_160 rfl rfl) rfl zk_89 rfl rfl rfl hS h
theorem q_124_163  : zRun 124 163 L S sh mi mj mr = zRun 124 164 L (.long 0 :: S) sh mi mj mr := zr_p (zD_of zk_124 d_124_163 rfl rfl) rfl
theorem q_124_164  : zRun 124 164 L (.long v :: .long u :: S) sh mi mj mr = if u < v then zRun 124 172 L S sh mi mj mr else zRun 124 168 L S sh mi mj mr := zr_cmp (off := 7) (zD_of zk_124 d_124_164 rfl rfl) (zD_of zk_124 d_124_165 rfl rfl) rfl rfl (by decide) (lg_cmp_lt u v)
theorem q_124_165  : zRun 124 165 L (.int x :: S) sh mi mj mr = if x < 0 then zRun 124 172 L S sh mi mj mr else zRun 124 168 L S sh mi mj mr := zr_if (off := 7) (P := x < 0) (zD_of zk_124 d_124_165 rfl rfl) rfl rfl (by decide)
theorem q_124_168  : zRun 124 168 L S sh mi mj mr = zRun 124 169 L (.int 1 :: S) sh mi mj mr := zr_p (zD_of zk_124 d_124_168 rfl rfl) rfl
theorem q_124_169  : zRun 124 169 L S sh mi mj mr = zRun 124 173 L S sh mi mj mr := zr_go (off := 4) (zD_of zk_124 d_124_169 rfl rfl) rfl rfl (by decide)
theorem q_124_172  : zRun 124 172 L S sh mi mj mr = zRun 124 173 L (.int 0 :: S) sh mi mj mr := zr_p (zD_of zk_124 d_124_172 rfl rfl) rfl
theorem q_124_173 : zRun 124 173 [l0, l1, l2, l3, l4, l5, l6, l7, l8] (.int x :: S) sh mi mj mr = zRun 124 175 [l0, l1, l2, l3, l4, l5, l6, zk2 l7, some (.int x)] S sh mi mj mr := zr_s1 (i := 8) (v := .int x) (L := [l0, l1, l2, l3, l4, l5, l6, l7, l8]) (zD_of zk_124 d_124_173 rfl rfl) rfl rfl rfl rfl
theorem q_124_175 : zRun 124 175 [l0, l1, l2, l3, l4, l5, l6, l7, some (.int x)] S sh mi mj mr = zRun 124 177 [l0, l1, l2, l3, l4, l5, l6, l7, some (.int x)] (.int x :: S) sh mi mj mr := zr_l (zD_of zk_124 d_124_175 rfl rfl) rfl rfl rfl
theorem q_124_177 : zRun 124 177 [l0, l1, l2, l3, l4, l5, some (.int x), l7, l8] S sh mi mj mr = zRun 124 179 [l0, l1, l2, l3, l4, l5, some (.int x), l7, l8] (.int x :: S) sh mi mj mr := zr_l (zD_of zk_124 d_124_177 rfl rfl) rfl rfl rfl
theorem q_124_179 : zRun 124 179 [l0, l1, l2, l3, l4, l5, l6, some (.int x), l8] S sh mi mj mr = zRun 124 181 [l0, l1, l2, l3, l4, l5, l6, some (.int x), l8] (.int x :: S) sh mi mj mr := zr_l (zD_of zk_124 d_124_179 rfl rfl) rfl rfl rfl
theorem q_124_181  : zRun 124 181 L (.int y :: .int x :: S) sh mi mj mr = zRun 124 182 L (.int (x >>> (y &&& 31)) :: S) sh mi mj mr := zr_p (zD_of zk_124 d_124_181 rfl rfl) rfl
theorem q_124_182  : zRun 124 182 L S sh mi mj mr = zRun 124 183 L (.int 1 :: S) sh mi mj mr := zr_p (zD_of zk_124 d_124_182 rfl rfl) rfl
theorem q_124_183  : zRun 124 183 L (.int y :: .int x :: S) sh mi mj mr = zRun 124 184 L (.int (x &&& y) :: S) sh mi mj mr := zr_p (zD_of zk_124 d_124_183 rfl rfl) rfl
theorem q_124_184  : zRun 124 184 L S sh mi mj mr = zRun 124 185 L (.int 1 :: S) sh mi mj mr := zr_p (zD_of zk_124 d_124_184 rfl rfl) rfl
theorem q_124_185  : zRun 124 185 L (.int y :: .int x :: S) sh mi mj mr = if ¬ x = y then zRun 124 192 L S sh mi mj mr else zRun 124 188 L S sh mi mj mr := zr_if (off := 7) (P := ¬ x = y) (zD_of zk_124 d_124_185 rfl rfl) rfl rfl (by decide)
theorem q_124_188  : zRun 124 188 L S sh mi mj mr = zRun 124 189 L (.int 1 :: S) sh mi mj mr := zr_p (zD_of zk_124 d_124_188 rfl rfl) rfl
theorem q_124_189  : zRun 124 189 L S sh mi mj mr = zRun 124 193 L S sh mi mj mr := zr_go (off := 4) (zD_of zk_124 d_124_189 rfl rfl) rfl rfl (by decide)
theorem q_124_192  : zRun 124 192 L S sh mi mj mr = zRun 124 193 L (.int 0 :: S) sh mi mj mr := zr_p (zD_of zk_124 d_124_192 rfl rfl) rfl
theorem q_124_193  : zRun 124 193 L (.int y :: .int x :: S) sh mi mj mr = if x = y then zRun 124 198 L S sh mi mj mr else zRun 124 196 L S sh mi mj mr := zr_if (off := 5) (P := x = y) (zD_of zk_124 d_124_193 rfl rfl) rfl rfl (by decide)
theorem q_124_196  : zRun 124 196 L S sh mi mj mr = zRun 124 197 L (.int 0 :: S) sh mi mj mr := zr_p (zD_of zk_124 d_124_196 rfl rfl) rfl
theorem q_124_197 (h : x = 0 ∨ x = 1) : zRun 124 197 L ([.int x]) sh mi mj mr = some (some (.int x), sh, mi, mj, mr) := zr_ret (zD_of zk_124 d_124_197 rfl rfl) rfl rfl rfl rfl rfl (if_pos (zna_b h))
theorem q_124_198  : zRun 124 198 [l0, l1, l2, l3, l4, l5, l6, some (.int x), l8] S sh mi mj mr = zRun 124 201 [l0, l1, l2, l3, l4, l5, zk2 l6, some (.int (x + 1)), l8] S sh mi mj mr := zr_s1 (i := 7) (v := .int (x + 1)) (L := [l0, l1, l2, l3, l4, l5, l6, some (.int x), l8]) (zD_of zk_124 d_124_198 rfl rfl) rfl rfl rfl rfl
theorem q_124_201  : zRun 124 201 L S sh mi mj mr = zRun 124 102 L S sh mi mj mr := zr_go (off := (-99)) (zD_of zk_124 d_124_201 rfl rfl) rfl rfl (by decide)
theorem q_124_204r : zRun 124 204 [some (.ref o), l1, l2, l3, l4, l5, l6, l7, l8] S sh mi mj mr = zRun 124 205 [some (.ref o), l1, l2, l3, l4, l5, l6, l7, l8] (.ref o :: S) sh mi mj mr := zr_l (zD_of zk_124 d_124_204 rfl rfl) rfl rfl rfl
theorem q_124_204n : zRun 124 204 [some (.null), l1, l2, l3, l4, l5, l6, l7, l8] S sh mi mj mr = zRun 124 205 [some (.null), l1, l2, l3, l4, l5, l6, l7, l8] (.null :: S) sh mi mj mr := zr_l (zD_of zk_124 d_124_204 rfl rfl) rfl rfl rfl
theorem q_124_205  : zRun 124 205 L S sh mi mj mr = zRun 124 206 L (.int 0 :: S) sh mi mj mr := zr_p (zD_of zk_124 d_124_205 rfl rfl) rfl
theorem q_124_206  {x0 : Int32} (hS : zcat S ≤ 8) (h : zIs sh o 0 7) : zRun 124 206 L (.int x0 :: .ref o :: S) sh mi mj mr = (zCall 102 [.ref o, .int x0] sh mi mj mr).bind fun r => zRun 124 209 L (r.1.toList ++ S) r.2.1 r.2.2.1 r.2.2.2.1 r.2.2.2.2 := zr_V (zD_of zk_124 d_124_206 rfl rfl) rfl zk_102 rfl rfl rfl hS h
theorem q_124_209  : zRun 124 209 L (.int x :: S) sh mi mj mr = if x ≤ 0 then zRun 124 237 L S sh mi mj mr else zRun 124 212 L S sh mi mj mr := zr_if (off := 28) (P := x ≤ 0) (zD_of zk_124 d_124_209 rfl rfl) rfl rfl (by decide)
theorem q_124_212 : zRun 124 212 [l0, l1, l2, l3, l4, l5, some (.int x), l7, l8] S sh mi mj mr = zRun 124 214 [l0, l1, l2, l3, l4, l5, some (.int x), l7, l8] (.int x :: S) sh mi mj mr := zr_l (zD_of zk_124 d_124_212 rfl rfl) rfl rfl rfl
theorem q_124_214  : zRun 124 214 L S sh mi mj mr = zRun 124 216 L (.int 16 :: S) sh mi mj mr := zr_p (zD_of zk_124 d_124_214 rfl rfl) rfl
theorem q_124_216  : zRun 124 216 L (.int y :: .int x :: S) sh mi mj mr = if y ≤ x then zRun 124 237 L S sh mi mj mr else zRun 124 219 L S sh mi mj mr := zr_if (off := 21) (P := y ≤ x) (zD_of zk_124 d_124_216 rfl rfl) rfl rfl (by decide)
theorem q_124_219r : zRun 124 219 [some (.ref o), l1, l2, l3, l4, l5, l6, l7, l8] S sh mi mj mr = zRun 124 220 [some (.ref o), l1, l2, l3, l4, l5, l6, l7, l8] (.ref o :: S) sh mi mj mr := zr_l (zD_of zk_124 d_124_219 rfl rfl) rfl rfl rfl
theorem q_124_219n : zRun 124 219 [some (.null), l1, l2, l3, l4, l5, l6, l7, l8] S sh mi mj mr = zRun 124 220 [some (.null), l1, l2, l3, l4, l5, l6, l7, l8] (.null :: S) sh mi mj mr := zr_l (zD_of zk_124 d_124_219 rfl rfl) rfl rfl rfl
theorem q_124_220 : zRun 124 220 [l0, l1, some (.int x), l3, l4, l5, l6, l7, l8] S sh mi mj mr = zRun 124 221 [l0, l1, some (.int x), l3, l4, l5, l6, l7, l8] (.int x :: S) sh mi mj mr := zr_l (zD_of zk_124 d_124_220 rfl rfl) rfl rfl rfl
theorem q_124_221  : zRun 124 221 L S sh mi mj mr = zRun 124 222 L (.int 0 :: S) sh mi mj mr := zr_p (zD_of zk_124 d_124_221 rfl rfl) rfl
theorem q_124_222  {x0 x1 : Int32} (hS : zcat S ≤ 8) (h : zIs sh o 0 7) : zRun 124 222 L (.int x1 :: .int x0 :: .ref o :: S) sh mi mj mr = (zCall 80 [.ref o, .int x0, .int x1] sh mi mj mr).bind fun r => zRun 124 225 L (r.1.toList ++ S) r.2.1 r.2.2.1 r.2.2.2.1 r.2.2.2.2 := zr_V (zD_of zk_124 d_124_222 rfl rfl) rfl zk_80 rfl rfl rfl hS h
theorem q_124_225 : zRun 124 225 [l0, l1, l2, l3, some (.int x), l5, l6, l7, l8] S sh mi mj mr = zRun 124 227 [l0, l1, l2, l3, some (.int x), l5, l6, l7, l8] (.int x :: S) sh mi mj mr := zr_l (zD_of zk_124 d_124_225 rfl rfl) rfl rfl rfl
theorem q_124_227  : zRun 124 227 L S sh mi mj mr = zRun 124 229 L (.int 1000000 :: S) sh mi mj mr := zr_k32 (zD_of zk_124 d_124_227 rfl rfl) (by first | exact Or.inl rfl | exact Or.inr rfl) rfl
theorem q_124_229  : zRun 124 229 L (.int y :: .int x :: S) sh mi mj mr = zRun 124 230 L (.int (x + y) :: S) sh mi mj mr := zr_p (zD_of zk_124 d_124_229 rfl rfl) rfl
theorem q_124_230  : zRun 124 230 L (.int y :: .int x :: S) sh mi mj mr = if ¬ x = y then zRun 124 237 L S sh mi mj mr else zRun 124 233 L S sh mi mj mr := zr_if (off := 7) (P := ¬ x = y) (zD_of zk_124 d_124_230 rfl rfl) rfl rfl (by decide)
theorem q_124_233  : zRun 124 233 L S sh mi mj mr = zRun 124 234 L (.int 1 :: S) sh mi mj mr := zr_p (zD_of zk_124 d_124_233 rfl rfl) rfl
theorem q_124_234  : zRun 124 234 L S sh mi mj mr = zRun 124 238 L S sh mi mj mr := zr_go (off := 4) (zD_of zk_124 d_124_234 rfl rfl) rfl rfl (by decide)
theorem q_124_237  : zRun 124 237 L S sh mi mj mr = zRun 124 238 L (.int 0 :: S) sh mi mj mr := zr_p (zD_of zk_124 d_124_237 rfl rfl) rfl
theorem q_124_238 (h : x = 0 ∨ x = 1) : zRun 124 238 L ([.int x]) sh mi mj mr = some (some (.int x), sh, mi, mj, mr) := zr_ret (zD_of zk_124 d_124_238 rfl rfl) rfl rfl rfl rfl rfl (if_pos (zna_b h))
theorem e_124 {x0 x1 : Int32} {o0 : Nat} : zCall 124 [.ref o0, .int x0, .int x1] sh mi mj mr = zRun 124 0 [some (.ref o0), some (.int x0), some (.int x1), none, none, none, none, none, none] [] sh mi mj mr := rfl
theorem d_125_0 : decode cL_compares 0 = .ok (.aload_n 0, 1) := by decide +kernel
theorem d_125_1 : decode cL_compares 1 = .ok (.iload_n 1, 1) := by decide +kernel
theorem d_125_2 : decode cL_compares 2 = .ok (.iload_n 2, 1) := by decide +kernel
theorem d_125_3 : decode cL_compares 3 = .ok (.invokevirtual 101, 3) := by decide +kernel
theorem d_125_6 : decode cL_compares 6 = .ok (.istore_n 3, 1) := by decide +kernel
theorem d_125_7 : decode cL_compares 7 = .ok (.iload_n 3, 1) := by decide +kernel
theorem d_125_8 : decode cL_compares 8 = .ok (.ifCond .ge 15, 3) := by decide +kernel
theorem d_125_11 : decode cL_compares 11 = .ok (.iload_n 3, 1) := by decide +kernel
theorem d_125_12 : decode cL_compares 12 = .ok (.bipush (-5), 2) := by decide +kernel
theorem d_125_14 : decode cL_compares 14 = .ok (.if_icmp .ne 7, 3) := by decide +kernel
theorem d_125_17 : decode cL_compares 17 = .ok (.iconst 1, 1) := by decide +kernel
theorem d_125_18 : decode cL_compares 18 = .ok (.goto 4, 3) := by decide +kernel
theorem d_125_21 : decode cL_compares 21 = .ok (.iconst 0, 1) := by decide +kernel
theorem d_125_22 : decode cL_compares 22 = .ok (.ireturn, 1) := by decide +kernel
theorem d_125_23 : decode cL_compares 23 = .ok (.iconst 5, 1) := by decide +kernel
theorem d_125_24 : decode cL_compares 24 = .ok (.istore 4, 2) := by decide +kernel
theorem d_125_26 : decode cL_compares 26 = .ok (.iload 4, 2) := by decide +kernel
theorem d_125_28 : decode cL_compares 28 = .ok (.sipush 256, 3) := by decide +kernel
theorem d_125_31 : decode cL_compares 31 = .ok (.if_icmp .ge 119, 3) := by decide +kernel
theorem d_125_34 : decode cL_compares 34 = .ok (.aload_n 0, 1) := by decide +kernel
theorem d_125_35 : decode cL_compares 35 = .ok (.iload_n 1, 1) := by decide +kernel
theorem d_125_36 : decode cL_compares 36 = .ok (.iload 4, 2) := by decide +kernel
theorem d_125_38 : decode cL_compares 38 = .ok (.iconst 0, 1) := by decide +kernel
theorem d_125_39 : decode cL_compares 39 = .ok (.invokevirtual 119, 3) := by decide +kernel
theorem d_125_42 : decode cL_compares 42 = .ok (.lstore 5, 2) := by decide +kernel
theorem d_125_44 : decode cL_compares 44 = .ok (.aload_n 0, 1) := by decide +kernel
theorem d_125_45 : decode cL_compares 45 = .ok (.iload_n 1, 1) := by decide +kernel
theorem d_125_46 : decode cL_compares 46 = .ok (.iload 4, 2) := by decide +kernel
theorem d_125_48 : decode cL_compares 48 = .ok (.iconst 1, 1) := by decide +kernel
theorem d_125_49 : decode cL_compares 49 = .ok (.invokevirtual 119, 3) := by decide +kernel
theorem d_125_52 : decode cL_compares 52 = .ok (.lstore 7, 2) := by decide +kernel
theorem d_125_54 : decode cL_compares 54 = .ok (.aload_n 0, 1) := by decide +kernel
theorem d_125_55 : decode cL_compares 55 = .ok (.iload_n 2, 1) := by decide +kernel
theorem d_125_56 : decode cL_compares 56 = .ok (.iload 4, 2) := by decide +kernel
theorem d_125_58 : decode cL_compares 58 = .ok (.iconst 0, 1) := by decide +kernel
theorem d_125_59 : decode cL_compares 59 = .ok (.invokevirtual 119, 3) := by decide +kernel
theorem d_125_62 : decode cL_compares 62 = .ok (.lstore 9, 2) := by decide +kernel
theorem d_125_64 : decode cL_compares 64 = .ok (.aload_n 0, 1) := by decide +kernel
theorem d_125_65 : decode cL_compares 65 = .ok (.iload_n 2, 1) := by decide +kernel
theorem d_125_66 : decode cL_compares 66 = .ok (.iload 4, 2) := by decide +kernel
theorem d_125_68 : decode cL_compares 68 = .ok (.iconst 1, 1) := by decide +kernel
theorem d_125_69 : decode cL_compares 69 = .ok (.invokevirtual 119, 3) := by decide +kernel
theorem d_125_72 : decode cL_compares 72 = .ok (.lstore 11, 2) := by decide +kernel
theorem d_125_74 : decode cL_compares 74 = .ok (.lload 5, 2) := by decide +kernel
theorem d_125_76 : decode cL_compares 76 = .ok (.ldc2_w 90, 3) := by decide +kernel
theorem d_125_79 : decode cL_compares 79 = .ok (.lcmp, 1) := by decide +kernel
theorem d_125_80 : decode cL_compares 80 = .ok (.ifCond .eq 64, 3) := by decide +kernel
theorem d_125_83 : decode cL_compares 83 = .ok (.lload 9, 2) := by decide +kernel
theorem d_125_85 : decode cL_compares 85 = .ok (.ldc2_w 90, 3) := by decide +kernel
theorem d_125_88 : decode cL_compares 88 = .ok (.lcmp, 1) := by decide +kernel
theorem d_125_89 : decode cL_compares 89 = .ok (.ifCond .ne 6, 3) := by decide +kernel
theorem d_125_92 : decode cL_compares 92 = .ok (.goto 52, 3) := by decide +kernel
theorem d_125_95 : decode cL_compares 95 = .ok (.iload_n 3, 1) := by decide +kernel
theorem d_125_96 : decode cL_compares 96 = .ok (.iconst 1, 1) := by decide +kernel
theorem d_125_97 : decode cL_compares 97 = .ok (.if_icmp .ne 11, 3) := by decide +kernel
theorem d_125_100 : decode cL_compares 100 = .ok (.lload 7, 2) := by decide +kernel
theorem d_125_102 : decode cL_compares 102 = .ok (.lload 9, 2) := by decide +kernel
theorem d_125_104 : decode cL_compares 104 = .ok (.lcmp, 1) := by decide +kernel
theorem d_125_105 : decode cL_compares 105 = .ok (.ifCond .le 37, 3) := by decide +kernel
theorem d_125_108 : decode cL_compares 108 = .ok (.iload_n 3, 1) := by decide +kernel
theorem d_125_109 : decode cL_compares 109 = .ok (.iconst 2, 1) := by decide +kernel
theorem d_125_110 : decode cL_compares 110 = .ok (.if_icmp .ne 11, 3) := by decide +kernel
theorem d_125_113 : decode cL_compares 113 = .ok (.lload 5, 2) := by decide +kernel
theorem d_125_115 : decode cL_compares 115 = .ok (.lload 11, 2) := by decide +kernel
theorem d_125_117 : decode cL_compares 117 = .ok (.lcmp, 1) := by decide +kernel
theorem d_125_118 : decode cL_compares 118 = .ok (.ifCond .ge 24, 3) := by decide +kernel
theorem d_125_121 : decode cL_compares 121 = .ok (.iload_n 3, 1) := by decide +kernel
theorem d_125_122 : decode cL_compares 122 = .ok (.iconst 3, 1) := by decide +kernel
theorem d_125_123 : decode cL_compares 123 = .ok (.if_icmp .ne 21, 3) := by decide +kernel
theorem d_125_126 : decode cL_compares 126 = .ok (.lload 5, 2) := by decide +kernel
theorem d_125_128 : decode cL_compares 128 = .ok (.lload 11, 2) := by decide +kernel
theorem d_125_130 : decode cL_compares 130 = .ok (.lcmp, 1) := by decide +kernel
theorem d_125_131 : decode cL_compares 131 = .ok (.ifCond .gt 11, 3) := by decide +kernel
theorem d_125_134 : decode cL_compares 134 = .ok (.lload 7, 2) := by decide +kernel
theorem d_125_136 : decode cL_compares 136 = .ok (.lload 9, 2) := by decide +kernel
theorem d_125_138 : decode cL_compares 138 = .ok (.lcmp, 1) := by decide +kernel
theorem d_125_139 : decode cL_compares 139 = .ok (.ifCond .ge 5, 3) := by decide +kernel
theorem d_125_142 : decode cL_compares 142 = .ok (.iconst 0, 1) := by decide +kernel
theorem d_125_143 : decode cL_compares 143 = .ok (.ireturn, 1) := by decide +kernel
theorem d_125_144 : decode cL_compares 144 = .ok (.iinc 4 50, 3) := by decide +kernel
theorem d_125_147 : decode cL_compares 147 = .ok (.goto (-121), 3) := by decide +kernel
theorem d_125_150 : decode cL_compares 150 = .ok (.iload_n 3, 1) := by decide +kernel
theorem d_125_151 : decode cL_compares 151 = .ok (.ifCond .ne 14, 3) := by decide +kernel
theorem d_125_154 : decode cL_compares 154 = .ok (.aload_n 0, 1) := by decide +kernel
theorem d_125_155 : decode cL_compares 155 = .ok (.iload_n 2, 1) := by decide +kernel
theorem d_125_156 : decode cL_compares 156 = .ok (.iload_n 1, 1) := by decide +kernel
theorem d_125_157 : decode cL_compares 157 = .ok (.invokevirtual 101, 3) := by decide +kernel
theorem d_125_160 : decode cL_compares 160 = .ok (.bipush (-5), 2) := by decide +kernel
theorem d_125_162 : decode cL_compares 162 = .ok (.if_icmp .lt 7, 3) := by decide +kernel
theorem d_125_165 : decode cL_compares 165 = .ok (.iconst 1, 1) := by decide +kernel
theorem d_125_166 : decode cL_compares 166 = .ok (.goto 4, 3) := by decide +kernel
theorem d_125_169 : decode cL_compares 169 = .ok (.iconst 0, 1) := by decide +kernel
theorem d_125_170 : decode cL_compares 170 = .ok (.ireturn, 1) := by decide +kernel
theorem q_125_0r : zRun 125 0 [some (.ref o), l1, l2, l3, l4, l5, l6, l7, l8, l9, l10, l11, l12] S sh mi mj mr = zRun 125 1 [some (.ref o), l1, l2, l3, l4, l5, l6, l7, l8, l9, l10, l11, l12] (.ref o :: S) sh mi mj mr := zr_l (zD_of zk_125 d_125_0 rfl rfl) rfl rfl rfl
theorem q_125_0n : zRun 125 0 [some (.null), l1, l2, l3, l4, l5, l6, l7, l8, l9, l10, l11, l12] S sh mi mj mr = zRun 125 1 [some (.null), l1, l2, l3, l4, l5, l6, l7, l8, l9, l10, l11, l12] (.null :: S) sh mi mj mr := zr_l (zD_of zk_125 d_125_0 rfl rfl) rfl rfl rfl
theorem q_125_1 : zRun 125 1 [l0, some (.int x), l2, l3, l4, l5, l6, l7, l8, l9, l10, l11, l12] S sh mi mj mr = zRun 125 2 [l0, some (.int x), l2, l3, l4, l5, l6, l7, l8, l9, l10, l11, l12] (.int x :: S) sh mi mj mr := zr_l (zD_of zk_125 d_125_1 rfl rfl) rfl rfl rfl
theorem q_125_2 : zRun 125 2 [l0, l1, some (.int x), l3, l4, l5, l6, l7, l8, l9, l10, l11, l12] S sh mi mj mr = zRun 125 3 [l0, l1, some (.int x), l3, l4, l5, l6, l7, l8, l9, l10, l11, l12] (.int x :: S) sh mi mj mr := zr_l (zD_of zk_125 d_125_2 rfl rfl) rfl rfl rfl
theorem q_125_3  {x0 x1 : Int32} (hS : zcat S ≤ 8) (h : zIs sh o 0 7) : zRun 125 3 L (.int x1 :: .int x0 :: .ref o :: S) sh mi mj mr = (zCall 95 [.ref o, .int x0, .int x1] sh mi mj mr).bind fun r => zRun 125 6 L (r.1.toList ++ S) r.2.1 r.2.2.1 r.2.2.2.1 r.2.2.2.2 := zr_V (zD_of zk_125 d_125_3 rfl rfl) rfl zk_95 rfl rfl rfl hS h
theorem q_125_6 : zRun 125 6 [l0, l1, l2, l3, l4, l5, l6, l7, l8, l9, l10, l11, l12] (.int x :: S) sh mi mj mr = zRun 125 7 [l0, l1, zk2 l2, some (.int x), l4, l5, l6, l7, l8, l9, l10, l11, l12] S sh mi mj mr := zr_s1 (i := 3) (v := .int x) (L := [l0, l1, l2, l3, l4, l5, l6, l7, l8, l9, l10, l11, l12]) (zD_of zk_125 d_125_6 rfl rfl) rfl rfl rfl rfl
theorem q_125_7 : zRun 125 7 [l0, l1, l2, some (.int x), l4, l5, l6, l7, l8, l9, l10, l11, l12] S sh mi mj mr = zRun 125 8 [l0, l1, l2, some (.int x), l4, l5, l6, l7, l8, l9, l10, l11, l12] (.int x :: S) sh mi mj mr := zr_l (zD_of zk_125 d_125_7 rfl rfl) rfl rfl rfl
theorem q_125_8  : zRun 125 8 L (.int x :: S) sh mi mj mr = if 0 ≤ x then zRun 125 23 L S sh mi mj mr else zRun 125 11 L S sh mi mj mr := zr_if (off := 15) (P := 0 ≤ x) (zD_of zk_125 d_125_8 rfl rfl) rfl rfl (by decide)
theorem q_125_11 : zRun 125 11 [l0, l1, l2, some (.int x), l4, l5, l6, l7, l8, l9, l10, l11, l12] S sh mi mj mr = zRun 125 12 [l0, l1, l2, some (.int x), l4, l5, l6, l7, l8, l9, l10, l11, l12] (.int x :: S) sh mi mj mr := zr_l (zD_of zk_125 d_125_11 rfl rfl) rfl rfl rfl
theorem q_125_12  : zRun 125 12 L S sh mi mj mr = zRun 125 14 L (.int (-5) :: S) sh mi mj mr := zr_p (zD_of zk_125 d_125_12 rfl rfl) rfl
theorem q_125_14  : zRun 125 14 L (.int y :: .int x :: S) sh mi mj mr = if ¬ x = y then zRun 125 21 L S sh mi mj mr else zRun 125 17 L S sh mi mj mr := zr_if (off := 7) (P := ¬ x = y) (zD_of zk_125 d_125_14 rfl rfl) rfl rfl (by decide)
theorem q_125_17  : zRun 125 17 L S sh mi mj mr = zRun 125 18 L (.int 1 :: S) sh mi mj mr := zr_p (zD_of zk_125 d_125_17 rfl rfl) rfl
theorem q_125_18  : zRun 125 18 L S sh mi mj mr = zRun 125 22 L S sh mi mj mr := zr_go (off := 4) (zD_of zk_125 d_125_18 rfl rfl) rfl rfl (by decide)
theorem q_125_21  : zRun 125 21 L S sh mi mj mr = zRun 125 22 L (.int 0 :: S) sh mi mj mr := zr_p (zD_of zk_125 d_125_21 rfl rfl) rfl
theorem q_125_22 (h : x = 0 ∨ x = 1) : zRun 125 22 L ([.int x]) sh mi mj mr = some (some (.int x), sh, mi, mj, mr) := zr_ret (zD_of zk_125 d_125_22 rfl rfl) rfl rfl rfl rfl rfl (if_pos (zna_b h))
theorem q_125_23  : zRun 125 23 L S sh mi mj mr = zRun 125 24 L (.int 5 :: S) sh mi mj mr := zr_p (zD_of zk_125 d_125_23 rfl rfl) rfl
theorem q_125_24 : zRun 125 24 [l0, l1, l2, l3, l4, l5, l6, l7, l8, l9, l10, l11, l12] (.int x :: S) sh mi mj mr = zRun 125 26 [l0, l1, l2, zk2 l3, some (.int x), l5, l6, l7, l8, l9, l10, l11, l12] S sh mi mj mr := zr_s1 (i := 4) (v := .int x) (L := [l0, l1, l2, l3, l4, l5, l6, l7, l8, l9, l10, l11, l12]) (zD_of zk_125 d_125_24 rfl rfl) rfl rfl rfl rfl
theorem q_125_26 : zRun 125 26 [l0, l1, l2, l3, some (.int x), l5, l6, l7, l8, l9, l10, l11, l12] S sh mi mj mr = zRun 125 28 [l0, l1, l2, l3, some (.int x), l5, l6, l7, l8, l9, l10, l11, l12] (.int x :: S) sh mi mj mr := zr_l (zD_of zk_125 d_125_26 rfl rfl) rfl rfl rfl
theorem q_125_28  : zRun 125 28 L S sh mi mj mr = zRun 125 31 L (.int 256 :: S) sh mi mj mr := zr_p (zD_of zk_125 d_125_28 rfl rfl) rfl
theorem q_125_31  : zRun 125 31 L (.int y :: .int x :: S) sh mi mj mr = if y ≤ x then zRun 125 150 L S sh mi mj mr else zRun 125 34 L S sh mi mj mr := zr_if (off := 119) (P := y ≤ x) (zD_of zk_125 d_125_31 rfl rfl) rfl rfl (by decide)
theorem q_125_34r : zRun 125 34 [some (.ref o), l1, l2, l3, l4, l5, l6, l7, l8, l9, l10, l11, l12] S sh mi mj mr = zRun 125 35 [some (.ref o), l1, l2, l3, l4, l5, l6, l7, l8, l9, l10, l11, l12] (.ref o :: S) sh mi mj mr := zr_l (zD_of zk_125 d_125_34 rfl rfl) rfl rfl rfl
theorem q_125_34n : zRun 125 34 [some (.null), l1, l2, l3, l4, l5, l6, l7, l8, l9, l10, l11, l12] S sh mi mj mr = zRun 125 35 [some (.null), l1, l2, l3, l4, l5, l6, l7, l8, l9, l10, l11, l12] (.null :: S) sh mi mj mr := zr_l (zD_of zk_125 d_125_34 rfl rfl) rfl rfl rfl
theorem q_125_35 : zRun 125 35 [l0, some (.int x), l2, l3, l4, l5, l6, l7, l8, l9, l10, l11, l12] S sh mi mj mr = zRun 125 36 [l0, some (.int x), l2, l3, l4, l5, l6, l7, l8, l9, l10, l11, l12] (.int x :: S) sh mi mj mr := zr_l (zD_of zk_125 d_125_35 rfl rfl) rfl rfl rfl
theorem q_125_36 : zRun 125 36 [l0, l1, l2, l3, some (.int x), l5, l6, l7, l8, l9, l10, l11, l12] S sh mi mj mr = zRun 125 38 [l0, l1, l2, l3, some (.int x), l5, l6, l7, l8, l9, l10, l11, l12] (.int x :: S) sh mi mj mr := zr_l (zD_of zk_125 d_125_36 rfl rfl) rfl rfl rfl
theorem q_125_38  : zRun 125 38 L S sh mi mj mr = zRun 125 39 L (.int 0 :: S) sh mi mj mr := zr_p (zD_of zk_125 d_125_38 rfl rfl) rfl
theorem q_125_39  {x0 x1 x2 : Int32} (hS : zcat S ≤ 8) (h : zIs sh o 0 7) : zRun 125 39 L (.int x2 :: .int x1 :: .int x0 :: .ref o :: S) sh mi mj mr = (zCall 94 [.ref o, .int x0, .int x1, .int x2] sh mi mj mr).bind fun r => zRun 125 42 L (r.1.toList ++ S) r.2.1 r.2.2.1 r.2.2.2.1 r.2.2.2.2 := zr_V (zD_of zk_125 d_125_39 rfl rfl) rfl zk_94 rfl rfl rfl hS h
theorem q_125_42 : zRun 125 42 [l0, l1, l2, l3, l4, l5, l6, l7, l8, l9, l10, l11, l12] (.long u :: S) sh mi mj mr = zRun 125 44 [l0, l1, l2, l3, zk2 l4, some (.long u), none, l7, l8, l9, l10, l11, l12] S sh mi mj mr := zr_s2 (i := 5) (v := .long u) (L := [l0, l1, l2, l3, l4, l5, l6, l7, l8, l9, l10, l11, l12]) (zD_of zk_125 d_125_42 rfl rfl) rfl rfl rfl rfl
theorem q_125_44r : zRun 125 44 [some (.ref o), l1, l2, l3, l4, l5, l6, l7, l8, l9, l10, l11, l12] S sh mi mj mr = zRun 125 45 [some (.ref o), l1, l2, l3, l4, l5, l6, l7, l8, l9, l10, l11, l12] (.ref o :: S) sh mi mj mr := zr_l (zD_of zk_125 d_125_44 rfl rfl) rfl rfl rfl
theorem q_125_44n : zRun 125 44 [some (.null), l1, l2, l3, l4, l5, l6, l7, l8, l9, l10, l11, l12] S sh mi mj mr = zRun 125 45 [some (.null), l1, l2, l3, l4, l5, l6, l7, l8, l9, l10, l11, l12] (.null :: S) sh mi mj mr := zr_l (zD_of zk_125 d_125_44 rfl rfl) rfl rfl rfl
theorem q_125_45 : zRun 125 45 [l0, some (.int x), l2, l3, l4, l5, l6, l7, l8, l9, l10, l11, l12] S sh mi mj mr = zRun 125 46 [l0, some (.int x), l2, l3, l4, l5, l6, l7, l8, l9, l10, l11, l12] (.int x :: S) sh mi mj mr := zr_l (zD_of zk_125 d_125_45 rfl rfl) rfl rfl rfl
theorem q_125_46 : zRun 125 46 [l0, l1, l2, l3, some (.int x), l5, l6, l7, l8, l9, l10, l11, l12] S sh mi mj mr = zRun 125 48 [l0, l1, l2, l3, some (.int x), l5, l6, l7, l8, l9, l10, l11, l12] (.int x :: S) sh mi mj mr := zr_l (zD_of zk_125 d_125_46 rfl rfl) rfl rfl rfl
theorem q_125_48  : zRun 125 48 L S sh mi mj mr = zRun 125 49 L (.int 1 :: S) sh mi mj mr := zr_p (zD_of zk_125 d_125_48 rfl rfl) rfl
theorem q_125_49  {x0 x1 x2 : Int32} (hS : zcat S ≤ 8) (h : zIs sh o 0 7) : zRun 125 49 L (.int x2 :: .int x1 :: .int x0 :: .ref o :: S) sh mi mj mr = (zCall 94 [.ref o, .int x0, .int x1, .int x2] sh mi mj mr).bind fun r => zRun 125 52 L (r.1.toList ++ S) r.2.1 r.2.2.1 r.2.2.2.1 r.2.2.2.2 := zr_V (zD_of zk_125 d_125_49 rfl rfl) rfl zk_94 rfl rfl rfl hS h
theorem q_125_52 : zRun 125 52 [l0, l1, l2, l3, l4, l5, l6, l7, l8, l9, l10, l11, l12] (.long u :: S) sh mi mj mr = zRun 125 54 [l0, l1, l2, l3, l4, l5, zk2 l6, some (.long u), none, l9, l10, l11, l12] S sh mi mj mr := zr_s2 (i := 7) (v := .long u) (L := [l0, l1, l2, l3, l4, l5, l6, l7, l8, l9, l10, l11, l12]) (zD_of zk_125 d_125_52 rfl rfl) rfl rfl rfl rfl
theorem q_125_54r : zRun 125 54 [some (.ref o), l1, l2, l3, l4, l5, l6, l7, l8, l9, l10, l11, l12] S sh mi mj mr = zRun 125 55 [some (.ref o), l1, l2, l3, l4, l5, l6, l7, l8, l9, l10, l11, l12] (.ref o :: S) sh mi mj mr := zr_l (zD_of zk_125 d_125_54 rfl rfl) rfl rfl rfl
theorem q_125_54n : zRun 125 54 [some (.null), l1, l2, l3, l4, l5, l6, l7, l8, l9, l10, l11, l12] S sh mi mj mr = zRun 125 55 [some (.null), l1, l2, l3, l4, l5, l6, l7, l8, l9, l10, l11, l12] (.null :: S) sh mi mj mr := zr_l (zD_of zk_125 d_125_54 rfl rfl) rfl rfl rfl
theorem q_125_55 : zRun 125 55 [l0, l1, some (.int x), l3, l4, l5, l6, l7, l8, l9, l10, l11, l12] S sh mi mj mr = zRun 125 56 [l0, l1, some (.int x), l3, l4, l5, l6, l7, l8, l9, l10, l11, l12] (.int x :: S) sh mi mj mr := zr_l (zD_of zk_125 d_125_55 rfl rfl) rfl rfl rfl
theorem q_125_56 : zRun 125 56 [l0, l1, l2, l3, some (.int x), l5, l6, l7, l8, l9, l10, l11, l12] S sh mi mj mr = zRun 125 58 [l0, l1, l2, l3, some (.int x), l5, l6, l7, l8, l9, l10, l11, l12] (.int x :: S) sh mi mj mr := zr_l (zD_of zk_125 d_125_56 rfl rfl) rfl rfl rfl
theorem q_125_58  : zRun 125 58 L S sh mi mj mr = zRun 125 59 L (.int 0 :: S) sh mi mj mr := zr_p (zD_of zk_125 d_125_58 rfl rfl) rfl
theorem q_125_59  {x0 x1 x2 : Int32} (hS : zcat S ≤ 8) (h : zIs sh o 0 7) : zRun 125 59 L (.int x2 :: .int x1 :: .int x0 :: .ref o :: S) sh mi mj mr = (zCall 94 [.ref o, .int x0, .int x1, .int x2] sh mi mj mr).bind fun r => zRun 125 62 L (r.1.toList ++ S) r.2.1 r.2.2.1 r.2.2.2.1 r.2.2.2.2 := zr_V (zD_of zk_125 d_125_59 rfl rfl) rfl zk_94 rfl rfl rfl hS h
theorem q_125_62 : zRun 125 62 [l0, l1, l2, l3, l4, l5, l6, l7, l8, l9, l10, l11, l12] (.long u :: S) sh mi mj mr = zRun 125 64 [l0, l1, l2, l3, l4, l5, l6, l7, zk2 l8, some (.long u), none, l11, l12] S sh mi mj mr := zr_s2 (i := 9) (v := .long u) (L := [l0, l1, l2, l3, l4, l5, l6, l7, l8, l9, l10, l11, l12]) (zD_of zk_125 d_125_62 rfl rfl) rfl rfl rfl rfl
theorem q_125_64r : zRun 125 64 [some (.ref o), l1, l2, l3, l4, l5, l6, l7, l8, l9, l10, l11, l12] S sh mi mj mr = zRun 125 65 [some (.ref o), l1, l2, l3, l4, l5, l6, l7, l8, l9, l10, l11, l12] (.ref o :: S) sh mi mj mr := zr_l (zD_of zk_125 d_125_64 rfl rfl) rfl rfl rfl
theorem q_125_64n : zRun 125 64 [some (.null), l1, l2, l3, l4, l5, l6, l7, l8, l9, l10, l11, l12] S sh mi mj mr = zRun 125 65 [some (.null), l1, l2, l3, l4, l5, l6, l7, l8, l9, l10, l11, l12] (.null :: S) sh mi mj mr := zr_l (zD_of zk_125 d_125_64 rfl rfl) rfl rfl rfl
theorem q_125_65 : zRun 125 65 [l0, l1, some (.int x), l3, l4, l5, l6, l7, l8, l9, l10, l11, l12] S sh mi mj mr = zRun 125 66 [l0, l1, some (.int x), l3, l4, l5, l6, l7, l8, l9, l10, l11, l12] (.int x :: S) sh mi mj mr := zr_l (zD_of zk_125 d_125_65 rfl rfl) rfl rfl rfl
theorem q_125_66 : zRun 125 66 [l0, l1, l2, l3, some (.int x), l5, l6, l7, l8, l9, l10, l11, l12] S sh mi mj mr = zRun 125 68 [l0, l1, l2, l3, some (.int x), l5, l6, l7, l8, l9, l10, l11, l12] (.int x :: S) sh mi mj mr := zr_l (zD_of zk_125 d_125_66 rfl rfl) rfl rfl rfl
theorem q_125_68  : zRun 125 68 L S sh mi mj mr = zRun 125 69 L (.int 1 :: S) sh mi mj mr := zr_p (zD_of zk_125 d_125_68 rfl rfl) rfl
theorem q_125_69  {x0 x1 x2 : Int32} (hS : zcat S ≤ 8) (h : zIs sh o 0 7) : zRun 125 69 L (.int x2 :: .int x1 :: .int x0 :: .ref o :: S) sh mi mj mr = (zCall 94 [.ref o, .int x0, .int x1, .int x2] sh mi mj mr).bind fun r => zRun 125 72 L (r.1.toList ++ S) r.2.1 r.2.2.1 r.2.2.2.1 r.2.2.2.2 := zr_V (zD_of zk_125 d_125_69 rfl rfl) rfl zk_94 rfl rfl rfl hS h
theorem q_125_72 : zRun 125 72 [l0, l1, l2, l3, l4, l5, l6, l7, l8, l9, l10, l11, l12] (.long u :: S) sh mi mj mr = zRun 125 74 [l0, l1, l2, l3, l4, l5, l6, l7, l8, l9, zk2 l10, some (.long u), none] S sh mi mj mr := zr_s2 (i := 11) (v := .long u) (L := [l0, l1, l2, l3, l4, l5, l6, l7, l8, l9, l10, l11, l12]) (zD_of zk_125 d_125_72 rfl rfl) rfl rfl rfl rfl
theorem q_125_74 : zRun 125 74 [l0, l1, l2, l3, l4, some (.long u), l6, l7, l8, l9, l10, l11, l12] S sh mi mj mr = zRun 125 76 [l0, l1, l2, l3, l4, some (.long u), l6, l7, l8, l9, l10, l11, l12] (.long u :: S) sh mi mj mr := zr_l (zD_of zk_125 d_125_74 rfl rfl) rfl rfl rfl
theorem q_125_76  : zRun 125 76 L S sh mi mj mr = zRun 125 79 L (.long (-1000000000000000005) :: S) sh mi mj mr := zr_k64 (zD_of zk_125 d_125_76 rfl rfl) rfl
theorem q_125_79  : zRun 125 79 L (.long v :: .long u :: S) sh mi mj mr = if u = v then zRun 125 144 L S sh mi mj mr else zRun 125 83 L S sh mi mj mr := zr_cmp (off := 64) (zD_of zk_125 d_125_79 rfl rfl) (zD_of zk_125 d_125_80 rfl rfl) rfl rfl (by decide) (lg_cmp_eq u v)
theorem q_125_80  : zRun 125 80 L (.int x :: S) sh mi mj mr = if x = 0 then zRun 125 144 L S sh mi mj mr else zRun 125 83 L S sh mi mj mr := zr_if (off := 64) (P := x = 0) (zD_of zk_125 d_125_80 rfl rfl) rfl rfl (by decide)
theorem q_125_83 : zRun 125 83 [l0, l1, l2, l3, l4, l5, l6, l7, l8, some (.long u), l10, l11, l12] S sh mi mj mr = zRun 125 85 [l0, l1, l2, l3, l4, l5, l6, l7, l8, some (.long u), l10, l11, l12] (.long u :: S) sh mi mj mr := zr_l (zD_of zk_125 d_125_83 rfl rfl) rfl rfl rfl
theorem q_125_85  : zRun 125 85 L S sh mi mj mr = zRun 125 88 L (.long (-1000000000000000005) :: S) sh mi mj mr := zr_k64 (zD_of zk_125 d_125_85 rfl rfl) rfl
theorem q_125_88  : zRun 125 88 L (.long v :: .long u :: S) sh mi mj mr = if ¬ u = v then zRun 125 95 L S sh mi mj mr else zRun 125 92 L S sh mi mj mr := zr_cmp (off := 6) (zD_of zk_125 d_125_88 rfl rfl) (zD_of zk_125 d_125_89 rfl rfl) rfl rfl (by decide) (not_congr (lg_cmp_eq u v))
theorem q_125_89  : zRun 125 89 L (.int x :: S) sh mi mj mr = if ¬ x = 0 then zRun 125 95 L S sh mi mj mr else zRun 125 92 L S sh mi mj mr := zr_if (off := 6) (P := ¬ x = 0) (zD_of zk_125 d_125_89 rfl rfl) rfl rfl (by decide)
theorem q_125_92  : zRun 125 92 L S sh mi mj mr = zRun 125 144 L S sh mi mj mr := zr_go (off := 52) (zD_of zk_125 d_125_92 rfl rfl) rfl rfl (by decide)
theorem q_125_95 : zRun 125 95 [l0, l1, l2, some (.int x), l4, l5, l6, l7, l8, l9, l10, l11, l12] S sh mi mj mr = zRun 125 96 [l0, l1, l2, some (.int x), l4, l5, l6, l7, l8, l9, l10, l11, l12] (.int x :: S) sh mi mj mr := zr_l (zD_of zk_125 d_125_95 rfl rfl) rfl rfl rfl
theorem q_125_96  : zRun 125 96 L S sh mi mj mr = zRun 125 97 L (.int 1 :: S) sh mi mj mr := zr_p (zD_of zk_125 d_125_96 rfl rfl) rfl
theorem q_125_97  : zRun 125 97 L (.int y :: .int x :: S) sh mi mj mr = if ¬ x = y then zRun 125 108 L S sh mi mj mr else zRun 125 100 L S sh mi mj mr := zr_if (off := 11) (P := ¬ x = y) (zD_of zk_125 d_125_97 rfl rfl) rfl rfl (by decide)
theorem q_125_100 : zRun 125 100 [l0, l1, l2, l3, l4, l5, l6, some (.long u), l8, l9, l10, l11, l12] S sh mi mj mr = zRun 125 102 [l0, l1, l2, l3, l4, l5, l6, some (.long u), l8, l9, l10, l11, l12] (.long u :: S) sh mi mj mr := zr_l (zD_of zk_125 d_125_100 rfl rfl) rfl rfl rfl
theorem q_125_102 : zRun 125 102 [l0, l1, l2, l3, l4, l5, l6, l7, l8, some (.long u), l10, l11, l12] S sh mi mj mr = zRun 125 104 [l0, l1, l2, l3, l4, l5, l6, l7, l8, some (.long u), l10, l11, l12] (.long u :: S) sh mi mj mr := zr_l (zD_of zk_125 d_125_102 rfl rfl) rfl rfl rfl
theorem q_125_104  : zRun 125 104 L (.long v :: .long u :: S) sh mi mj mr = if u ≤ v then zRun 125 142 L S sh mi mj mr else zRun 125 108 L S sh mi mj mr := zr_cmp (off := 37) (zD_of zk_125 d_125_104 rfl rfl) (zD_of zk_125 d_125_105 rfl rfl) rfl rfl (by decide) (lg_cmp_le u v)
theorem q_125_105  : zRun 125 105 L (.int x :: S) sh mi mj mr = if x ≤ 0 then zRun 125 142 L S sh mi mj mr else zRun 125 108 L S sh mi mj mr := zr_if (off := 37) (P := x ≤ 0) (zD_of zk_125 d_125_105 rfl rfl) rfl rfl (by decide)
theorem q_125_108 : zRun 125 108 [l0, l1, l2, some (.int x), l4, l5, l6, l7, l8, l9, l10, l11, l12] S sh mi mj mr = zRun 125 109 [l0, l1, l2, some (.int x), l4, l5, l6, l7, l8, l9, l10, l11, l12] (.int x :: S) sh mi mj mr := zr_l (zD_of zk_125 d_125_108 rfl rfl) rfl rfl rfl
theorem q_125_109  : zRun 125 109 L S sh mi mj mr = zRun 125 110 L (.int 2 :: S) sh mi mj mr := zr_p (zD_of zk_125 d_125_109 rfl rfl) rfl
theorem q_125_110  : zRun 125 110 L (.int y :: .int x :: S) sh mi mj mr = if ¬ x = y then zRun 125 121 L S sh mi mj mr else zRun 125 113 L S sh mi mj mr := zr_if (off := 11) (P := ¬ x = y) (zD_of zk_125 d_125_110 rfl rfl) rfl rfl (by decide)
theorem q_125_113 : zRun 125 113 [l0, l1, l2, l3, l4, some (.long u), l6, l7, l8, l9, l10, l11, l12] S sh mi mj mr = zRun 125 115 [l0, l1, l2, l3, l4, some (.long u), l6, l7, l8, l9, l10, l11, l12] (.long u :: S) sh mi mj mr := zr_l (zD_of zk_125 d_125_113 rfl rfl) rfl rfl rfl
theorem q_125_115 : zRun 125 115 [l0, l1, l2, l3, l4, l5, l6, l7, l8, l9, l10, some (.long u), l12] S sh mi mj mr = zRun 125 117 [l0, l1, l2, l3, l4, l5, l6, l7, l8, l9, l10, some (.long u), l12] (.long u :: S) sh mi mj mr := zr_l (zD_of zk_125 d_125_115 rfl rfl) rfl rfl rfl
theorem q_125_117  : zRun 125 117 L (.long v :: .long u :: S) sh mi mj mr = if v ≤ u then zRun 125 142 L S sh mi mj mr else zRun 125 121 L S sh mi mj mr := zr_cmp (off := 24) (zD_of zk_125 d_125_117 rfl rfl) (zD_of zk_125 d_125_118 rfl rfl) rfl rfl (by decide) (lg_cmp_ge u v)
theorem q_125_118  : zRun 125 118 L (.int x :: S) sh mi mj mr = if 0 ≤ x then zRun 125 142 L S sh mi mj mr else zRun 125 121 L S sh mi mj mr := zr_if (off := 24) (P := 0 ≤ x) (zD_of zk_125 d_125_118 rfl rfl) rfl rfl (by decide)
theorem q_125_121 : zRun 125 121 [l0, l1, l2, some (.int x), l4, l5, l6, l7, l8, l9, l10, l11, l12] S sh mi mj mr = zRun 125 122 [l0, l1, l2, some (.int x), l4, l5, l6, l7, l8, l9, l10, l11, l12] (.int x :: S) sh mi mj mr := zr_l (zD_of zk_125 d_125_121 rfl rfl) rfl rfl rfl
theorem q_125_122  : zRun 125 122 L S sh mi mj mr = zRun 125 123 L (.int 3 :: S) sh mi mj mr := zr_p (zD_of zk_125 d_125_122 rfl rfl) rfl
theorem q_125_123  : zRun 125 123 L (.int y :: .int x :: S) sh mi mj mr = if ¬ x = y then zRun 125 144 L S sh mi mj mr else zRun 125 126 L S sh mi mj mr := zr_if (off := 21) (P := ¬ x = y) (zD_of zk_125 d_125_123 rfl rfl) rfl rfl (by decide)
theorem q_125_126 : zRun 125 126 [l0, l1, l2, l3, l4, some (.long u), l6, l7, l8, l9, l10, l11, l12] S sh mi mj mr = zRun 125 128 [l0, l1, l2, l3, l4, some (.long u), l6, l7, l8, l9, l10, l11, l12] (.long u :: S) sh mi mj mr := zr_l (zD_of zk_125 d_125_126 rfl rfl) rfl rfl rfl
theorem q_125_128 : zRun 125 128 [l0, l1, l2, l3, l4, l5, l6, l7, l8, l9, l10, some (.long u), l12] S sh mi mj mr = zRun 125 130 [l0, l1, l2, l3, l4, l5, l6, l7, l8, l9, l10, some (.long u), l12] (.long u :: S) sh mi mj mr := zr_l (zD_of zk_125 d_125_128 rfl rfl) rfl rfl rfl
theorem q_125_130  : zRun 125 130 L (.long v :: .long u :: S) sh mi mj mr = if v < u then zRun 125 142 L S sh mi mj mr else zRun 125 134 L S sh mi mj mr := zr_cmp (off := 11) (zD_of zk_125 d_125_130 rfl rfl) (zD_of zk_125 d_125_131 rfl rfl) rfl rfl (by decide) (lg_cmp_gt u v)
theorem q_125_131  : zRun 125 131 L (.int x :: S) sh mi mj mr = if 0 < x then zRun 125 142 L S sh mi mj mr else zRun 125 134 L S sh mi mj mr := zr_if (off := 11) (P := 0 < x) (zD_of zk_125 d_125_131 rfl rfl) rfl rfl (by decide)
theorem q_125_134 : zRun 125 134 [l0, l1, l2, l3, l4, l5, l6, some (.long u), l8, l9, l10, l11, l12] S sh mi mj mr = zRun 125 136 [l0, l1, l2, l3, l4, l5, l6, some (.long u), l8, l9, l10, l11, l12] (.long u :: S) sh mi mj mr := zr_l (zD_of zk_125 d_125_134 rfl rfl) rfl rfl rfl
theorem q_125_136 : zRun 125 136 [l0, l1, l2, l3, l4, l5, l6, l7, l8, some (.long u), l10, l11, l12] S sh mi mj mr = zRun 125 138 [l0, l1, l2, l3, l4, l5, l6, l7, l8, some (.long u), l10, l11, l12] (.long u :: S) sh mi mj mr := zr_l (zD_of zk_125 d_125_136 rfl rfl) rfl rfl rfl
theorem q_125_138  : zRun 125 138 L (.long v :: .long u :: S) sh mi mj mr = if v ≤ u then zRun 125 144 L S sh mi mj mr else zRun 125 142 L S sh mi mj mr := zr_cmp (off := 5) (zD_of zk_125 d_125_138 rfl rfl) (zD_of zk_125 d_125_139 rfl rfl) rfl rfl (by decide) (lg_cmp_ge u v)
theorem q_125_139  : zRun 125 139 L (.int x :: S) sh mi mj mr = if 0 ≤ x then zRun 125 144 L S sh mi mj mr else zRun 125 142 L S sh mi mj mr := zr_if (off := 5) (P := 0 ≤ x) (zD_of zk_125 d_125_139 rfl rfl) rfl rfl (by decide)
theorem q_125_142  : zRun 125 142 L S sh mi mj mr = zRun 125 143 L (.int 0 :: S) sh mi mj mr := zr_p (zD_of zk_125 d_125_142 rfl rfl) rfl
theorem q_125_143 (h : x = 0 ∨ x = 1) : zRun 125 143 L ([.int x]) sh mi mj mr = some (some (.int x), sh, mi, mj, mr) := zr_ret (zD_of zk_125 d_125_143 rfl rfl) rfl rfl rfl rfl rfl (if_pos (zna_b h))
theorem q_125_144  : zRun 125 144 [l0, l1, l2, l3, some (.int x), l5, l6, l7, l8, l9, l10, l11, l12] S sh mi mj mr = zRun 125 147 [l0, l1, l2, zk2 l3, some (.int (x + 50)), l5, l6, l7, l8, l9, l10, l11, l12] S sh mi mj mr := zr_s1 (i := 4) (v := .int (x + 50)) (L := [l0, l1, l2, l3, some (.int x), l5, l6, l7, l8, l9, l10, l11, l12]) (zD_of zk_125 d_125_144 rfl rfl) rfl rfl rfl rfl
theorem q_125_147  : zRun 125 147 L S sh mi mj mr = zRun 125 26 L S sh mi mj mr := zr_go (off := (-121)) (zD_of zk_125 d_125_147 rfl rfl) rfl rfl (by decide)
theorem q_125_150 : zRun 125 150 [l0, l1, l2, some (.int x), l4, l5, l6, l7, l8, l9, l10, l11, l12] S sh mi mj mr = zRun 125 151 [l0, l1, l2, some (.int x), l4, l5, l6, l7, l8, l9, l10, l11, l12] (.int x :: S) sh mi mj mr := zr_l (zD_of zk_125 d_125_150 rfl rfl) rfl rfl rfl
theorem q_125_151  : zRun 125 151 L (.int x :: S) sh mi mj mr = if ¬ x = 0 then zRun 125 165 L S sh mi mj mr else zRun 125 154 L S sh mi mj mr := zr_if (off := 14) (P := ¬ x = 0) (zD_of zk_125 d_125_151 rfl rfl) rfl rfl (by decide)
theorem q_125_154r : zRun 125 154 [some (.ref o), l1, l2, l3, l4, l5, l6, l7, l8, l9, l10, l11, l12] S sh mi mj mr = zRun 125 155 [some (.ref o), l1, l2, l3, l4, l5, l6, l7, l8, l9, l10, l11, l12] (.ref o :: S) sh mi mj mr := zr_l (zD_of zk_125 d_125_154 rfl rfl) rfl rfl rfl
theorem q_125_154n : zRun 125 154 [some (.null), l1, l2, l3, l4, l5, l6, l7, l8, l9, l10, l11, l12] S sh mi mj mr = zRun 125 155 [some (.null), l1, l2, l3, l4, l5, l6, l7, l8, l9, l10, l11, l12] (.null :: S) sh mi mj mr := zr_l (zD_of zk_125 d_125_154 rfl rfl) rfl rfl rfl
theorem q_125_155 : zRun 125 155 [l0, l1, some (.int x), l3, l4, l5, l6, l7, l8, l9, l10, l11, l12] S sh mi mj mr = zRun 125 156 [l0, l1, some (.int x), l3, l4, l5, l6, l7, l8, l9, l10, l11, l12] (.int x :: S) sh mi mj mr := zr_l (zD_of zk_125 d_125_155 rfl rfl) rfl rfl rfl
theorem q_125_156 : zRun 125 156 [l0, some (.int x), l2, l3, l4, l5, l6, l7, l8, l9, l10, l11, l12] S sh mi mj mr = zRun 125 157 [l0, some (.int x), l2, l3, l4, l5, l6, l7, l8, l9, l10, l11, l12] (.int x :: S) sh mi mj mr := zr_l (zD_of zk_125 d_125_156 rfl rfl) rfl rfl rfl
theorem q_125_157  {x0 x1 : Int32} (hS : zcat S ≤ 8) (h : zIs sh o 0 7) : zRun 125 157 L (.int x1 :: .int x0 :: .ref o :: S) sh mi mj mr = (zCall 95 [.ref o, .int x0, .int x1] sh mi mj mr).bind fun r => zRun 125 160 L (r.1.toList ++ S) r.2.1 r.2.2.1 r.2.2.2.1 r.2.2.2.2 := zr_V (zD_of zk_125 d_125_157 rfl rfl) rfl zk_95 rfl rfl rfl hS h
theorem q_125_160  : zRun 125 160 L S sh mi mj mr = zRun 125 162 L (.int (-5) :: S) sh mi mj mr := zr_p (zD_of zk_125 d_125_160 rfl rfl) rfl
theorem q_125_162  : zRun 125 162 L (.int y :: .int x :: S) sh mi mj mr = if x < y then zRun 125 169 L S sh mi mj mr else zRun 125 165 L S sh mi mj mr := zr_if (off := 7) (P := x < y) (zD_of zk_125 d_125_162 rfl rfl) rfl rfl (by decide)
theorem q_125_165  : zRun 125 165 L S sh mi mj mr = zRun 125 166 L (.int 1 :: S) sh mi mj mr := zr_p (zD_of zk_125 d_125_165 rfl rfl) rfl
theorem q_125_166  : zRun 125 166 L S sh mi mj mr = zRun 125 170 L S sh mi mj mr := zr_go (off := 4) (zD_of zk_125 d_125_166 rfl rfl) rfl rfl (by decide)
theorem q_125_169  : zRun 125 169 L S sh mi mj mr = zRun 125 170 L (.int 0 :: S) sh mi mj mr := zr_p (zD_of zk_125 d_125_169 rfl rfl) rfl
theorem q_125_170 (h : x = 0 ∨ x = 1) : zRun 125 170 L ([.int x]) sh mi mj mr = some (some (.int x), sh, mi, mj, mr) := zr_ret (zD_of zk_125 d_125_170 rfl rfl) rfl rfl rfl rfl rfl (if_pos (zna_b h))
theorem e_125 {x0 x1 : Int32} {o0 : Nat} : zCall 125 [.ref o0, .int x0, .int x1] sh mi mj mr = zRun 125 0 [some (.ref o0), some (.int x0), some (.int x1), none, none, none, none, none, none, none, none, none, none] [] sh mi mj mr := rfl
theorem d_126_0 : decode cL_saved 0 = .ok (.aload_n 0, 1) := by decide +kernel
theorem d_126_1 : decode cL_saved 1 = .ok (.iconst 1, 1) := by decide +kernel
theorem d_126_2 : decode cL_saved 2 = .ok (.invokevirtual 134, 3) := by decide +kernel
theorem d_126_5 : decode cL_saved 5 = .ok (.istore_n 2, 1) := by decide +kernel
theorem d_126_6 : decode cL_saved 6 = .ok (.aload_n 0, 1) := by decide +kernel
theorem d_126_7 : decode cL_saved 7 = .ok (.iconst 2, 1) := by decide +kernel
theorem d_126_8 : decode cL_saved 8 = .ok (.invokevirtual 39, 3) := by decide +kernel
theorem d_126_11 : decode cL_saved 11 = .ok (.istore_n 3, 1) := by decide +kernel
theorem d_126_12 : decode cL_saved 12 = .ok (.aload_n 0, 1) := by decide +kernel
theorem d_126_13 : decode cL_saved 13 = .ok (.iconst 3, 1) := by decide +kernel
theorem d_126_14 : decode cL_saved 14 = .ok (.invokevirtual 39, 3) := by decide +kernel
theorem d_126_17 : decode cL_saved 17 = .ok (.istore 4, 2) := by decide +kernel
theorem d_126_19 : decode cL_saved 19 = .ok (.aload_n 0, 1) := by decide +kernel
theorem d_126_20 : decode cL_saved 20 = .ok (.iconst 0, 1) := by decide +kernel
theorem d_126_21 : decode cL_saved 21 = .ok (.iconst (-1), 1) := by decide +kernel
theorem d_126_22 : decode cL_saved 22 = .ok (.iconst 0, 1) := by decide +kernel
theorem d_126_23 : decode cL_saved 23 = .ok (.invokevirtual 75, 3) := by decide +kernel
theorem d_126_26 : decode cL_saved 26 = .ok (.istore 5, 2) := by decide +kernel
theorem d_126_28 : decode cL_saved 28 = .ok (.aload_n 0, 1) := by decide +kernel
theorem d_126_29 : decode cL_saved 29 = .ok (.iconst 0, 1) := by decide +kernel
theorem d_126_30 : decode cL_saved 30 = .ok (.invokevirtual 95, 3) := by decide +kernel
theorem d_126_33 : decode cL_saved 33 = .ok (.ifCond .le 7, 3) := by decide +kernel
theorem d_126_36 : decode cL_saved 36 = .ok (.lconst 0, 1) := by decide +kernel
theorem d_126_37 : decode cL_saved 37 = .ok (.goto 10, 3) := by decide +kernel
theorem d_126_40 : decode cL_saved 40 = .ok (.aload_n 0, 1) := by decide +kernel
theorem d_126_41 : decode cL_saved 41 = .ok (.iconst 0, 1) := by decide +kernel
theorem d_126_42 : decode cL_saved 42 = .ok (.bipush 12, 2) := by decide +kernel
theorem d_126_44 : decode cL_saved 44 = .ok (.invokevirtual 104, 3) := by decide +kernel
theorem d_126_47 : decode cL_saved 47 = .ok (.lstore 6, 2) := by decide +kernel
theorem d_126_49 : decode cL_saved 49 = .ok (.aload_n 0, 1) := by decide +kernel
theorem d_126_50 : decode cL_saved 50 = .ok (.bipush 97, 2) := by decide +kernel
theorem d_126_52 : decode cL_saved 52 = .ok (.invokevirtual 72, 3) := by decide +kernel
theorem d_126_55 : decode cL_saved 55 = .ok (.pop, 1) := by decide +kernel
theorem d_126_56 : decode cL_saved 56 = .ok (.iload_n 2, 1) := by decide +kernel
theorem d_126_57 : decode cL_saved 57 = .ok (.iconst 1, 1) := by decide +kernel
theorem d_126_58 : decode cL_saved 58 = .ok (.iload_n 1, 1) := by decide +kernel
theorem d_126_59 : decode cL_saved 59 = .ok (.ishl, 1) := by decide +kernel
theorem d_126_60 : decode cL_saved 60 = .ok (.iconst 1, 1) := by decide +kernel
theorem d_126_61 : decode cL_saved 61 = .ok (.isub, 1) := by decide +kernel
theorem d_126_62 : decode cL_saved 62 = .ok (.if_icmp .ne 32, 3) := by decide +kernel
theorem d_126_65 : decode cL_saved 65 = .ok (.aload_n 0, 1) := by decide +kernel
theorem d_126_66 : decode cL_saved 66 = .ok (.iconst 0, 1) := by decide +kernel
theorem d_126_67 : decode cL_saved 67 = .ok (.invokevirtual 46, 3) := by decide +kernel
theorem d_126_70 : decode cL_saved 70 = .ok (.iconst 1, 1) := by decide +kernel
theorem d_126_71 : decode cL_saved 71 = .ok (.if_icmp .ne 23, 3) := by decide +kernel
theorem d_126_74 : decode cL_saved 74 = .ok (.aload_n 0, 1) := by decide +kernel
theorem d_126_75 : decode cL_saved 75 = .ok (.iload_n 3, 1) := by decide +kernel
theorem d_126_76 : decode cL_saved 76 = .ok (.bipush 8, 2) := by decide +kernel
theorem d_126_78 : decode cL_saved 78 = .ok (.if_icmp .ne 7, 3) := by decide +kernel
theorem d_126_81 : decode cL_saved 81 = .ok (.iconst 0, 1) := by decide +kernel
theorem d_126_82 : decode cL_saved 82 = .ok (.goto 5, 3) := by decide +kernel
theorem d_126_85 : decode cL_saved 85 = .ok (.bipush 8, 2) := by decide +kernel
theorem d_126_87 : decode cL_saved 87 = .ok (.invokevirtual 26, 3) := by decide +kernel
theorem d_126_90 : decode cL_saved 90 = .ok (.iload_n 3, 1) := by decide +kernel
theorem d_126_91 : decode cL_saved 91 = .ok (.if_icmp .eq 5, 3) := by decide +kernel
theorem d_126_94 : decode cL_saved 94 = .ok (.iconst 0, 1) := by decide +kernel
theorem d_126_95 : decode cL_saved 95 = .ok (.ireturn, 1) := by decide +kernel
theorem d_126_96 : decode cL_saved 96 = .ok (.iconst 0, 1) := by decide +kernel
theorem d_126_97 : decode cL_saved 97 = .ok (.istore 8, 2) := by decide +kernel
theorem d_126_99 : decode cL_saved 99 = .ok (.iload 8, 2) := by decide +kernel
theorem d_126_101 : decode cL_saved 101 = .ok (.iconst 4, 1) := by decide +kernel
theorem d_126_102 : decode cL_saved 102 = .ok (.if_icmp .ge 18, 3) := by decide +kernel
theorem d_126_105 : decode cL_saved 105 = .ok (.aload_n 0, 1) := by decide +kernel
theorem d_126_106 : decode cL_saved 106 = .ok (.iload 8, 2) := by decide +kernel
theorem d_126_108 : decode cL_saved 108 = .ok (.iconst 1, 1) := by decide +kernel
theorem d_126_109 : decode cL_saved 109 = .ok (.iconst 1, 1) := by decide +kernel
theorem d_126_110 : decode cL_saved 110 = .ok (.invokevirtual 31, 3) := by decide +kernel
theorem d_126_113 : decode cL_saved 113 = .ok (.pop, 1) := by decide +kernel
theorem d_126_114 : decode cL_saved 114 = .ok (.iinc 8 1, 3) := by decide +kernel
theorem d_126_117 : decode cL_saved 117 = .ok (.goto (-18), 3) := by decide +kernel
theorem d_126_120 : decode cL_saved 120 = .ok (.aload_n 0, 1) := by decide +kernel
theorem d_126_121 : decode cL_saved 121 = .ok (.iconst 3, 1) := by decide +kernel
theorem d_126_122 : decode cL_saved 122 = .ok (.invokevirtual 39, 3) := by decide +kernel
theorem d_126_125 : decode cL_saved 125 = .ok (.ifCond .ne 24, 3) := by decide +kernel
theorem d_126_128 : decode cL_saved 128 = .ok (.aload_n 0, 1) := by decide +kernel
theorem d_126_129 : decode cL_saved 129 = .ok (.iconst 0, 1) := by decide +kernel
theorem d_126_130 : decode cL_saved 130 = .ok (.iconst 2, 1) := by decide +kernel
theorem d_126_131 : decode cL_saved 131 = .ok (.iconst 0, 1) := by decide +kernel
theorem d_126_132 : decode cL_saved 132 = .ok (.invokevirtual 98, 3) := by decide +kernel
theorem d_126_135 : decode cL_saved 135 = .ok (.lconst 1, 1) := by decide +kernel
theorem d_126_136 : decode cL_saved 136 = .ok (.lcmp, 1) := by decide +kernel
theorem d_126_137 : decode cL_saved 137 = .ok (.ifCond .ne 12, 3) := by decide +kernel
theorem d_126_140 : decode cL_saved 140 = .ok (.aload_n 0, 1) := by decide +kernel
theorem d_126_141 : decode cL_saved 141 = .ok (.iconst 0, 1) := by decide +kernel
theorem d_126_142 : decode cL_saved 142 = .ok (.invokevirtual 92, 3) := by decide +kernel
theorem d_126_145 : decode cL_saved 145 = .ok (.iconst 1, 1) := by decide +kernel
theorem d_126_146 : decode cL_saved 146 = .ok (.if_icmp .eq 5, 3) := by decide +kernel
theorem d_126_149 : decode cL_saved 149 = .ok (.iconst 0, 1) := by decide +kernel
theorem d_126_150 : decode cL_saved 150 = .ok (.ireturn, 1) := by decide +kernel
theorem d_126_151 : decode cL_saved 151 = .ok (.aload_n 0, 1) := by decide +kernel
theorem d_126_152 : decode cL_saved 152 = .ok (.iconst 1, 1) := by decide +kernel
theorem d_126_153 : decode cL_saved 153 = .ok (.invokevirtual 137, 3) := by decide +kernel
theorem d_126_156 : decode cL_saved 156 = .ok (.iload_n 2, 1) := by decide +kernel
theorem d_126_157 : decode cL_saved 157 = .ok (.if_icmp .ne 59, 3) := by decide +kernel
theorem d_126_160 : decode cL_saved 160 = .ok (.aload_n 0, 1) := by decide +kernel
theorem d_126_161 : decode cL_saved 161 = .ok (.iconst 2, 1) := by decide +kernel
theorem d_126_162 : decode cL_saved 162 = .ok (.invokevirtual 39, 3) := by decide +kernel
theorem d_126_165 : decode cL_saved 165 = .ok (.iload_n 3, 1) := by decide +kernel
theorem d_126_166 : decode cL_saved 166 = .ok (.if_icmp .ne 50, 3) := by decide +kernel
theorem d_126_169 : decode cL_saved 169 = .ok (.aload_n 0, 1) := by decide +kernel
theorem d_126_170 : decode cL_saved 170 = .ok (.iconst 3, 1) := by decide +kernel
theorem d_126_171 : decode cL_saved 171 = .ok (.invokevirtual 39, 3) := by decide +kernel
theorem d_126_174 : decode cL_saved 174 = .ok (.iload 4, 2) := by decide +kernel
theorem d_126_176 : decode cL_saved 176 = .ok (.if_icmp .ne 40, 3) := by decide +kernel
theorem d_126_179 : decode cL_saved 179 = .ok (.aload_n 0, 1) := by decide +kernel
theorem d_126_180 : decode cL_saved 180 = .ok (.iconst 0, 1) := by decide +kernel
theorem d_126_181 : decode cL_saved 181 = .ok (.iconst (-1), 1) := by decide +kernel
theorem d_126_182 : decode cL_saved 182 = .ok (.iconst 0, 1) := by decide +kernel
theorem d_126_183 : decode cL_saved 183 = .ok (.invokevirtual 75, 3) := by decide +kernel
theorem d_126_186 : decode cL_saved 186 = .ok (.iload 5, 2) := by decide +kernel
theorem d_126_188 : decode cL_saved 188 = .ok (.if_icmp .ne 28, 3) := by decide +kernel
theorem d_126_191 : decode cL_saved 191 = .ok (.aload_n 0, 1) := by decide +kernel
theorem d_126_192 : decode cL_saved 192 = .ok (.iconst 0, 1) := by decide +kernel
theorem d_126_193 : decode cL_saved 193 = .ok (.invokevirtual 95, 3) := by decide +kernel
theorem d_126_196 : decode cL_saved 196 = .ok (.ifCond .gt 16, 3) := by decide +kernel
theorem d_126_199 : decode cL_saved 199 = .ok (.aload_n 0, 1) := by decide +kernel
theorem d_126_200 : decode cL_saved 200 = .ok (.iconst 0, 1) := by decide +kernel
theorem d_126_201 : decode cL_saved 201 = .ok (.bipush 12, 2) := by decide +kernel
theorem d_126_203 : decode cL_saved 203 = .ok (.invokevirtual 104, 3) := by decide +kernel
theorem d_126_206 : decode cL_saved 206 = .ok (.lload 6, 2) := by decide +kernel
theorem d_126_208 : decode cL_saved 208 = .ok (.lcmp, 1) := by decide +kernel
theorem d_126_209 : decode cL_saved 209 = .ok (.ifCond .ne 7, 3) := by decide +kernel
theorem d_126_212 : decode cL_saved 212 = .ok (.iconst 1, 1) := by decide +kernel
theorem d_126_213 : decode cL_saved 213 = .ok (.goto 4, 3) := by decide +kernel
theorem d_126_216 : decode cL_saved 216 = .ok (.iconst 0, 1) := by decide +kernel
theorem d_126_217 : decode cL_saved 217 = .ok (.ireturn, 1) := by decide +kernel
theorem q_126_0r : zRun 126 0 [some (.ref o), l1, l2, l3, l4, l5, l6, l7, l8] S sh mi mj mr = zRun 126 1 [some (.ref o), l1, l2, l3, l4, l5, l6, l7, l8] (.ref o :: S) sh mi mj mr := zr_l (zD_of zk_126 d_126_0 rfl rfl) rfl rfl rfl
theorem q_126_0n : zRun 126 0 [some (.null), l1, l2, l3, l4, l5, l6, l7, l8] S sh mi mj mr = zRun 126 1 [some (.null), l1, l2, l3, l4, l5, l6, l7, l8] (.null :: S) sh mi mj mr := zr_l (zD_of zk_126 d_126_0 rfl rfl) rfl rfl rfl
theorem q_126_1  : zRun 126 1 L S sh mi mj mr = zRun 126 2 L (.int 1 :: S) sh mi mj mr := zr_p (zD_of zk_126 d_126_1 rfl rfl) rfl
theorem q_126_2  {x0 : Int32} (hS : zcat S ≤ 8) (h : zIs sh o 0 7) : zRun 126 2 L (.int x0 :: .ref o :: S) sh mi mj mr = (zCall 101 [.ref o, .int x0] sh mi mj mr).bind fun r => zRun 126 5 L (r.1.toList ++ S) r.2.1 r.2.2.1 r.2.2.2.1 r.2.2.2.2 := zr_V (zD_of zk_126 d_126_2 rfl rfl) rfl zk_101 rfl rfl rfl hS h
theorem q_126_5 : zRun 126 5 [l0, l1, l2, l3, l4, l5, l6, l7, l8] (.int x :: S) sh mi mj mr = zRun 126 6 [l0, zk2 l1, some (.int x), l3, l4, l5, l6, l7, l8] S sh mi mj mr := zr_s1 (i := 2) (v := .int x) (L := [l0, l1, l2, l3, l4, l5, l6, l7, l8]) (zD_of zk_126 d_126_5 rfl rfl) rfl rfl rfl rfl
theorem q_126_6r : zRun 126 6 [some (.ref o), l1, l2, l3, l4, l5, l6, l7, l8] S sh mi mj mr = zRun 126 7 [some (.ref o), l1, l2, l3, l4, l5, l6, l7, l8] (.ref o :: S) sh mi mj mr := zr_l (zD_of zk_126 d_126_6 rfl rfl) rfl rfl rfl
theorem q_126_6n : zRun 126 6 [some (.null), l1, l2, l3, l4, l5, l6, l7, l8] S sh mi mj mr = zRun 126 7 [some (.null), l1, l2, l3, l4, l5, l6, l7, l8] (.null :: S) sh mi mj mr := zr_l (zD_of zk_126 d_126_6 rfl rfl) rfl rfl rfl
theorem q_126_7  : zRun 126 7 L S sh mi mj mr = zRun 126 8 L (.int 2 :: S) sh mi mj mr := zr_p (zD_of zk_126 d_126_7 rfl rfl) rfl
theorem q_126_8  {x0 : Int32} (hS : zcat S ≤ 8) (h : zIs sh o 0 7) : zRun 126 8 L (.int x0 :: .ref o :: S) sh mi mj mr = (zCall 100 [.ref o, .int x0] sh mi mj mr).bind fun r => zRun 126 11 L (r.1.toList ++ S) r.2.1 r.2.2.1 r.2.2.2.1 r.2.2.2.2 := zr_V (zD_of zk_126 d_126_8 rfl rfl) rfl zk_100 rfl rfl rfl hS h
theorem q_126_11 : zRun 126 11 [l0, l1, l2, l3, l4, l5, l6, l7, l8] (.int x :: S) sh mi mj mr = zRun 126 12 [l0, l1, zk2 l2, some (.int x), l4, l5, l6, l7, l8] S sh mi mj mr := zr_s1 (i := 3) (v := .int x) (L := [l0, l1, l2, l3, l4, l5, l6, l7, l8]) (zD_of zk_126 d_126_11 rfl rfl) rfl rfl rfl rfl
theorem q_126_12r : zRun 126 12 [some (.ref o), l1, l2, l3, l4, l5, l6, l7, l8] S sh mi mj mr = zRun 126 13 [some (.ref o), l1, l2, l3, l4, l5, l6, l7, l8] (.ref o :: S) sh mi mj mr := zr_l (zD_of zk_126 d_126_12 rfl rfl) rfl rfl rfl
theorem q_126_12n : zRun 126 12 [some (.null), l1, l2, l3, l4, l5, l6, l7, l8] S sh mi mj mr = zRun 126 13 [some (.null), l1, l2, l3, l4, l5, l6, l7, l8] (.null :: S) sh mi mj mr := zr_l (zD_of zk_126 d_126_12 rfl rfl) rfl rfl rfl
theorem q_126_13  : zRun 126 13 L S sh mi mj mr = zRun 126 14 L (.int 3 :: S) sh mi mj mr := zr_p (zD_of zk_126 d_126_13 rfl rfl) rfl
theorem q_126_14  {x0 : Int32} (hS : zcat S ≤ 8) (h : zIs sh o 0 7) : zRun 126 14 L (.int x0 :: .ref o :: S) sh mi mj mr = (zCall 100 [.ref o, .int x0] sh mi mj mr).bind fun r => zRun 126 17 L (r.1.toList ++ S) r.2.1 r.2.2.1 r.2.2.2.1 r.2.2.2.2 := zr_V (zD_of zk_126 d_126_14 rfl rfl) rfl zk_100 rfl rfl rfl hS h
theorem q_126_17 : zRun 126 17 [l0, l1, l2, l3, l4, l5, l6, l7, l8] (.int x :: S) sh mi mj mr = zRun 126 19 [l0, l1, l2, zk2 l3, some (.int x), l5, l6, l7, l8] S sh mi mj mr := zr_s1 (i := 4) (v := .int x) (L := [l0, l1, l2, l3, l4, l5, l6, l7, l8]) (zD_of zk_126 d_126_17 rfl rfl) rfl rfl rfl rfl
theorem q_126_19r : zRun 126 19 [some (.ref o), l1, l2, l3, l4, l5, l6, l7, l8] S sh mi mj mr = zRun 126 20 [some (.ref o), l1, l2, l3, l4, l5, l6, l7, l8] (.ref o :: S) sh mi mj mr := zr_l (zD_of zk_126 d_126_19 rfl rfl) rfl rfl rfl
theorem q_126_19n : zRun 126 19 [some (.null), l1, l2, l3, l4, l5, l6, l7, l8] S sh mi mj mr = zRun 126 20 [some (.null), l1, l2, l3, l4, l5, l6, l7, l8] (.null :: S) sh mi mj mr := zr_l (zD_of zk_126 d_126_19 rfl rfl) rfl rfl rfl
theorem q_126_20  : zRun 126 20 L S sh mi mj mr = zRun 126 21 L (.int 0 :: S) sh mi mj mr := zr_p (zD_of zk_126 d_126_20 rfl rfl) rfl
theorem q_126_21  : zRun 126 21 L S sh mi mj mr = zRun 126 22 L (.int (-1) :: S) sh mi mj mr := zr_p (zD_of zk_126 d_126_21 rfl rfl) rfl
theorem q_126_22  : zRun 126 22 L S sh mi mj mr = zRun 126 23 L (.int 0 :: S) sh mi mj mr := zr_p (zD_of zk_126 d_126_22 rfl rfl) rfl
theorem q_126_23  {x0 x1 x2 : Int32} (hS : zcat S ≤ 8) (h : zIs sh o 0 7) : zRun 126 23 L (.int x2 :: .int x1 :: .int x0 :: .ref o :: S) sh mi mj mr = (zCall 86 [.ref o, .int x0, .int x1, .int x2] sh mi mj mr).bind fun r => zRun 126 26 L (r.1.toList ++ S) r.2.1 r.2.2.1 r.2.2.2.1 r.2.2.2.2 := zr_V (zD_of zk_126 d_126_23 rfl rfl) rfl zk_86 rfl rfl rfl hS h
theorem q_126_26 : zRun 126 26 [l0, l1, l2, l3, l4, l5, l6, l7, l8] (.int x :: S) sh mi mj mr = zRun 126 28 [l0, l1, l2, l3, zk2 l4, some (.int x), l6, l7, l8] S sh mi mj mr := zr_s1 (i := 5) (v := .int x) (L := [l0, l1, l2, l3, l4, l5, l6, l7, l8]) (zD_of zk_126 d_126_26 rfl rfl) rfl rfl rfl rfl
theorem q_126_28r : zRun 126 28 [some (.ref o), l1, l2, l3, l4, l5, l6, l7, l8] S sh mi mj mr = zRun 126 29 [some (.ref o), l1, l2, l3, l4, l5, l6, l7, l8] (.ref o :: S) sh mi mj mr := zr_l (zD_of zk_126 d_126_28 rfl rfl) rfl rfl rfl
theorem q_126_28n : zRun 126 28 [some (.null), l1, l2, l3, l4, l5, l6, l7, l8] S sh mi mj mr = zRun 126 29 [some (.null), l1, l2, l3, l4, l5, l6, l7, l8] (.null :: S) sh mi mj mr := zr_l (zD_of zk_126 d_126_28 rfl rfl) rfl rfl rfl
theorem q_126_29  : zRun 126 29 L S sh mi mj mr = zRun 126 30 L (.int 0 :: S) sh mi mj mr := zr_p (zD_of zk_126 d_126_29 rfl rfl) rfl
theorem q_126_30  {x0 : Int32} (hS : zcat S ≤ 8) (h : zIs sh o 0 7) : zRun 126 30 L (.int x0 :: .ref o :: S) sh mi mj mr = (zCall 88 [.ref o, .int x0] sh mi mj mr).bind fun r => zRun 126 33 L (r.1.toList ++ S) r.2.1 r.2.2.1 r.2.2.2.1 r.2.2.2.2 := zr_V (zD_of zk_126 d_126_30 rfl rfl) rfl zk_88 rfl rfl rfl hS h
theorem q_126_33  : zRun 126 33 L (.int x :: S) sh mi mj mr = if x ≤ 0 then zRun 126 40 L S sh mi mj mr else zRun 126 36 L S sh mi mj mr := zr_if (off := 7) (P := x ≤ 0) (zD_of zk_126 d_126_33 rfl rfl) rfl rfl (by decide)
theorem q_126_36  : zRun 126 36 L S sh mi mj mr = zRun 126 37 L (.long 0 :: S) sh mi mj mr := zr_p (zD_of zk_126 d_126_36 rfl rfl) rfl
theorem q_126_37  : zRun 126 37 L S sh mi mj mr = zRun 126 47 L S sh mi mj mr := zr_go (off := 10) (zD_of zk_126 d_126_37 rfl rfl) rfl rfl (by decide)
theorem q_126_40r : zRun 126 40 [some (.ref o), l1, l2, l3, l4, l5, l6, l7, l8] S sh mi mj mr = zRun 126 41 [some (.ref o), l1, l2, l3, l4, l5, l6, l7, l8] (.ref o :: S) sh mi mj mr := zr_l (zD_of zk_126 d_126_40 rfl rfl) rfl rfl rfl
theorem q_126_40n : zRun 126 40 [some (.null), l1, l2, l3, l4, l5, l6, l7, l8] S sh mi mj mr = zRun 126 41 [some (.null), l1, l2, l3, l4, l5, l6, l7, l8] (.null :: S) sh mi mj mr := zr_l (zD_of zk_126 d_126_40 rfl rfl) rfl rfl rfl
theorem q_126_41  : zRun 126 41 L S sh mi mj mr = zRun 126 42 L (.int 0 :: S) sh mi mj mr := zr_p (zD_of zk_126 d_126_41 rfl rfl) rfl
theorem q_126_42  : zRun 126 42 L S sh mi mj mr = zRun 126 44 L (.int 12 :: S) sh mi mj mr := zr_p (zD_of zk_126 d_126_42 rfl rfl) rfl
theorem q_126_44  {x0 x1 : Int32} (hS : zcat S ≤ 8) (h : zIs sh o 0 7) : zRun 126 44 L (.int x1 :: .int x0 :: .ref o :: S) sh mi mj mr = (zCall 90 [.ref o, .int x0, .int x1] sh mi mj mr).bind fun r => zRun 126 47 L (r.1.toList ++ S) r.2.1 r.2.2.1 r.2.2.2.1 r.2.2.2.2 := zr_V (zD_of zk_126 d_126_44 rfl rfl) rfl zk_90 rfl rfl rfl hS h
theorem q_126_47 : zRun 126 47 [l0, l1, l2, l3, l4, l5, l6, l7, l8] (.long u :: S) sh mi mj mr = zRun 126 49 [l0, l1, l2, l3, l4, zk2 l5, some (.long u), none, l8] S sh mi mj mr := zr_s2 (i := 6) (v := .long u) (L := [l0, l1, l2, l3, l4, l5, l6, l7, l8]) (zD_of zk_126 d_126_47 rfl rfl) rfl rfl rfl rfl
theorem q_126_49r : zRun 126 49 [some (.ref o), l1, l2, l3, l4, l5, l6, l7, l8] S sh mi mj mr = zRun 126 50 [some (.ref o), l1, l2, l3, l4, l5, l6, l7, l8] (.ref o :: S) sh mi mj mr := zr_l (zD_of zk_126 d_126_49 rfl rfl) rfl rfl rfl
theorem q_126_49n : zRun 126 49 [some (.null), l1, l2, l3, l4, l5, l6, l7, l8] S sh mi mj mr = zRun 126 50 [some (.null), l1, l2, l3, l4, l5, l6, l7, l8] (.null :: S) sh mi mj mr := zr_l (zD_of zk_126 d_126_49 rfl rfl) rfl rfl rfl
theorem q_126_50  : zRun 126 50 L S sh mi mj mr = zRun 126 52 L (.int 97 :: S) sh mi mj mr := zr_p (zD_of zk_126 d_126_50 rfl rfl) rfl
theorem q_126_52  {x0 : Int32} (hS : zcat S ≤ 8) (h : zIs sh o 0 7) : zRun 126 52 L (.int x0 :: .ref o :: S) sh mi mj mr = (zCall 82 [.ref o, .int x0] sh mi mj mr).bind fun r => zRun 126 55 L (r.1.toList ++ S) r.2.1 r.2.2.1 r.2.2.2.1 r.2.2.2.2 := zr_V (zD_of zk_126 d_126_52 rfl rfl) rfl zk_82 rfl rfl rfl hS h
theorem q_126_55  : zRun 126 55 L (.int x :: S) sh mi mj mr = zRun 126 56 L S sh mi mj mr := zr_p (zD_of zk_126 d_126_55 rfl rfl) rfl
theorem q_126_56 : zRun 126 56 [l0, l1, some (.int x), l3, l4, l5, l6, l7, l8] S sh mi mj mr = zRun 126 57 [l0, l1, some (.int x), l3, l4, l5, l6, l7, l8] (.int x :: S) sh mi mj mr := zr_l (zD_of zk_126 d_126_56 rfl rfl) rfl rfl rfl
theorem q_126_57  : zRun 126 57 L S sh mi mj mr = zRun 126 58 L (.int 1 :: S) sh mi mj mr := zr_p (zD_of zk_126 d_126_57 rfl rfl) rfl
theorem q_126_58 : zRun 126 58 [l0, some (.int x), l2, l3, l4, l5, l6, l7, l8] S sh mi mj mr = zRun 126 59 [l0, some (.int x), l2, l3, l4, l5, l6, l7, l8] (.int x :: S) sh mi mj mr := zr_l (zD_of zk_126 d_126_58 rfl rfl) rfl rfl rfl
theorem q_126_59  : zRun 126 59 L (.int y :: .int x :: S) sh mi mj mr = zRun 126 60 L (.int (x <<< (y &&& 31)) :: S) sh mi mj mr := zr_p (zD_of zk_126 d_126_59 rfl rfl) rfl
theorem q_126_60  : zRun 126 60 L S sh mi mj mr = zRun 126 61 L (.int 1 :: S) sh mi mj mr := zr_p (zD_of zk_126 d_126_60 rfl rfl) rfl
theorem q_126_61  : zRun 126 61 L (.int y :: .int x :: S) sh mi mj mr = zRun 126 62 L (.int (x - y) :: S) sh mi mj mr := zr_p (zD_of zk_126 d_126_61 rfl rfl) rfl
theorem q_126_62  : zRun 126 62 L (.int y :: .int x :: S) sh mi mj mr = if ¬ x = y then zRun 126 94 L S sh mi mj mr else zRun 126 65 L S sh mi mj mr := zr_if (off := 32) (P := ¬ x = y) (zD_of zk_126 d_126_62 rfl rfl) rfl rfl (by decide)
theorem q_126_65r : zRun 126 65 [some (.ref o), l1, l2, l3, l4, l5, l6, l7, l8] S sh mi mj mr = zRun 126 66 [some (.ref o), l1, l2, l3, l4, l5, l6, l7, l8] (.ref o :: S) sh mi mj mr := zr_l (zD_of zk_126 d_126_65 rfl rfl) rfl rfl rfl
theorem q_126_65n : zRun 126 65 [some (.null), l1, l2, l3, l4, l5, l6, l7, l8] S sh mi mj mr = zRun 126 66 [some (.null), l1, l2, l3, l4, l5, l6, l7, l8] (.null :: S) sh mi mj mr := zr_l (zD_of zk_126 d_126_65 rfl rfl) rfl rfl rfl
theorem q_126_66  : zRun 126 66 L S sh mi mj mr = zRun 126 67 L (.int 0 :: S) sh mi mj mr := zr_p (zD_of zk_126 d_126_66 rfl rfl) rfl
theorem q_126_67  {x0 : Int32} (hS : zcat S ≤ 8) (h : zIs sh o 0 7) : zRun 126 67 L (.int x0 :: .ref o :: S) sh mi mj mr = (zCall 85 [.ref o, .int x0] sh mi mj mr).bind fun r => zRun 126 70 L (r.1.toList ++ S) r.2.1 r.2.2.1 r.2.2.2.1 r.2.2.2.2 := zr_V (zD_of zk_126 d_126_67 rfl rfl) rfl zk_85 rfl rfl rfl hS h
theorem q_126_70  : zRun 126 70 L S sh mi mj mr = zRun 126 71 L (.int 1 :: S) sh mi mj mr := zr_p (zD_of zk_126 d_126_70 rfl rfl) rfl
theorem q_126_71  : zRun 126 71 L (.int y :: .int x :: S) sh mi mj mr = if ¬ x = y then zRun 126 94 L S sh mi mj mr else zRun 126 74 L S sh mi mj mr := zr_if (off := 23) (P := ¬ x = y) (zD_of zk_126 d_126_71 rfl rfl) rfl rfl (by decide)
theorem q_126_74r : zRun 126 74 [some (.ref o), l1, l2, l3, l4, l5, l6, l7, l8] S sh mi mj mr = zRun 126 75 [some (.ref o), l1, l2, l3, l4, l5, l6, l7, l8] (.ref o :: S) sh mi mj mr := zr_l (zD_of zk_126 d_126_74 rfl rfl) rfl rfl rfl
theorem q_126_74n : zRun 126 74 [some (.null), l1, l2, l3, l4, l5, l6, l7, l8] S sh mi mj mr = zRun 126 75 [some (.null), l1, l2, l3, l4, l5, l6, l7, l8] (.null :: S) sh mi mj mr := zr_l (zD_of zk_126 d_126_74 rfl rfl) rfl rfl rfl
theorem q_126_75 : zRun 126 75 [l0, l1, l2, some (.int x), l4, l5, l6, l7, l8] S sh mi mj mr = zRun 126 76 [l0, l1, l2, some (.int x), l4, l5, l6, l7, l8] (.int x :: S) sh mi mj mr := zr_l (zD_of zk_126 d_126_75 rfl rfl) rfl rfl rfl
theorem q_126_76  : zRun 126 76 L S sh mi mj mr = zRun 126 78 L (.int 8 :: S) sh mi mj mr := zr_p (zD_of zk_126 d_126_76 rfl rfl) rfl
theorem q_126_78  : zRun 126 78 L (.int y :: .int x :: S) sh mi mj mr = if ¬ x = y then zRun 126 85 L S sh mi mj mr else zRun 126 81 L S sh mi mj mr := zr_if (off := 7) (P := ¬ x = y) (zD_of zk_126 d_126_78 rfl rfl) rfl rfl (by decide)
theorem q_126_81  : zRun 126 81 L S sh mi mj mr = zRun 126 82 L (.int 0 :: S) sh mi mj mr := zr_p (zD_of zk_126 d_126_81 rfl rfl) rfl
theorem q_126_82  : zRun 126 82 L S sh mi mj mr = zRun 126 87 L S sh mi mj mr := zr_go (off := 5) (zD_of zk_126 d_126_82 rfl rfl) rfl rfl (by decide)
theorem q_126_85  : zRun 126 85 L S sh mi mj mr = zRun 126 87 L (.int 8 :: S) sh mi mj mr := zr_p (zD_of zk_126 d_126_85 rfl rfl) rfl
theorem q_126_87  {x0 : Int32} (hS : zcat S ≤ 8) (h : zIs sh o 0 7) : zRun 126 87 L (.int x0 :: .ref o :: S) sh mi mj mr = (zCall 81 [.ref o, .int x0] sh mi mj mr).bind fun r => zRun 126 90 L (r.1.toList ++ S) r.2.1 r.2.2.1 r.2.2.2.1 r.2.2.2.2 := zr_V (zD_of zk_126 d_126_87 rfl rfl) rfl zk_81 rfl rfl rfl hS h
theorem q_126_90 : zRun 126 90 [l0, l1, l2, some (.int x), l4, l5, l6, l7, l8] S sh mi mj mr = zRun 126 91 [l0, l1, l2, some (.int x), l4, l5, l6, l7, l8] (.int x :: S) sh mi mj mr := zr_l (zD_of zk_126 d_126_90 rfl rfl) rfl rfl rfl
theorem q_126_91  : zRun 126 91 L (.int y :: .int x :: S) sh mi mj mr = if x = y then zRun 126 96 L S sh mi mj mr else zRun 126 94 L S sh mi mj mr := zr_if (off := 5) (P := x = y) (zD_of zk_126 d_126_91 rfl rfl) rfl rfl (by decide)
theorem q_126_94  : zRun 126 94 L S sh mi mj mr = zRun 126 95 L (.int 0 :: S) sh mi mj mr := zr_p (zD_of zk_126 d_126_94 rfl rfl) rfl
theorem q_126_95 (h : x = 0 ∨ x = 1) : zRun 126 95 L ([.int x]) sh mi mj mr = some (some (.int x), sh, mi, mj, mr) := zr_ret (zD_of zk_126 d_126_95 rfl rfl) rfl rfl rfl rfl rfl (if_pos (zna_b h))
theorem q_126_96  : zRun 126 96 L S sh mi mj mr = zRun 126 97 L (.int 0 :: S) sh mi mj mr := zr_p (zD_of zk_126 d_126_96 rfl rfl) rfl
theorem q_126_97 : zRun 126 97 [l0, l1, l2, l3, l4, l5, l6, l7, l8] (.int x :: S) sh mi mj mr = zRun 126 99 [l0, l1, l2, l3, l4, l5, l6, zk2 l7, some (.int x)] S sh mi mj mr := zr_s1 (i := 8) (v := .int x) (L := [l0, l1, l2, l3, l4, l5, l6, l7, l8]) (zD_of zk_126 d_126_97 rfl rfl) rfl rfl rfl rfl
theorem q_126_99 : zRun 126 99 [l0, l1, l2, l3, l4, l5, l6, l7, some (.int x)] S sh mi mj mr = zRun 126 101 [l0, l1, l2, l3, l4, l5, l6, l7, some (.int x)] (.int x :: S) sh mi mj mr := zr_l (zD_of zk_126 d_126_99 rfl rfl) rfl rfl rfl
theorem q_126_101  : zRun 126 101 L S sh mi mj mr = zRun 126 102 L (.int 4 :: S) sh mi mj mr := zr_p (zD_of zk_126 d_126_101 rfl rfl) rfl
theorem q_126_102  : zRun 126 102 L (.int y :: .int x :: S) sh mi mj mr = if y ≤ x then zRun 126 120 L S sh mi mj mr else zRun 126 105 L S sh mi mj mr := zr_if (off := 18) (P := y ≤ x) (zD_of zk_126 d_126_102 rfl rfl) rfl rfl (by decide)
theorem q_126_105r : zRun 126 105 [some (.ref o), l1, l2, l3, l4, l5, l6, l7, l8] S sh mi mj mr = zRun 126 106 [some (.ref o), l1, l2, l3, l4, l5, l6, l7, l8] (.ref o :: S) sh mi mj mr := zr_l (zD_of zk_126 d_126_105 rfl rfl) rfl rfl rfl
theorem q_126_105n : zRun 126 105 [some (.null), l1, l2, l3, l4, l5, l6, l7, l8] S sh mi mj mr = zRun 126 106 [some (.null), l1, l2, l3, l4, l5, l6, l7, l8] (.null :: S) sh mi mj mr := zr_l (zD_of zk_126 d_126_105 rfl rfl) rfl rfl rfl
theorem q_126_106 : zRun 126 106 [l0, l1, l2, l3, l4, l5, l6, l7, some (.int x)] S sh mi mj mr = zRun 126 108 [l0, l1, l2, l3, l4, l5, l6, l7, some (.int x)] (.int x :: S) sh mi mj mr := zr_l (zD_of zk_126 d_126_106 rfl rfl) rfl rfl rfl
theorem q_126_108  : zRun 126 108 L S sh mi mj mr = zRun 126 109 L (.int 1 :: S) sh mi mj mr := zr_p (zD_of zk_126 d_126_108 rfl rfl) rfl
theorem q_126_109  : zRun 126 109 L S sh mi mj mr = zRun 126 110 L (.int 1 :: S) sh mi mj mr := zr_p (zD_of zk_126 d_126_109 rfl rfl) rfl
theorem q_126_110  {x0 x1 x2 : Int32} (hS : zcat S ≤ 8) (h : zIs sh o 0 7) : zRun 126 110 L (.int x2 :: .int x1 :: .int x0 :: .ref o :: S) sh mi mj mr = (zCall 79 [.ref o, .int x0, .int x1, .int x2] sh mi mj mr).bind fun r => zRun 126 113 L (r.1.toList ++ S) r.2.1 r.2.2.1 r.2.2.2.1 r.2.2.2.2 := zr_V (zD_of zk_126 d_126_110 rfl rfl) rfl zk_79 rfl rfl rfl hS h
theorem q_126_113  : zRun 126 113 L (.int x :: S) sh mi mj mr = zRun 126 114 L S sh mi mj mr := zr_p (zD_of zk_126 d_126_113 rfl rfl) rfl
theorem q_126_114  : zRun 126 114 [l0, l1, l2, l3, l4, l5, l6, l7, some (.int x)] S sh mi mj mr = zRun 126 117 [l0, l1, l2, l3, l4, l5, l6, zk2 l7, some (.int (x + 1))] S sh mi mj mr := zr_s1 (i := 8) (v := .int (x + 1)) (L := [l0, l1, l2, l3, l4, l5, l6, l7, some (.int x)]) (zD_of zk_126 d_126_114 rfl rfl) rfl rfl rfl rfl
theorem q_126_117  : zRun 126 117 L S sh mi mj mr = zRun 126 99 L S sh mi mj mr := zr_go (off := (-18)) (zD_of zk_126 d_126_117 rfl rfl) rfl rfl (by decide)
theorem q_126_120r : zRun 126 120 [some (.ref o), l1, l2, l3, l4, l5, l6, l7, l8] S sh mi mj mr = zRun 126 121 [some (.ref o), l1, l2, l3, l4, l5, l6, l7, l8] (.ref o :: S) sh mi mj mr := zr_l (zD_of zk_126 d_126_120 rfl rfl) rfl rfl rfl
theorem q_126_120n : zRun 126 120 [some (.null), l1, l2, l3, l4, l5, l6, l7, l8] S sh mi mj mr = zRun 126 121 [some (.null), l1, l2, l3, l4, l5, l6, l7, l8] (.null :: S) sh mi mj mr := zr_l (zD_of zk_126 d_126_120 rfl rfl) rfl rfl rfl
theorem q_126_121  : zRun 126 121 L S sh mi mj mr = zRun 126 122 L (.int 3 :: S) sh mi mj mr := zr_p (zD_of zk_126 d_126_121 rfl rfl) rfl
theorem q_126_122  {x0 : Int32} (hS : zcat S ≤ 8) (h : zIs sh o 0 7) : zRun 126 122 L (.int x0 :: .ref o :: S) sh mi mj mr = (zCall 100 [.ref o, .int x0] sh mi mj mr).bind fun r => zRun 126 125 L (r.1.toList ++ S) r.2.1 r.2.2.1 r.2.2.2.1 r.2.2.2.2 := zr_V (zD_of zk_126 d_126_122 rfl rfl) rfl zk_100 rfl rfl rfl hS h
theorem q_126_125  : zRun 126 125 L (.int x :: S) sh mi mj mr = if ¬ x = 0 then zRun 126 149 L S sh mi mj mr else zRun 126 128 L S sh mi mj mr := zr_if (off := 24) (P := ¬ x = 0) (zD_of zk_126 d_126_125 rfl rfl) rfl rfl (by decide)
theorem q_126_128r : zRun 126 128 [some (.ref o), l1, l2, l3, l4, l5, l6, l7, l8] S sh mi mj mr = zRun 126 129 [some (.ref o), l1, l2, l3, l4, l5, l6, l7, l8] (.ref o :: S) sh mi mj mr := zr_l (zD_of zk_126 d_126_128 rfl rfl) rfl rfl rfl
theorem q_126_128n : zRun 126 128 [some (.null), l1, l2, l3, l4, l5, l6, l7, l8] S sh mi mj mr = zRun 126 129 [some (.null), l1, l2, l3, l4, l5, l6, l7, l8] (.null :: S) sh mi mj mr := zr_l (zD_of zk_126 d_126_128 rfl rfl) rfl rfl rfl
theorem q_126_129  : zRun 126 129 L S sh mi mj mr = zRun 126 130 L (.int 0 :: S) sh mi mj mr := zr_p (zD_of zk_126 d_126_129 rfl rfl) rfl
theorem q_126_130  : zRun 126 130 L S sh mi mj mr = zRun 126 131 L (.int 2 :: S) sh mi mj mr := zr_p (zD_of zk_126 d_126_130 rfl rfl) rfl
theorem q_126_131  : zRun 126 131 L S sh mi mj mr = zRun 126 132 L (.int 0 :: S) sh mi mj mr := zr_p (zD_of zk_126 d_126_131 rfl rfl) rfl
theorem q_126_132  {x0 x1 x2 : Int32} (hS : zcat S ≤ 8) (h : zIs sh o 0 7) : zRun 126 132 L (.int x2 :: .int x1 :: .int x0 :: .ref o :: S) sh mi mj mr = (zCall 89 [.ref o, .int x0, .int x1, .int x2] sh mi mj mr).bind fun r => zRun 126 135 L (r.1.toList ++ S) r.2.1 r.2.2.1 r.2.2.2.1 r.2.2.2.2 := zr_V (zD_of zk_126 d_126_132 rfl rfl) rfl zk_89 rfl rfl rfl hS h
theorem q_126_135  : zRun 126 135 L S sh mi mj mr = zRun 126 136 L (.long 1 :: S) sh mi mj mr := zr_p (zD_of zk_126 d_126_135 rfl rfl) rfl
theorem q_126_136  : zRun 126 136 L (.long v :: .long u :: S) sh mi mj mr = if ¬ u = v then zRun 126 149 L S sh mi mj mr else zRun 126 140 L S sh mi mj mr := zr_cmp (off := 12) (zD_of zk_126 d_126_136 rfl rfl) (zD_of zk_126 d_126_137 rfl rfl) rfl rfl (by decide) (not_congr (lg_cmp_eq u v))
theorem q_126_137  : zRun 126 137 L (.int x :: S) sh mi mj mr = if ¬ x = 0 then zRun 126 149 L S sh mi mj mr else zRun 126 140 L S sh mi mj mr := zr_if (off := 12) (P := ¬ x = 0) (zD_of zk_126 d_126_137 rfl rfl) rfl rfl (by decide)
theorem q_126_140r : zRun 126 140 [some (.ref o), l1, l2, l3, l4, l5, l6, l7, l8] S sh mi mj mr = zRun 126 141 [some (.ref o), l1, l2, l3, l4, l5, l6, l7, l8] (.ref o :: S) sh mi mj mr := zr_l (zD_of zk_126 d_126_140 rfl rfl) rfl rfl rfl
theorem q_126_140n : zRun 126 140 [some (.null), l1, l2, l3, l4, l5, l6, l7, l8] S sh mi mj mr = zRun 126 141 [some (.null), l1, l2, l3, l4, l5, l6, l7, l8] (.null :: S) sh mi mj mr := zr_l (zD_of zk_126 d_126_140 rfl rfl) rfl rfl rfl
theorem q_126_141  : zRun 126 141 L S sh mi mj mr = zRun 126 142 L (.int 0 :: S) sh mi mj mr := zr_p (zD_of zk_126 d_126_141 rfl rfl) rfl
theorem q_126_142  {x0 : Int32} (hS : zcat S ≤ 8) (h : zIs sh o 0 7) : zRun 126 142 L (.int x0 :: .ref o :: S) sh mi mj mr = (zCall 87 [.ref o, .int x0] sh mi mj mr).bind fun r => zRun 126 145 L (r.1.toList ++ S) r.2.1 r.2.2.1 r.2.2.2.1 r.2.2.2.2 := zr_V (zD_of zk_126 d_126_142 rfl rfl) rfl zk_87 rfl rfl rfl hS h
theorem q_126_145  : zRun 126 145 L S sh mi mj mr = zRun 126 146 L (.int 1 :: S) sh mi mj mr := zr_p (zD_of zk_126 d_126_145 rfl rfl) rfl
theorem q_126_146  : zRun 126 146 L (.int y :: .int x :: S) sh mi mj mr = if x = y then zRun 126 151 L S sh mi mj mr else zRun 126 149 L S sh mi mj mr := zr_if (off := 5) (P := x = y) (zD_of zk_126 d_126_146 rfl rfl) rfl rfl (by decide)
theorem q_126_149  : zRun 126 149 L S sh mi mj mr = zRun 126 150 L (.int 0 :: S) sh mi mj mr := zr_p (zD_of zk_126 d_126_149 rfl rfl) rfl
theorem q_126_150 (h : x = 0 ∨ x = 1) : zRun 126 150 L ([.int x]) sh mi mj mr = some (some (.int x), sh, mi, mj, mr) := zr_ret (zD_of zk_126 d_126_150 rfl rfl) rfl rfl rfl rfl rfl (if_pos (zna_b h))
theorem q_126_151r : zRun 126 151 [some (.ref o), l1, l2, l3, l4, l5, l6, l7, l8] S sh mi mj mr = zRun 126 152 [some (.ref o), l1, l2, l3, l4, l5, l6, l7, l8] (.ref o :: S) sh mi mj mr := zr_l (zD_of zk_126 d_126_151 rfl rfl) rfl rfl rfl
theorem q_126_151n : zRun 126 151 [some (.null), l1, l2, l3, l4, l5, l6, l7, l8] S sh mi mj mr = zRun 126 152 [some (.null), l1, l2, l3, l4, l5, l6, l7, l8] (.null :: S) sh mi mj mr := zr_l (zD_of zk_126 d_126_151 rfl rfl) rfl rfl rfl
theorem q_126_152  : zRun 126 152 L S sh mi mj mr = zRun 126 153 L (.int 1 :: S) sh mi mj mr := zr_p (zD_of zk_126 d_126_152 rfl rfl) rfl
theorem q_126_153  {x0 : Int32} (hS : zcat S ≤ 8) (h : zIs sh o 0 7) : zRun 126 153 L (.int x0 :: .ref o :: S) sh mi mj mr = (zCall 102 [.ref o, .int x0] sh mi mj mr).bind fun r => zRun 126 156 L (r.1.toList ++ S) r.2.1 r.2.2.1 r.2.2.2.1 r.2.2.2.2 := zr_V (zD_of zk_126 d_126_153 rfl rfl) rfl zk_102 rfl rfl rfl hS h
theorem q_126_156 : zRun 126 156 [l0, l1, some (.int x), l3, l4, l5, l6, l7, l8] S sh mi mj mr = zRun 126 157 [l0, l1, some (.int x), l3, l4, l5, l6, l7, l8] (.int x :: S) sh mi mj mr := zr_l (zD_of zk_126 d_126_156 rfl rfl) rfl rfl rfl
theorem q_126_157  : zRun 126 157 L (.int y :: .int x :: S) sh mi mj mr = if ¬ x = y then zRun 126 216 L S sh mi mj mr else zRun 126 160 L S sh mi mj mr := zr_if (off := 59) (P := ¬ x = y) (zD_of zk_126 d_126_157 rfl rfl) rfl rfl (by decide)
theorem q_126_160r : zRun 126 160 [some (.ref o), l1, l2, l3, l4, l5, l6, l7, l8] S sh mi mj mr = zRun 126 161 [some (.ref o), l1, l2, l3, l4, l5, l6, l7, l8] (.ref o :: S) sh mi mj mr := zr_l (zD_of zk_126 d_126_160 rfl rfl) rfl rfl rfl
theorem q_126_160n : zRun 126 160 [some (.null), l1, l2, l3, l4, l5, l6, l7, l8] S sh mi mj mr = zRun 126 161 [some (.null), l1, l2, l3, l4, l5, l6, l7, l8] (.null :: S) sh mi mj mr := zr_l (zD_of zk_126 d_126_160 rfl rfl) rfl rfl rfl
theorem q_126_161  : zRun 126 161 L S sh mi mj mr = zRun 126 162 L (.int 2 :: S) sh mi mj mr := zr_p (zD_of zk_126 d_126_161 rfl rfl) rfl
theorem q_126_162  {x0 : Int32} (hS : zcat S ≤ 8) (h : zIs sh o 0 7) : zRun 126 162 L (.int x0 :: .ref o :: S) sh mi mj mr = (zCall 100 [.ref o, .int x0] sh mi mj mr).bind fun r => zRun 126 165 L (r.1.toList ++ S) r.2.1 r.2.2.1 r.2.2.2.1 r.2.2.2.2 := zr_V (zD_of zk_126 d_126_162 rfl rfl) rfl zk_100 rfl rfl rfl hS h
theorem q_126_165 : zRun 126 165 [l0, l1, l2, some (.int x), l4, l5, l6, l7, l8] S sh mi mj mr = zRun 126 166 [l0, l1, l2, some (.int x), l4, l5, l6, l7, l8] (.int x :: S) sh mi mj mr := zr_l (zD_of zk_126 d_126_165 rfl rfl) rfl rfl rfl
theorem q_126_166  : zRun 126 166 L (.int y :: .int x :: S) sh mi mj mr = if ¬ x = y then zRun 126 216 L S sh mi mj mr else zRun 126 169 L S sh mi mj mr := zr_if (off := 50) (P := ¬ x = y) (zD_of zk_126 d_126_166 rfl rfl) rfl rfl (by decide)
theorem q_126_169r : zRun 126 169 [some (.ref o), l1, l2, l3, l4, l5, l6, l7, l8] S sh mi mj mr = zRun 126 170 [some (.ref o), l1, l2, l3, l4, l5, l6, l7, l8] (.ref o :: S) sh mi mj mr := zr_l (zD_of zk_126 d_126_169 rfl rfl) rfl rfl rfl
theorem q_126_169n : zRun 126 169 [some (.null), l1, l2, l3, l4, l5, l6, l7, l8] S sh mi mj mr = zRun 126 170 [some (.null), l1, l2, l3, l4, l5, l6, l7, l8] (.null :: S) sh mi mj mr := zr_l (zD_of zk_126 d_126_169 rfl rfl) rfl rfl rfl
theorem q_126_170  : zRun 126 170 L S sh mi mj mr = zRun 126 171 L (.int 3 :: S) sh mi mj mr := zr_p (zD_of zk_126 d_126_170 rfl rfl) rfl
theorem q_126_171  {x0 : Int32} (hS : zcat S ≤ 8) (h : zIs sh o 0 7) : zRun 126 171 L (.int x0 :: .ref o :: S) sh mi mj mr = (zCall 100 [.ref o, .int x0] sh mi mj mr).bind fun r => zRun 126 174 L (r.1.toList ++ S) r.2.1 r.2.2.1 r.2.2.2.1 r.2.2.2.2 := zr_V (zD_of zk_126 d_126_171 rfl rfl) rfl zk_100 rfl rfl rfl hS h
theorem q_126_174 : zRun 126 174 [l0, l1, l2, l3, some (.int x), l5, l6, l7, l8] S sh mi mj mr = zRun 126 176 [l0, l1, l2, l3, some (.int x), l5, l6, l7, l8] (.int x :: S) sh mi mj mr := zr_l (zD_of zk_126 d_126_174 rfl rfl) rfl rfl rfl
theorem q_126_176  : zRun 126 176 L (.int y :: .int x :: S) sh mi mj mr = if ¬ x = y then zRun 126 216 L S sh mi mj mr else zRun 126 179 L S sh mi mj mr := zr_if (off := 40) (P := ¬ x = y) (zD_of zk_126 d_126_176 rfl rfl) rfl rfl (by decide)
theorem q_126_179r : zRun 126 179 [some (.ref o), l1, l2, l3, l4, l5, l6, l7, l8] S sh mi mj mr = zRun 126 180 [some (.ref o), l1, l2, l3, l4, l5, l6, l7, l8] (.ref o :: S) sh mi mj mr := zr_l (zD_of zk_126 d_126_179 rfl rfl) rfl rfl rfl
theorem q_126_179n : zRun 126 179 [some (.null), l1, l2, l3, l4, l5, l6, l7, l8] S sh mi mj mr = zRun 126 180 [some (.null), l1, l2, l3, l4, l5, l6, l7, l8] (.null :: S) sh mi mj mr := zr_l (zD_of zk_126 d_126_179 rfl rfl) rfl rfl rfl
theorem q_126_180  : zRun 126 180 L S sh mi mj mr = zRun 126 181 L (.int 0 :: S) sh mi mj mr := zr_p (zD_of zk_126 d_126_180 rfl rfl) rfl
theorem q_126_181  : zRun 126 181 L S sh mi mj mr = zRun 126 182 L (.int (-1) :: S) sh mi mj mr := zr_p (zD_of zk_126 d_126_181 rfl rfl) rfl
theorem q_126_182  : zRun 126 182 L S sh mi mj mr = zRun 126 183 L (.int 0 :: S) sh mi mj mr := zr_p (zD_of zk_126 d_126_182 rfl rfl) rfl
theorem q_126_183  {x0 x1 x2 : Int32} (hS : zcat S ≤ 8) (h : zIs sh o 0 7) : zRun 126 183 L (.int x2 :: .int x1 :: .int x0 :: .ref o :: S) sh mi mj mr = (zCall 86 [.ref o, .int x0, .int x1, .int x2] sh mi mj mr).bind fun r => zRun 126 186 L (r.1.toList ++ S) r.2.1 r.2.2.1 r.2.2.2.1 r.2.2.2.2 := zr_V (zD_of zk_126 d_126_183 rfl rfl) rfl zk_86 rfl rfl rfl hS h
theorem q_126_186 : zRun 126 186 [l0, l1, l2, l3, l4, some (.int x), l6, l7, l8] S sh mi mj mr = zRun 126 188 [l0, l1, l2, l3, l4, some (.int x), l6, l7, l8] (.int x :: S) sh mi mj mr := zr_l (zD_of zk_126 d_126_186 rfl rfl) rfl rfl rfl
theorem q_126_188  : zRun 126 188 L (.int y :: .int x :: S) sh mi mj mr = if ¬ x = y then zRun 126 216 L S sh mi mj mr else zRun 126 191 L S sh mi mj mr := zr_if (off := 28) (P := ¬ x = y) (zD_of zk_126 d_126_188 rfl rfl) rfl rfl (by decide)
theorem q_126_191r : zRun 126 191 [some (.ref o), l1, l2, l3, l4, l5, l6, l7, l8] S sh mi mj mr = zRun 126 192 [some (.ref o), l1, l2, l3, l4, l5, l6, l7, l8] (.ref o :: S) sh mi mj mr := zr_l (zD_of zk_126 d_126_191 rfl rfl) rfl rfl rfl
theorem q_126_191n : zRun 126 191 [some (.null), l1, l2, l3, l4, l5, l6, l7, l8] S sh mi mj mr = zRun 126 192 [some (.null), l1, l2, l3, l4, l5, l6, l7, l8] (.null :: S) sh mi mj mr := zr_l (zD_of zk_126 d_126_191 rfl rfl) rfl rfl rfl
theorem q_126_192  : zRun 126 192 L S sh mi mj mr = zRun 126 193 L (.int 0 :: S) sh mi mj mr := zr_p (zD_of zk_126 d_126_192 rfl rfl) rfl
theorem q_126_193  {x0 : Int32} (hS : zcat S ≤ 8) (h : zIs sh o 0 7) : zRun 126 193 L (.int x0 :: .ref o :: S) sh mi mj mr = (zCall 88 [.ref o, .int x0] sh mi mj mr).bind fun r => zRun 126 196 L (r.1.toList ++ S) r.2.1 r.2.2.1 r.2.2.2.1 r.2.2.2.2 := zr_V (zD_of zk_126 d_126_193 rfl rfl) rfl zk_88 rfl rfl rfl hS h
theorem q_126_196  : zRun 126 196 L (.int x :: S) sh mi mj mr = if 0 < x then zRun 126 212 L S sh mi mj mr else zRun 126 199 L S sh mi mj mr := zr_if (off := 16) (P := 0 < x) (zD_of zk_126 d_126_196 rfl rfl) rfl rfl (by decide)
theorem q_126_199r : zRun 126 199 [some (.ref o), l1, l2, l3, l4, l5, l6, l7, l8] S sh mi mj mr = zRun 126 200 [some (.ref o), l1, l2, l3, l4, l5, l6, l7, l8] (.ref o :: S) sh mi mj mr := zr_l (zD_of zk_126 d_126_199 rfl rfl) rfl rfl rfl
theorem q_126_199n : zRun 126 199 [some (.null), l1, l2, l3, l4, l5, l6, l7, l8] S sh mi mj mr = zRun 126 200 [some (.null), l1, l2, l3, l4, l5, l6, l7, l8] (.null :: S) sh mi mj mr := zr_l (zD_of zk_126 d_126_199 rfl rfl) rfl rfl rfl
theorem q_126_200  : zRun 126 200 L S sh mi mj mr = zRun 126 201 L (.int 0 :: S) sh mi mj mr := zr_p (zD_of zk_126 d_126_200 rfl rfl) rfl
theorem q_126_201  : zRun 126 201 L S sh mi mj mr = zRun 126 203 L (.int 12 :: S) sh mi mj mr := zr_p (zD_of zk_126 d_126_201 rfl rfl) rfl
theorem q_126_203  {x0 x1 : Int32} (hS : zcat S ≤ 8) (h : zIs sh o 0 7) : zRun 126 203 L (.int x1 :: .int x0 :: .ref o :: S) sh mi mj mr = (zCall 90 [.ref o, .int x0, .int x1] sh mi mj mr).bind fun r => zRun 126 206 L (r.1.toList ++ S) r.2.1 r.2.2.1 r.2.2.2.1 r.2.2.2.2 := zr_V (zD_of zk_126 d_126_203 rfl rfl) rfl zk_90 rfl rfl rfl hS h
theorem q_126_206 : zRun 126 206 [l0, l1, l2, l3, l4, l5, some (.long u), l7, l8] S sh mi mj mr = zRun 126 208 [l0, l1, l2, l3, l4, l5, some (.long u), l7, l8] (.long u :: S) sh mi mj mr := zr_l (zD_of zk_126 d_126_206 rfl rfl) rfl rfl rfl
theorem q_126_208  : zRun 126 208 L (.long v :: .long u :: S) sh mi mj mr = if ¬ u = v then zRun 126 216 L S sh mi mj mr else zRun 126 212 L S sh mi mj mr := zr_cmp (off := 7) (zD_of zk_126 d_126_208 rfl rfl) (zD_of zk_126 d_126_209 rfl rfl) rfl rfl (by decide) (not_congr (lg_cmp_eq u v))
theorem q_126_209  : zRun 126 209 L (.int x :: S) sh mi mj mr = if ¬ x = 0 then zRun 126 216 L S sh mi mj mr else zRun 126 212 L S sh mi mj mr := zr_if (off := 7) (P := ¬ x = 0) (zD_of zk_126 d_126_209 rfl rfl) rfl rfl (by decide)
theorem q_126_212  : zRun 126 212 L S sh mi mj mr = zRun 126 213 L (.int 1 :: S) sh mi mj mr := zr_p (zD_of zk_126 d_126_212 rfl rfl) rfl
theorem q_126_213  : zRun 126 213 L S sh mi mj mr = zRun 126 217 L S sh mi mj mr := zr_go (off := 4) (zD_of zk_126 d_126_213 rfl rfl) rfl rfl (by decide)
theorem q_126_216  : zRun 126 216 L S sh mi mj mr = zRun 126 217 L (.int 0 :: S) sh mi mj mr := zr_p (zD_of zk_126 d_126_216 rfl rfl) rfl
theorem q_126_217 (h : x = 0 ∨ x = 1) : zRun 126 217 L ([.int x]) sh mi mj mr = some (some (.int x), sh, mi, mj, mr) := zr_ret (zD_of zk_126 d_126_217 rfl rfl) rfl rfl rfl rfl rfl (if_pos (zna_b h))
theorem e_126 {x0 : Int32} {o0 : Nat} : zCall 126 [.ref o0, .int x0] sh mi mj mr = zRun 126 0 [some (.ref o0), some (.int x0), none, none, none, none, none, none, none] [] sh mi mj mr := rfl
theorem d_127_0 : decode cL_refused 0 = .ok (.iload_n 1, 1) := by decide +kernel
theorem d_127_1 : decode cL_refused 1 = .ok (.ifCond .ge 15, 3) := by decide +kernel
theorem d_127_4 : decode cL_refused 4 = .ok (.ldc 146, 2) := by decide +kernel
theorem d_127_6 : decode cL_refused 6 = .ok (.iload_n 1, 1) := by decide +kernel
theorem d_127_7 : decode cL_refused 7 = .ok (.ldc 147, 2) := by decide +kernel
theorem d_127_9 : decode cL_refused 9 = .ok (.invokestatic 22, 3) := by decide +kernel
theorem d_127_12 : decode cL_refused 12 = .ok (.isub, 1) := by decide +kernel
theorem d_127_13 : decode cL_refused 13 = .ok (.goto 10, 3) := by decide +kernel
theorem d_127_16 : decode cL_refused 16 = .ok (.iload_n 1, 1) := by decide +kernel
theorem d_127_17 : decode cL_refused 17 = .ok (.ldc 147, 2) := by decide +kernel
theorem d_127_19 : decode cL_refused 19 = .ok (.irem, 1) := by decide +kernel
theorem d_127_20 : decode cL_refused 20 = .ok (.ldc 148, 2) := by decide +kernel
theorem d_127_22 : decode cL_refused 22 = .ok (.iadd, 1) := by decide +kernel
theorem d_127_23 : decode cL_refused 23 = .ok (.istore_n 2, 1) := by decide +kernel
theorem d_127_24 : decode cL_refused 24 = .ok (.aload_n 0, 1) := by decide +kernel
theorem d_127_25 : decode cL_refused 25 = .ok (.iload_n 2, 1) := by decide +kernel
theorem d_127_26 : decode cL_refused 26 = .ok (.iconst 0, 1) := by decide +kernel
theorem d_127_27 : decode cL_refused 27 = .ok (.iconst 0, 1) := by decide +kernel
theorem d_127_28 : decode cL_refused 28 = .ok (.invokevirtual 31, 3) := by decide +kernel
theorem d_127_31 : decode cL_refused 31 = .ok (.iconst (-1), 1) := by decide +kernel
theorem d_127_32 : decode cL_refused 32 = .ok (.if_icmp .ne 292, 3) := by decide +kernel
theorem d_127_35 : decode cL_refused 35 = .ok (.aload_n 0, 1) := by decide +kernel
theorem d_127_36 : decode cL_refused 36 = .ok (.iconst 0, 1) := by decide +kernel
theorem d_127_37 : decode cL_refused 37 = .ok (.iload_n 2, 1) := by decide +kernel
theorem d_127_38 : decode cL_refused 38 = .ok (.iconst 0, 1) := by decide +kernel
theorem d_127_39 : decode cL_refused 39 = .ok (.invokevirtual 31, 3) := by decide +kernel
theorem d_127_42 : decode cL_refused 42 = .ok (.bipush (-2), 2) := by decide +kernel
theorem d_127_44 : decode cL_refused 44 = .ok (.if_icmp .ne 280, 3) := by decide +kernel
theorem d_127_47 : decode cL_refused 47 = .ok (.aload_n 0, 1) := by decide +kernel
theorem d_127_48 : decode cL_refused 48 = .ok (.iconst 0, 1) := by decide +kernel
theorem d_127_49 : decode cL_refused 49 = .ok (.iconst 0, 1) := by decide +kernel
theorem d_127_50 : decode cL_refused 50 = .ok (.iload_n 2, 1) := by decide +kernel
theorem d_127_51 : decode cL_refused 51 = .ok (.invokevirtual 31, 3) := by decide +kernel
theorem d_127_54 : decode cL_refused 54 = .ok (.bipush (-2), 2) := by decide +kernel
theorem d_127_56 : decode cL_refused 56 = .ok (.if_icmp .ne 268, 3) := by decide +kernel
theorem d_127_59 : decode cL_refused 59 = .ok (.aload_n 0, 1) := by decide +kernel
theorem d_127_60 : decode cL_refused 60 = .ok (.iload_n 2, 1) := by decide +kernel
theorem d_127_61 : decode cL_refused 61 = .ok (.iconst 0, 1) := by decide +kernel
theorem d_127_62 : decode cL_refused 62 = .ok (.invokevirtual 82, 3) := by decide +kernel
theorem d_127_65 : decode cL_refused 65 = .ok (.iconst (-1), 1) := by decide +kernel
theorem d_127_66 : decode cL_refused 66 = .ok (.if_icmp .ne 258, 3) := by decide +kernel
theorem d_127_69 : decode cL_refused 69 = .ok (.aload_n 0, 1) := by decide +kernel
theorem d_127_70 : decode cL_refused 70 = .ok (.iconst 0, 1) := by decide +kernel
theorem d_127_71 : decode cL_refused 71 = .ok (.iload_n 2, 1) := by decide +kernel
theorem d_127_72 : decode cL_refused 72 = .ok (.invokevirtual 82, 3) := by decide +kernel
theorem d_127_75 : decode cL_refused 75 = .ok (.bipush (-2), 2) := by decide +kernel
theorem d_127_77 : decode cL_refused 77 = .ok (.if_icmp .ne 247, 3) := by decide +kernel
theorem d_127_80 : decode cL_refused 80 = .ok (.aload_n 0, 1) := by decide +kernel
theorem d_127_81 : decode cL_refused 81 = .ok (.iload_n 2, 1) := by decide +kernel
theorem d_127_82 : decode cL_refused 82 = .ok (.invokevirtual 26, 3) := by decide +kernel
theorem d_127_85 : decode cL_refused 85 = .ok (.bipush (-2), 2) := by decide +kernel
theorem d_127_87 : decode cL_refused 87 = .ok (.if_icmp .ne 237, 3) := by decide +kernel
theorem d_127_90 : decode cL_refused 90 = .ok (.aload_n 0, 1) := by decide +kernel
theorem d_127_91 : decode cL_refused 91 = .ok (.iload_n 2, 1) := by decide +kernel
theorem d_127_92 : decode cL_refused 92 = .ok (.invokevirtual 72, 3) := by decide +kernel
theorem d_127_95 : decode cL_refused 95 = .ok (.bipush (-2), 2) := by decide +kernel
theorem d_127_97 : decode cL_refused 97 = .ok (.if_icmp .ne 227, 3) := by decide +kernel
theorem d_127_100 : decode cL_refused 100 = .ok (.aload_n 0, 1) := by decide +kernel
theorem d_127_101 : decode cL_refused 101 = .ok (.iload_n 2, 1) := by decide +kernel
theorem d_127_102 : decode cL_refused 102 = .ok (.invokevirtual 46, 3) := by decide +kernel
theorem d_127_105 : decode cL_refused 105 = .ok (.iconst (-1), 1) := by decide +kernel
theorem d_127_106 : decode cL_refused 106 = .ok (.if_icmp .ne 218, 3) := by decide +kernel
theorem d_127_109 : decode cL_refused 109 = .ok (.aload_n 0, 1) := by decide +kernel
theorem d_127_110 : decode cL_refused 110 = .ok (.iconst 0, 1) := by decide +kernel
theorem d_127_111 : decode cL_refused 111 = .ok (.invokevirtual 46, 3) := by decide +kernel
theorem d_127_114 : decode cL_refused 114 = .ok (.bipush (-3), 2) := by decide +kernel
theorem d_127_116 : decode cL_refused 116 = .ok (.if_icmp .ne 208, 3) := by decide +kernel
theorem d_127_119 : decode cL_refused 119 = .ok (.aload_n 0, 1) := by decide +kernel
theorem d_127_120 : decode cL_refused 120 = .ok (.iload_n 2, 1) := by decide +kernel
theorem d_127_121 : decode cL_refused 121 = .ok (.iconst 0, 1) := by decide +kernel
theorem d_127_122 : decode cL_refused 122 = .ok (.iconst 0, 1) := by decide +kernel
theorem d_127_123 : decode cL_refused 123 = .ok (.invokevirtual 75, 3) := by decide +kernel
theorem d_127_126 : decode cL_refused 126 = .ok (.iconst (-1), 1) := by decide +kernel
theorem d_127_127 : decode cL_refused 127 = .ok (.if_icmp .ne 197, 3) := by decide +kernel
theorem d_127_130 : decode cL_refused 130 = .ok (.aload_n 0, 1) := by decide +kernel
theorem d_127_131 : decode cL_refused 131 = .ok (.iload_n 2, 1) := by decide +kernel
theorem d_127_132 : decode cL_refused 132 = .ok (.invokevirtual 92, 3) := by decide +kernel
theorem d_127_135 : decode cL_refused 135 = .ok (.iconst (-1), 1) := by decide +kernel
theorem d_127_136 : decode cL_refused 136 = .ok (.if_icmp .ne 188, 3) := by decide +kernel
theorem d_127_139 : decode cL_refused 139 = .ok (.aload_n 0, 1) := by decide +kernel
theorem d_127_140 : decode cL_refused 140 = .ok (.iload_n 2, 1) := by decide +kernel
theorem d_127_141 : decode cL_refused 141 = .ok (.invokevirtual 95, 3) := by decide +kernel
theorem d_127_144 : decode cL_refused 144 = .ok (.iconst (-1), 1) := by decide +kernel
theorem d_127_145 : decode cL_refused 145 = .ok (.if_icmp .ne 179, 3) := by decide +kernel
theorem d_127_148 : decode cL_refused 148 = .ok (.aload_n 0, 1) := by decide +kernel
theorem d_127_149 : decode cL_refused 149 = .ok (.iload_n 2, 1) := by decide +kernel
theorem d_127_150 : decode cL_refused 150 = .ok (.iconst 0, 1) := by decide +kernel
theorem d_127_151 : decode cL_refused 151 = .ok (.iconst 0, 1) := by decide +kernel
theorem d_127_152 : decode cL_refused 152 = .ok (.invokevirtual 98, 3) := by decide +kernel
theorem d_127_155 : decode cL_refused 155 = .ok (.ldc2_w 149, 3) := by decide +kernel
theorem d_127_158 : decode cL_refused 158 = .ok (.lcmp, 1) := by decide +kernel
theorem d_127_159 : decode cL_refused 159 = .ok (.ifCond .ne 165, 3) := by decide +kernel
theorem d_127_162 : decode cL_refused 162 = .ok (.aload_n 0, 1) := by decide +kernel
theorem d_127_163 : decode cL_refused 163 = .ok (.iload_n 2, 1) := by decide +kernel
theorem d_127_164 : decode cL_refused 164 = .ok (.iconst 0, 1) := by decide +kernel
theorem d_127_165 : decode cL_refused 165 = .ok (.invokevirtual 104, 3) := by decide +kernel
theorem d_127_168 : decode cL_refused 168 = .ok (.ldc2_w 149, 3) := by decide +kernel
theorem d_127_171 : decode cL_refused 171 = .ok (.lcmp, 1) := by decide +kernel
theorem d_127_172 : decode cL_refused 172 = .ok (.ifCond .ne 152, 3) := by decide +kernel
theorem d_127_175 : decode cL_refused 175 = .ok (.aload_n 0, 1) := by decide +kernel
theorem d_127_176 : decode cL_refused 176 = .ok (.iload_n 2, 1) := by decide +kernel
theorem d_127_177 : decode cL_refused 177 = .ok (.iconst 0, 1) := by decide +kernel
theorem d_127_178 : decode cL_refused 178 = .ok (.iconst 0, 1) := by decide +kernel
theorem d_127_179 : decode cL_refused 179 = .ok (.invokevirtual 78, 3) := by decide +kernel
theorem d_127_182 : decode cL_refused 182 = .ok (.ldc2_w 149, 3) := by decide +kernel
theorem d_127_185 : decode cL_refused 185 = .ok (.lcmp, 1) := by decide +kernel
theorem d_127_186 : decode cL_refused 186 = .ok (.ifCond .ne 138, 3) := by decide +kernel
theorem d_127_189 : decode cL_refused 189 = .ok (.aload_n 0, 1) := by decide +kernel
theorem d_127_190 : decode cL_refused 190 = .ok (.iload_n 2, 1) := by decide +kernel
theorem d_127_191 : decode cL_refused 191 = .ok (.invokevirtual 116, 3) := by decide +kernel
theorem d_127_194 : decode cL_refused 194 = .ok (.iconst (-1), 1) := by decide +kernel
theorem d_127_195 : decode cL_refused 195 = .ok (.if_icmp .ne 129, 3) := by decide +kernel
theorem d_127_198 : decode cL_refused 198 = .ok (.aload_n 0, 1) := by decide +kernel
theorem d_127_199 : decode cL_refused 199 = .ok (.iload_n 2, 1) := by decide +kernel
theorem d_127_200 : decode cL_refused 200 = .ok (.invokevirtual 112, 3) := by decide +kernel
theorem d_127_203 : decode cL_refused 203 = .ok (.ldc2_w 149, 3) := by decide +kernel
theorem d_127_206 : decode cL_refused 206 = .ok (.lcmp, 1) := by decide +kernel
theorem d_127_207 : decode cL_refused 207 = .ok (.ifCond .ne 117, 3) := by decide +kernel
theorem d_127_210 : decode cL_refused 210 = .ok (.aload_n 0, 1) := by decide +kernel
theorem d_127_211 : decode cL_refused 211 = .ok (.iload_n 2, 1) := by decide +kernel
theorem d_127_212 : decode cL_refused 212 = .ok (.iconst 0, 1) := by decide +kernel
theorem d_127_213 : decode cL_refused 213 = .ok (.iconst 0, 1) := by decide +kernel
theorem d_127_214 : decode cL_refused 214 = .ok (.invokevirtual 119, 3) := by decide +kernel
theorem d_127_217 : decode cL_refused 217 = .ok (.ldc2_w 149, 3) := by decide +kernel
theorem d_127_220 : decode cL_refused 220 = .ok (.lcmp, 1) := by decide +kernel
theorem d_127_221 : decode cL_refused 221 = .ok (.ifCond .ne 103, 3) := by decide +kernel
theorem d_127_224 : decode cL_refused 224 = .ok (.aload_n 0, 1) := by decide +kernel
theorem d_127_225 : decode cL_refused 225 = .ok (.iload_n 2, 1) := by decide +kernel
theorem d_127_226 : decode cL_refused 226 = .ok (.iconst 0, 1) := by decide +kernel
theorem d_127_227 : decode cL_refused 227 = .ok (.invokevirtual 101, 3) := by decide +kernel
theorem d_127_230 : decode cL_refused 230 = .ok (.iconst (-1), 1) := by decide +kernel
theorem d_127_231 : decode cL_refused 231 = .ok (.if_icmp .ne 93, 3) := by decide +kernel
theorem d_127_234 : decode cL_refused 234 = .ok (.aload_n 0, 1) := by decide +kernel
theorem d_127_235 : decode cL_refused 235 = .ok (.iload_n 2, 1) := by decide +kernel
theorem d_127_236 : decode cL_refused 236 = .ok (.iconst 0, 1) := by decide +kernel
theorem d_127_237 : decode cL_refused 237 = .ok (.iconst 1, 1) := by decide +kernel
theorem d_127_238 : decode cL_refused 238 = .ok (.invokevirtual 124, 3) := by decide +kernel
theorem d_127_241 : decode cL_refused 241 = .ok (.iconst (-1), 1) := by decide +kernel
theorem d_127_242 : decode cL_refused 242 = .ok (.if_icmp .ne 82, 3) := by decide +kernel
theorem d_127_245 : decode cL_refused 245 = .ok (.aload_n 0, 1) := by decide +kernel
theorem d_127_246 : decode cL_refused 246 = .ok (.iload_n 2, 1) := by decide +kernel
theorem d_127_247 : decode cL_refused 247 = .ok (.invokevirtual 127, 3) := by decide +kernel
theorem d_127_250 : decode cL_refused 250 = .ok (.ldc2_w 151, 3) := by decide +kernel
theorem d_127_253 : decode cL_refused 253 = .ok (.lcmp, 1) := by decide +kernel
theorem d_127_254 : decode cL_refused 254 = .ok (.ifCond .ne 70, 3) := by decide +kernel
theorem d_127_257 : decode cL_refused 257 = .ok (.aload_n 0, 1) := by decide +kernel
theorem d_127_258 : decode cL_refused 258 = .ok (.iload_n 2, 1) := by decide +kernel
theorem d_127_259 : decode cL_refused 259 = .ok (.iconst 0, 1) := by decide +kernel
theorem d_127_260 : decode cL_refused 260 = .ok (.iconst 0, 1) := by decide +kernel
theorem d_127_261 : decode cL_refused 261 = .ok (.invokevirtual 140, 3) := by decide +kernel
theorem d_127_264 : decode cL_refused 264 = .ok (.ldc2_w 149, 3) := by decide +kernel
theorem d_127_267 : decode cL_refused 267 = .ok (.lcmp, 1) := by decide +kernel
theorem d_127_268 : decode cL_refused 268 = .ok (.ifCond .ne 56, 3) := by decide +kernel
theorem d_127_271 : decode cL_refused 271 = .ok (.aload_n 0, 1) := by decide +kernel
theorem d_127_272 : decode cL_refused 272 = .ok (.iload_n 2, 1) := by decide +kernel
theorem d_127_273 : decode cL_refused 273 = .ok (.iconst 0, 1) := by decide +kernel
theorem d_127_274 : decode cL_refused 274 = .ok (.iconst 1, 1) := by decide +kernel
theorem d_127_275 : decode cL_refused 275 = .ok (.invokevirtual 143, 3) := by decide +kernel
theorem d_127_278 : decode cL_refused 278 = .ok (.iconst (-1), 1) := by decide +kernel
theorem d_127_279 : decode cL_refused 279 = .ok (.if_icmp .ne 45, 3) := by decide +kernel
theorem d_127_282 : decode cL_refused 282 = .ok (.aload_n 0, 1) := by decide +kernel
theorem d_127_283 : decode cL_refused 283 = .ok (.iload_n 2, 1) := by decide +kernel
theorem d_127_284 : decode cL_refused 284 = .ok (.invokevirtual 39, 3) := by decide +kernel
theorem d_127_287 : decode cL_refused 287 = .ok (.bipush (-2), 2) := by decide +kernel
theorem d_127_289 : decode cL_refused 289 = .ok (.if_icmp .ne 35, 3) := by decide +kernel
theorem d_127_292 : decode cL_refused 292 = .ok (.aload_n 0, 1) := by decide +kernel
theorem d_127_293 : decode cL_refused 293 = .ok (.iload_n 2, 1) := by decide +kernel
theorem d_127_294 : decode cL_refused 294 = .ok (.invokevirtual 134, 3) := by decide +kernel
theorem d_127_297 : decode cL_refused 297 = .ok (.bipush (-2), 2) := by decide +kernel
theorem d_127_299 : decode cL_refused 299 = .ok (.if_icmp .ne 25, 3) := by decide +kernel
theorem d_127_302 : decode cL_refused 302 = .ok (.aload_n 0, 1) := by decide +kernel
theorem d_127_303 : decode cL_refused 303 = .ok (.iload_n 2, 1) := by decide +kernel
theorem d_127_304 : decode cL_refused 304 = .ok (.invokevirtual 137, 3) := by decide +kernel
theorem d_127_307 : decode cL_refused 307 = .ok (.bipush (-2), 2) := by decide +kernel
theorem d_127_309 : decode cL_refused 309 = .ok (.if_icmp .ne 15, 3) := by decide +kernel
theorem d_127_312 : decode cL_refused 312 = .ok (.aload_n 0, 1) := by decide +kernel
theorem d_127_313 : decode cL_refused 313 = .ok (.iconst 0, 1) := by decide +kernel
theorem d_127_314 : decode cL_refused 314 = .ok (.invokevirtual 39, 3) := by decide +kernel
theorem d_127_317 : decode cL_refused 317 = .ok (.ifCond .ne 7, 3) := by decide +kernel
theorem d_127_320 : decode cL_refused 320 = .ok (.iconst 1, 1) := by decide +kernel
theorem d_127_321 : decode cL_refused 321 = .ok (.goto 4, 3) := by decide +kernel
theorem d_127_324 : decode cL_refused 324 = .ok (.iconst 0, 1) := by decide +kernel
theorem d_127_325 : decode cL_refused 325 = .ok (.ireturn, 1) := by decide +kernel
theorem q_127_0 : zRun 127 0 [l0, some (.int x), l2] S sh mi mj mr = zRun 127 1 [l0, some (.int x), l2] (.int x :: S) sh mi mj mr := zr_l (zD_of zk_127 d_127_0 rfl rfl) rfl rfl rfl
theorem q_127_1  : zRun 127 1 L (.int x :: S) sh mi mj mr = if 0 ≤ x then zRun 127 16 L S sh mi mj mr else zRun 127 4 L S sh mi mj mr := zr_if (off := 15) (P := 0 ≤ x) (zD_of zk_127 d_127_1 rfl rfl) rfl rfl (by decide)
theorem q_127_4  : zRun 127 4 L S sh mi mj mr = zRun 127 6 L (.int (-100001) :: S) sh mi mj mr := zr_k32 (zD_of zk_127 d_127_4 rfl rfl) (by first | exact Or.inl rfl | exact Or.inr rfl) rfl
theorem q_127_6 : zRun 127 6 [l0, some (.int x), l2] S sh mi mj mr = zRun 127 7 [l0, some (.int x), l2] (.int x :: S) sh mi mj mr := zr_l (zD_of zk_127 d_127_6 rfl rfl) rfl rfl rfl
theorem q_127_7  : zRun 127 7 L S sh mi mj mr = zRun 127 9 L (.int 900000 :: S) sh mi mj mr := zr_k32 (zD_of zk_127 d_127_7 rfl rfl) (by first | exact Or.inl rfl | exact Or.inr rfl) rfl
theorem q_127_9  {x0 x1 : Int32} (hS : zcat S ≤ 8) : zRun 127 9 L (.int x1 :: .int x0 :: S) sh mi mj mr = (zCall 116 [.int x0, .int x1] sh mi mj mr).bind fun r => zRun 127 12 L (r.1.toList ++ S) r.2.1 r.2.2.1 r.2.2.2.1 r.2.2.2.2 := zr_S (zD_of zk_127 d_127_9 rfl rfl) rfl zk_116 rfl rfl rfl hS
theorem q_127_12  : zRun 127 12 L (.int y :: .int x :: S) sh mi mj mr = zRun 127 13 L (.int (x - y) :: S) sh mi mj mr := zr_p (zD_of zk_127 d_127_12 rfl rfl) rfl
theorem q_127_13  : zRun 127 13 L S sh mi mj mr = zRun 127 23 L S sh mi mj mr := zr_go (off := 10) (zD_of zk_127 d_127_13 rfl rfl) rfl rfl (by decide)
theorem q_127_16 : zRun 127 16 [l0, some (.int x), l2] S sh mi mj mr = zRun 127 17 [l0, some (.int x), l2] (.int x :: S) sh mi mj mr := zr_l (zD_of zk_127 d_127_16 rfl rfl) rfl rfl rfl
theorem q_127_17  : zRun 127 17 L S sh mi mj mr = zRun 127 19 L (.int 900000 :: S) sh mi mj mr := zr_k32 (zD_of zk_127 d_127_17 rfl rfl) (by first | exact Or.inl rfl | exact Or.inr rfl) rfl
theorem q_127_19 (h : ¬ y = 0) : zRun 127 19 L (.int y :: .int x :: S) sh mi mj mr = zRun 127 20 L (.int (x - (x / y) * y) :: S) sh mi mj mr := zr_p (zD_of zk_127 d_127_19 rfl rfl) (if_neg h)
theorem q_127_20  : zRun 127 20 L S sh mi mj mr = zRun 127 22 L (.int 1000001 :: S) sh mi mj mr := zr_k32 (zD_of zk_127 d_127_20 rfl rfl) (by first | exact Or.inl rfl | exact Or.inr rfl) rfl
theorem q_127_22  : zRun 127 22 L (.int y :: .int x :: S) sh mi mj mr = zRun 127 23 L (.int (x + y) :: S) sh mi mj mr := zr_p (zD_of zk_127 d_127_22 rfl rfl) rfl
theorem q_127_23 : zRun 127 23 [l0, l1, l2] (.int x :: S) sh mi mj mr = zRun 127 24 [l0, zk2 l1, some (.int x)] S sh mi mj mr := zr_s1 (i := 2) (v := .int x) (L := [l0, l1, l2]) (zD_of zk_127 d_127_23 rfl rfl) rfl rfl rfl rfl
theorem q_127_24r : zRun 127 24 [some (.ref o), l1, l2] S sh mi mj mr = zRun 127 25 [some (.ref o), l1, l2] (.ref o :: S) sh mi mj mr := zr_l (zD_of zk_127 d_127_24 rfl rfl) rfl rfl rfl
theorem q_127_24n : zRun 127 24 [some (.null), l1, l2] S sh mi mj mr = zRun 127 25 [some (.null), l1, l2] (.null :: S) sh mi mj mr := zr_l (zD_of zk_127 d_127_24 rfl rfl) rfl rfl rfl
theorem q_127_25 : zRun 127 25 [l0, l1, some (.int x)] S sh mi mj mr = zRun 127 26 [l0, l1, some (.int x)] (.int x :: S) sh mi mj mr := zr_l (zD_of zk_127 d_127_25 rfl rfl) rfl rfl rfl
theorem q_127_26  : zRun 127 26 L S sh mi mj mr = zRun 127 27 L (.int 0 :: S) sh mi mj mr := zr_p (zD_of zk_127 d_127_26 rfl rfl) rfl
theorem q_127_27  : zRun 127 27 L S sh mi mj mr = zRun 127 28 L (.int 0 :: S) sh mi mj mr := zr_p (zD_of zk_127 d_127_27 rfl rfl) rfl
theorem q_127_28  {x0 x1 x2 : Int32} (hS : zcat S ≤ 8) (h : zIs sh o 0 7) : zRun 127 28 L (.int x2 :: .int x1 :: .int x0 :: .ref o :: S) sh mi mj mr = (zCall 79 [.ref o, .int x0, .int x1, .int x2] sh mi mj mr).bind fun r => zRun 127 31 L (r.1.toList ++ S) r.2.1 r.2.2.1 r.2.2.2.1 r.2.2.2.2 := zr_V (zD_of zk_127 d_127_28 rfl rfl) rfl zk_79 rfl rfl rfl hS h
theorem q_127_31  : zRun 127 31 L S sh mi mj mr = zRun 127 32 L (.int (-1) :: S) sh mi mj mr := zr_p (zD_of zk_127 d_127_31 rfl rfl) rfl
theorem q_127_32  : zRun 127 32 L (.int y :: .int x :: S) sh mi mj mr = if ¬ x = y then zRun 127 324 L S sh mi mj mr else zRun 127 35 L S sh mi mj mr := zr_if (off := 292) (P := ¬ x = y) (zD_of zk_127 d_127_32 rfl rfl) rfl rfl (by decide)
theorem q_127_35r : zRun 127 35 [some (.ref o), l1, l2] S sh mi mj mr = zRun 127 36 [some (.ref o), l1, l2] (.ref o :: S) sh mi mj mr := zr_l (zD_of zk_127 d_127_35 rfl rfl) rfl rfl rfl
theorem q_127_35n : zRun 127 35 [some (.null), l1, l2] S sh mi mj mr = zRun 127 36 [some (.null), l1, l2] (.null :: S) sh mi mj mr := zr_l (zD_of zk_127 d_127_35 rfl rfl) rfl rfl rfl
theorem q_127_36  : zRun 127 36 L S sh mi mj mr = zRun 127 37 L (.int 0 :: S) sh mi mj mr := zr_p (zD_of zk_127 d_127_36 rfl rfl) rfl
theorem q_127_37 : zRun 127 37 [l0, l1, some (.int x)] S sh mi mj mr = zRun 127 38 [l0, l1, some (.int x)] (.int x :: S) sh mi mj mr := zr_l (zD_of zk_127 d_127_37 rfl rfl) rfl rfl rfl
theorem q_127_38  : zRun 127 38 L S sh mi mj mr = zRun 127 39 L (.int 0 :: S) sh mi mj mr := zr_p (zD_of zk_127 d_127_38 rfl rfl) rfl
theorem q_127_39  {x0 x1 x2 : Int32} (hS : zcat S ≤ 8) (h : zIs sh o 0 7) : zRun 127 39 L (.int x2 :: .int x1 :: .int x0 :: .ref o :: S) sh mi mj mr = (zCall 79 [.ref o, .int x0, .int x1, .int x2] sh mi mj mr).bind fun r => zRun 127 42 L (r.1.toList ++ S) r.2.1 r.2.2.1 r.2.2.2.1 r.2.2.2.2 := zr_V (zD_of zk_127 d_127_39 rfl rfl) rfl zk_79 rfl rfl rfl hS h
theorem q_127_42  : zRun 127 42 L S sh mi mj mr = zRun 127 44 L (.int (-2) :: S) sh mi mj mr := zr_p (zD_of zk_127 d_127_42 rfl rfl) rfl
theorem q_127_44  : zRun 127 44 L (.int y :: .int x :: S) sh mi mj mr = if ¬ x = y then zRun 127 324 L S sh mi mj mr else zRun 127 47 L S sh mi mj mr := zr_if (off := 280) (P := ¬ x = y) (zD_of zk_127 d_127_44 rfl rfl) rfl rfl (by decide)
theorem q_127_47r : zRun 127 47 [some (.ref o), l1, l2] S sh mi mj mr = zRun 127 48 [some (.ref o), l1, l2] (.ref o :: S) sh mi mj mr := zr_l (zD_of zk_127 d_127_47 rfl rfl) rfl rfl rfl
theorem q_127_47n : zRun 127 47 [some (.null), l1, l2] S sh mi mj mr = zRun 127 48 [some (.null), l1, l2] (.null :: S) sh mi mj mr := zr_l (zD_of zk_127 d_127_47 rfl rfl) rfl rfl rfl
theorem q_127_48  : zRun 127 48 L S sh mi mj mr = zRun 127 49 L (.int 0 :: S) sh mi mj mr := zr_p (zD_of zk_127 d_127_48 rfl rfl) rfl
theorem q_127_49  : zRun 127 49 L S sh mi mj mr = zRun 127 50 L (.int 0 :: S) sh mi mj mr := zr_p (zD_of zk_127 d_127_49 rfl rfl) rfl
theorem q_127_50 : zRun 127 50 [l0, l1, some (.int x)] S sh mi mj mr = zRun 127 51 [l0, l1, some (.int x)] (.int x :: S) sh mi mj mr := zr_l (zD_of zk_127 d_127_50 rfl rfl) rfl rfl rfl
theorem q_127_51  {x0 x1 x2 : Int32} (hS : zcat S ≤ 8) (h : zIs sh o 0 7) : zRun 127 51 L (.int x2 :: .int x1 :: .int x0 :: .ref o :: S) sh mi mj mr = (zCall 79 [.ref o, .int x0, .int x1, .int x2] sh mi mj mr).bind fun r => zRun 127 54 L (r.1.toList ++ S) r.2.1 r.2.2.1 r.2.2.2.1 r.2.2.2.2 := zr_V (zD_of zk_127 d_127_51 rfl rfl) rfl zk_79 rfl rfl rfl hS h
theorem q_127_54  : zRun 127 54 L S sh mi mj mr = zRun 127 56 L (.int (-2) :: S) sh mi mj mr := zr_p (zD_of zk_127 d_127_54 rfl rfl) rfl
theorem q_127_56  : zRun 127 56 L (.int y :: .int x :: S) sh mi mj mr = if ¬ x = y then zRun 127 324 L S sh mi mj mr else zRun 127 59 L S sh mi mj mr := zr_if (off := 268) (P := ¬ x = y) (zD_of zk_127 d_127_56 rfl rfl) rfl rfl (by decide)
theorem q_127_59r : zRun 127 59 [some (.ref o), l1, l2] S sh mi mj mr = zRun 127 60 [some (.ref o), l1, l2] (.ref o :: S) sh mi mj mr := zr_l (zD_of zk_127 d_127_59 rfl rfl) rfl rfl rfl
theorem q_127_59n : zRun 127 59 [some (.null), l1, l2] S sh mi mj mr = zRun 127 60 [some (.null), l1, l2] (.null :: S) sh mi mj mr := zr_l (zD_of zk_127 d_127_59 rfl rfl) rfl rfl rfl
theorem q_127_60 : zRun 127 60 [l0, l1, some (.int x)] S sh mi mj mr = zRun 127 61 [l0, l1, some (.int x)] (.int x :: S) sh mi mj mr := zr_l (zD_of zk_127 d_127_60 rfl rfl) rfl rfl rfl
theorem q_127_61  : zRun 127 61 L S sh mi mj mr = zRun 127 62 L (.int 0 :: S) sh mi mj mr := zr_p (zD_of zk_127 d_127_61 rfl rfl) rfl
theorem q_127_62  {x0 x1 : Int32} (hS : zcat S ≤ 8) (h : zIs sh o 0 7) : zRun 127 62 L (.int x1 :: .int x0 :: .ref o :: S) sh mi mj mr = (zCall 80 [.ref o, .int x0, .int x1] sh mi mj mr).bind fun r => zRun 127 65 L (r.1.toList ++ S) r.2.1 r.2.2.1 r.2.2.2.1 r.2.2.2.2 := zr_V (zD_of zk_127 d_127_62 rfl rfl) rfl zk_80 rfl rfl rfl hS h
theorem q_127_65  : zRun 127 65 L S sh mi mj mr = zRun 127 66 L (.int (-1) :: S) sh mi mj mr := zr_p (zD_of zk_127 d_127_65 rfl rfl) rfl
theorem q_127_66  : zRun 127 66 L (.int y :: .int x :: S) sh mi mj mr = if ¬ x = y then zRun 127 324 L S sh mi mj mr else zRun 127 69 L S sh mi mj mr := zr_if (off := 258) (P := ¬ x = y) (zD_of zk_127 d_127_66 rfl rfl) rfl rfl (by decide)
theorem q_127_69r : zRun 127 69 [some (.ref o), l1, l2] S sh mi mj mr = zRun 127 70 [some (.ref o), l1, l2] (.ref o :: S) sh mi mj mr := zr_l (zD_of zk_127 d_127_69 rfl rfl) rfl rfl rfl
theorem q_127_69n : zRun 127 69 [some (.null), l1, l2] S sh mi mj mr = zRun 127 70 [some (.null), l1, l2] (.null :: S) sh mi mj mr := zr_l (zD_of zk_127 d_127_69 rfl rfl) rfl rfl rfl
theorem q_127_70  : zRun 127 70 L S sh mi mj mr = zRun 127 71 L (.int 0 :: S) sh mi mj mr := zr_p (zD_of zk_127 d_127_70 rfl rfl) rfl
theorem q_127_71 : zRun 127 71 [l0, l1, some (.int x)] S sh mi mj mr = zRun 127 72 [l0, l1, some (.int x)] (.int x :: S) sh mi mj mr := zr_l (zD_of zk_127 d_127_71 rfl rfl) rfl rfl rfl
theorem q_127_72  {x0 x1 : Int32} (hS : zcat S ≤ 8) (h : zIs sh o 0 7) : zRun 127 72 L (.int x1 :: .int x0 :: .ref o :: S) sh mi mj mr = (zCall 80 [.ref o, .int x0, .int x1] sh mi mj mr).bind fun r => zRun 127 75 L (r.1.toList ++ S) r.2.1 r.2.2.1 r.2.2.2.1 r.2.2.2.2 := zr_V (zD_of zk_127 d_127_72 rfl rfl) rfl zk_80 rfl rfl rfl hS h
theorem q_127_75  : zRun 127 75 L S sh mi mj mr = zRun 127 77 L (.int (-2) :: S) sh mi mj mr := zr_p (zD_of zk_127 d_127_75 rfl rfl) rfl
theorem q_127_77  : zRun 127 77 L (.int y :: .int x :: S) sh mi mj mr = if ¬ x = y then zRun 127 324 L S sh mi mj mr else zRun 127 80 L S sh mi mj mr := zr_if (off := 247) (P := ¬ x = y) (zD_of zk_127 d_127_77 rfl rfl) rfl rfl (by decide)
theorem q_127_80r : zRun 127 80 [some (.ref o), l1, l2] S sh mi mj mr = zRun 127 81 [some (.ref o), l1, l2] (.ref o :: S) sh mi mj mr := zr_l (zD_of zk_127 d_127_80 rfl rfl) rfl rfl rfl
theorem q_127_80n : zRun 127 80 [some (.null), l1, l2] S sh mi mj mr = zRun 127 81 [some (.null), l1, l2] (.null :: S) sh mi mj mr := zr_l (zD_of zk_127 d_127_80 rfl rfl) rfl rfl rfl
theorem q_127_81 : zRun 127 81 [l0, l1, some (.int x)] S sh mi mj mr = zRun 127 82 [l0, l1, some (.int x)] (.int x :: S) sh mi mj mr := zr_l (zD_of zk_127 d_127_81 rfl rfl) rfl rfl rfl
theorem q_127_82  {x0 : Int32} (hS : zcat S ≤ 8) (h : zIs sh o 0 7) : zRun 127 82 L (.int x0 :: .ref o :: S) sh mi mj mr = (zCall 81 [.ref o, .int x0] sh mi mj mr).bind fun r => zRun 127 85 L (r.1.toList ++ S) r.2.1 r.2.2.1 r.2.2.2.1 r.2.2.2.2 := zr_V (zD_of zk_127 d_127_82 rfl rfl) rfl zk_81 rfl rfl rfl hS h
theorem q_127_85  : zRun 127 85 L S sh mi mj mr = zRun 127 87 L (.int (-2) :: S) sh mi mj mr := zr_p (zD_of zk_127 d_127_85 rfl rfl) rfl
theorem q_127_87  : zRun 127 87 L (.int y :: .int x :: S) sh mi mj mr = if ¬ x = y then zRun 127 324 L S sh mi mj mr else zRun 127 90 L S sh mi mj mr := zr_if (off := 237) (P := ¬ x = y) (zD_of zk_127 d_127_87 rfl rfl) rfl rfl (by decide)
theorem q_127_90r : zRun 127 90 [some (.ref o), l1, l2] S sh mi mj mr = zRun 127 91 [some (.ref o), l1, l2] (.ref o :: S) sh mi mj mr := zr_l (zD_of zk_127 d_127_90 rfl rfl) rfl rfl rfl
theorem q_127_90n : zRun 127 90 [some (.null), l1, l2] S sh mi mj mr = zRun 127 91 [some (.null), l1, l2] (.null :: S) sh mi mj mr := zr_l (zD_of zk_127 d_127_90 rfl rfl) rfl rfl rfl
theorem q_127_91 : zRun 127 91 [l0, l1, some (.int x)] S sh mi mj mr = zRun 127 92 [l0, l1, some (.int x)] (.int x :: S) sh mi mj mr := zr_l (zD_of zk_127 d_127_91 rfl rfl) rfl rfl rfl
theorem q_127_92  {x0 : Int32} (hS : zcat S ≤ 8) (h : zIs sh o 0 7) : zRun 127 92 L (.int x0 :: .ref o :: S) sh mi mj mr = (zCall 82 [.ref o, .int x0] sh mi mj mr).bind fun r => zRun 127 95 L (r.1.toList ++ S) r.2.1 r.2.2.1 r.2.2.2.1 r.2.2.2.2 := zr_V (zD_of zk_127 d_127_92 rfl rfl) rfl zk_82 rfl rfl rfl hS h
theorem q_127_95  : zRun 127 95 L S sh mi mj mr = zRun 127 97 L (.int (-2) :: S) sh mi mj mr := zr_p (zD_of zk_127 d_127_95 rfl rfl) rfl
theorem q_127_97  : zRun 127 97 L (.int y :: .int x :: S) sh mi mj mr = if ¬ x = y then zRun 127 324 L S sh mi mj mr else zRun 127 100 L S sh mi mj mr := zr_if (off := 227) (P := ¬ x = y) (zD_of zk_127 d_127_97 rfl rfl) rfl rfl (by decide)
theorem q_127_100r : zRun 127 100 [some (.ref o), l1, l2] S sh mi mj mr = zRun 127 101 [some (.ref o), l1, l2] (.ref o :: S) sh mi mj mr := zr_l (zD_of zk_127 d_127_100 rfl rfl) rfl rfl rfl
theorem q_127_100n : zRun 127 100 [some (.null), l1, l2] S sh mi mj mr = zRun 127 101 [some (.null), l1, l2] (.null :: S) sh mi mj mr := zr_l (zD_of zk_127 d_127_100 rfl rfl) rfl rfl rfl
theorem q_127_101 : zRun 127 101 [l0, l1, some (.int x)] S sh mi mj mr = zRun 127 102 [l0, l1, some (.int x)] (.int x :: S) sh mi mj mr := zr_l (zD_of zk_127 d_127_101 rfl rfl) rfl rfl rfl
theorem q_127_102  {x0 : Int32} (hS : zcat S ≤ 8) (h : zIs sh o 0 7) : zRun 127 102 L (.int x0 :: .ref o :: S) sh mi mj mr = (zCall 85 [.ref o, .int x0] sh mi mj mr).bind fun r => zRun 127 105 L (r.1.toList ++ S) r.2.1 r.2.2.1 r.2.2.2.1 r.2.2.2.2 := zr_V (zD_of zk_127 d_127_102 rfl rfl) rfl zk_85 rfl rfl rfl hS h
theorem q_127_105  : zRun 127 105 L S sh mi mj mr = zRun 127 106 L (.int (-1) :: S) sh mi mj mr := zr_p (zD_of zk_127 d_127_105 rfl rfl) rfl
theorem q_127_106  : zRun 127 106 L (.int y :: .int x :: S) sh mi mj mr = if ¬ x = y then zRun 127 324 L S sh mi mj mr else zRun 127 109 L S sh mi mj mr := zr_if (off := 218) (P := ¬ x = y) (zD_of zk_127 d_127_106 rfl rfl) rfl rfl (by decide)
theorem q_127_109r : zRun 127 109 [some (.ref o), l1, l2] S sh mi mj mr = zRun 127 110 [some (.ref o), l1, l2] (.ref o :: S) sh mi mj mr := zr_l (zD_of zk_127 d_127_109 rfl rfl) rfl rfl rfl
theorem q_127_109n : zRun 127 109 [some (.null), l1, l2] S sh mi mj mr = zRun 127 110 [some (.null), l1, l2] (.null :: S) sh mi mj mr := zr_l (zD_of zk_127 d_127_109 rfl rfl) rfl rfl rfl
theorem q_127_110  : zRun 127 110 L S sh mi mj mr = zRun 127 111 L (.int 0 :: S) sh mi mj mr := zr_p (zD_of zk_127 d_127_110 rfl rfl) rfl
theorem q_127_111  {x0 : Int32} (hS : zcat S ≤ 8) (h : zIs sh o 0 7) : zRun 127 111 L (.int x0 :: .ref o :: S) sh mi mj mr = (zCall 85 [.ref o, .int x0] sh mi mj mr).bind fun r => zRun 127 114 L (r.1.toList ++ S) r.2.1 r.2.2.1 r.2.2.2.1 r.2.2.2.2 := zr_V (zD_of zk_127 d_127_111 rfl rfl) rfl zk_85 rfl rfl rfl hS h
theorem q_127_114  : zRun 127 114 L S sh mi mj mr = zRun 127 116 L (.int (-3) :: S) sh mi mj mr := zr_p (zD_of zk_127 d_127_114 rfl rfl) rfl
theorem q_127_116  : zRun 127 116 L (.int y :: .int x :: S) sh mi mj mr = if ¬ x = y then zRun 127 324 L S sh mi mj mr else zRun 127 119 L S sh mi mj mr := zr_if (off := 208) (P := ¬ x = y) (zD_of zk_127 d_127_116 rfl rfl) rfl rfl (by decide)
theorem q_127_119r : zRun 127 119 [some (.ref o), l1, l2] S sh mi mj mr = zRun 127 120 [some (.ref o), l1, l2] (.ref o :: S) sh mi mj mr := zr_l (zD_of zk_127 d_127_119 rfl rfl) rfl rfl rfl
theorem q_127_119n : zRun 127 119 [some (.null), l1, l2] S sh mi mj mr = zRun 127 120 [some (.null), l1, l2] (.null :: S) sh mi mj mr := zr_l (zD_of zk_127 d_127_119 rfl rfl) rfl rfl rfl
theorem q_127_120 : zRun 127 120 [l0, l1, some (.int x)] S sh mi mj mr = zRun 127 121 [l0, l1, some (.int x)] (.int x :: S) sh mi mj mr := zr_l (zD_of zk_127 d_127_120 rfl rfl) rfl rfl rfl
theorem q_127_121  : zRun 127 121 L S sh mi mj mr = zRun 127 122 L (.int 0 :: S) sh mi mj mr := zr_p (zD_of zk_127 d_127_121 rfl rfl) rfl
theorem q_127_122  : zRun 127 122 L S sh mi mj mr = zRun 127 123 L (.int 0 :: S) sh mi mj mr := zr_p (zD_of zk_127 d_127_122 rfl rfl) rfl
theorem q_127_123  {x0 x1 x2 : Int32} (hS : zcat S ≤ 8) (h : zIs sh o 0 7) : zRun 127 123 L (.int x2 :: .int x1 :: .int x0 :: .ref o :: S) sh mi mj mr = (zCall 86 [.ref o, .int x0, .int x1, .int x2] sh mi mj mr).bind fun r => zRun 127 126 L (r.1.toList ++ S) r.2.1 r.2.2.1 r.2.2.2.1 r.2.2.2.2 := zr_V (zD_of zk_127 d_127_123 rfl rfl) rfl zk_86 rfl rfl rfl hS h
theorem q_127_126  : zRun 127 126 L S sh mi mj mr = zRun 127 127 L (.int (-1) :: S) sh mi mj mr := zr_p (zD_of zk_127 d_127_126 rfl rfl) rfl
theorem q_127_127  : zRun 127 127 L (.int y :: .int x :: S) sh mi mj mr = if ¬ x = y then zRun 127 324 L S sh mi mj mr else zRun 127 130 L S sh mi mj mr := zr_if (off := 197) (P := ¬ x = y) (zD_of zk_127 d_127_127 rfl rfl) rfl rfl (by decide)
theorem q_127_130r : zRun 127 130 [some (.ref o), l1, l2] S sh mi mj mr = zRun 127 131 [some (.ref o), l1, l2] (.ref o :: S) sh mi mj mr := zr_l (zD_of zk_127 d_127_130 rfl rfl) rfl rfl rfl
theorem q_127_130n : zRun 127 130 [some (.null), l1, l2] S sh mi mj mr = zRun 127 131 [some (.null), l1, l2] (.null :: S) sh mi mj mr := zr_l (zD_of zk_127 d_127_130 rfl rfl) rfl rfl rfl
theorem q_127_131 : zRun 127 131 [l0, l1, some (.int x)] S sh mi mj mr = zRun 127 132 [l0, l1, some (.int x)] (.int x :: S) sh mi mj mr := zr_l (zD_of zk_127 d_127_131 rfl rfl) rfl rfl rfl
theorem q_127_132  {x0 : Int32} (hS : zcat S ≤ 8) (h : zIs sh o 0 7) : zRun 127 132 L (.int x0 :: .ref o :: S) sh mi mj mr = (zCall 87 [.ref o, .int x0] sh mi mj mr).bind fun r => zRun 127 135 L (r.1.toList ++ S) r.2.1 r.2.2.1 r.2.2.2.1 r.2.2.2.2 := zr_V (zD_of zk_127 d_127_132 rfl rfl) rfl zk_87 rfl rfl rfl hS h
theorem q_127_135  : zRun 127 135 L S sh mi mj mr = zRun 127 136 L (.int (-1) :: S) sh mi mj mr := zr_p (zD_of zk_127 d_127_135 rfl rfl) rfl
theorem q_127_136  : zRun 127 136 L (.int y :: .int x :: S) sh mi mj mr = if ¬ x = y then zRun 127 324 L S sh mi mj mr else zRun 127 139 L S sh mi mj mr := zr_if (off := 188) (P := ¬ x = y) (zD_of zk_127 d_127_136 rfl rfl) rfl rfl (by decide)
theorem q_127_139r : zRun 127 139 [some (.ref o), l1, l2] S sh mi mj mr = zRun 127 140 [some (.ref o), l1, l2] (.ref o :: S) sh mi mj mr := zr_l (zD_of zk_127 d_127_139 rfl rfl) rfl rfl rfl
theorem q_127_139n : zRun 127 139 [some (.null), l1, l2] S sh mi mj mr = zRun 127 140 [some (.null), l1, l2] (.null :: S) sh mi mj mr := zr_l (zD_of zk_127 d_127_139 rfl rfl) rfl rfl rfl
theorem q_127_140 : zRun 127 140 [l0, l1, some (.int x)] S sh mi mj mr = zRun 127 141 [l0, l1, some (.int x)] (.int x :: S) sh mi mj mr := zr_l (zD_of zk_127 d_127_140 rfl rfl) rfl rfl rfl
theorem q_127_141  {x0 : Int32} (hS : zcat S ≤ 8) (h : zIs sh o 0 7) : zRun 127 141 L (.int x0 :: .ref o :: S) sh mi mj mr = (zCall 88 [.ref o, .int x0] sh mi mj mr).bind fun r => zRun 127 144 L (r.1.toList ++ S) r.2.1 r.2.2.1 r.2.2.2.1 r.2.2.2.2 := zr_V (zD_of zk_127 d_127_141 rfl rfl) rfl zk_88 rfl rfl rfl hS h
theorem q_127_144  : zRun 127 144 L S sh mi mj mr = zRun 127 145 L (.int (-1) :: S) sh mi mj mr := zr_p (zD_of zk_127 d_127_144 rfl rfl) rfl
theorem q_127_145  : zRun 127 145 L (.int y :: .int x :: S) sh mi mj mr = if ¬ x = y then zRun 127 324 L S sh mi mj mr else zRun 127 148 L S sh mi mj mr := zr_if (off := 179) (P := ¬ x = y) (zD_of zk_127 d_127_145 rfl rfl) rfl rfl (by decide)
theorem q_127_148r : zRun 127 148 [some (.ref o), l1, l2] S sh mi mj mr = zRun 127 149 [some (.ref o), l1, l2] (.ref o :: S) sh mi mj mr := zr_l (zD_of zk_127 d_127_148 rfl rfl) rfl rfl rfl
theorem q_127_148n : zRun 127 148 [some (.null), l1, l2] S sh mi mj mr = zRun 127 149 [some (.null), l1, l2] (.null :: S) sh mi mj mr := zr_l (zD_of zk_127 d_127_148 rfl rfl) rfl rfl rfl
theorem q_127_149 : zRun 127 149 [l0, l1, some (.int x)] S sh mi mj mr = zRun 127 150 [l0, l1, some (.int x)] (.int x :: S) sh mi mj mr := zr_l (zD_of zk_127 d_127_149 rfl rfl) rfl rfl rfl
theorem q_127_150  : zRun 127 150 L S sh mi mj mr = zRun 127 151 L (.int 0 :: S) sh mi mj mr := zr_p (zD_of zk_127 d_127_150 rfl rfl) rfl
theorem q_127_151  : zRun 127 151 L S sh mi mj mr = zRun 127 152 L (.int 0 :: S) sh mi mj mr := zr_p (zD_of zk_127 d_127_151 rfl rfl) rfl
theorem q_127_152  {x0 x1 x2 : Int32} (hS : zcat S ≤ 8) (h : zIs sh o 0 7) : zRun 127 152 L (.int x2 :: .int x1 :: .int x0 :: .ref o :: S) sh mi mj mr = (zCall 89 [.ref o, .int x0, .int x1, .int x2] sh mi mj mr).bind fun r => zRun 127 155 L (r.1.toList ++ S) r.2.1 r.2.2.1 r.2.2.2.1 r.2.2.2.2 := zr_V (zD_of zk_127 d_127_152 rfl rfl) rfl zk_89 rfl rfl rfl hS h
theorem q_127_155  : zRun 127 155 L S sh mi mj mr = zRun 127 158 L (.long (-1000000000000000001) :: S) sh mi mj mr := zr_k64 (zD_of zk_127 d_127_155 rfl rfl) rfl
theorem q_127_158  : zRun 127 158 L (.long v :: .long u :: S) sh mi mj mr = if ¬ u = v then zRun 127 324 L S sh mi mj mr else zRun 127 162 L S sh mi mj mr := zr_cmp (off := 165) (zD_of zk_127 d_127_158 rfl rfl) (zD_of zk_127 d_127_159 rfl rfl) rfl rfl (by decide) (not_congr (lg_cmp_eq u v))
theorem q_127_159  : zRun 127 159 L (.int x :: S) sh mi mj mr = if ¬ x = 0 then zRun 127 324 L S sh mi mj mr else zRun 127 162 L S sh mi mj mr := zr_if (off := 165) (P := ¬ x = 0) (zD_of zk_127 d_127_159 rfl rfl) rfl rfl (by decide)
theorem q_127_162r : zRun 127 162 [some (.ref o), l1, l2] S sh mi mj mr = zRun 127 163 [some (.ref o), l1, l2] (.ref o :: S) sh mi mj mr := zr_l (zD_of zk_127 d_127_162 rfl rfl) rfl rfl rfl
theorem q_127_162n : zRun 127 162 [some (.null), l1, l2] S sh mi mj mr = zRun 127 163 [some (.null), l1, l2] (.null :: S) sh mi mj mr := zr_l (zD_of zk_127 d_127_162 rfl rfl) rfl rfl rfl
theorem q_127_163 : zRun 127 163 [l0, l1, some (.int x)] S sh mi mj mr = zRun 127 164 [l0, l1, some (.int x)] (.int x :: S) sh mi mj mr := zr_l (zD_of zk_127 d_127_163 rfl rfl) rfl rfl rfl
theorem q_127_164  : zRun 127 164 L S sh mi mj mr = zRun 127 165 L (.int 0 :: S) sh mi mj mr := zr_p (zD_of zk_127 d_127_164 rfl rfl) rfl
theorem q_127_165  {x0 x1 : Int32} (hS : zcat S ≤ 8) (h : zIs sh o 0 7) : zRun 127 165 L (.int x1 :: .int x0 :: .ref o :: S) sh mi mj mr = (zCall 90 [.ref o, .int x0, .int x1] sh mi mj mr).bind fun r => zRun 127 168 L (r.1.toList ++ S) r.2.1 r.2.2.1 r.2.2.2.1 r.2.2.2.2 := zr_V (zD_of zk_127 d_127_165 rfl rfl) rfl zk_90 rfl rfl rfl hS h
theorem q_127_168  : zRun 127 168 L S sh mi mj mr = zRun 127 171 L (.long (-1000000000000000001) :: S) sh mi mj mr := zr_k64 (zD_of zk_127 d_127_168 rfl rfl) rfl
theorem q_127_171  : zRun 127 171 L (.long v :: .long u :: S) sh mi mj mr = if ¬ u = v then zRun 127 324 L S sh mi mj mr else zRun 127 175 L S sh mi mj mr := zr_cmp (off := 152) (zD_of zk_127 d_127_171 rfl rfl) (zD_of zk_127 d_127_172 rfl rfl) rfl rfl (by decide) (not_congr (lg_cmp_eq u v))
theorem q_127_172  : zRun 127 172 L (.int x :: S) sh mi mj mr = if ¬ x = 0 then zRun 127 324 L S sh mi mj mr else zRun 127 175 L S sh mi mj mr := zr_if (off := 152) (P := ¬ x = 0) (zD_of zk_127 d_127_172 rfl rfl) rfl rfl (by decide)
theorem q_127_175r : zRun 127 175 [some (.ref o), l1, l2] S sh mi mj mr = zRun 127 176 [some (.ref o), l1, l2] (.ref o :: S) sh mi mj mr := zr_l (zD_of zk_127 d_127_175 rfl rfl) rfl rfl rfl
theorem q_127_175n : zRun 127 175 [some (.null), l1, l2] S sh mi mj mr = zRun 127 176 [some (.null), l1, l2] (.null :: S) sh mi mj mr := zr_l (zD_of zk_127 d_127_175 rfl rfl) rfl rfl rfl
theorem q_127_176 : zRun 127 176 [l0, l1, some (.int x)] S sh mi mj mr = zRun 127 177 [l0, l1, some (.int x)] (.int x :: S) sh mi mj mr := zr_l (zD_of zk_127 d_127_176 rfl rfl) rfl rfl rfl
theorem q_127_177  : zRun 127 177 L S sh mi mj mr = zRun 127 178 L (.int 0 :: S) sh mi mj mr := zr_p (zD_of zk_127 d_127_177 rfl rfl) rfl
theorem q_127_178  : zRun 127 178 L S sh mi mj mr = zRun 127 179 L (.int 0 :: S) sh mi mj mr := zr_p (zD_of zk_127 d_127_178 rfl rfl) rfl
theorem q_127_179  {x0 x1 x2 : Int32} (hS : zcat S ≤ 8) (h : zIs sh o 0 7) : zRun 127 179 L (.int x2 :: .int x1 :: .int x0 :: .ref o :: S) sh mi mj mr = (zCall 91 [.ref o, .int x0, .int x1, .int x2] sh mi mj mr).bind fun r => zRun 127 182 L (r.1.toList ++ S) r.2.1 r.2.2.1 r.2.2.2.1 r.2.2.2.2 := zr_V (zD_of zk_127 d_127_179 rfl rfl) rfl zk_91 rfl rfl rfl hS h
theorem q_127_182  : zRun 127 182 L S sh mi mj mr = zRun 127 185 L (.long (-1000000000000000001) :: S) sh mi mj mr := zr_k64 (zD_of zk_127 d_127_182 rfl rfl) rfl
theorem q_127_185  : zRun 127 185 L (.long v :: .long u :: S) sh mi mj mr = if ¬ u = v then zRun 127 324 L S sh mi mj mr else zRun 127 189 L S sh mi mj mr := zr_cmp (off := 138) (zD_of zk_127 d_127_185 rfl rfl) (zD_of zk_127 d_127_186 rfl rfl) rfl rfl (by decide) (not_congr (lg_cmp_eq u v))
theorem q_127_186  : zRun 127 186 L (.int x :: S) sh mi mj mr = if ¬ x = 0 then zRun 127 324 L S sh mi mj mr else zRun 127 189 L S sh mi mj mr := zr_if (off := 138) (P := ¬ x = 0) (zD_of zk_127 d_127_186 rfl rfl) rfl rfl (by decide)
theorem q_127_189r : zRun 127 189 [some (.ref o), l1, l2] S sh mi mj mr = zRun 127 190 [some (.ref o), l1, l2] (.ref o :: S) sh mi mj mr := zr_l (zD_of zk_127 d_127_189 rfl rfl) rfl rfl rfl
theorem q_127_189n : zRun 127 189 [some (.null), l1, l2] S sh mi mj mr = zRun 127 190 [some (.null), l1, l2] (.null :: S) sh mi mj mr := zr_l (zD_of zk_127 d_127_189 rfl rfl) rfl rfl rfl
theorem q_127_190 : zRun 127 190 [l0, l1, some (.int x)] S sh mi mj mr = zRun 127 191 [l0, l1, some (.int x)] (.int x :: S) sh mi mj mr := zr_l (zD_of zk_127 d_127_190 rfl rfl) rfl rfl rfl
theorem q_127_191  {x0 : Int32} (hS : zcat S ≤ 8) (h : zIs sh o 0 7) : zRun 127 191 L (.int x0 :: .ref o :: S) sh mi mj mr = (zCall 92 [.ref o, .int x0] sh mi mj mr).bind fun r => zRun 127 194 L (r.1.toList ++ S) r.2.1 r.2.2.1 r.2.2.2.1 r.2.2.2.2 := zr_V (zD_of zk_127 d_127_191 rfl rfl) rfl zk_92 rfl rfl rfl hS h
theorem q_127_194  : zRun 127 194 L S sh mi mj mr = zRun 127 195 L (.int (-1) :: S) sh mi mj mr := zr_p (zD_of zk_127 d_127_194 rfl rfl) rfl
theorem q_127_195  : zRun 127 195 L (.int y :: .int x :: S) sh mi mj mr = if ¬ x = y then zRun 127 324 L S sh mi mj mr else zRun 127 198 L S sh mi mj mr := zr_if (off := 129) (P := ¬ x = y) (zD_of zk_127 d_127_195 rfl rfl) rfl rfl (by decide)
theorem q_127_198r : zRun 127 198 [some (.ref o), l1, l2] S sh mi mj mr = zRun 127 199 [some (.ref o), l1, l2] (.ref o :: S) sh mi mj mr := zr_l (zD_of zk_127 d_127_198 rfl rfl) rfl rfl rfl
theorem q_127_198n : zRun 127 198 [some (.null), l1, l2] S sh mi mj mr = zRun 127 199 [some (.null), l1, l2] (.null :: S) sh mi mj mr := zr_l (zD_of zk_127 d_127_198 rfl rfl) rfl rfl rfl
theorem q_127_199 : zRun 127 199 [l0, l1, some (.int x)] S sh mi mj mr = zRun 127 200 [l0, l1, some (.int x)] (.int x :: S) sh mi mj mr := zr_l (zD_of zk_127 d_127_199 rfl rfl) rfl rfl rfl
theorem q_127_200  {x0 : Int32} (hS : zcat S ≤ 8) (h : zIs sh o 0 7) : zRun 127 200 L (.int x0 :: .ref o :: S) sh mi mj mr = (zCall 93 [.ref o, .int x0] sh mi mj mr).bind fun r => zRun 127 203 L (r.1.toList ++ S) r.2.1 r.2.2.1 r.2.2.2.1 r.2.2.2.2 := zr_V (zD_of zk_127 d_127_200 rfl rfl) rfl zk_93 rfl rfl rfl hS h
theorem q_127_203  : zRun 127 203 L S sh mi mj mr = zRun 127 206 L (.long (-1000000000000000001) :: S) sh mi mj mr := zr_k64 (zD_of zk_127 d_127_203 rfl rfl) rfl
theorem q_127_206  : zRun 127 206 L (.long v :: .long u :: S) sh mi mj mr = if ¬ u = v then zRun 127 324 L S sh mi mj mr else zRun 127 210 L S sh mi mj mr := zr_cmp (off := 117) (zD_of zk_127 d_127_206 rfl rfl) (zD_of zk_127 d_127_207 rfl rfl) rfl rfl (by decide) (not_congr (lg_cmp_eq u v))
theorem q_127_207  : zRun 127 207 L (.int x :: S) sh mi mj mr = if ¬ x = 0 then zRun 127 324 L S sh mi mj mr else zRun 127 210 L S sh mi mj mr := zr_if (off := 117) (P := ¬ x = 0) (zD_of zk_127 d_127_207 rfl rfl) rfl rfl (by decide)
theorem q_127_210r : zRun 127 210 [some (.ref o), l1, l2] S sh mi mj mr = zRun 127 211 [some (.ref o), l1, l2] (.ref o :: S) sh mi mj mr := zr_l (zD_of zk_127 d_127_210 rfl rfl) rfl rfl rfl
theorem q_127_210n : zRun 127 210 [some (.null), l1, l2] S sh mi mj mr = zRun 127 211 [some (.null), l1, l2] (.null :: S) sh mi mj mr := zr_l (zD_of zk_127 d_127_210 rfl rfl) rfl rfl rfl
theorem q_127_211 : zRun 127 211 [l0, l1, some (.int x)] S sh mi mj mr = zRun 127 212 [l0, l1, some (.int x)] (.int x :: S) sh mi mj mr := zr_l (zD_of zk_127 d_127_211 rfl rfl) rfl rfl rfl
theorem q_127_212  : zRun 127 212 L S sh mi mj mr = zRun 127 213 L (.int 0 :: S) sh mi mj mr := zr_p (zD_of zk_127 d_127_212 rfl rfl) rfl
theorem q_127_213  : zRun 127 213 L S sh mi mj mr = zRun 127 214 L (.int 0 :: S) sh mi mj mr := zr_p (zD_of zk_127 d_127_213 rfl rfl) rfl
theorem q_127_214  {x0 x1 x2 : Int32} (hS : zcat S ≤ 8) (h : zIs sh o 0 7) : zRun 127 214 L (.int x2 :: .int x1 :: .int x0 :: .ref o :: S) sh mi mj mr = (zCall 94 [.ref o, .int x0, .int x1, .int x2] sh mi mj mr).bind fun r => zRun 127 217 L (r.1.toList ++ S) r.2.1 r.2.2.1 r.2.2.2.1 r.2.2.2.2 := zr_V (zD_of zk_127 d_127_214 rfl rfl) rfl zk_94 rfl rfl rfl hS h
theorem q_127_217  : zRun 127 217 L S sh mi mj mr = zRun 127 220 L (.long (-1000000000000000001) :: S) sh mi mj mr := zr_k64 (zD_of zk_127 d_127_217 rfl rfl) rfl
theorem q_127_220  : zRun 127 220 L (.long v :: .long u :: S) sh mi mj mr = if ¬ u = v then zRun 127 324 L S sh mi mj mr else zRun 127 224 L S sh mi mj mr := zr_cmp (off := 103) (zD_of zk_127 d_127_220 rfl rfl) (zD_of zk_127 d_127_221 rfl rfl) rfl rfl (by decide) (not_congr (lg_cmp_eq u v))
theorem q_127_221  : zRun 127 221 L (.int x :: S) sh mi mj mr = if ¬ x = 0 then zRun 127 324 L S sh mi mj mr else zRun 127 224 L S sh mi mj mr := zr_if (off := 103) (P := ¬ x = 0) (zD_of zk_127 d_127_221 rfl rfl) rfl rfl (by decide)
theorem q_127_224r : zRun 127 224 [some (.ref o), l1, l2] S sh mi mj mr = zRun 127 225 [some (.ref o), l1, l2] (.ref o :: S) sh mi mj mr := zr_l (zD_of zk_127 d_127_224 rfl rfl) rfl rfl rfl
theorem q_127_224n : zRun 127 224 [some (.null), l1, l2] S sh mi mj mr = zRun 127 225 [some (.null), l1, l2] (.null :: S) sh mi mj mr := zr_l (zD_of zk_127 d_127_224 rfl rfl) rfl rfl rfl
theorem q_127_225 : zRun 127 225 [l0, l1, some (.int x)] S sh mi mj mr = zRun 127 226 [l0, l1, some (.int x)] (.int x :: S) sh mi mj mr := zr_l (zD_of zk_127 d_127_225 rfl rfl) rfl rfl rfl
theorem q_127_226  : zRun 127 226 L S sh mi mj mr = zRun 127 227 L (.int 0 :: S) sh mi mj mr := zr_p (zD_of zk_127 d_127_226 rfl rfl) rfl
theorem q_127_227  {x0 x1 : Int32} (hS : zcat S ≤ 8) (h : zIs sh o 0 7) : zRun 127 227 L (.int x1 :: .int x0 :: .ref o :: S) sh mi mj mr = (zCall 95 [.ref o, .int x0, .int x1] sh mi mj mr).bind fun r => zRun 127 230 L (r.1.toList ++ S) r.2.1 r.2.2.1 r.2.2.2.1 r.2.2.2.2 := zr_V (zD_of zk_127 d_127_227 rfl rfl) rfl zk_95 rfl rfl rfl hS h
theorem q_127_230  : zRun 127 230 L S sh mi mj mr = zRun 127 231 L (.int (-1) :: S) sh mi mj mr := zr_p (zD_of zk_127 d_127_230 rfl rfl) rfl
theorem q_127_231  : zRun 127 231 L (.int y :: .int x :: S) sh mi mj mr = if ¬ x = y then zRun 127 324 L S sh mi mj mr else zRun 127 234 L S sh mi mj mr := zr_if (off := 93) (P := ¬ x = y) (zD_of zk_127 d_127_231 rfl rfl) rfl rfl (by decide)
theorem q_127_234r : zRun 127 234 [some (.ref o), l1, l2] S sh mi mj mr = zRun 127 235 [some (.ref o), l1, l2] (.ref o :: S) sh mi mj mr := zr_l (zD_of zk_127 d_127_234 rfl rfl) rfl rfl rfl
theorem q_127_234n : zRun 127 234 [some (.null), l1, l2] S sh mi mj mr = zRun 127 235 [some (.null), l1, l2] (.null :: S) sh mi mj mr := zr_l (zD_of zk_127 d_127_234 rfl rfl) rfl rfl rfl
theorem q_127_235 : zRun 127 235 [l0, l1, some (.int x)] S sh mi mj mr = zRun 127 236 [l0, l1, some (.int x)] (.int x :: S) sh mi mj mr := zr_l (zD_of zk_127 d_127_235 rfl rfl) rfl rfl rfl
theorem q_127_236  : zRun 127 236 L S sh mi mj mr = zRun 127 237 L (.int 0 :: S) sh mi mj mr := zr_p (zD_of zk_127 d_127_236 rfl rfl) rfl
theorem q_127_237  : zRun 127 237 L S sh mi mj mr = zRun 127 238 L (.int 1 :: S) sh mi mj mr := zr_p (zD_of zk_127 d_127_237 rfl rfl) rfl
theorem q_127_238  {x0 x1 x2 : Int32} (hS : zcat S ≤ 8) (h : zIs sh o 0 7) : zRun 127 238 L (.int x2 :: .int x1 :: .int x0 :: .ref o :: S) sh mi mj mr = (zCall 96 [.ref o, .int x0, .int x1, .int x2] sh mi mj mr).bind fun r => zRun 127 241 L (r.1.toList ++ S) r.2.1 r.2.2.1 r.2.2.2.1 r.2.2.2.2 := zr_V (zD_of zk_127 d_127_238 rfl rfl) rfl zk_96 rfl rfl rfl hS h
theorem q_127_241  : zRun 127 241 L S sh mi mj mr = zRun 127 242 L (.int (-1) :: S) sh mi mj mr := zr_p (zD_of zk_127 d_127_241 rfl rfl) rfl
theorem q_127_242  : zRun 127 242 L (.int y :: .int x :: S) sh mi mj mr = if ¬ x = y then zRun 127 324 L S sh mi mj mr else zRun 127 245 L S sh mi mj mr := zr_if (off := 82) (P := ¬ x = y) (zD_of zk_127 d_127_242 rfl rfl) rfl rfl (by decide)
theorem q_127_245r : zRun 127 245 [some (.ref o), l1, l2] S sh mi mj mr = zRun 127 246 [some (.ref o), l1, l2] (.ref o :: S) sh mi mj mr := zr_l (zD_of zk_127 d_127_245 rfl rfl) rfl rfl rfl
theorem q_127_245n : zRun 127 245 [some (.null), l1, l2] S sh mi mj mr = zRun 127 246 [some (.null), l1, l2] (.null :: S) sh mi mj mr := zr_l (zD_of zk_127 d_127_245 rfl rfl) rfl rfl rfl
theorem q_127_246 : zRun 127 246 [l0, l1, some (.int x)] S sh mi mj mr = zRun 127 247 [l0, l1, some (.int x)] (.int x :: S) sh mi mj mr := zr_l (zD_of zk_127 d_127_246 rfl rfl) rfl rfl rfl
theorem q_127_247  {x0 : Int32} (hS : zcat S ≤ 8) (h : zIs sh o 0 7) : zRun 127 247 L (.int x0 :: .ref o :: S) sh mi mj mr = (zCall 97 [.ref o, .int x0] sh mi mj mr).bind fun r => zRun 127 250 L (r.1.toList ++ S) r.2.1 r.2.2.1 r.2.2.2.1 r.2.2.2.2 := zr_V (zD_of zk_127 d_127_247 rfl rfl) rfl zk_97 rfl rfl rfl hS h
theorem q_127_250  : zRun 127 250 L S sh mi mj mr = zRun 127 253 L (.long (-1000000000000000002) :: S) sh mi mj mr := zr_k64 (zD_of zk_127 d_127_250 rfl rfl) rfl
theorem q_127_253  : zRun 127 253 L (.long v :: .long u :: S) sh mi mj mr = if ¬ u = v then zRun 127 324 L S sh mi mj mr else zRun 127 257 L S sh mi mj mr := zr_cmp (off := 70) (zD_of zk_127 d_127_253 rfl rfl) (zD_of zk_127 d_127_254 rfl rfl) rfl rfl (by decide) (not_congr (lg_cmp_eq u v))
theorem q_127_254  : zRun 127 254 L (.int x :: S) sh mi mj mr = if ¬ x = 0 then zRun 127 324 L S sh mi mj mr else zRun 127 257 L S sh mi mj mr := zr_if (off := 70) (P := ¬ x = 0) (zD_of zk_127 d_127_254 rfl rfl) rfl rfl (by decide)
theorem q_127_257r : zRun 127 257 [some (.ref o), l1, l2] S sh mi mj mr = zRun 127 258 [some (.ref o), l1, l2] (.ref o :: S) sh mi mj mr := zr_l (zD_of zk_127 d_127_257 rfl rfl) rfl rfl rfl
theorem q_127_257n : zRun 127 257 [some (.null), l1, l2] S sh mi mj mr = zRun 127 258 [some (.null), l1, l2] (.null :: S) sh mi mj mr := zr_l (zD_of zk_127 d_127_257 rfl rfl) rfl rfl rfl
theorem q_127_258 : zRun 127 258 [l0, l1, some (.int x)] S sh mi mj mr = zRun 127 259 [l0, l1, some (.int x)] (.int x :: S) sh mi mj mr := zr_l (zD_of zk_127 d_127_258 rfl rfl) rfl rfl rfl
theorem q_127_259  : zRun 127 259 L S sh mi mj mr = zRun 127 260 L (.int 0 :: S) sh mi mj mr := zr_p (zD_of zk_127 d_127_259 rfl rfl) rfl
theorem q_127_260  : zRun 127 260 L S sh mi mj mr = zRun 127 261 L (.int 0 :: S) sh mi mj mr := zr_p (zD_of zk_127 d_127_260 rfl rfl) rfl
theorem q_127_261  {x0 x1 x2 : Int32} (hS : zcat S ≤ 8) (h : zIs sh o 0 7) : zRun 127 261 L (.int x2 :: .int x1 :: .int x0 :: .ref o :: S) sh mi mj mr = (zCall 98 [.ref o, .int x0, .int x1, .int x2] sh mi mj mr).bind fun r => zRun 127 264 L (r.1.toList ++ S) r.2.1 r.2.2.1 r.2.2.2.1 r.2.2.2.2 := zr_V (zD_of zk_127 d_127_261 rfl rfl) rfl zk_98 rfl rfl rfl hS h
theorem q_127_264  : zRun 127 264 L S sh mi mj mr = zRun 127 267 L (.long (-1000000000000000001) :: S) sh mi mj mr := zr_k64 (zD_of zk_127 d_127_264 rfl rfl) rfl
theorem q_127_267  : zRun 127 267 L (.long v :: .long u :: S) sh mi mj mr = if ¬ u = v then zRun 127 324 L S sh mi mj mr else zRun 127 271 L S sh mi mj mr := zr_cmp (off := 56) (zD_of zk_127 d_127_267 rfl rfl) (zD_of zk_127 d_127_268 rfl rfl) rfl rfl (by decide) (not_congr (lg_cmp_eq u v))
theorem q_127_268  : zRun 127 268 L (.int x :: S) sh mi mj mr = if ¬ x = 0 then zRun 127 324 L S sh mi mj mr else zRun 127 271 L S sh mi mj mr := zr_if (off := 56) (P := ¬ x = 0) (zD_of zk_127 d_127_268 rfl rfl) rfl rfl (by decide)
theorem q_127_271r : zRun 127 271 [some (.ref o), l1, l2] S sh mi mj mr = zRun 127 272 [some (.ref o), l1, l2] (.ref o :: S) sh mi mj mr := zr_l (zD_of zk_127 d_127_271 rfl rfl) rfl rfl rfl
theorem q_127_271n : zRun 127 271 [some (.null), l1, l2] S sh mi mj mr = zRun 127 272 [some (.null), l1, l2] (.null :: S) sh mi mj mr := zr_l (zD_of zk_127 d_127_271 rfl rfl) rfl rfl rfl
theorem q_127_272 : zRun 127 272 [l0, l1, some (.int x)] S sh mi mj mr = zRun 127 273 [l0, l1, some (.int x)] (.int x :: S) sh mi mj mr := zr_l (zD_of zk_127 d_127_272 rfl rfl) rfl rfl rfl
theorem q_127_273  : zRun 127 273 L S sh mi mj mr = zRun 127 274 L (.int 0 :: S) sh mi mj mr := zr_p (zD_of zk_127 d_127_273 rfl rfl) rfl
theorem q_127_274  : zRun 127 274 L S sh mi mj mr = zRun 127 275 L (.int 1 :: S) sh mi mj mr := zr_p (zD_of zk_127 d_127_274 rfl rfl) rfl
theorem q_127_275  {x0 x1 x2 : Int32} (hS : zcat S ≤ 8) (h : zIs sh o 0 7) : zRun 127 275 L (.int x2 :: .int x1 :: .int x0 :: .ref o :: S) sh mi mj mr = (zCall 99 [.ref o, .int x0, .int x1, .int x2] sh mi mj mr).bind fun r => zRun 127 278 L (r.1.toList ++ S) r.2.1 r.2.2.1 r.2.2.2.1 r.2.2.2.2 := zr_V (zD_of zk_127 d_127_275 rfl rfl) rfl zk_99 rfl rfl rfl hS h
theorem q_127_278  : zRun 127 278 L S sh mi mj mr = zRun 127 279 L (.int (-1) :: S) sh mi mj mr := zr_p (zD_of zk_127 d_127_278 rfl rfl) rfl
theorem q_127_279  : zRun 127 279 L (.int y :: .int x :: S) sh mi mj mr = if ¬ x = y then zRun 127 324 L S sh mi mj mr else zRun 127 282 L S sh mi mj mr := zr_if (off := 45) (P := ¬ x = y) (zD_of zk_127 d_127_279 rfl rfl) rfl rfl (by decide)
theorem q_127_282r : zRun 127 282 [some (.ref o), l1, l2] S sh mi mj mr = zRun 127 283 [some (.ref o), l1, l2] (.ref o :: S) sh mi mj mr := zr_l (zD_of zk_127 d_127_282 rfl rfl) rfl rfl rfl
theorem q_127_282n : zRun 127 282 [some (.null), l1, l2] S sh mi mj mr = zRun 127 283 [some (.null), l1, l2] (.null :: S) sh mi mj mr := zr_l (zD_of zk_127 d_127_282 rfl rfl) rfl rfl rfl
theorem q_127_283 : zRun 127 283 [l0, l1, some (.int x)] S sh mi mj mr = zRun 127 284 [l0, l1, some (.int x)] (.int x :: S) sh mi mj mr := zr_l (zD_of zk_127 d_127_283 rfl rfl) rfl rfl rfl
theorem q_127_284  {x0 : Int32} (hS : zcat S ≤ 8) (h : zIs sh o 0 7) : zRun 127 284 L (.int x0 :: .ref o :: S) sh mi mj mr = (zCall 100 [.ref o, .int x0] sh mi mj mr).bind fun r => zRun 127 287 L (r.1.toList ++ S) r.2.1 r.2.2.1 r.2.2.2.1 r.2.2.2.2 := zr_V (zD_of zk_127 d_127_284 rfl rfl) rfl zk_100 rfl rfl rfl hS h
theorem q_127_287  : zRun 127 287 L S sh mi mj mr = zRun 127 289 L (.int (-2) :: S) sh mi mj mr := zr_p (zD_of zk_127 d_127_287 rfl rfl) rfl
theorem q_127_289  : zRun 127 289 L (.int y :: .int x :: S) sh mi mj mr = if ¬ x = y then zRun 127 324 L S sh mi mj mr else zRun 127 292 L S sh mi mj mr := zr_if (off := 35) (P := ¬ x = y) (zD_of zk_127 d_127_289 rfl rfl) rfl rfl (by decide)
theorem q_127_292r : zRun 127 292 [some (.ref o), l1, l2] S sh mi mj mr = zRun 127 293 [some (.ref o), l1, l2] (.ref o :: S) sh mi mj mr := zr_l (zD_of zk_127 d_127_292 rfl rfl) rfl rfl rfl
theorem q_127_292n : zRun 127 292 [some (.null), l1, l2] S sh mi mj mr = zRun 127 293 [some (.null), l1, l2] (.null :: S) sh mi mj mr := zr_l (zD_of zk_127 d_127_292 rfl rfl) rfl rfl rfl
theorem q_127_293 : zRun 127 293 [l0, l1, some (.int x)] S sh mi mj mr = zRun 127 294 [l0, l1, some (.int x)] (.int x :: S) sh mi mj mr := zr_l (zD_of zk_127 d_127_293 rfl rfl) rfl rfl rfl
theorem q_127_294  {x0 : Int32} (hS : zcat S ≤ 8) (h : zIs sh o 0 7) : zRun 127 294 L (.int x0 :: .ref o :: S) sh mi mj mr = (zCall 101 [.ref o, .int x0] sh mi mj mr).bind fun r => zRun 127 297 L (r.1.toList ++ S) r.2.1 r.2.2.1 r.2.2.2.1 r.2.2.2.2 := zr_V (zD_of zk_127 d_127_294 rfl rfl) rfl zk_101 rfl rfl rfl hS h
theorem q_127_297  : zRun 127 297 L S sh mi mj mr = zRun 127 299 L (.int (-2) :: S) sh mi mj mr := zr_p (zD_of zk_127 d_127_297 rfl rfl) rfl
theorem q_127_299  : zRun 127 299 L (.int y :: .int x :: S) sh mi mj mr = if ¬ x = y then zRun 127 324 L S sh mi mj mr else zRun 127 302 L S sh mi mj mr := zr_if (off := 25) (P := ¬ x = y) (zD_of zk_127 d_127_299 rfl rfl) rfl rfl (by decide)
theorem q_127_302r : zRun 127 302 [some (.ref o), l1, l2] S sh mi mj mr = zRun 127 303 [some (.ref o), l1, l2] (.ref o :: S) sh mi mj mr := zr_l (zD_of zk_127 d_127_302 rfl rfl) rfl rfl rfl
theorem q_127_302n : zRun 127 302 [some (.null), l1, l2] S sh mi mj mr = zRun 127 303 [some (.null), l1, l2] (.null :: S) sh mi mj mr := zr_l (zD_of zk_127 d_127_302 rfl rfl) rfl rfl rfl
theorem q_127_303 : zRun 127 303 [l0, l1, some (.int x)] S sh mi mj mr = zRun 127 304 [l0, l1, some (.int x)] (.int x :: S) sh mi mj mr := zr_l (zD_of zk_127 d_127_303 rfl rfl) rfl rfl rfl
theorem q_127_304  {x0 : Int32} (hS : zcat S ≤ 8) (h : zIs sh o 0 7) : zRun 127 304 L (.int x0 :: .ref o :: S) sh mi mj mr = (zCall 102 [.ref o, .int x0] sh mi mj mr).bind fun r => zRun 127 307 L (r.1.toList ++ S) r.2.1 r.2.2.1 r.2.2.2.1 r.2.2.2.2 := zr_V (zD_of zk_127 d_127_304 rfl rfl) rfl zk_102 rfl rfl rfl hS h
theorem q_127_307  : zRun 127 307 L S sh mi mj mr = zRun 127 309 L (.int (-2) :: S) sh mi mj mr := zr_p (zD_of zk_127 d_127_307 rfl rfl) rfl
theorem q_127_309  : zRun 127 309 L (.int y :: .int x :: S) sh mi mj mr = if ¬ x = y then zRun 127 324 L S sh mi mj mr else zRun 127 312 L S sh mi mj mr := zr_if (off := 15) (P := ¬ x = y) (zD_of zk_127 d_127_309 rfl rfl) rfl rfl (by decide)
theorem q_127_312r : zRun 127 312 [some (.ref o), l1, l2] S sh mi mj mr = zRun 127 313 [some (.ref o), l1, l2] (.ref o :: S) sh mi mj mr := zr_l (zD_of zk_127 d_127_312 rfl rfl) rfl rfl rfl
theorem q_127_312n : zRun 127 312 [some (.null), l1, l2] S sh mi mj mr = zRun 127 313 [some (.null), l1, l2] (.null :: S) sh mi mj mr := zr_l (zD_of zk_127 d_127_312 rfl rfl) rfl rfl rfl
theorem q_127_313  : zRun 127 313 L S sh mi mj mr = zRun 127 314 L (.int 0 :: S) sh mi mj mr := zr_p (zD_of zk_127 d_127_313 rfl rfl) rfl
theorem q_127_314  {x0 : Int32} (hS : zcat S ≤ 8) (h : zIs sh o 0 7) : zRun 127 314 L (.int x0 :: .ref o :: S) sh mi mj mr = (zCall 100 [.ref o, .int x0] sh mi mj mr).bind fun r => zRun 127 317 L (r.1.toList ++ S) r.2.1 r.2.2.1 r.2.2.2.1 r.2.2.2.2 := zr_V (zD_of zk_127 d_127_314 rfl rfl) rfl zk_100 rfl rfl rfl hS h
theorem q_127_317  : zRun 127 317 L (.int x :: S) sh mi mj mr = if ¬ x = 0 then zRun 127 324 L S sh mi mj mr else zRun 127 320 L S sh mi mj mr := zr_if (off := 7) (P := ¬ x = 0) (zD_of zk_127 d_127_317 rfl rfl) rfl rfl (by decide)
theorem q_127_320  : zRun 127 320 L S sh mi mj mr = zRun 127 321 L (.int 1 :: S) sh mi mj mr := zr_p (zD_of zk_127 d_127_320 rfl rfl) rfl
theorem q_127_321  : zRun 127 321 L S sh mi mj mr = zRun 127 325 L S sh mi mj mr := zr_go (off := 4) (zD_of zk_127 d_127_321 rfl rfl) rfl rfl (by decide)
theorem q_127_324  : zRun 127 324 L S sh mi mj mr = zRun 127 325 L (.int 0 :: S) sh mi mj mr := zr_p (zD_of zk_127 d_127_324 rfl rfl) rfl
theorem q_127_325 (h : x = 0 ∨ x = 1) : zRun 127 325 L ([.int x]) sh mi mj mr = some (some (.int x), sh, mi, mj, mr) := zr_ret (zD_of zk_127 d_127_325 rfl rfl) rfl rfl rfl rfl rfl (if_pos (zna_b h))
theorem e_127 {x0 : Int32} {o0 : Nat} : zCall 127 [.ref o0, .int x0] sh mi mj mr = zRun 127 0 [some (.ref o0), some (.int x0), none] [] sh mi mj mr := rfl
theorem d_0_0 : decode cL_law 0 = .ok (.new 9, 3) := by decide +kernel
theorem d_0_3 : decode cL_law 3 = .ok (.dup, 1) := by decide +kernel
theorem d_0_4 : decode cL_law 4 = .ok (.invokespecial 11, 3) := by decide +kernel
theorem d_0_7 : decode cL_law 7 = .ok (.astore_n 1, 1) := by decide +kernel
theorem d_0_8 : decode cL_law 8 = .ok (.iconst 0, 1) := by decide +kernel
theorem d_0_9 : decode cL_law 9 = .ok (.istore_n 2, 1) := by decide +kernel
theorem d_0_10 : decode cL_law 10 = .ok (.aload_n 1, 1) := by decide +kernel
theorem d_0_11 : decode cL_law 11 = .ok (.aload_n 0, 1) := by decide +kernel
theorem d_0_12 : decode cL_law 12 = .ok (.iload_n 2, 1) := by decide +kernel
theorem d_0_13 : decode cL_law 13 = .ok (.iinc 2 1, 3) := by decide +kernel
theorem d_0_16 : decode cL_law 16 = .ok (.invokestatic 12, 3) := by decide +kernel
theorem d_0_19 : decode cL_law 19 = .ok (.invokestatic 18, 3) := by decide +kernel
theorem d_0_22 : decode cL_law 22 = .ok (.ifCond .ne 5, 3) := by decide +kernel
theorem d_0_25 : decode cL_law 25 = .ok (.iconst 0, 1) := by decide +kernel
theorem d_0_26 : decode cL_law 26 = .ok (.ireturn, 1) := by decide +kernel
theorem d_0_27 : decode cL_law 27 = .ok (.aload_n 1, 1) := by decide +kernel
theorem d_0_28 : decode cL_law 28 = .ok (.aload_n 0, 1) := by decide +kernel
theorem d_0_29 : decode cL_law 29 = .ok (.iload_n 2, 1) := by decide +kernel
theorem d_0_30 : decode cL_law 30 = .ok (.iinc 2 1, 3) := by decide +kernel
theorem d_0_33 : decode cL_law 33 = .ok (.invokestatic 12, 3) := by decide +kernel
theorem d_0_36 : decode cL_law 36 = .ok (.bipush 9, 2) := by decide +kernel
theorem d_0_38 : decode cL_law 38 = .ok (.invokestatic 22, 3) := by decide +kernel
theorem d_0_41 : decode cL_law 41 = .ok (.invokevirtual 26, 3) := by decide +kernel
theorem d_0_44 : decode cL_law 44 = .ok (.pop, 1) := by decide +kernel
theorem d_0_45 : decode cL_law 45 = .ok (.iconst 0, 1) := by decide +kernel
theorem d_0_46 : decode cL_law 46 = .ok (.istore_n 3, 1) := by decide +kernel
theorem d_0_47 : decode cL_law 47 = .ok (.iload_n 3, 1) := by decide +kernel
theorem d_0_48 : decode cL_law 48 = .ok (.iconst 4, 1) := by decide +kernel
theorem d_0_49 : decode cL_law 49 = .ok (.if_icmp .ge 105, 3) := by decide +kernel
theorem d_0_52 : decode cL_law 52 = .ok (.aload_n 0, 1) := by decide +kernel
theorem d_0_53 : decode cL_law 53 = .ok (.iload_n 2, 1) := by decide +kernel
theorem d_0_54 : decode cL_law 54 = .ok (.iinc 2 1, 3) := by decide +kernel
theorem d_0_57 : decode cL_law 57 = .ok (.invokestatic 12, 3) := by decide +kernel
theorem d_0_60 : decode cL_law 60 = .ok (.istore 4, 2) := by decide +kernel
theorem d_0_62 : decode cL_law 62 = .ok (.iload 4, 2) := by decide +kernel
theorem d_0_64 : decode cL_law 64 = .ok (.iconst 5, 1) := by decide +kernel
theorem d_0_65 : decode cL_law 65 = .ok (.invokestatic 22, 3) := by decide +kernel
theorem d_0_68 : decode cL_law 68 = .ok (.ifCond .ne 19, 3) := by decide +kernel
theorem d_0_71 : decode cL_law 71 = .ok (.iload 4, 2) := by decide +kernel
theorem d_0_73 : decode cL_law 73 = .ok (.iconst 3, 1) := by decide +kernel
theorem d_0_74 : decode cL_law 74 = .ok (.ishr, 1) := by decide +kernel
theorem d_0_75 : decode cL_law 75 = .ok (.ldc 30, 2) := by decide +kernel
theorem d_0_77 : decode cL_law 77 = .ok (.invokestatic 22, 3) := by decide +kernel
theorem d_0_80 : decode cL_law 80 = .ok (.sipush 20000, 3) := by decide +kernel
theorem d_0_83 : decode cL_law 83 = .ok (.isub, 1) := by decide +kernel
theorem d_0_84 : decode cL_law 84 = .ok (.goto 17, 3) := by decide +kernel
theorem d_0_87 : decode cL_law 87 = .ok (.iload 4, 2) := by decide +kernel
theorem d_0_89 : decode cL_law 89 = .ok (.iconst 3, 1) := by decide +kernel
theorem d_0_90 : decode cL_law 90 = .ok (.ishr, 1) := by decide +kernel
theorem d_0_91 : decode cL_law 91 = .ok (.sipush 1200, 3) := by decide +kernel
theorem d_0_94 : decode cL_law 94 = .ok (.invokestatic 22, 3) := by decide +kernel
theorem d_0_97 : decode cL_law 97 = .ok (.sipush 600, 3) := by decide +kernel
theorem d_0_100 : decode cL_law 100 = .ok (.isub, 1) := by decide +kernel
theorem d_0_101 : decode cL_law 101 = .ok (.istore 5, 2) := by decide +kernel
theorem d_0_103 : decode cL_law 103 = .ok (.aload_n 1, 1) := by decide +kernel
theorem d_0_104 : decode cL_law 104 = .ok (.iload_n 3, 1) := by decide +kernel
theorem d_0_105 : decode cL_law 105 = .ok (.iload 5, 2) := by decide +kernel
theorem d_0_107 : decode cL_law 107 = .ok (.iload 5, 2) := by decide +kernel
theorem d_0_109 : decode cL_law 109 = .ok (.iload 4, 2) := by decide +kernel
theorem d_0_111 : decode cL_law 111 = .ok (.bipush 14, 2) := by decide +kernel
theorem d_0_113 : decode cL_law 113 = .ok (.ishr, 1) := by decide +kernel
theorem d_0_114 : decode cL_law 114 = .ok (.iconst 5, 1) := by decide +kernel
theorem d_0_115 : decode cL_law 115 = .ok (.invokestatic 22, 3) := by decide +kernel
theorem d_0_118 : decode cL_law 118 = .ok (.ifCond .ne 7, 3) := by decide +kernel
theorem d_0_121 : decode cL_law 121 = .ok (.iconst 0, 1) := by decide +kernel
theorem d_0_122 : decode cL_law 122 = .ok (.goto 14, 3) := by decide +kernel
theorem d_0_125 : decode cL_law 125 = .ok (.iload 4, 2) := by decide +kernel
theorem d_0_127 : decode cL_law 127 = .ok (.bipush 16, 2) := by decide +kernel
theorem d_0_129 : decode cL_law 129 = .ok (.ishr, 1) := by decide +kernel
theorem d_0_130 : decode cL_law 130 = .ok (.sipush 900, 3) := by decide +kernel
theorem d_0_133 : decode cL_law 133 = .ok (.invokestatic 22, 3) := by decide +kernel
theorem d_0_136 : decode cL_law 136 = .ok (.iadd, 1) := by decide +kernel
theorem d_0_137 : decode cL_law 137 = .ok (.invokevirtual 31, 3) := by decide +kernel
theorem d_0_140 : decode cL_law 140 = .ok (.sipush 256, 3) := by decide +kernel
theorem d_0_143 : decode cL_law 143 = .ok (.if_icmp .eq 5, 3) := by decide +kernel
theorem d_0_146 : decode cL_law 146 = .ok (.iconst 0, 1) := by decide +kernel
theorem d_0_147 : decode cL_law 147 = .ok (.ireturn, 1) := by decide +kernel
theorem d_0_148 : decode cL_law 148 = .ok (.iinc 3 1, 3) := by decide +kernel
theorem d_0_151 : decode cL_law 151 = .ok (.goto (-104), 3) := by decide +kernel
theorem d_0_154 : decode cL_law 154 = .ok (.iconst 1, 1) := by decide +kernel
theorem d_0_155 : decode cL_law 155 = .ok (.aload_n 0, 1) := by decide +kernel
theorem d_0_156 : decode cL_law 156 = .ok (.iload_n 2, 1) := by decide +kernel
theorem d_0_157 : decode cL_law 157 = .ok (.iinc 2 1, 3) := by decide +kernel
theorem d_0_160 : decode cL_law 160 = .ok (.invokestatic 12, 3) := by decide +kernel
theorem d_0_163 : decode cL_law 163 = .ok (.iconst 3, 1) := by decide +kernel
theorem d_0_164 : decode cL_law 164 = .ok (.invokestatic 22, 3) := by decide +kernel
theorem d_0_167 : decode cL_law 167 = .ok (.iadd, 1) := by decide +kernel
theorem d_0_168 : decode cL_law 168 = .ok (.istore_n 3, 1) := by decide +kernel
theorem d_0_169 : decode cL_law 169 = .ok (.iconst 0, 1) := by decide +kernel
theorem d_0_170 : decode cL_law 170 = .ok (.istore 4, 2) := by decide +kernel
theorem d_0_172 : decode cL_law 172 = .ok (.iload 4, 2) := by decide +kernel
theorem d_0_174 : decode cL_law 174 = .ok (.iload_n 3, 1) := by decide +kernel
theorem d_0_175 : decode cL_law 175 = .ok (.if_icmp .ge 72, 3) := by decide +kernel
theorem d_0_178 : decode cL_law 178 = .ok (.aload_n 1, 1) := by decide +kernel
theorem d_0_179 : decode cL_law 179 = .ok (.aload_n 0, 1) := by decide +kernel
theorem d_0_180 : decode cL_law 180 = .ok (.iload_n 2, 1) := by decide +kernel
theorem d_0_181 : decode cL_law 181 = .ok (.invokestatic 12, 3) := by decide +kernel
theorem d_0_184 : decode cL_law 184 = .ok (.aload_n 0, 1) := by decide +kernel
theorem d_0_185 : decode cL_law 185 = .ok (.iload_n 2, 1) := by decide +kernel
theorem d_0_186 : decode cL_law 186 = .ok (.iconst 1, 1) := by decide +kernel
theorem d_0_187 : decode cL_law 187 = .ok (.iadd, 1) := by decide +kernel
theorem d_0_188 : decode cL_law 188 = .ok (.invokestatic 12, 3) := by decide +kernel
theorem d_0_191 : decode cL_law 191 = .ok (.invokestatic 35, 3) := by decide +kernel
theorem d_0_194 : decode cL_law 194 = .ok (.istore 5, 2) := by decide +kernel
theorem d_0_196 : decode cL_law 196 = .ok (.iinc 2 2, 3) := by decide +kernel
theorem d_0_199 : decode cL_law 199 = .ok (.aload_n 1, 1) := by decide +kernel
theorem d_0_200 : decode cL_law 200 = .ok (.iconst 1, 1) := by decide +kernel
theorem d_0_201 : decode cL_law 201 = .ok (.invokevirtual 39, 3) := by decide +kernel
theorem d_0_204 : decode cL_law 204 = .ok (.istore 6, 2) := by decide +kernel
theorem d_0_206 : decode cL_law 206 = .ok (.iload 6, 2) := by decide +kernel
theorem d_0_208 : decode cL_law 208 = .ok (.ifCond .eq 31, 3) := by decide +kernel
theorem d_0_211 : decode cL_law 211 = .ok (.aload_n 1, 1) := by decide +kernel
theorem d_0_212 : decode cL_law 212 = .ok (.invokevirtual 42, 3) := by decide +kernel
theorem d_0_215 : decode cL_law 215 = .ok (.bipush (-6), 2) := by decide +kernel
theorem d_0_217 : decode cL_law 217 = .ok (.if_icmp .ne 22, 3) := by decide +kernel
theorem d_0_220 : decode cL_law 220 = .ok (.aload_n 1, 1) := by decide +kernel
theorem d_0_221 : decode cL_law 221 = .ok (.iload 4, 2) := by decide +kernel
theorem d_0_223 : decode cL_law 223 = .ok (.invokevirtual 46, 3) := by decide +kernel
theorem d_0_226 : decode cL_law 226 = .ok (.iload 5, 2) := by decide +kernel
theorem d_0_228 : decode cL_law 228 = .ok (.if_icmp .ne 11, 3) := by decide +kernel
theorem d_0_231 : decode cL_law 231 = .ok (.aload_n 1, 1) := by decide +kernel
theorem d_0_232 : decode cL_law 232 = .ok (.iconst 1, 1) := by decide +kernel
theorem d_0_233 : decode cL_law 233 = .ok (.invokevirtual 39, 3) := by decide +kernel
theorem d_0_236 : decode cL_law 236 = .ok (.ifCond .eq 5, 3) := by decide +kernel
theorem d_0_239 : decode cL_law 239 = .ok (.iconst 0, 1) := by decide +kernel
theorem d_0_240 : decode cL_law 240 = .ok (.ireturn, 1) := by decide +kernel
theorem d_0_241 : decode cL_law 241 = .ok (.iinc 4 1, 3) := by decide +kernel
theorem d_0_244 : decode cL_law 244 = .ok (.goto (-72), 3) := by decide +kernel
theorem d_0_247 : decode cL_law 247 = .ok (.iconst 0, 1) := by decide +kernel
theorem d_0_248 : decode cL_law 248 = .ok (.istore 4, 2) := by decide +kernel
theorem d_0_250 : decode cL_law 250 = .ok (.iload 4, 2) := by decide +kernel
theorem d_0_252 : decode cL_law 252 = .ok (.iload_n 3, 1) := by decide +kernel
theorem d_0_253 : decode cL_law 253 = .ok (.if_icmp .ge 116, 3) := by decide +kernel
theorem d_0_256 : decode cL_law 256 = .ok (.aload_n 0, 1) := by decide +kernel
theorem d_0_257 : decode cL_law 257 = .ok (.iload_n 2, 1) := by decide +kernel
theorem d_0_258 : decode cL_law 258 = .ok (.iinc 2 1, 3) := by decide +kernel
theorem d_0_261 : decode cL_law 261 = .ok (.invokestatic 12, 3) := by decide +kernel
theorem d_0_264 : decode cL_law 264 = .ok (.istore 5, 2) := by decide +kernel
theorem d_0_266 : decode cL_law 266 = .ok (.aload_n 1, 1) := by decide +kernel
theorem d_0_267 : decode cL_law 267 = .ok (.iload 4, 2) := by decide +kernel
theorem d_0_269 : decode cL_law 269 = .ok (.invokestatic 49, 3) := by decide +kernel
theorem d_0_272 : decode cL_law 272 = .ok (.ifCond .eq 69, 3) := by decide +kernel
theorem d_0_275 : decode cL_law 275 = .ok (.aload_n 1, 1) := by decide +kernel
theorem d_0_276 : decode cL_law 276 = .ok (.iload 4, 2) := by decide +kernel
theorem d_0_278 : decode cL_law 278 = .ok (.iload 5, 2) := by decide +kernel
theorem d_0_280 : decode cL_law 280 = .ok (.invokestatic 52, 3) := by decide +kernel
theorem d_0_283 : decode cL_law 283 = .ok (.ifCond .eq 58, 3) := by decide +kernel
theorem d_0_286 : decode cL_law 286 = .ok (.aload_n 1, 1) := by decide +kernel
theorem d_0_287 : decode cL_law 287 = .ok (.iload 4, 2) := by decide +kernel
theorem d_0_289 : decode cL_law 289 = .ok (.iload 5, 2) := by decide +kernel
theorem d_0_291 : decode cL_law 291 = .ok (.aload_n 0, 1) := by decide +kernel
theorem d_0_292 : decode cL_law 292 = .ok (.iload_n 2, 1) := by decide +kernel
theorem d_0_293 : decode cL_law 293 = .ok (.iinc 2 1, 3) := by decide +kernel
theorem d_0_296 : decode cL_law 296 = .ok (.invokestatic 12, 3) := by decide +kernel
theorem d_0_299 : decode cL_law 299 = .ok (.invokestatic 56, 3) := by decide +kernel
theorem d_0_302 : decode cL_law 302 = .ok (.ifCond .eq 39, 3) := by decide +kernel
theorem d_0_305 : decode cL_law 305 = .ok (.aload_n 1, 1) := by decide +kernel
theorem d_0_306 : decode cL_law 306 = .ok (.iload 4, 2) := by decide +kernel
theorem d_0_308 : decode cL_law 308 = .ok (.iload 5, 2) := by decide +kernel
theorem d_0_310 : decode cL_law 310 = .ok (.bipush 7, 2) := by decide +kernel
theorem d_0_312 : decode cL_law 312 = .ok (.ishr, 1) := by decide +kernel
theorem d_0_313 : decode cL_law 313 = .ok (.bipush 25, 2) := by decide +kernel
theorem d_0_315 : decode cL_law 315 = .ok (.invokestatic 22, 3) := by decide +kernel
theorem d_0_318 : decode cL_law 318 = .ok (.invokestatic 60, 3) := by decide +kernel
theorem d_0_321 : decode cL_law 321 = .ok (.ifCond .eq 20, 3) := by decide +kernel
theorem d_0_324 : decode cL_law 324 = .ok (.aload_n 1, 1) := by decide +kernel
theorem d_0_325 : decode cL_law 325 = .ok (.iload 4, 2) := by decide +kernel
theorem d_0_327 : decode cL_law 327 = .ok (.iload 5, 2) := by decide +kernel
theorem d_0_329 : decode cL_law 329 = .ok (.iconst 3, 1) := by decide +kernel
theorem d_0_330 : decode cL_law 330 = .ok (.ishr, 1) := by decide +kernel
theorem d_0_331 : decode cL_law 331 = .ok (.iconst 4, 1) := by decide +kernel
theorem d_0_332 : decode cL_law 332 = .ok (.invokestatic 22, 3) := by decide +kernel
theorem d_0_335 : decode cL_law 335 = .ok (.invokestatic 63, 3) := by decide +kernel
theorem d_0_338 : decode cL_law 338 = .ok (.ifCond .ne 5, 3) := by decide +kernel
theorem d_0_341 : decode cL_law 341 = .ok (.iconst 0, 1) := by decide +kernel
theorem d_0_342 : decode cL_law 342 = .ok (.ireturn, 1) := by decide +kernel
theorem d_0_343 : decode cL_law 343 = .ok (.aload_n 1, 1) := by decide +kernel
theorem d_0_344 : decode cL_law 344 = .ok (.iload 4, 2) := by decide +kernel
theorem d_0_346 : decode cL_law 346 = .ok (.iload 5, 2) := by decide +kernel
theorem d_0_348 : decode cL_law 348 = .ok (.bipush 11, 2) := by decide +kernel
theorem d_0_350 : decode cL_law 350 = .ok (.ishr, 1) := by decide +kernel
theorem d_0_351 : decode cL_law 351 = .ok (.iload_n 3, 1) := by decide +kernel
theorem d_0_352 : decode cL_law 352 = .ok (.invokestatic 22, 3) := by decide +kernel
theorem d_0_355 : decode cL_law 355 = .ok (.invokestatic 66, 3) := by decide +kernel
theorem d_0_358 : decode cL_law 358 = .ok (.ifCond .ne 5, 3) := by decide +kernel
theorem d_0_361 : decode cL_law 361 = .ok (.iconst 0, 1) := by decide +kernel
theorem d_0_362 : decode cL_law 362 = .ok (.ireturn, 1) := by decide +kernel
theorem d_0_363 : decode cL_law 363 = .ok (.iinc 4 1, 3) := by decide +kernel
theorem d_0_366 : decode cL_law 366 = .ok (.goto (-116), 3) := by decide +kernel
theorem d_0_369 : decode cL_law 369 = .ok (.aload_n 1, 1) := by decide +kernel
theorem d_0_370 : decode cL_law 370 = .ok (.iload_n 3, 1) := by decide +kernel
theorem d_0_371 : decode cL_law 371 = .ok (.invokestatic 69, 3) := by decide +kernel
theorem d_0_374 : decode cL_law 374 = .ok (.ireturn, 1) := by decide +kernel
theorem q_0_0  : zRun 0 0 L S sh mi mj mr = zRun 0 3 L (.ref sh.length :: S) (sh ++ [(0, 7)]) mi mj mr := zr_new (zD_of zk_0 d_0_0 rfl rfl) rfl (by decide)
theorem q_0_3r : zRun 0 3 L (.ref o :: S) sh mi mj mr = zRun 0 4 L (.ref o :: .ref o :: S) sh mi mj mr := zr_p (zD_of zk_0 d_0_3 rfl rfl) rfl
theorem q_0_3i : zRun 0 3 L (.int x :: S) sh mi mj mr = zRun 0 4 L (.int x :: .int x :: S) sh mi mj mr := zr_p (zD_of zk_0 d_0_3 rfl rfl) rfl
theorem q_0_4  (hS : zcat S ≤ 8) (h : 1 ≤ o) : zRun 0 4 L (.ref o :: S) sh mi mj mr = (zCall 78 [.ref o] sh mi mj mr).bind fun r => zRun 0 7 L (r.1.toList ++ S) r.2.1 r.2.2.1 r.2.2.2.1 r.2.2.2.2 := zr_I (zD_of zk_0 d_0_4 rfl rfl) (Or.inl rfl) rfl zk_78 rfl rfl rfl hS h
theorem q_0_7r : zRun 0 7 [l0, l1, l2, l3, l4, l5, l6] (.ref o :: S) sh mi mj mr = zRun 0 8 [zk2 l0, some (.ref o), l2, l3, l4, l5, l6] S sh mi mj mr := zr_s1 (i := 1) (v := .ref o) (L := [l0, l1, l2, l3, l4, l5, l6]) (zD_of zk_0 d_0_7 rfl rfl) rfl rfl rfl rfl
theorem q_0_7n : zRun 0 7 [l0, l1, l2, l3, l4, l5, l6] (.null :: S) sh mi mj mr = zRun 0 8 [zk2 l0, some (.null), l2, l3, l4, l5, l6] S sh mi mj mr := zr_s1 (i := 1) (v := .null) (L := [l0, l1, l2, l3, l4, l5, l6]) (zD_of zk_0 d_0_7 rfl rfl) rfl rfl rfl rfl
theorem q_0_8  : zRun 0 8 L S sh mi mj mr = zRun 0 9 L (.int 0 :: S) sh mi mj mr := zr_p (zD_of zk_0 d_0_8 rfl rfl) rfl
theorem q_0_9 : zRun 0 9 [l0, l1, l2, l3, l4, l5, l6] (.int x :: S) sh mi mj mr = zRun 0 10 [l0, zk2 l1, some (.int x), l3, l4, l5, l6] S sh mi mj mr := zr_s1 (i := 2) (v := .int x) (L := [l0, l1, l2, l3, l4, l5, l6]) (zD_of zk_0 d_0_9 rfl rfl) rfl rfl rfl rfl
theorem q_0_10r : zRun 0 10 [l0, some (.ref o), l2, l3, l4, l5, l6] S sh mi mj mr = zRun 0 11 [l0, some (.ref o), l2, l3, l4, l5, l6] (.ref o :: S) sh mi mj mr := zr_l (zD_of zk_0 d_0_10 rfl rfl) rfl rfl rfl
theorem q_0_10n : zRun 0 10 [l0, some (.null), l2, l3, l4, l5, l6] S sh mi mj mr = zRun 0 11 [l0, some (.null), l2, l3, l4, l5, l6] (.null :: S) sh mi mj mr := zr_l (zD_of zk_0 d_0_10 rfl rfl) rfl rfl rfl
theorem q_0_11r : zRun 0 11 [some (.ref o), l1, l2, l3, l4, l5, l6] S sh mi mj mr = zRun 0 12 [some (.ref o), l1, l2, l3, l4, l5, l6] (.ref o :: S) sh mi mj mr := zr_l (zD_of zk_0 d_0_11 rfl rfl) rfl rfl rfl
theorem q_0_11n : zRun 0 11 [some (.null), l1, l2, l3, l4, l5, l6] S sh mi mj mr = zRun 0 12 [some (.null), l1, l2, l3, l4, l5, l6] (.null :: S) sh mi mj mr := zr_l (zD_of zk_0 d_0_11 rfl rfl) rfl rfl rfl
theorem q_0_12 : zRun 0 12 [l0, l1, some (.int x), l3, l4, l5, l6] S sh mi mj mr = zRun 0 13 [l0, l1, some (.int x), l3, l4, l5, l6] (.int x :: S) sh mi mj mr := zr_l (zD_of zk_0 d_0_12 rfl rfl) rfl rfl rfl
theorem q_0_13  : zRun 0 13 [l0, l1, some (.int x), l3, l4, l5, l6] S sh mi mj mr = zRun 0 16 [l0, zk2 l1, some (.int (x + 1)), l3, l4, l5, l6] S sh mi mj mr := zr_s1 (i := 2) (v := .int (x + 1)) (L := [l0, l1, some (.int x), l3, l4, l5, l6]) (zD_of zk_0 d_0_13 rfl rfl) rfl rfl rfl rfl
theorem q_0_16  {x0 : Int32} {o0 : Nat} (hS : zcat S ≤ 8) : zRun 0 16 L (.int x0 :: .ref o0 :: S) sh mi mj mr = (zCall 83 [.ref o0, .int x0] sh mi mj mr).bind fun r => zRun 0 19 L (r.1.toList ++ S) r.2.1 r.2.2.1 r.2.2.2.1 r.2.2.2.2 := zr_S (zD_of zk_0 d_0_16 rfl rfl) rfl zk_83 rfl rfl rfl hS
theorem q_0_19  {x0 : Int32} {o0 : Nat} (hS : zcat S ≤ 8) : zRun 0 19 L (.int x0 :: .ref o0 :: S) sh mi mj mr = (zCall 127 [.ref o0, .int x0] sh mi mj mr).bind fun r => zRun 0 22 L (r.1.toList ++ S) r.2.1 r.2.2.1 r.2.2.2.1 r.2.2.2.2 := zr_S (zD_of zk_0 d_0_19 rfl rfl) rfl zk_127 rfl rfl rfl hS
theorem q_0_22  : zRun 0 22 L (.int x :: S) sh mi mj mr = if ¬ x = 0 then zRun 0 27 L S sh mi mj mr else zRun 0 25 L S sh mi mj mr := zr_if (off := 5) (P := ¬ x = 0) (zD_of zk_0 d_0_22 rfl rfl) rfl rfl (by decide)
theorem q_0_25  : zRun 0 25 L S sh mi mj mr = zRun 0 26 L (.int 0 :: S) sh mi mj mr := zr_p (zD_of zk_0 d_0_25 rfl rfl) rfl
theorem q_0_26 (h : x = 0 ∨ x = 1) : zRun 0 26 L ([.int x]) sh mi mj mr = some (some (.int x), sh, mi, mj, mr) := zr_ret (zD_of zk_0 d_0_26 rfl rfl) rfl rfl rfl rfl rfl (if_pos (zna_b h))
theorem q_0_27r : zRun 0 27 [l0, some (.ref o), l2, l3, l4, l5, l6] S sh mi mj mr = zRun 0 28 [l0, some (.ref o), l2, l3, l4, l5, l6] (.ref o :: S) sh mi mj mr := zr_l (zD_of zk_0 d_0_27 rfl rfl) rfl rfl rfl
theorem q_0_27n : zRun 0 27 [l0, some (.null), l2, l3, l4, l5, l6] S sh mi mj mr = zRun 0 28 [l0, some (.null), l2, l3, l4, l5, l6] (.null :: S) sh mi mj mr := zr_l (zD_of zk_0 d_0_27 rfl rfl) rfl rfl rfl
theorem q_0_28r : zRun 0 28 [some (.ref o), l1, l2, l3, l4, l5, l6] S sh mi mj mr = zRun 0 29 [some (.ref o), l1, l2, l3, l4, l5, l6] (.ref o :: S) sh mi mj mr := zr_l (zD_of zk_0 d_0_28 rfl rfl) rfl rfl rfl
theorem q_0_28n : zRun 0 28 [some (.null), l1, l2, l3, l4, l5, l6] S sh mi mj mr = zRun 0 29 [some (.null), l1, l2, l3, l4, l5, l6] (.null :: S) sh mi mj mr := zr_l (zD_of zk_0 d_0_28 rfl rfl) rfl rfl rfl
theorem q_0_29 : zRun 0 29 [l0, l1, some (.int x), l3, l4, l5, l6] S sh mi mj mr = zRun 0 30 [l0, l1, some (.int x), l3, l4, l5, l6] (.int x :: S) sh mi mj mr := zr_l (zD_of zk_0 d_0_29 rfl rfl) rfl rfl rfl
theorem q_0_30  : zRun 0 30 [l0, l1, some (.int x), l3, l4, l5, l6] S sh mi mj mr = zRun 0 33 [l0, zk2 l1, some (.int (x + 1)), l3, l4, l5, l6] S sh mi mj mr := zr_s1 (i := 2) (v := .int (x + 1)) (L := [l0, l1, some (.int x), l3, l4, l5, l6]) (zD_of zk_0 d_0_30 rfl rfl) rfl rfl rfl rfl
theorem q_0_33  {x0 : Int32} {o0 : Nat} (hS : zcat S ≤ 8) : zRun 0 33 L (.int x0 :: .ref o0 :: S) sh mi mj mr = (zCall 83 [.ref o0, .int x0] sh mi mj mr).bind fun r => zRun 0 36 L (r.1.toList ++ S) r.2.1 r.2.2.1 r.2.2.2.1 r.2.2.2.2 := zr_S (zD_of zk_0 d_0_33 rfl rfl) rfl zk_83 rfl rfl rfl hS
theorem q_0_36  : zRun 0 36 L S sh mi mj mr = zRun 0 38 L (.int 9 :: S) sh mi mj mr := zr_p (zD_of zk_0 d_0_36 rfl rfl) rfl
theorem q_0_38  {x0 x1 : Int32} (hS : zcat S ≤ 8) : zRun 0 38 L (.int x1 :: .int x0 :: S) sh mi mj mr = (zCall 116 [.int x0, .int x1] sh mi mj mr).bind fun r => zRun 0 41 L (r.1.toList ++ S) r.2.1 r.2.2.1 r.2.2.2.1 r.2.2.2.2 := zr_S (zD_of zk_0 d_0_38 rfl rfl) rfl zk_116 rfl rfl rfl hS
theorem q_0_41  {x0 : Int32} (hS : zcat S ≤ 8) (h : zIs sh o 0 7) : zRun 0 41 L (.int x0 :: .ref o :: S) sh mi mj mr = (zCall 81 [.ref o, .int x0] sh mi mj mr).bind fun r => zRun 0 44 L (r.1.toList ++ S) r.2.1 r.2.2.1 r.2.2.2.1 r.2.2.2.2 := zr_V (zD_of zk_0 d_0_41 rfl rfl) rfl zk_81 rfl rfl rfl hS h
theorem q_0_44  : zRun 0 44 L (.int x :: S) sh mi mj mr = zRun 0 45 L S sh mi mj mr := zr_p (zD_of zk_0 d_0_44 rfl rfl) rfl
theorem q_0_45  : zRun 0 45 L S sh mi mj mr = zRun 0 46 L (.int 0 :: S) sh mi mj mr := zr_p (zD_of zk_0 d_0_45 rfl rfl) rfl
theorem q_0_46 : zRun 0 46 [l0, l1, l2, l3, l4, l5, l6] (.int x :: S) sh mi mj mr = zRun 0 47 [l0, l1, zk2 l2, some (.int x), l4, l5, l6] S sh mi mj mr := zr_s1 (i := 3) (v := .int x) (L := [l0, l1, l2, l3, l4, l5, l6]) (zD_of zk_0 d_0_46 rfl rfl) rfl rfl rfl rfl
theorem q_0_47 : zRun 0 47 [l0, l1, l2, some (.int x), l4, l5, l6] S sh mi mj mr = zRun 0 48 [l0, l1, l2, some (.int x), l4, l5, l6] (.int x :: S) sh mi mj mr := zr_l (zD_of zk_0 d_0_47 rfl rfl) rfl rfl rfl
theorem q_0_48  : zRun 0 48 L S sh mi mj mr = zRun 0 49 L (.int 4 :: S) sh mi mj mr := zr_p (zD_of zk_0 d_0_48 rfl rfl) rfl
theorem q_0_49  : zRun 0 49 L (.int y :: .int x :: S) sh mi mj mr = if y ≤ x then zRun 0 154 L S sh mi mj mr else zRun 0 52 L S sh mi mj mr := zr_if (off := 105) (P := y ≤ x) (zD_of zk_0 d_0_49 rfl rfl) rfl rfl (by decide)
theorem q_0_52r : zRun 0 52 [some (.ref o), l1, l2, l3, l4, l5, l6] S sh mi mj mr = zRun 0 53 [some (.ref o), l1, l2, l3, l4, l5, l6] (.ref o :: S) sh mi mj mr := zr_l (zD_of zk_0 d_0_52 rfl rfl) rfl rfl rfl
theorem q_0_52n : zRun 0 52 [some (.null), l1, l2, l3, l4, l5, l6] S sh mi mj mr = zRun 0 53 [some (.null), l1, l2, l3, l4, l5, l6] (.null :: S) sh mi mj mr := zr_l (zD_of zk_0 d_0_52 rfl rfl) rfl rfl rfl
theorem q_0_53 : zRun 0 53 [l0, l1, some (.int x), l3, l4, l5, l6] S sh mi mj mr = zRun 0 54 [l0, l1, some (.int x), l3, l4, l5, l6] (.int x :: S) sh mi mj mr := zr_l (zD_of zk_0 d_0_53 rfl rfl) rfl rfl rfl
theorem q_0_54  : zRun 0 54 [l0, l1, some (.int x), l3, l4, l5, l6] S sh mi mj mr = zRun 0 57 [l0, zk2 l1, some (.int (x + 1)), l3, l4, l5, l6] S sh mi mj mr := zr_s1 (i := 2) (v := .int (x + 1)) (L := [l0, l1, some (.int x), l3, l4, l5, l6]) (zD_of zk_0 d_0_54 rfl rfl) rfl rfl rfl rfl
theorem q_0_57  {x0 : Int32} {o0 : Nat} (hS : zcat S ≤ 8) : zRun 0 57 L (.int x0 :: .ref o0 :: S) sh mi mj mr = (zCall 83 [.ref o0, .int x0] sh mi mj mr).bind fun r => zRun 0 60 L (r.1.toList ++ S) r.2.1 r.2.2.1 r.2.2.2.1 r.2.2.2.2 := zr_S (zD_of zk_0 d_0_57 rfl rfl) rfl zk_83 rfl rfl rfl hS
theorem q_0_60 : zRun 0 60 [l0, l1, l2, l3, l4, l5, l6] (.int x :: S) sh mi mj mr = zRun 0 62 [l0, l1, l2, zk2 l3, some (.int x), l5, l6] S sh mi mj mr := zr_s1 (i := 4) (v := .int x) (L := [l0, l1, l2, l3, l4, l5, l6]) (zD_of zk_0 d_0_60 rfl rfl) rfl rfl rfl rfl
theorem q_0_62 : zRun 0 62 [l0, l1, l2, l3, some (.int x), l5, l6] S sh mi mj mr = zRun 0 64 [l0, l1, l2, l3, some (.int x), l5, l6] (.int x :: S) sh mi mj mr := zr_l (zD_of zk_0 d_0_62 rfl rfl) rfl rfl rfl
theorem q_0_64  : zRun 0 64 L S sh mi mj mr = zRun 0 65 L (.int 5 :: S) sh mi mj mr := zr_p (zD_of zk_0 d_0_64 rfl rfl) rfl
theorem q_0_65  {x0 x1 : Int32} (hS : zcat S ≤ 8) : zRun 0 65 L (.int x1 :: .int x0 :: S) sh mi mj mr = (zCall 116 [.int x0, .int x1] sh mi mj mr).bind fun r => zRun 0 68 L (r.1.toList ++ S) r.2.1 r.2.2.1 r.2.2.2.1 r.2.2.2.2 := zr_S (zD_of zk_0 d_0_65 rfl rfl) rfl zk_116 rfl rfl rfl hS
theorem q_0_68  : zRun 0 68 L (.int x :: S) sh mi mj mr = if ¬ x = 0 then zRun 0 87 L S sh mi mj mr else zRun 0 71 L S sh mi mj mr := zr_if (off := 19) (P := ¬ x = 0) (zD_of zk_0 d_0_68 rfl rfl) rfl rfl (by decide)
theorem q_0_71 : zRun 0 71 [l0, l1, l2, l3, some (.int x), l5, l6] S sh mi mj mr = zRun 0 73 [l0, l1, l2, l3, some (.int x), l5, l6] (.int x :: S) sh mi mj mr := zr_l (zD_of zk_0 d_0_71 rfl rfl) rfl rfl rfl
theorem q_0_73  : zRun 0 73 L S sh mi mj mr = zRun 0 74 L (.int 3 :: S) sh mi mj mr := zr_p (zD_of zk_0 d_0_73 rfl rfl) rfl
theorem q_0_74  : zRun 0 74 L (.int y :: .int x :: S) sh mi mj mr = zRun 0 75 L (.int (x >>> (y &&& 31)) :: S) sh mi mj mr := zr_p (zD_of zk_0 d_0_74 rfl rfl) rfl
theorem q_0_75  : zRun 0 75 L S sh mi mj mr = zRun 0 77 L (.int 40000 :: S) sh mi mj mr := zr_k32 (zD_of zk_0 d_0_75 rfl rfl) (by first | exact Or.inl rfl | exact Or.inr rfl) rfl
theorem q_0_77  {x0 x1 : Int32} (hS : zcat S ≤ 8) : zRun 0 77 L (.int x1 :: .int x0 :: S) sh mi mj mr = (zCall 116 [.int x0, .int x1] sh mi mj mr).bind fun r => zRun 0 80 L (r.1.toList ++ S) r.2.1 r.2.2.1 r.2.2.2.1 r.2.2.2.2 := zr_S (zD_of zk_0 d_0_77 rfl rfl) rfl zk_116 rfl rfl rfl hS
theorem q_0_80  : zRun 0 80 L S sh mi mj mr = zRun 0 83 L (.int 20000 :: S) sh mi mj mr := zr_p (zD_of zk_0 d_0_80 rfl rfl) rfl
theorem q_0_83  : zRun 0 83 L (.int y :: .int x :: S) sh mi mj mr = zRun 0 84 L (.int (x - y) :: S) sh mi mj mr := zr_p (zD_of zk_0 d_0_83 rfl rfl) rfl
theorem q_0_84  : zRun 0 84 L S sh mi mj mr = zRun 0 101 L S sh mi mj mr := zr_go (off := 17) (zD_of zk_0 d_0_84 rfl rfl) rfl rfl (by decide)
theorem q_0_87 : zRun 0 87 [l0, l1, l2, l3, some (.int x), l5, l6] S sh mi mj mr = zRun 0 89 [l0, l1, l2, l3, some (.int x), l5, l6] (.int x :: S) sh mi mj mr := zr_l (zD_of zk_0 d_0_87 rfl rfl) rfl rfl rfl
theorem q_0_89  : zRun 0 89 L S sh mi mj mr = zRun 0 90 L (.int 3 :: S) sh mi mj mr := zr_p (zD_of zk_0 d_0_89 rfl rfl) rfl
theorem q_0_90  : zRun 0 90 L (.int y :: .int x :: S) sh mi mj mr = zRun 0 91 L (.int (x >>> (y &&& 31)) :: S) sh mi mj mr := zr_p (zD_of zk_0 d_0_90 rfl rfl) rfl
theorem q_0_91  : zRun 0 91 L S sh mi mj mr = zRun 0 94 L (.int 1200 :: S) sh mi mj mr := zr_p (zD_of zk_0 d_0_91 rfl rfl) rfl
theorem q_0_94  {x0 x1 : Int32} (hS : zcat S ≤ 8) : zRun 0 94 L (.int x1 :: .int x0 :: S) sh mi mj mr = (zCall 116 [.int x0, .int x1] sh mi mj mr).bind fun r => zRun 0 97 L (r.1.toList ++ S) r.2.1 r.2.2.1 r.2.2.2.1 r.2.2.2.2 := zr_S (zD_of zk_0 d_0_94 rfl rfl) rfl zk_116 rfl rfl rfl hS
theorem q_0_97  : zRun 0 97 L S sh mi mj mr = zRun 0 100 L (.int 600 :: S) sh mi mj mr := zr_p (zD_of zk_0 d_0_97 rfl rfl) rfl
theorem q_0_100  : zRun 0 100 L (.int y :: .int x :: S) sh mi mj mr = zRun 0 101 L (.int (x - y) :: S) sh mi mj mr := zr_p (zD_of zk_0 d_0_100 rfl rfl) rfl
theorem q_0_101 : zRun 0 101 [l0, l1, l2, l3, l4, l5, l6] (.int x :: S) sh mi mj mr = zRun 0 103 [l0, l1, l2, l3, zk2 l4, some (.int x), l6] S sh mi mj mr := zr_s1 (i := 5) (v := .int x) (L := [l0, l1, l2, l3, l4, l5, l6]) (zD_of zk_0 d_0_101 rfl rfl) rfl rfl rfl rfl
theorem q_0_103r : zRun 0 103 [l0, some (.ref o), l2, l3, l4, l5, l6] S sh mi mj mr = zRun 0 104 [l0, some (.ref o), l2, l3, l4, l5, l6] (.ref o :: S) sh mi mj mr := zr_l (zD_of zk_0 d_0_103 rfl rfl) rfl rfl rfl
theorem q_0_103n : zRun 0 103 [l0, some (.null), l2, l3, l4, l5, l6] S sh mi mj mr = zRun 0 104 [l0, some (.null), l2, l3, l4, l5, l6] (.null :: S) sh mi mj mr := zr_l (zD_of zk_0 d_0_103 rfl rfl) rfl rfl rfl
theorem q_0_104 : zRun 0 104 [l0, l1, l2, some (.int x), l4, l5, l6] S sh mi mj mr = zRun 0 105 [l0, l1, l2, some (.int x), l4, l5, l6] (.int x :: S) sh mi mj mr := zr_l (zD_of zk_0 d_0_104 rfl rfl) rfl rfl rfl
theorem q_0_105 : zRun 0 105 [l0, l1, l2, l3, l4, some (.int x), l6] S sh mi mj mr = zRun 0 107 [l0, l1, l2, l3, l4, some (.int x), l6] (.int x :: S) sh mi mj mr := zr_l (zD_of zk_0 d_0_105 rfl rfl) rfl rfl rfl
theorem q_0_107 : zRun 0 107 [l0, l1, l2, l3, l4, some (.int x), l6] S sh mi mj mr = zRun 0 109 [l0, l1, l2, l3, l4, some (.int x), l6] (.int x :: S) sh mi mj mr := zr_l (zD_of zk_0 d_0_107 rfl rfl) rfl rfl rfl
theorem q_0_109 : zRun 0 109 [l0, l1, l2, l3, some (.int x), l5, l6] S sh mi mj mr = zRun 0 111 [l0, l1, l2, l3, some (.int x), l5, l6] (.int x :: S) sh mi mj mr := zr_l (zD_of zk_0 d_0_109 rfl rfl) rfl rfl rfl
theorem q_0_111  : zRun 0 111 L S sh mi mj mr = zRun 0 113 L (.int 14 :: S) sh mi mj mr := zr_p (zD_of zk_0 d_0_111 rfl rfl) rfl
theorem q_0_113  : zRun 0 113 L (.int y :: .int x :: S) sh mi mj mr = zRun 0 114 L (.int (x >>> (y &&& 31)) :: S) sh mi mj mr := zr_p (zD_of zk_0 d_0_113 rfl rfl) rfl
theorem q_0_114  : zRun 0 114 L S sh mi mj mr = zRun 0 115 L (.int 5 :: S) sh mi mj mr := zr_p (zD_of zk_0 d_0_114 rfl rfl) rfl
theorem q_0_115  {x0 x1 : Int32} (hS : zcat S ≤ 8) : zRun 0 115 L (.int x1 :: .int x0 :: S) sh mi mj mr = (zCall 116 [.int x0, .int x1] sh mi mj mr).bind fun r => zRun 0 118 L (r.1.toList ++ S) r.2.1 r.2.2.1 r.2.2.2.1 r.2.2.2.2 := zr_S (zD_of zk_0 d_0_115 rfl rfl) rfl zk_116 rfl rfl rfl hS
theorem q_0_118  : zRun 0 118 L (.int x :: S) sh mi mj mr = if ¬ x = 0 then zRun 0 125 L S sh mi mj mr else zRun 0 121 L S sh mi mj mr := zr_if (off := 7) (P := ¬ x = 0) (zD_of zk_0 d_0_118 rfl rfl) rfl rfl (by decide)
theorem q_0_121  : zRun 0 121 L S sh mi mj mr = zRun 0 122 L (.int 0 :: S) sh mi mj mr := zr_p (zD_of zk_0 d_0_121 rfl rfl) rfl
theorem q_0_122  : zRun 0 122 L S sh mi mj mr = zRun 0 136 L S sh mi mj mr := zr_go (off := 14) (zD_of zk_0 d_0_122 rfl rfl) rfl rfl (by decide)
theorem q_0_125 : zRun 0 125 [l0, l1, l2, l3, some (.int x), l5, l6] S sh mi mj mr = zRun 0 127 [l0, l1, l2, l3, some (.int x), l5, l6] (.int x :: S) sh mi mj mr := zr_l (zD_of zk_0 d_0_125 rfl rfl) rfl rfl rfl
theorem q_0_127  : zRun 0 127 L S sh mi mj mr = zRun 0 129 L (.int 16 :: S) sh mi mj mr := zr_p (zD_of zk_0 d_0_127 rfl rfl) rfl
theorem q_0_129  : zRun 0 129 L (.int y :: .int x :: S) sh mi mj mr = zRun 0 130 L (.int (x >>> (y &&& 31)) :: S) sh mi mj mr := zr_p (zD_of zk_0 d_0_129 rfl rfl) rfl
theorem q_0_130  : zRun 0 130 L S sh mi mj mr = zRun 0 133 L (.int 900 :: S) sh mi mj mr := zr_p (zD_of zk_0 d_0_130 rfl rfl) rfl
theorem q_0_133  {x0 x1 : Int32} (hS : zcat S ≤ 8) : zRun 0 133 L (.int x1 :: .int x0 :: S) sh mi mj mr = (zCall 116 [.int x0, .int x1] sh mi mj mr).bind fun r => zRun 0 136 L (r.1.toList ++ S) r.2.1 r.2.2.1 r.2.2.2.1 r.2.2.2.2 := zr_S (zD_of zk_0 d_0_133 rfl rfl) rfl zk_116 rfl rfl rfl hS
theorem q_0_136  : zRun 0 136 L (.int y :: .int x :: S) sh mi mj mr = zRun 0 137 L (.int (x + y) :: S) sh mi mj mr := zr_p (zD_of zk_0 d_0_136 rfl rfl) rfl
theorem q_0_137  {x0 x1 x2 : Int32} (hS : zcat S ≤ 8) (h : zIs sh o 0 7) : zRun 0 137 L (.int x2 :: .int x1 :: .int x0 :: .ref o :: S) sh mi mj mr = (zCall 79 [.ref o, .int x0, .int x1, .int x2] sh mi mj mr).bind fun r => zRun 0 140 L (r.1.toList ++ S) r.2.1 r.2.2.1 r.2.2.2.1 r.2.2.2.2 := zr_V (zD_of zk_0 d_0_137 rfl rfl) rfl zk_79 rfl rfl rfl hS h
theorem q_0_140  : zRun 0 140 L S sh mi mj mr = zRun 0 143 L (.int 256 :: S) sh mi mj mr := zr_p (zD_of zk_0 d_0_140 rfl rfl) rfl
theorem q_0_143  : zRun 0 143 L (.int y :: .int x :: S) sh mi mj mr = if x = y then zRun 0 148 L S sh mi mj mr else zRun 0 146 L S sh mi mj mr := zr_if (off := 5) (P := x = y) (zD_of zk_0 d_0_143 rfl rfl) rfl rfl (by decide)
theorem q_0_146  : zRun 0 146 L S sh mi mj mr = zRun 0 147 L (.int 0 :: S) sh mi mj mr := zr_p (zD_of zk_0 d_0_146 rfl rfl) rfl
theorem q_0_147 (h : x = 0 ∨ x = 1) : zRun 0 147 L ([.int x]) sh mi mj mr = some (some (.int x), sh, mi, mj, mr) := zr_ret (zD_of zk_0 d_0_147 rfl rfl) rfl rfl rfl rfl rfl (if_pos (zna_b h))
theorem q_0_148  : zRun 0 148 [l0, l1, l2, some (.int x), l4, l5, l6] S sh mi mj mr = zRun 0 151 [l0, l1, zk2 l2, some (.int (x + 1)), l4, l5, l6] S sh mi mj mr := zr_s1 (i := 3) (v := .int (x + 1)) (L := [l0, l1, l2, some (.int x), l4, l5, l6]) (zD_of zk_0 d_0_148 rfl rfl) rfl rfl rfl rfl
theorem q_0_151  : zRun 0 151 L S sh mi mj mr = zRun 0 47 L S sh mi mj mr := zr_go (off := (-104)) (zD_of zk_0 d_0_151 rfl rfl) rfl rfl (by decide)
theorem q_0_154  : zRun 0 154 L S sh mi mj mr = zRun 0 155 L (.int 1 :: S) sh mi mj mr := zr_p (zD_of zk_0 d_0_154 rfl rfl) rfl
theorem q_0_155r : zRun 0 155 [some (.ref o), l1, l2, l3, l4, l5, l6] S sh mi mj mr = zRun 0 156 [some (.ref o), l1, l2, l3, l4, l5, l6] (.ref o :: S) sh mi mj mr := zr_l (zD_of zk_0 d_0_155 rfl rfl) rfl rfl rfl
theorem q_0_155n : zRun 0 155 [some (.null), l1, l2, l3, l4, l5, l6] S sh mi mj mr = zRun 0 156 [some (.null), l1, l2, l3, l4, l5, l6] (.null :: S) sh mi mj mr := zr_l (zD_of zk_0 d_0_155 rfl rfl) rfl rfl rfl
theorem q_0_156 : zRun 0 156 [l0, l1, some (.int x), l3, l4, l5, l6] S sh mi mj mr = zRun 0 157 [l0, l1, some (.int x), l3, l4, l5, l6] (.int x :: S) sh mi mj mr := zr_l (zD_of zk_0 d_0_156 rfl rfl) rfl rfl rfl
theorem q_0_157  : zRun 0 157 [l0, l1, some (.int x), l3, l4, l5, l6] S sh mi mj mr = zRun 0 160 [l0, zk2 l1, some (.int (x + 1)), l3, l4, l5, l6] S sh mi mj mr := zr_s1 (i := 2) (v := .int (x + 1)) (L := [l0, l1, some (.int x), l3, l4, l5, l6]) (zD_of zk_0 d_0_157 rfl rfl) rfl rfl rfl rfl
theorem q_0_160  {x0 : Int32} {o0 : Nat} (hS : zcat S ≤ 8) : zRun 0 160 L (.int x0 :: .ref o0 :: S) sh mi mj mr = (zCall 83 [.ref o0, .int x0] sh mi mj mr).bind fun r => zRun 0 163 L (r.1.toList ++ S) r.2.1 r.2.2.1 r.2.2.2.1 r.2.2.2.2 := zr_S (zD_of zk_0 d_0_160 rfl rfl) rfl zk_83 rfl rfl rfl hS
theorem q_0_163  : zRun 0 163 L S sh mi mj mr = zRun 0 164 L (.int 3 :: S) sh mi mj mr := zr_p (zD_of zk_0 d_0_163 rfl rfl) rfl
theorem q_0_164  {x0 x1 : Int32} (hS : zcat S ≤ 8) : zRun 0 164 L (.int x1 :: .int x0 :: S) sh mi mj mr = (zCall 116 [.int x0, .int x1] sh mi mj mr).bind fun r => zRun 0 167 L (r.1.toList ++ S) r.2.1 r.2.2.1 r.2.2.2.1 r.2.2.2.2 := zr_S (zD_of zk_0 d_0_164 rfl rfl) rfl zk_116 rfl rfl rfl hS
theorem q_0_167  : zRun 0 167 L (.int y :: .int x :: S) sh mi mj mr = zRun 0 168 L (.int (x + y) :: S) sh mi mj mr := zr_p (zD_of zk_0 d_0_167 rfl rfl) rfl
theorem q_0_168 : zRun 0 168 [l0, l1, l2, l3, l4, l5, l6] (.int x :: S) sh mi mj mr = zRun 0 169 [l0, l1, zk2 l2, some (.int x), l4, l5, l6] S sh mi mj mr := zr_s1 (i := 3) (v := .int x) (L := [l0, l1, l2, l3, l4, l5, l6]) (zD_of zk_0 d_0_168 rfl rfl) rfl rfl rfl rfl
theorem q_0_169  : zRun 0 169 L S sh mi mj mr = zRun 0 170 L (.int 0 :: S) sh mi mj mr := zr_p (zD_of zk_0 d_0_169 rfl rfl) rfl
theorem q_0_170 : zRun 0 170 [l0, l1, l2, l3, l4, l5, l6] (.int x :: S) sh mi mj mr = zRun 0 172 [l0, l1, l2, zk2 l3, some (.int x), l5, l6] S sh mi mj mr := zr_s1 (i := 4) (v := .int x) (L := [l0, l1, l2, l3, l4, l5, l6]) (zD_of zk_0 d_0_170 rfl rfl) rfl rfl rfl rfl
theorem q_0_172 : zRun 0 172 [l0, l1, l2, l3, some (.int x), l5, l6] S sh mi mj mr = zRun 0 174 [l0, l1, l2, l3, some (.int x), l5, l6] (.int x :: S) sh mi mj mr := zr_l (zD_of zk_0 d_0_172 rfl rfl) rfl rfl rfl
theorem q_0_174 : zRun 0 174 [l0, l1, l2, some (.int x), l4, l5, l6] S sh mi mj mr = zRun 0 175 [l0, l1, l2, some (.int x), l4, l5, l6] (.int x :: S) sh mi mj mr := zr_l (zD_of zk_0 d_0_174 rfl rfl) rfl rfl rfl
theorem q_0_175  : zRun 0 175 L (.int y :: .int x :: S) sh mi mj mr = if y ≤ x then zRun 0 247 L S sh mi mj mr else zRun 0 178 L S sh mi mj mr := zr_if (off := 72) (P := y ≤ x) (zD_of zk_0 d_0_175 rfl rfl) rfl rfl (by decide)
theorem q_0_178r : zRun 0 178 [l0, some (.ref o), l2, l3, l4, l5, l6] S sh mi mj mr = zRun 0 179 [l0, some (.ref o), l2, l3, l4, l5, l6] (.ref o :: S) sh mi mj mr := zr_l (zD_of zk_0 d_0_178 rfl rfl) rfl rfl rfl
theorem q_0_178n : zRun 0 178 [l0, some (.null), l2, l3, l4, l5, l6] S sh mi mj mr = zRun 0 179 [l0, some (.null), l2, l3, l4, l5, l6] (.null :: S) sh mi mj mr := zr_l (zD_of zk_0 d_0_178 rfl rfl) rfl rfl rfl
theorem q_0_179r : zRun 0 179 [some (.ref o), l1, l2, l3, l4, l5, l6] S sh mi mj mr = zRun 0 180 [some (.ref o), l1, l2, l3, l4, l5, l6] (.ref o :: S) sh mi mj mr := zr_l (zD_of zk_0 d_0_179 rfl rfl) rfl rfl rfl
theorem q_0_179n : zRun 0 179 [some (.null), l1, l2, l3, l4, l5, l6] S sh mi mj mr = zRun 0 180 [some (.null), l1, l2, l3, l4, l5, l6] (.null :: S) sh mi mj mr := zr_l (zD_of zk_0 d_0_179 rfl rfl) rfl rfl rfl
theorem q_0_180 : zRun 0 180 [l0, l1, some (.int x), l3, l4, l5, l6] S sh mi mj mr = zRun 0 181 [l0, l1, some (.int x), l3, l4, l5, l6] (.int x :: S) sh mi mj mr := zr_l (zD_of zk_0 d_0_180 rfl rfl) rfl rfl rfl
theorem q_0_181  {x0 : Int32} {o0 : Nat} (hS : zcat S ≤ 8) : zRun 0 181 L (.int x0 :: .ref o0 :: S) sh mi mj mr = (zCall 83 [.ref o0, .int x0] sh mi mj mr).bind fun r => zRun 0 184 L (r.1.toList ++ S) r.2.1 r.2.2.1 r.2.2.2.1 r.2.2.2.2 := zr_S (zD_of zk_0 d_0_181 rfl rfl) rfl zk_83 rfl rfl rfl hS
theorem q_0_184r : zRun 0 184 [some (.ref o), l1, l2, l3, l4, l5, l6] S sh mi mj mr = zRun 0 185 [some (.ref o), l1, l2, l3, l4, l5, l6] (.ref o :: S) sh mi mj mr := zr_l (zD_of zk_0 d_0_184 rfl rfl) rfl rfl rfl
theorem q_0_184n : zRun 0 184 [some (.null), l1, l2, l3, l4, l5, l6] S sh mi mj mr = zRun 0 185 [some (.null), l1, l2, l3, l4, l5, l6] (.null :: S) sh mi mj mr := zr_l (zD_of zk_0 d_0_184 rfl rfl) rfl rfl rfl
theorem q_0_185 : zRun 0 185 [l0, l1, some (.int x), l3, l4, l5, l6] S sh mi mj mr = zRun 0 186 [l0, l1, some (.int x), l3, l4, l5, l6] (.int x :: S) sh mi mj mr := zr_l (zD_of zk_0 d_0_185 rfl rfl) rfl rfl rfl
theorem q_0_186  : zRun 0 186 L S sh mi mj mr = zRun 0 187 L (.int 1 :: S) sh mi mj mr := zr_p (zD_of zk_0 d_0_186 rfl rfl) rfl
theorem q_0_187  : zRun 0 187 L (.int y :: .int x :: S) sh mi mj mr = zRun 0 188 L (.int (x + y) :: S) sh mi mj mr := zr_p (zD_of zk_0 d_0_187 rfl rfl) rfl
theorem q_0_188  {x0 : Int32} {o0 : Nat} (hS : zcat S ≤ 8) : zRun 0 188 L (.int x0 :: .ref o0 :: S) sh mi mj mr = (zCall 83 [.ref o0, .int x0] sh mi mj mr).bind fun r => zRun 0 191 L (r.1.toList ++ S) r.2.1 r.2.2.1 r.2.2.2.1 r.2.2.2.2 := zr_S (zD_of zk_0 d_0_188 rfl rfl) rfl zk_83 rfl rfl rfl hS
theorem q_0_191  {x0 x1 : Int32} {o0 : Nat} (hS : zcat S ≤ 8) : zRun 0 191 L (.int x1 :: .int x0 :: .ref o0 :: S) sh mi mj mr = (zCall 117 [.ref o0, .int x0, .int x1] sh mi mj mr).bind fun r => zRun 0 194 L (r.1.toList ++ S) r.2.1 r.2.2.1 r.2.2.2.1 r.2.2.2.2 := zr_S (zD_of zk_0 d_0_191 rfl rfl) rfl zk_117 rfl rfl rfl hS
theorem q_0_194 : zRun 0 194 [l0, l1, l2, l3, l4, l5, l6] (.int x :: S) sh mi mj mr = zRun 0 196 [l0, l1, l2, l3, zk2 l4, some (.int x), l6] S sh mi mj mr := zr_s1 (i := 5) (v := .int x) (L := [l0, l1, l2, l3, l4, l5, l6]) (zD_of zk_0 d_0_194 rfl rfl) rfl rfl rfl rfl
theorem q_0_196  : zRun 0 196 [l0, l1, some (.int x), l3, l4, l5, l6] S sh mi mj mr = zRun 0 199 [l0, zk2 l1, some (.int (x + 2)), l3, l4, l5, l6] S sh mi mj mr := zr_s1 (i := 2) (v := .int (x + 2)) (L := [l0, l1, some (.int x), l3, l4, l5, l6]) (zD_of zk_0 d_0_196 rfl rfl) rfl rfl rfl rfl
theorem q_0_199r : zRun 0 199 [l0, some (.ref o), l2, l3, l4, l5, l6] S sh mi mj mr = zRun 0 200 [l0, some (.ref o), l2, l3, l4, l5, l6] (.ref o :: S) sh mi mj mr := zr_l (zD_of zk_0 d_0_199 rfl rfl) rfl rfl rfl
theorem q_0_199n : zRun 0 199 [l0, some (.null), l2, l3, l4, l5, l6] S sh mi mj mr = zRun 0 200 [l0, some (.null), l2, l3, l4, l5, l6] (.null :: S) sh mi mj mr := zr_l (zD_of zk_0 d_0_199 rfl rfl) rfl rfl rfl
theorem q_0_200  : zRun 0 200 L S sh mi mj mr = zRun 0 201 L (.int 1 :: S) sh mi mj mr := zr_p (zD_of zk_0 d_0_200 rfl rfl) rfl
theorem q_0_201  {x0 : Int32} (hS : zcat S ≤ 8) (h : zIs sh o 0 7) : zRun 0 201 L (.int x0 :: .ref o :: S) sh mi mj mr = (zCall 100 [.ref o, .int x0] sh mi mj mr).bind fun r => zRun 0 204 L (r.1.toList ++ S) r.2.1 r.2.2.1 r.2.2.2.1 r.2.2.2.2 := zr_V (zD_of zk_0 d_0_201 rfl rfl) rfl zk_100 rfl rfl rfl hS h
theorem q_0_204 : zRun 0 204 [l0, l1, l2, l3, l4, l5, l6] (.int x :: S) sh mi mj mr = zRun 0 206 [l0, l1, l2, l3, l4, zk2 l5, some (.int x)] S sh mi mj mr := zr_s1 (i := 6) (v := .int x) (L := [l0, l1, l2, l3, l4, l5, l6]) (zD_of zk_0 d_0_204 rfl rfl) rfl rfl rfl rfl
theorem q_0_206 : zRun 0 206 [l0, l1, l2, l3, l4, l5, some (.int x)] S sh mi mj mr = zRun 0 208 [l0, l1, l2, l3, l4, l5, some (.int x)] (.int x :: S) sh mi mj mr := zr_l (zD_of zk_0 d_0_206 rfl rfl) rfl rfl rfl
theorem q_0_208  : zRun 0 208 L (.int x :: S) sh mi mj mr = if x = 0 then zRun 0 239 L S sh mi mj mr else zRun 0 211 L S sh mi mj mr := zr_if (off := 31) (P := x = 0) (zD_of zk_0 d_0_208 rfl rfl) rfl rfl (by decide)
theorem q_0_211r : zRun 0 211 [l0, some (.ref o), l2, l3, l4, l5, l6] S sh mi mj mr = zRun 0 212 [l0, some (.ref o), l2, l3, l4, l5, l6] (.ref o :: S) sh mi mj mr := zr_l (zD_of zk_0 d_0_211 rfl rfl) rfl rfl rfl
theorem q_0_211n : zRun 0 211 [l0, some (.null), l2, l3, l4, l5, l6] S sh mi mj mr = zRun 0 212 [l0, some (.null), l2, l3, l4, l5, l6] (.null :: S) sh mi mj mr := zr_l (zD_of zk_0 d_0_211 rfl rfl) rfl rfl rfl
theorem q_0_212  (hS : zcat S ≤ 8) (h : zIs sh o 0 7) : zRun 0 212 L (.ref o :: S) sh mi mj mr = (zCall 84 [.ref o] sh mi mj mr).bind fun r => zRun 0 215 L (r.1.toList ++ S) r.2.1 r.2.2.1 r.2.2.2.1 r.2.2.2.2 := zr_V (zD_of zk_0 d_0_212 rfl rfl) rfl zk_84 rfl rfl rfl hS h
theorem q_0_215  : zRun 0 215 L S sh mi mj mr = zRun 0 217 L (.int (-6) :: S) sh mi mj mr := zr_p (zD_of zk_0 d_0_215 rfl rfl) rfl
theorem q_0_217  : zRun 0 217 L (.int y :: .int x :: S) sh mi mj mr = if ¬ x = y then zRun 0 239 L S sh mi mj mr else zRun 0 220 L S sh mi mj mr := zr_if (off := 22) (P := ¬ x = y) (zD_of zk_0 d_0_217 rfl rfl) rfl rfl (by decide)
theorem q_0_220r : zRun 0 220 [l0, some (.ref o), l2, l3, l4, l5, l6] S sh mi mj mr = zRun 0 221 [l0, some (.ref o), l2, l3, l4, l5, l6] (.ref o :: S) sh mi mj mr := zr_l (zD_of zk_0 d_0_220 rfl rfl) rfl rfl rfl
theorem q_0_220n : zRun 0 220 [l0, some (.null), l2, l3, l4, l5, l6] S sh mi mj mr = zRun 0 221 [l0, some (.null), l2, l3, l4, l5, l6] (.null :: S) sh mi mj mr := zr_l (zD_of zk_0 d_0_220 rfl rfl) rfl rfl rfl
theorem q_0_221 : zRun 0 221 [l0, l1, l2, l3, some (.int x), l5, l6] S sh mi mj mr = zRun 0 223 [l0, l1, l2, l3, some (.int x), l5, l6] (.int x :: S) sh mi mj mr := zr_l (zD_of zk_0 d_0_221 rfl rfl) rfl rfl rfl
theorem q_0_223  {x0 : Int32} (hS : zcat S ≤ 8) (h : zIs sh o 0 7) : zRun 0 223 L (.int x0 :: .ref o :: S) sh mi mj mr = (zCall 85 [.ref o, .int x0] sh mi mj mr).bind fun r => zRun 0 226 L (r.1.toList ++ S) r.2.1 r.2.2.1 r.2.2.2.1 r.2.2.2.2 := zr_V (zD_of zk_0 d_0_223 rfl rfl) rfl zk_85 rfl rfl rfl hS h
theorem q_0_226 : zRun 0 226 [l0, l1, l2, l3, l4, some (.int x), l6] S sh mi mj mr = zRun 0 228 [l0, l1, l2, l3, l4, some (.int x), l6] (.int x :: S) sh mi mj mr := zr_l (zD_of zk_0 d_0_226 rfl rfl) rfl rfl rfl
theorem q_0_228  : zRun 0 228 L (.int y :: .int x :: S) sh mi mj mr = if ¬ x = y then zRun 0 239 L S sh mi mj mr else zRun 0 231 L S sh mi mj mr := zr_if (off := 11) (P := ¬ x = y) (zD_of zk_0 d_0_228 rfl rfl) rfl rfl (by decide)
theorem q_0_231r : zRun 0 231 [l0, some (.ref o), l2, l3, l4, l5, l6] S sh mi mj mr = zRun 0 232 [l0, some (.ref o), l2, l3, l4, l5, l6] (.ref o :: S) sh mi mj mr := zr_l (zD_of zk_0 d_0_231 rfl rfl) rfl rfl rfl
theorem q_0_231n : zRun 0 231 [l0, some (.null), l2, l3, l4, l5, l6] S sh mi mj mr = zRun 0 232 [l0, some (.null), l2, l3, l4, l5, l6] (.null :: S) sh mi mj mr := zr_l (zD_of zk_0 d_0_231 rfl rfl) rfl rfl rfl
theorem q_0_232  : zRun 0 232 L S sh mi mj mr = zRun 0 233 L (.int 1 :: S) sh mi mj mr := zr_p (zD_of zk_0 d_0_232 rfl rfl) rfl
theorem q_0_233  {x0 : Int32} (hS : zcat S ≤ 8) (h : zIs sh o 0 7) : zRun 0 233 L (.int x0 :: .ref o :: S) sh mi mj mr = (zCall 100 [.ref o, .int x0] sh mi mj mr).bind fun r => zRun 0 236 L (r.1.toList ++ S) r.2.1 r.2.2.1 r.2.2.2.1 r.2.2.2.2 := zr_V (zD_of zk_0 d_0_233 rfl rfl) rfl zk_100 rfl rfl rfl hS h
theorem q_0_236  : zRun 0 236 L (.int x :: S) sh mi mj mr = if x = 0 then zRun 0 241 L S sh mi mj mr else zRun 0 239 L S sh mi mj mr := zr_if (off := 5) (P := x = 0) (zD_of zk_0 d_0_236 rfl rfl) rfl rfl (by decide)
theorem q_0_239  : zRun 0 239 L S sh mi mj mr = zRun 0 240 L (.int 0 :: S) sh mi mj mr := zr_p (zD_of zk_0 d_0_239 rfl rfl) rfl
theorem q_0_240 (h : x = 0 ∨ x = 1) : zRun 0 240 L ([.int x]) sh mi mj mr = some (some (.int x), sh, mi, mj, mr) := zr_ret (zD_of zk_0 d_0_240 rfl rfl) rfl rfl rfl rfl rfl (if_pos (zna_b h))
theorem q_0_241  : zRun 0 241 [l0, l1, l2, l3, some (.int x), l5, l6] S sh mi mj mr = zRun 0 244 [l0, l1, l2, zk2 l3, some (.int (x + 1)), l5, l6] S sh mi mj mr := zr_s1 (i := 4) (v := .int (x + 1)) (L := [l0, l1, l2, l3, some (.int x), l5, l6]) (zD_of zk_0 d_0_241 rfl rfl) rfl rfl rfl rfl
theorem q_0_244  : zRun 0 244 L S sh mi mj mr = zRun 0 172 L S sh mi mj mr := zr_go (off := (-72)) (zD_of zk_0 d_0_244 rfl rfl) rfl rfl (by decide)
theorem q_0_247  : zRun 0 247 L S sh mi mj mr = zRun 0 248 L (.int 0 :: S) sh mi mj mr := zr_p (zD_of zk_0 d_0_247 rfl rfl) rfl
theorem q_0_248 : zRun 0 248 [l0, l1, l2, l3, l4, l5, l6] (.int x :: S) sh mi mj mr = zRun 0 250 [l0, l1, l2, zk2 l3, some (.int x), l5, l6] S sh mi mj mr := zr_s1 (i := 4) (v := .int x) (L := [l0, l1, l2, l3, l4, l5, l6]) (zD_of zk_0 d_0_248 rfl rfl) rfl rfl rfl rfl
theorem q_0_250 : zRun 0 250 [l0, l1, l2, l3, some (.int x), l5, l6] S sh mi mj mr = zRun 0 252 [l0, l1, l2, l3, some (.int x), l5, l6] (.int x :: S) sh mi mj mr := zr_l (zD_of zk_0 d_0_250 rfl rfl) rfl rfl rfl
theorem q_0_252 : zRun 0 252 [l0, l1, l2, some (.int x), l4, l5, l6] S sh mi mj mr = zRun 0 253 [l0, l1, l2, some (.int x), l4, l5, l6] (.int x :: S) sh mi mj mr := zr_l (zD_of zk_0 d_0_252 rfl rfl) rfl rfl rfl
theorem q_0_253  : zRun 0 253 L (.int y :: .int x :: S) sh mi mj mr = if y ≤ x then zRun 0 369 L S sh mi mj mr else zRun 0 256 L S sh mi mj mr := zr_if (off := 116) (P := y ≤ x) (zD_of zk_0 d_0_253 rfl rfl) rfl rfl (by decide)
theorem q_0_256r : zRun 0 256 [some (.ref o), l1, l2, l3, l4, l5, l6] S sh mi mj mr = zRun 0 257 [some (.ref o), l1, l2, l3, l4, l5, l6] (.ref o :: S) sh mi mj mr := zr_l (zD_of zk_0 d_0_256 rfl rfl) rfl rfl rfl
theorem q_0_256n : zRun 0 256 [some (.null), l1, l2, l3, l4, l5, l6] S sh mi mj mr = zRun 0 257 [some (.null), l1, l2, l3, l4, l5, l6] (.null :: S) sh mi mj mr := zr_l (zD_of zk_0 d_0_256 rfl rfl) rfl rfl rfl
theorem q_0_257 : zRun 0 257 [l0, l1, some (.int x), l3, l4, l5, l6] S sh mi mj mr = zRun 0 258 [l0, l1, some (.int x), l3, l4, l5, l6] (.int x :: S) sh mi mj mr := zr_l (zD_of zk_0 d_0_257 rfl rfl) rfl rfl rfl
theorem q_0_258  : zRun 0 258 [l0, l1, some (.int x), l3, l4, l5, l6] S sh mi mj mr = zRun 0 261 [l0, zk2 l1, some (.int (x + 1)), l3, l4, l5, l6] S sh mi mj mr := zr_s1 (i := 2) (v := .int (x + 1)) (L := [l0, l1, some (.int x), l3, l4, l5, l6]) (zD_of zk_0 d_0_258 rfl rfl) rfl rfl rfl rfl
theorem q_0_261  {x0 : Int32} {o0 : Nat} (hS : zcat S ≤ 8) : zRun 0 261 L (.int x0 :: .ref o0 :: S) sh mi mj mr = (zCall 83 [.ref o0, .int x0] sh mi mj mr).bind fun r => zRun 0 264 L (r.1.toList ++ S) r.2.1 r.2.2.1 r.2.2.2.1 r.2.2.2.2 := zr_S (zD_of zk_0 d_0_261 rfl rfl) rfl zk_83 rfl rfl rfl hS
theorem q_0_264 : zRun 0 264 [l0, l1, l2, l3, l4, l5, l6] (.int x :: S) sh mi mj mr = zRun 0 266 [l0, l1, l2, l3, zk2 l4, some (.int x), l6] S sh mi mj mr := zr_s1 (i := 5) (v := .int x) (L := [l0, l1, l2, l3, l4, l5, l6]) (zD_of zk_0 d_0_264 rfl rfl) rfl rfl rfl rfl
theorem q_0_266r : zRun 0 266 [l0, some (.ref o), l2, l3, l4, l5, l6] S sh mi mj mr = zRun 0 267 [l0, some (.ref o), l2, l3, l4, l5, l6] (.ref o :: S) sh mi mj mr := zr_l (zD_of zk_0 d_0_266 rfl rfl) rfl rfl rfl
theorem q_0_266n : zRun 0 266 [l0, some (.null), l2, l3, l4, l5, l6] S sh mi mj mr = zRun 0 267 [l0, some (.null), l2, l3, l4, l5, l6] (.null :: S) sh mi mj mr := zr_l (zD_of zk_0 d_0_266 rfl rfl) rfl rfl rfl
theorem q_0_267 : zRun 0 267 [l0, l1, l2, l3, some (.int x), l5, l6] S sh mi mj mr = zRun 0 269 [l0, l1, l2, l3, some (.int x), l5, l6] (.int x :: S) sh mi mj mr := zr_l (zD_of zk_0 d_0_267 rfl rfl) rfl rfl rfl
theorem q_0_269  {x0 : Int32} {o0 : Nat} (hS : zcat S ≤ 8) : zRun 0 269 L (.int x0 :: .ref o0 :: S) sh mi mj mr = (zCall 119 [.ref o0, .int x0] sh mi mj mr).bind fun r => zRun 0 272 L (r.1.toList ++ S) r.2.1 r.2.2.1 r.2.2.2.1 r.2.2.2.2 := zr_S (zD_of zk_0 d_0_269 rfl rfl) rfl zk_119 rfl rfl rfl hS
theorem q_0_272  : zRun 0 272 L (.int x :: S) sh mi mj mr = if x = 0 then zRun 0 341 L S sh mi mj mr else zRun 0 275 L S sh mi mj mr := zr_if (off := 69) (P := x = 0) (zD_of zk_0 d_0_272 rfl rfl) rfl rfl (by decide)
theorem q_0_275r : zRun 0 275 [l0, some (.ref o), l2, l3, l4, l5, l6] S sh mi mj mr = zRun 0 276 [l0, some (.ref o), l2, l3, l4, l5, l6] (.ref o :: S) sh mi mj mr := zr_l (zD_of zk_0 d_0_275 rfl rfl) rfl rfl rfl
theorem q_0_275n : zRun 0 275 [l0, some (.null), l2, l3, l4, l5, l6] S sh mi mj mr = zRun 0 276 [l0, some (.null), l2, l3, l4, l5, l6] (.null :: S) sh mi mj mr := zr_l (zD_of zk_0 d_0_275 rfl rfl) rfl rfl rfl
theorem q_0_276 : zRun 0 276 [l0, l1, l2, l3, some (.int x), l5, l6] S sh mi mj mr = zRun 0 278 [l0, l1, l2, l3, some (.int x), l5, l6] (.int x :: S) sh mi mj mr := zr_l (zD_of zk_0 d_0_276 rfl rfl) rfl rfl rfl
theorem q_0_278 : zRun 0 278 [l0, l1, l2, l3, l4, some (.int x), l6] S sh mi mj mr = zRun 0 280 [l0, l1, l2, l3, l4, some (.int x), l6] (.int x :: S) sh mi mj mr := zr_l (zD_of zk_0 d_0_278 rfl rfl) rfl rfl rfl
theorem q_0_280  {x0 x1 : Int32} {o0 : Nat} (hS : zcat S ≤ 8) : zRun 0 280 L (.int x1 :: .int x0 :: .ref o0 :: S) sh mi mj mr = (zCall 120 [.ref o0, .int x0, .int x1] sh mi mj mr).bind fun r => zRun 0 283 L (r.1.toList ++ S) r.2.1 r.2.2.1 r.2.2.2.1 r.2.2.2.2 := zr_S (zD_of zk_0 d_0_280 rfl rfl) rfl zk_120 rfl rfl rfl hS
theorem q_0_283  : zRun 0 283 L (.int x :: S) sh mi mj mr = if x = 0 then zRun 0 341 L S sh mi mj mr else zRun 0 286 L S sh mi mj mr := zr_if (off := 58) (P := x = 0) (zD_of zk_0 d_0_283 rfl rfl) rfl rfl (by decide)
theorem q_0_286r : zRun 0 286 [l0, some (.ref o), l2, l3, l4, l5, l6] S sh mi mj mr = zRun 0 287 [l0, some (.ref o), l2, l3, l4, l5, l6] (.ref o :: S) sh mi mj mr := zr_l (zD_of zk_0 d_0_286 rfl rfl) rfl rfl rfl
theorem q_0_286n : zRun 0 286 [l0, some (.null), l2, l3, l4, l5, l6] S sh mi mj mr = zRun 0 287 [l0, some (.null), l2, l3, l4, l5, l6] (.null :: S) sh mi mj mr := zr_l (zD_of zk_0 d_0_286 rfl rfl) rfl rfl rfl
theorem q_0_287 : zRun 0 287 [l0, l1, l2, l3, some (.int x), l5, l6] S sh mi mj mr = zRun 0 289 [l0, l1, l2, l3, some (.int x), l5, l6] (.int x :: S) sh mi mj mr := zr_l (zD_of zk_0 d_0_287 rfl rfl) rfl rfl rfl
theorem q_0_289 : zRun 0 289 [l0, l1, l2, l3, l4, some (.int x), l6] S sh mi mj mr = zRun 0 291 [l0, l1, l2, l3, l4, some (.int x), l6] (.int x :: S) sh mi mj mr := zr_l (zD_of zk_0 d_0_289 rfl rfl) rfl rfl rfl
theorem q_0_291r : zRun 0 291 [some (.ref o), l1, l2, l3, l4, l5, l6] S sh mi mj mr = zRun 0 292 [some (.ref o), l1, l2, l3, l4, l5, l6] (.ref o :: S) sh mi mj mr := zr_l (zD_of zk_0 d_0_291 rfl rfl) rfl rfl rfl
theorem q_0_291n : zRun 0 291 [some (.null), l1, l2, l3, l4, l5, l6] S sh mi mj mr = zRun 0 292 [some (.null), l1, l2, l3, l4, l5, l6] (.null :: S) sh mi mj mr := zr_l (zD_of zk_0 d_0_291 rfl rfl) rfl rfl rfl
theorem q_0_292 : zRun 0 292 [l0, l1, some (.int x), l3, l4, l5, l6] S sh mi mj mr = zRun 0 293 [l0, l1, some (.int x), l3, l4, l5, l6] (.int x :: S) sh mi mj mr := zr_l (zD_of zk_0 d_0_292 rfl rfl) rfl rfl rfl
theorem q_0_293  : zRun 0 293 [l0, l1, some (.int x), l3, l4, l5, l6] S sh mi mj mr = zRun 0 296 [l0, zk2 l1, some (.int (x + 1)), l3, l4, l5, l6] S sh mi mj mr := zr_s1 (i := 2) (v := .int (x + 1)) (L := [l0, l1, some (.int x), l3, l4, l5, l6]) (zD_of zk_0 d_0_293 rfl rfl) rfl rfl rfl rfl
theorem q_0_296  {x0 : Int32} {o0 : Nat} (hS : zcat S ≤ 8) : zRun 0 296 L (.int x0 :: .ref o0 :: S) sh mi mj mr = (zCall 83 [.ref o0, .int x0] sh mi mj mr).bind fun r => zRun 0 299 L (r.1.toList ++ S) r.2.1 r.2.2.1 r.2.2.2.1 r.2.2.2.2 := zr_S (zD_of zk_0 d_0_296 rfl rfl) rfl zk_83 rfl rfl rfl hS
theorem q_0_299  {x0 x1 x2 : Int32} {o0 : Nat} (hS : zcat S ≤ 8) : zRun 0 299 L (.int x2 :: .int x1 :: .int x0 :: .ref o0 :: S) sh mi mj mr = (zCall 121 [.ref o0, .int x0, .int x1, .int x2] sh mi mj mr).bind fun r => zRun 0 302 L (r.1.toList ++ S) r.2.1 r.2.2.1 r.2.2.2.1 r.2.2.2.2 := zr_S (zD_of zk_0 d_0_299 rfl rfl) rfl zk_121 rfl rfl rfl hS
theorem q_0_302  : zRun 0 302 L (.int x :: S) sh mi mj mr = if x = 0 then zRun 0 341 L S sh mi mj mr else zRun 0 305 L S sh mi mj mr := zr_if (off := 39) (P := x = 0) (zD_of zk_0 d_0_302 rfl rfl) rfl rfl (by decide)
theorem q_0_305r : zRun 0 305 [l0, some (.ref o), l2, l3, l4, l5, l6] S sh mi mj mr = zRun 0 306 [l0, some (.ref o), l2, l3, l4, l5, l6] (.ref o :: S) sh mi mj mr := zr_l (zD_of zk_0 d_0_305 rfl rfl) rfl rfl rfl
theorem q_0_305n : zRun 0 305 [l0, some (.null), l2, l3, l4, l5, l6] S sh mi mj mr = zRun 0 306 [l0, some (.null), l2, l3, l4, l5, l6] (.null :: S) sh mi mj mr := zr_l (zD_of zk_0 d_0_305 rfl rfl) rfl rfl rfl
theorem q_0_306 : zRun 0 306 [l0, l1, l2, l3, some (.int x), l5, l6] S sh mi mj mr = zRun 0 308 [l0, l1, l2, l3, some (.int x), l5, l6] (.int x :: S) sh mi mj mr := zr_l (zD_of zk_0 d_0_306 rfl rfl) rfl rfl rfl
theorem q_0_308 : zRun 0 308 [l0, l1, l2, l3, l4, some (.int x), l6] S sh mi mj mr = zRun 0 310 [l0, l1, l2, l3, l4, some (.int x), l6] (.int x :: S) sh mi mj mr := zr_l (zD_of zk_0 d_0_308 rfl rfl) rfl rfl rfl
theorem q_0_310  : zRun 0 310 L S sh mi mj mr = zRun 0 312 L (.int 7 :: S) sh mi mj mr := zr_p (zD_of zk_0 d_0_310 rfl rfl) rfl
theorem q_0_312  : zRun 0 312 L (.int y :: .int x :: S) sh mi mj mr = zRun 0 313 L (.int (x >>> (y &&& 31)) :: S) sh mi mj mr := zr_p (zD_of zk_0 d_0_312 rfl rfl) rfl
theorem q_0_313  : zRun 0 313 L S sh mi mj mr = zRun 0 315 L (.int 25 :: S) sh mi mj mr := zr_p (zD_of zk_0 d_0_313 rfl rfl) rfl
theorem q_0_315  {x0 x1 : Int32} (hS : zcat S ≤ 8) : zRun 0 315 L (.int x1 :: .int x0 :: S) sh mi mj mr = (zCall 116 [.int x0, .int x1] sh mi mj mr).bind fun r => zRun 0 318 L (r.1.toList ++ S) r.2.1 r.2.2.1 r.2.2.2.1 r.2.2.2.2 := zr_S (zD_of zk_0 d_0_315 rfl rfl) rfl zk_116 rfl rfl rfl hS
theorem q_0_318  {x0 x1 : Int32} {o0 : Nat} (hS : zcat S ≤ 8) : zRun 0 318 L (.int x1 :: .int x0 :: .ref o0 :: S) sh mi mj mr = (zCall 123 [.ref o0, .int x0, .int x1] sh mi mj mr).bind fun r => zRun 0 321 L (r.1.toList ++ S) r.2.1 r.2.2.1 r.2.2.2.1 r.2.2.2.2 := zr_S (zD_of zk_0 d_0_318 rfl rfl) rfl zk_123 rfl rfl rfl hS
theorem q_0_321  : zRun 0 321 L (.int x :: S) sh mi mj mr = if x = 0 then zRun 0 341 L S sh mi mj mr else zRun 0 324 L S sh mi mj mr := zr_if (off := 20) (P := x = 0) (zD_of zk_0 d_0_321 rfl rfl) rfl rfl (by decide)
theorem q_0_324r : zRun 0 324 [l0, some (.ref o), l2, l3, l4, l5, l6] S sh mi mj mr = zRun 0 325 [l0, some (.ref o), l2, l3, l4, l5, l6] (.ref o :: S) sh mi mj mr := zr_l (zD_of zk_0 d_0_324 rfl rfl) rfl rfl rfl
theorem q_0_324n : zRun 0 324 [l0, some (.null), l2, l3, l4, l5, l6] S sh mi mj mr = zRun 0 325 [l0, some (.null), l2, l3, l4, l5, l6] (.null :: S) sh mi mj mr := zr_l (zD_of zk_0 d_0_324 rfl rfl) rfl rfl rfl
theorem q_0_325 : zRun 0 325 [l0, l1, l2, l3, some (.int x), l5, l6] S sh mi mj mr = zRun 0 327 [l0, l1, l2, l3, some (.int x), l5, l6] (.int x :: S) sh mi mj mr := zr_l (zD_of zk_0 d_0_325 rfl rfl) rfl rfl rfl
theorem q_0_327 : zRun 0 327 [l0, l1, l2, l3, l4, some (.int x), l6] S sh mi mj mr = zRun 0 329 [l0, l1, l2, l3, l4, some (.int x), l6] (.int x :: S) sh mi mj mr := zr_l (zD_of zk_0 d_0_327 rfl rfl) rfl rfl rfl
theorem q_0_329  : zRun 0 329 L S sh mi mj mr = zRun 0 330 L (.int 3 :: S) sh mi mj mr := zr_p (zD_of zk_0 d_0_329 rfl rfl) rfl
theorem q_0_330  : zRun 0 330 L (.int y :: .int x :: S) sh mi mj mr = zRun 0 331 L (.int (x >>> (y &&& 31)) :: S) sh mi mj mr := zr_p (zD_of zk_0 d_0_330 rfl rfl) rfl
theorem q_0_331  : zRun 0 331 L S sh mi mj mr = zRun 0 332 L (.int 4 :: S) sh mi mj mr := zr_p (zD_of zk_0 d_0_331 rfl rfl) rfl
theorem q_0_332  {x0 x1 : Int32} (hS : zcat S ≤ 8) : zRun 0 332 L (.int x1 :: .int x0 :: S) sh mi mj mr = (zCall 116 [.int x0, .int x1] sh mi mj mr).bind fun r => zRun 0 335 L (r.1.toList ++ S) r.2.1 r.2.2.1 r.2.2.2.1 r.2.2.2.2 := zr_S (zD_of zk_0 d_0_332 rfl rfl) rfl zk_116 rfl rfl rfl hS
theorem q_0_335  {x0 x1 : Int32} {o0 : Nat} (hS : zcat S ≤ 8) : zRun 0 335 L (.int x1 :: .int x0 :: .ref o0 :: S) sh mi mj mr = (zCall 124 [.ref o0, .int x0, .int x1] sh mi mj mr).bind fun r => zRun 0 338 L (r.1.toList ++ S) r.2.1 r.2.2.1 r.2.2.2.1 r.2.2.2.2 := zr_S (zD_of zk_0 d_0_335 rfl rfl) rfl zk_124 rfl rfl rfl hS
theorem q_0_338  : zRun 0 338 L (.int x :: S) sh mi mj mr = if ¬ x = 0 then zRun 0 343 L S sh mi mj mr else zRun 0 341 L S sh mi mj mr := zr_if (off := 5) (P := ¬ x = 0) (zD_of zk_0 d_0_338 rfl rfl) rfl rfl (by decide)
theorem q_0_341  : zRun 0 341 L S sh mi mj mr = zRun 0 342 L (.int 0 :: S) sh mi mj mr := zr_p (zD_of zk_0 d_0_341 rfl rfl) rfl
theorem q_0_342 (h : x = 0 ∨ x = 1) : zRun 0 342 L ([.int x]) sh mi mj mr = some (some (.int x), sh, mi, mj, mr) := zr_ret (zD_of zk_0 d_0_342 rfl rfl) rfl rfl rfl rfl rfl (if_pos (zna_b h))
theorem q_0_343r : zRun 0 343 [l0, some (.ref o), l2, l3, l4, l5, l6] S sh mi mj mr = zRun 0 344 [l0, some (.ref o), l2, l3, l4, l5, l6] (.ref o :: S) sh mi mj mr := zr_l (zD_of zk_0 d_0_343 rfl rfl) rfl rfl rfl
theorem q_0_343n : zRun 0 343 [l0, some (.null), l2, l3, l4, l5, l6] S sh mi mj mr = zRun 0 344 [l0, some (.null), l2, l3, l4, l5, l6] (.null :: S) sh mi mj mr := zr_l (zD_of zk_0 d_0_343 rfl rfl) rfl rfl rfl
theorem q_0_344 : zRun 0 344 [l0, l1, l2, l3, some (.int x), l5, l6] S sh mi mj mr = zRun 0 346 [l0, l1, l2, l3, some (.int x), l5, l6] (.int x :: S) sh mi mj mr := zr_l (zD_of zk_0 d_0_344 rfl rfl) rfl rfl rfl
theorem q_0_346 : zRun 0 346 [l0, l1, l2, l3, l4, some (.int x), l6] S sh mi mj mr = zRun 0 348 [l0, l1, l2, l3, l4, some (.int x), l6] (.int x :: S) sh mi mj mr := zr_l (zD_of zk_0 d_0_346 rfl rfl) rfl rfl rfl
theorem q_0_348  : zRun 0 348 L S sh mi mj mr = zRun 0 350 L (.int 11 :: S) sh mi mj mr := zr_p (zD_of zk_0 d_0_348 rfl rfl) rfl
theorem q_0_350  : zRun 0 350 L (.int y :: .int x :: S) sh mi mj mr = zRun 0 351 L (.int (x >>> (y &&& 31)) :: S) sh mi mj mr := zr_p (zD_of zk_0 d_0_350 rfl rfl) rfl
theorem q_0_351 : zRun 0 351 [l0, l1, l2, some (.int x), l4, l5, l6] S sh mi mj mr = zRun 0 352 [l0, l1, l2, some (.int x), l4, l5, l6] (.int x :: S) sh mi mj mr := zr_l (zD_of zk_0 d_0_351 rfl rfl) rfl rfl rfl
theorem q_0_352  {x0 x1 : Int32} (hS : zcat S ≤ 8) : zRun 0 352 L (.int x1 :: .int x0 :: S) sh mi mj mr = (zCall 116 [.int x0, .int x1] sh mi mj mr).bind fun r => zRun 0 355 L (r.1.toList ++ S) r.2.1 r.2.2.1 r.2.2.2.1 r.2.2.2.2 := zr_S (zD_of zk_0 d_0_352 rfl rfl) rfl zk_116 rfl rfl rfl hS
theorem q_0_355  {x0 x1 : Int32} {o0 : Nat} (hS : zcat S ≤ 8) : zRun 0 355 L (.int x1 :: .int x0 :: .ref o0 :: S) sh mi mj mr = (zCall 125 [.ref o0, .int x0, .int x1] sh mi mj mr).bind fun r => zRun 0 358 L (r.1.toList ++ S) r.2.1 r.2.2.1 r.2.2.2.1 r.2.2.2.2 := zr_S (zD_of zk_0 d_0_355 rfl rfl) rfl zk_125 rfl rfl rfl hS
theorem q_0_358  : zRun 0 358 L (.int x :: S) sh mi mj mr = if ¬ x = 0 then zRun 0 363 L S sh mi mj mr else zRun 0 361 L S sh mi mj mr := zr_if (off := 5) (P := ¬ x = 0) (zD_of zk_0 d_0_358 rfl rfl) rfl rfl (by decide)
theorem q_0_361  : zRun 0 361 L S sh mi mj mr = zRun 0 362 L (.int 0 :: S) sh mi mj mr := zr_p (zD_of zk_0 d_0_361 rfl rfl) rfl
theorem q_0_362 (h : x = 0 ∨ x = 1) : zRun 0 362 L ([.int x]) sh mi mj mr = some (some (.int x), sh, mi, mj, mr) := zr_ret (zD_of zk_0 d_0_362 rfl rfl) rfl rfl rfl rfl rfl (if_pos (zna_b h))
theorem q_0_363  : zRun 0 363 [l0, l1, l2, l3, some (.int x), l5, l6] S sh mi mj mr = zRun 0 366 [l0, l1, l2, zk2 l3, some (.int (x + 1)), l5, l6] S sh mi mj mr := zr_s1 (i := 4) (v := .int (x + 1)) (L := [l0, l1, l2, l3, some (.int x), l5, l6]) (zD_of zk_0 d_0_363 rfl rfl) rfl rfl rfl rfl
theorem q_0_366  : zRun 0 366 L S sh mi mj mr = zRun 0 250 L S sh mi mj mr := zr_go (off := (-116)) (zD_of zk_0 d_0_366 rfl rfl) rfl rfl (by decide)
theorem q_0_369r : zRun 0 369 [l0, some (.ref o), l2, l3, l4, l5, l6] S sh mi mj mr = zRun 0 370 [l0, some (.ref o), l2, l3, l4, l5, l6] (.ref o :: S) sh mi mj mr := zr_l (zD_of zk_0 d_0_369 rfl rfl) rfl rfl rfl
theorem q_0_369n : zRun 0 369 [l0, some (.null), l2, l3, l4, l5, l6] S sh mi mj mr = zRun 0 370 [l0, some (.null), l2, l3, l4, l5, l6] (.null :: S) sh mi mj mr := zr_l (zD_of zk_0 d_0_369 rfl rfl) rfl rfl rfl
theorem q_0_370 : zRun 0 370 [l0, l1, l2, some (.int x), l4, l5, l6] S sh mi mj mr = zRun 0 371 [l0, l1, l2, some (.int x), l4, l5, l6] (.int x :: S) sh mi mj mr := zr_l (zD_of zk_0 d_0_370 rfl rfl) rfl rfl rfl
theorem q_0_371  {x0 : Int32} {o0 : Nat} (hS : zcat S ≤ 8) : zRun 0 371 L (.int x0 :: .ref o0 :: S) sh mi mj mr = (zCall 126 [.ref o0, .int x0] sh mi mj mr).bind fun r => zRun 0 374 L (r.1.toList ++ S) r.2.1 r.2.2.1 r.2.2.2.1 r.2.2.2.2 := zr_S (zD_of zk_0 d_0_371 rfl rfl) rfl zk_126 rfl rfl rfl hS
theorem q_0_374 (h : x = 0 ∨ x = 1) : zRun 0 374 L ([.int x]) sh mi mj mr = some (some (.int x), sh, mi, mj, mr) := zr_ret (zD_of zk_0 d_0_374 rfl rfl) rfl rfl rfl rfl rfl (if_pos (zna_b h))
theorem e_0 {o0 : Nat} : zCall 0 [.ref o0] sh mi mj mr = zRun 0 0 [some (.ref o0), none, none, none, none, none, none] [] sh mi mj mr := rfl
end
