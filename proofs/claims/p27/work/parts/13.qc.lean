/-! ===== one rule for each instruction of the class (3) ===== -/
section
variable {L : zLS} {S : List Value} {sh : zSh} {mi : zI} {mj : zJ} {mr : zR} {x y z : Int32} {u v : Int64} {o o2 : Nat} {l0 l1 l2 l3 l4 l5 l6 l7 l8 l9 l10 l11 l12 l13 l14 l15 l16 l17 l18 : Option Value}
theorem d_70_0 : decode cX5_init 0 = .ok (.aload_n 0, 1) := by decide +kernel
theorem d_70_1 : decode cX5_init 1 = .ok (.invokespecial 3, 3) := by decide +kernel
theorem d_70_4 : decode cX5_init 4 = .ok (.aload_n 0, 1) := by decide +kernel
theorem d_70_5 : decode cX5_init 5 = .ok (.new 9, 3) := by decide +kernel
theorem d_70_8 : decode cX5_init 8 = .ok (.dup, 1) := by decide +kernel
theorem d_70_9 : decode cX5_init 9 = .ok (.invokespecial 11, 3) := by decide +kernel
theorem d_70_12 : decode cX5_init 12 = .ok (.putfield 12, 3) := by decide +kernel
theorem d_70_15 : decode cX5_init 15 = .ok (.aload_n 0, 1) := by decide +kernel
theorem d_70_16 : decode cX5_init 16 = .ok (.iconst 4, 1) := by decide +kernel
theorem d_70_17 : decode cX5_init 17 = .ok (.anewarray 18, 3) := by decide +kernel
theorem d_70_20 : decode cX5_init 20 = .ok (.putfield 20, 3) := by decide +kernel
theorem d_70_23 : decode cX5_init 23 = .ok (.aload_n 0, 1) := by decide +kernel
theorem d_70_24 : decode cX5_init 24 = .ok (.iconst 4, 1) := by decide +kernel
theorem d_70_25 : decode cX5_init 25 = .ok (.putfield 24, 3) := by decide +kernel
theorem d_70_28 : decode cX5_init 28 = .ok (.iconst 0, 1) := by decide +kernel
theorem d_70_29 : decode cX5_init 29 = .ok (.istore_n 1, 1) := by decide +kernel
theorem d_70_30 : decode cX5_init 30 = .ok (.iload_n 1, 1) := by decide +kernel
theorem d_70_31 : decode cX5_init 31 = .ok (.iconst 4, 1) := by decide +kernel
theorem d_70_32 : decode cX5_init 32 = .ok (.if_icmp .ge 21, 3) := by decide +kernel
theorem d_70_35 : decode cX5_init 35 = .ok (.aload_n 0, 1) := by decide +kernel
theorem d_70_36 : decode cX5_init 36 = .ok (.getfield 12, 3) := by decide +kernel
theorem d_70_39 : decode cX5_init 39 = .ok (.iload_n 1, 1) := by decide +kernel
theorem d_70_40 : decode cX5_init 40 = .ok (.iconst 0, 1) := by decide +kernel
theorem d_70_41 : decode cX5_init 41 = .ok (.sipush 256, 3) := by decide +kernel
theorem d_70_44 : decode cX5_init 44 = .ok (.invokevirtual 28, 3) := by decide +kernel
theorem d_70_47 : decode cX5_init 47 = .ok (.iinc 1 1, 3) := by decide +kernel
theorem d_70_50 : decode cX5_init 50 = .ok (.goto (-20), 3) := by decide +kernel
theorem d_70_53 : decode cX5_init 53 = .ok (.iconst 0, 1) := by decide +kernel
theorem d_70_54 : decode cX5_init 54 = .ok (.istore_n 1, 1) := by decide +kernel
theorem d_70_55 : decode cX5_init 55 = .ok (.iload_n 1, 1) := by decide +kernel
theorem d_70_56 : decode cX5_init 56 = .ok (.iconst 4, 1) := by decide +kernel
theorem d_70_57 : decode cX5_init 57 = .ok (.if_icmp .ge 22, 3) := by decide +kernel
theorem d_70_60 : decode cX5_init 60 = .ok (.aload_n 0, 1) := by decide +kernel
theorem d_70_61 : decode cX5_init 61 = .ok (.getfield 20, 3) := by decide +kernel
theorem d_70_64 : decode cX5_init 64 = .ok (.iload_n 1, 1) := by decide +kernel
theorem d_70_65 : decode cX5_init 65 = .ok (.new 18, 3) := by decide +kernel
theorem d_70_68 : decode cX5_init 68 = .ok (.dup, 1) := by decide +kernel
theorem d_70_69 : decode cX5_init 69 = .ok (.invokespecial 32, 3) := by decide +kernel
theorem d_70_72 : decode cX5_init 72 = .ok (.aastore, 1) := by decide +kernel
theorem d_70_73 : decode cX5_init 73 = .ok (.iinc 1 1, 3) := by decide +kernel
theorem d_70_76 : decode cX5_init 76 = .ok (.goto (-21), 3) := by decide +kernel
theorem d_70_79 : decode cX5_init 79 = .ok (.return_, 1) := by decide +kernel
theorem q_70_0r : zRun 70 0 [some (.ref o), l1] S sh mi mj mr = zRun 70 1 [some (.ref o), l1] (.ref o :: S) sh mi mj mr := zr_l (zD_of zk_70 d_70_0 rfl rfl) rfl rfl rfl
theorem q_70_0n : zRun 70 0 [some (.null), l1] S sh mi mj mr = zRun 70 1 [some (.null), l1] (.null :: S) sh mi mj mr := zr_l (zD_of zk_70 d_70_0 rfl rfl) rfl rfl rfl
theorem q_70_1 (h : zcat S ≤ 8) : zRun 70 1 L (.ref o :: S) sh mi mj mr = zRun 70 4 L S sh mi mj mr := zr_obj (zD_of zk_70 d_70_1 rfl rfl) rfl h
theorem q_70_4r : zRun 70 4 [some (.ref o), l1] S sh mi mj mr = zRun 70 5 [some (.ref o), l1] (.ref o :: S) sh mi mj mr := zr_l (zD_of zk_70 d_70_4 rfl rfl) rfl rfl rfl
theorem q_70_4n : zRun 70 4 [some (.null), l1] S sh mi mj mr = zRun 70 5 [some (.null), l1] (.null :: S) sh mi mj mr := zr_l (zD_of zk_70 d_70_4 rfl rfl) rfl rfl rfl
theorem q_70_5  : zRun 70 5 L S sh mi mj mr = zRun 70 8 L (.ref sh.length :: S) (sh ++ [(0, 0)]) mi mj mr := zr_new (zD_of zk_70 d_70_5 rfl rfl) rfl (by decide)
theorem q_70_8r : zRun 70 8 L (.ref o :: S) sh mi mj mr = zRun 70 9 L (.ref o :: .ref o :: S) sh mi mj mr := zr_p (zD_of zk_70 d_70_8 rfl rfl) rfl
theorem q_70_8i : zRun 70 8 L (.int x :: S) sh mi mj mr = zRun 70 9 L (.int x :: .int x :: S) sh mi mj mr := zr_p (zD_of zk_70 d_70_8 rfl rfl) rfl
theorem q_70_9  (hS : zcat S ≤ 8) (h : 1 ≤ o) : zRun 70 9 L (.ref o :: S) sh mi mj mr = (zCall 1 [.ref o] sh mi mj mr).bind fun r => zRun 70 12 L (r.1.toList ++ S) r.2.1 r.2.2.1 r.2.2.2.1 r.2.2.2.2 := zr_I (zD_of zk_70 d_70_9 rfl rfl) (Or.inr rfl) rfl zk_1 rfl rfl rfl hS h
theorem q_70_12 (h : zIs sh o 0 5) : zRun 70 12 L (.ref o2 :: .ref o :: S) sh mi mj mr = zRun 70 15 L S sh mi mj (zup mr o 0 (some o2)) := zr_putR (zD_of zk_70 d_70_12 rfl rfl) rfl rfl rfl (Or.inr ⟨rfl, rfl⟩) h
theorem q_70_15r : zRun 70 15 [some (.ref o), l1] S sh mi mj mr = zRun 70 16 [some (.ref o), l1] (.ref o :: S) sh mi mj mr := zr_l (zD_of zk_70 d_70_15 rfl rfl) rfl rfl rfl
theorem q_70_15n : zRun 70 15 [some (.null), l1] S sh mi mj mr = zRun 70 16 [some (.null), l1] (.null :: S) sh mi mj mr := zr_l (zD_of zk_70 d_70_15 rfl rfl) rfl rfl rfl
theorem q_70_16  : zRun 70 16 L S sh mi mj mr = zRun 70 17 L (.int 4 :: S) sh mi mj mr := zr_p (zD_of zk_70 d_70_16 rfl rfl) rfl
theorem q_70_17 (h : 0 ≤ x ∧ x ≤ 100000) : zRun 70 17 L (.int x :: S) sh mi mj mr = zRun 70 20 L (.ref sh.length :: S) (sh ++ [(11, x.toNatClampNeg)]) mi mj mr := zr_anew (zD_of zk_70 d_70_17 rfl rfl) rfl ⟨h.1, h.2, by decide⟩
theorem q_70_20 (h : zIs sh o 0 5) : zRun 70 20 L (.ref o2 :: .ref o :: S) sh mi mj mr = zRun 70 23 L S sh mi mj (zup mr o 1 (some o2)) := zr_putR (zD_of zk_70 d_70_20 rfl rfl) rfl rfl rfl (Or.inr ⟨rfl, rfl⟩) h
theorem q_70_23r : zRun 70 23 [some (.ref o), l1] S sh mi mj mr = zRun 70 24 [some (.ref o), l1] (.ref o :: S) sh mi mj mr := zr_l (zD_of zk_70 d_70_23 rfl rfl) rfl rfl rfl
theorem q_70_23n : zRun 70 23 [some (.null), l1] S sh mi mj mr = zRun 70 24 [some (.null), l1] (.null :: S) sh mi mj mr := zr_l (zD_of zk_70 d_70_23 rfl rfl) rfl rfl rfl
theorem q_70_24  : zRun 70 24 L S sh mi mj mr = zRun 70 25 L (.int 4 :: S) sh mi mj mr := zr_p (zD_of zk_70 d_70_24 rfl rfl) rfl
theorem q_70_25 (h : zIs sh o 0 5) : zRun 70 25 L (.int x :: .ref o :: S) sh mi mj mr = zRun 70 28 L S sh (zup mi o 2 x) mj mr := zr_putI (zD_of zk_70 d_70_25 rfl rfl) rfl rfl rfl (Or.inr ⟨rfl, rfl⟩) h
theorem q_70_28  : zRun 70 28 L S sh mi mj mr = zRun 70 29 L (.int 0 :: S) sh mi mj mr := zr_p (zD_of zk_70 d_70_28 rfl rfl) rfl
theorem q_70_29 : zRun 70 29 [l0, l1] (.int x :: S) sh mi mj mr = zRun 70 30 [zk2 l0, some (.int x)] S sh mi mj mr := zr_s1 (i := 1) (v := .int x) (L := [l0, l1]) (zD_of zk_70 d_70_29 rfl rfl) rfl rfl rfl rfl
theorem q_70_30 : zRun 70 30 [l0, some (.int x)] S sh mi mj mr = zRun 70 31 [l0, some (.int x)] (.int x :: S) sh mi mj mr := zr_l (zD_of zk_70 d_70_30 rfl rfl) rfl rfl rfl
theorem q_70_31  : zRun 70 31 L S sh mi mj mr = zRun 70 32 L (.int 4 :: S) sh mi mj mr := zr_p (zD_of zk_70 d_70_31 rfl rfl) rfl
theorem q_70_32  : zRun 70 32 L (.int y :: .int x :: S) sh mi mj mr = if y ≤ x then zRun 70 53 L S sh mi mj mr else zRun 70 35 L S sh mi mj mr := zr_if (off := 21) (P := y ≤ x) (zD_of zk_70 d_70_32 rfl rfl) rfl rfl (by decide)
theorem q_70_35r : zRun 70 35 [some (.ref o), l1] S sh mi mj mr = zRun 70 36 [some (.ref o), l1] (.ref o :: S) sh mi mj mr := zr_l (zD_of zk_70 d_70_35 rfl rfl) rfl rfl rfl
theorem q_70_35n : zRun 70 35 [some (.null), l1] S sh mi mj mr = zRun 70 36 [some (.null), l1] (.null :: S) sh mi mj mr := zr_l (zD_of zk_70 d_70_35 rfl rfl) rfl rfl rfl
theorem q_70_36 (h : zIs sh o 0 5) : zRun 70 36 L (.ref o :: S) sh mi mj mr = zRun 70 39 L (va_rf (mr o 0) :: S) sh mi mj mr := zr_getR (zD_of zk_70 d_70_36 rfl rfl) rfl rfl rfl h
theorem q_70_39 : zRun 70 39 [l0, some (.int x)] S sh mi mj mr = zRun 70 40 [l0, some (.int x)] (.int x :: S) sh mi mj mr := zr_l (zD_of zk_70 d_70_39 rfl rfl) rfl rfl rfl
theorem q_70_40  : zRun 70 40 L S sh mi mj mr = zRun 70 41 L (.int 0 :: S) sh mi mj mr := zr_p (zD_of zk_70 d_70_40 rfl rfl) rfl
theorem q_70_41  : zRun 70 41 L S sh mi mj mr = zRun 70 44 L (.int 256 :: S) sh mi mj mr := zr_p (zD_of zk_70 d_70_41 rfl rfl) rfl
theorem q_70_44  {x0 x1 x2 : Int32} (hS : zcat S ≤ 8) (h : zIs sh o 0 0) : zRun 70 44 L (.int x2 :: .int x1 :: .int x0 :: .ref o :: S) sh mi mj mr = (zCall 2 [.ref o, .int x0, .int x1, .int x2] sh mi mj mr).bind fun r => zRun 70 47 L (r.1.toList ++ S) r.2.1 r.2.2.1 r.2.2.2.1 r.2.2.2.2 := zr_V (zD_of zk_70 d_70_44 rfl rfl) rfl zk_2 rfl rfl rfl hS h
theorem q_70_47  : zRun 70 47 [l0, some (.int x)] S sh mi mj mr = zRun 70 50 [zk2 l0, some (.int (x + 1))] S sh mi mj mr := zr_s1 (i := 1) (v := .int (x + 1)) (L := [l0, some (.int x)]) (zD_of zk_70 d_70_47 rfl rfl) rfl rfl rfl rfl
theorem q_70_50  : zRun 70 50 L S sh mi mj mr = zRun 70 30 L S sh mi mj mr := zr_go (off := (-20)) (zD_of zk_70 d_70_50 rfl rfl) rfl rfl (by decide)
theorem q_70_53  : zRun 70 53 L S sh mi mj mr = zRun 70 54 L (.int 0 :: S) sh mi mj mr := zr_p (zD_of zk_70 d_70_53 rfl rfl) rfl
theorem q_70_54 : zRun 70 54 [l0, l1] (.int x :: S) sh mi mj mr = zRun 70 55 [zk2 l0, some (.int x)] S sh mi mj mr := zr_s1 (i := 1) (v := .int x) (L := [l0, l1]) (zD_of zk_70 d_70_54 rfl rfl) rfl rfl rfl rfl
theorem q_70_55 : zRun 70 55 [l0, some (.int x)] S sh mi mj mr = zRun 70 56 [l0, some (.int x)] (.int x :: S) sh mi mj mr := zr_l (zD_of zk_70 d_70_55 rfl rfl) rfl rfl rfl
theorem q_70_56  : zRun 70 56 L S sh mi mj mr = zRun 70 57 L (.int 4 :: S) sh mi mj mr := zr_p (zD_of zk_70 d_70_56 rfl rfl) rfl
theorem q_70_57  : zRun 70 57 L (.int y :: .int x :: S) sh mi mj mr = if y ≤ x then zRun 70 79 L S sh mi mj mr else zRun 70 60 L S sh mi mj mr := zr_if (off := 22) (P := y ≤ x) (zD_of zk_70 d_70_57 rfl rfl) rfl rfl (by decide)
theorem q_70_60r : zRun 70 60 [some (.ref o), l1] S sh mi mj mr = zRun 70 61 [some (.ref o), l1] (.ref o :: S) sh mi mj mr := zr_l (zD_of zk_70 d_70_60 rfl rfl) rfl rfl rfl
theorem q_70_60n : zRun 70 60 [some (.null), l1] S sh mi mj mr = zRun 70 61 [some (.null), l1] (.null :: S) sh mi mj mr := zr_l (zD_of zk_70 d_70_60 rfl rfl) rfl rfl rfl
theorem q_70_61 (h : zIs sh o 0 5) : zRun 70 61 L (.ref o :: S) sh mi mj mr = zRun 70 64 L (va_rf (mr o 1) :: S) sh mi mj mr := zr_getR (zD_of zk_70 d_70_61 rfl rfl) rfl rfl rfl h
theorem q_70_64 : zRun 70 64 [l0, some (.int x)] S sh mi mj mr = zRun 70 65 [l0, some (.int x)] (.int x :: S) sh mi mj mr := zr_l (zD_of zk_70 d_70_64 rfl rfl) rfl rfl rfl
theorem q_70_65  : zRun 70 65 L S sh mi mj mr = zRun 70 68 L (.ref sh.length :: S) (sh ++ [(0, 6)]) mi mj mr := zr_new (zD_of zk_70 d_70_65 rfl rfl) rfl (by decide)
theorem q_70_68r : zRun 70 68 L (.ref o :: S) sh mi mj mr = zRun 70 69 L (.ref o :: .ref o :: S) sh mi mj mr := zr_p (zD_of zk_70 d_70_68 rfl rfl) rfl
theorem q_70_68i : zRun 70 68 L (.int x :: S) sh mi mj mr = zRun 70 69 L (.int x :: .int x :: S) sh mi mj mr := zr_p (zD_of zk_70 d_70_68 rfl rfl) rfl
theorem q_70_69  (hS : zcat S ≤ 8) (h : 1 ≤ o) : zRun 70 69 L (.ref o :: S) sh mi mj mr = (zCall 73 [.ref o] sh mi mj mr).bind fun r => zRun 70 72 L (r.1.toList ++ S) r.2.1 r.2.2.1 r.2.2.2.1 r.2.2.2.2 := zr_I (zD_of zk_70 d_70_69 rfl rfl) (Or.inr rfl) rfl zk_73 rfl rfl rfl hS h
theorem q_70_72t7 (h : zAt sh o 7 x) (h2 : zIs sh o2 0 2) : zRun 70 72 L (.ref o2 :: .int x :: .ref o :: S) sh mi mj mr = zRun 70 73 L S sh mi mj (zup mr o x.toNatClampNeg (some o2)) := zr_aast (zD_of zk_70 d_70_72 rfl rfl) (by decide) h h2
theorem q_70_72t10 (h : zAt sh o 10 x) (h2 : zIs sh o2 0 5) : zRun 70 72 L (.ref o2 :: .int x :: .ref o :: S) sh mi mj mr = zRun 70 73 L S sh mi mj (zup mr o x.toNatClampNeg (some o2)) := zr_aast (zD_of zk_70 d_70_72 rfl rfl) (by decide) h h2
theorem q_70_72t11 (h : zAt sh o 11 x) (h2 : zIs sh o2 0 6) : zRun 70 72 L (.ref o2 :: .int x :: .ref o :: S) sh mi mj mr = zRun 70 73 L S sh mi mj (zup mr o x.toNatClampNeg (some o2)) := zr_aast (zD_of zk_70 d_70_72 rfl rfl) (by decide) h h2
theorem q_70_73  : zRun 70 73 [l0, some (.int x)] S sh mi mj mr = zRun 70 76 [zk2 l0, some (.int (x + 1))] S sh mi mj mr := zr_s1 (i := 1) (v := .int (x + 1)) (L := [l0, some (.int x)]) (zD_of zk_70 d_70_73 rfl rfl) rfl rfl rfl rfl
theorem q_70_76  : zRun 70 76 L S sh mi mj mr = zRun 70 55 L S sh mi mj mr := zr_go (off := (-21)) (zD_of zk_70 d_70_76 rfl rfl) rfl rfl (by decide)
theorem q_70_79  : zRun 70 79 L [] sh mi mj mr = some (none, sh, mi, mj, mr) := zr_ret (zD_of zk_70 d_70_79 rfl rfl) rfl rfl rfl rfl rfl rfl
theorem e_70 : zCall 70 [.ref o] sh mi mj mr = zRun 70 0 [some (.ref o), none] [] sh mi mj mr := rfl
theorem d_71_0 : decode cX5_copyFrom 0 = .ok (.aload_n 0, 1) := by decide +kernel
theorem d_71_1 : decode cX5_copyFrom 1 = .ok (.getfield 12, 3) := by decide +kernel
theorem d_71_4 : decode cX5_copyFrom 4 = .ok (.aload_n 1, 1) := by decide +kernel
theorem d_71_5 : decode cX5_copyFrom 5 = .ok (.getfield 12, 3) := by decide +kernel
theorem d_71_8 : decode cX5_copyFrom 8 = .ok (.invokevirtual 33, 3) := by decide +kernel
theorem d_71_11 : decode cX5_copyFrom 11 = .ok (.aload_n 0, 1) := by decide +kernel
theorem d_71_12 : decode cX5_copyFrom 12 = .ok (.aload_n 1, 1) := by decide +kernel
theorem d_71_13 : decode cX5_copyFrom 13 = .ok (.getfield 24, 3) := by decide +kernel
theorem d_71_16 : decode cX5_copyFrom 16 = .ok (.putfield 24, 3) := by decide +kernel
theorem d_71_19 : decode cX5_copyFrom 19 = .ok (.iconst 0, 1) := by decide +kernel
theorem d_71_20 : decode cX5_copyFrom 20 = .ok (.istore_n 2, 1) := by decide +kernel
theorem d_71_21 : decode cX5_copyFrom 21 = .ok (.iload_n 2, 1) := by decide +kernel
theorem d_71_22 : decode cX5_copyFrom 22 = .ok (.iconst 4, 1) := by decide +kernel
theorem d_71_23 : decode cX5_copyFrom 23 = .ok (.if_icmp .ge 24, 3) := by decide +kernel
theorem d_71_26 : decode cX5_copyFrom 26 = .ok (.aload_n 0, 1) := by decide +kernel
theorem d_71_27 : decode cX5_copyFrom 27 = .ok (.getfield 20, 3) := by decide +kernel
theorem d_71_30 : decode cX5_copyFrom 30 = .ok (.iload_n 2, 1) := by decide +kernel
theorem d_71_31 : decode cX5_copyFrom 31 = .ok (.aaload, 1) := by decide +kernel
theorem d_71_32 : decode cX5_copyFrom 32 = .ok (.aload_n 1, 1) := by decide +kernel
theorem d_71_33 : decode cX5_copyFrom 33 = .ok (.getfield 20, 3) := by decide +kernel
theorem d_71_36 : decode cX5_copyFrom 36 = .ok (.iload_n 2, 1) := by decide +kernel
theorem d_71_37 : decode cX5_copyFrom 37 = .ok (.aaload, 1) := by decide +kernel
theorem d_71_38 : decode cX5_copyFrom 38 = .ok (.invokevirtual 37, 3) := by decide +kernel
theorem d_71_41 : decode cX5_copyFrom 41 = .ok (.iinc 2 1, 3) := by decide +kernel
theorem d_71_44 : decode cX5_copyFrom 44 = .ok (.goto (-23), 3) := by decide +kernel
theorem d_71_47 : decode cX5_copyFrom 47 = .ok (.return_, 1) := by decide +kernel
theorem q_71_0r : zRun 71 0 [some (.ref o), l1, l2] S sh mi mj mr = zRun 71 1 [some (.ref o), l1, l2] (.ref o :: S) sh mi mj mr := zr_l (zD_of zk_71 d_71_0 rfl rfl) rfl rfl rfl
theorem q_71_0n : zRun 71 0 [some (.null), l1, l2] S sh mi mj mr = zRun 71 1 [some (.null), l1, l2] (.null :: S) sh mi mj mr := zr_l (zD_of zk_71 d_71_0 rfl rfl) rfl rfl rfl
theorem q_71_1 (h : zIs sh o 0 5) : zRun 71 1 L (.ref o :: S) sh mi mj mr = zRun 71 4 L (va_rf (mr o 0) :: S) sh mi mj mr := zr_getR (zD_of zk_71 d_71_1 rfl rfl) rfl rfl rfl h
theorem q_71_4r : zRun 71 4 [l0, some (.ref o), l2] S sh mi mj mr = zRun 71 5 [l0, some (.ref o), l2] (.ref o :: S) sh mi mj mr := zr_l (zD_of zk_71 d_71_4 rfl rfl) rfl rfl rfl
theorem q_71_4n : zRun 71 4 [l0, some (.null), l2] S sh mi mj mr = zRun 71 5 [l0, some (.null), l2] (.null :: S) sh mi mj mr := zr_l (zD_of zk_71 d_71_4 rfl rfl) rfl rfl rfl
theorem q_71_5 (h : zIs sh o 0 5) : zRun 71 5 L (.ref o :: S) sh mi mj mr = zRun 71 8 L (va_rf (mr o 0) :: S) sh mi mj mr := zr_getR (zD_of zk_71 d_71_5 rfl rfl) rfl rfl rfl h
theorem q_71_8  {o0 : Nat} (hS : zcat S ≤ 8) (h : zIs sh o 0 0) : zRun 71 8 L (.ref o0 :: .ref o :: S) sh mi mj mr = (zCall 3 [.ref o, .ref o0] sh mi mj mr).bind fun r => zRun 71 11 L (r.1.toList ++ S) r.2.1 r.2.2.1 r.2.2.2.1 r.2.2.2.2 := zr_V (zD_of zk_71 d_71_8 rfl rfl) rfl zk_3 rfl rfl rfl hS h
theorem q_71_11r : zRun 71 11 [some (.ref o), l1, l2] S sh mi mj mr = zRun 71 12 [some (.ref o), l1, l2] (.ref o :: S) sh mi mj mr := zr_l (zD_of zk_71 d_71_11 rfl rfl) rfl rfl rfl
theorem q_71_11n : zRun 71 11 [some (.null), l1, l2] S sh mi mj mr = zRun 71 12 [some (.null), l1, l2] (.null :: S) sh mi mj mr := zr_l (zD_of zk_71 d_71_11 rfl rfl) rfl rfl rfl
theorem q_71_12r : zRun 71 12 [l0, some (.ref o), l2] S sh mi mj mr = zRun 71 13 [l0, some (.ref o), l2] (.ref o :: S) sh mi mj mr := zr_l (zD_of zk_71 d_71_12 rfl rfl) rfl rfl rfl
theorem q_71_12n : zRun 71 12 [l0, some (.null), l2] S sh mi mj mr = zRun 71 13 [l0, some (.null), l2] (.null :: S) sh mi mj mr := zr_l (zD_of zk_71 d_71_12 rfl rfl) rfl rfl rfl
theorem q_71_13 (h : zIs sh o 0 5) : zRun 71 13 L (.ref o :: S) sh mi mj mr = zRun 71 16 L (.int (mi o 2) :: S) sh mi mj mr := zr_getI (zD_of zk_71 d_71_13 rfl rfl) rfl rfl (Or.inl rfl) h
theorem q_71_16 (h : zIs sh o 0 5) : zRun 71 16 L (.int x :: .ref o :: S) sh mi mj mr = zRun 71 19 L S sh (zup mi o 2 x) mj mr := zr_putI (zD_of zk_71 d_71_16 rfl rfl) rfl rfl rfl (Or.inl rfl) h
theorem q_71_19  : zRun 71 19 L S sh mi mj mr = zRun 71 20 L (.int 0 :: S) sh mi mj mr := zr_p (zD_of zk_71 d_71_19 rfl rfl) rfl
theorem q_71_20 : zRun 71 20 [l0, l1, l2] (.int x :: S) sh mi mj mr = zRun 71 21 [l0, zk2 l1, some (.int x)] S sh mi mj mr := zr_s1 (i := 2) (v := .int x) (L := [l0, l1, l2]) (zD_of zk_71 d_71_20 rfl rfl) rfl rfl rfl rfl
theorem q_71_21 : zRun 71 21 [l0, l1, some (.int x)] S sh mi mj mr = zRun 71 22 [l0, l1, some (.int x)] (.int x :: S) sh mi mj mr := zr_l (zD_of zk_71 d_71_21 rfl rfl) rfl rfl rfl
theorem q_71_22  : zRun 71 22 L S sh mi mj mr = zRun 71 23 L (.int 4 :: S) sh mi mj mr := zr_p (zD_of zk_71 d_71_22 rfl rfl) rfl
theorem q_71_23  : zRun 71 23 L (.int y :: .int x :: S) sh mi mj mr = if y ≤ x then zRun 71 47 L S sh mi mj mr else zRun 71 26 L S sh mi mj mr := zr_if (off := 24) (P := y ≤ x) (zD_of zk_71 d_71_23 rfl rfl) rfl rfl (by decide)
theorem q_71_26r : zRun 71 26 [some (.ref o), l1, l2] S sh mi mj mr = zRun 71 27 [some (.ref o), l1, l2] (.ref o :: S) sh mi mj mr := zr_l (zD_of zk_71 d_71_26 rfl rfl) rfl rfl rfl
theorem q_71_26n : zRun 71 26 [some (.null), l1, l2] S sh mi mj mr = zRun 71 27 [some (.null), l1, l2] (.null :: S) sh mi mj mr := zr_l (zD_of zk_71 d_71_26 rfl rfl) rfl rfl rfl
theorem q_71_27 (h : zIs sh o 0 5) : zRun 71 27 L (.ref o :: S) sh mi mj mr = zRun 71 30 L (va_rf (mr o 1) :: S) sh mi mj mr := zr_getR (zD_of zk_71 d_71_27 rfl rfl) rfl rfl rfl h
theorem q_71_30 : zRun 71 30 [l0, l1, some (.int x)] S sh mi mj mr = zRun 71 31 [l0, l1, some (.int x)] (.int x :: S) sh mi mj mr := zr_l (zD_of zk_71 d_71_30 rfl rfl) rfl rfl rfl
theorem q_71_31t7 (h : zAt sh o 7 x) : zRun 71 31 L (.int x :: .ref o :: S) sh mi mj mr = zRun 71 32 L (va_rf (mr o x.toNatClampNeg) :: S) sh mi mj mr := zr_aald (zD_of zk_71 d_71_31 rfl rfl) (by decide) h
theorem q_71_31t10 (h : zAt sh o 10 x) : zRun 71 31 L (.int x :: .ref o :: S) sh mi mj mr = zRun 71 32 L (va_rf (mr o x.toNatClampNeg) :: S) sh mi mj mr := zr_aald (zD_of zk_71 d_71_31 rfl rfl) (by decide) h
theorem q_71_31t11 (h : zAt sh o 11 x) : zRun 71 31 L (.int x :: .ref o :: S) sh mi mj mr = zRun 71 32 L (va_rf (mr o x.toNatClampNeg) :: S) sh mi mj mr := zr_aald (zD_of zk_71 d_71_31 rfl rfl) (by decide) h
theorem q_71_32r : zRun 71 32 [l0, some (.ref o), l2] S sh mi mj mr = zRun 71 33 [l0, some (.ref o), l2] (.ref o :: S) sh mi mj mr := zr_l (zD_of zk_71 d_71_32 rfl rfl) rfl rfl rfl
theorem q_71_32n : zRun 71 32 [l0, some (.null), l2] S sh mi mj mr = zRun 71 33 [l0, some (.null), l2] (.null :: S) sh mi mj mr := zr_l (zD_of zk_71 d_71_32 rfl rfl) rfl rfl rfl
theorem q_71_33 (h : zIs sh o 0 5) : zRun 71 33 L (.ref o :: S) sh mi mj mr = zRun 71 36 L (va_rf (mr o 1) :: S) sh mi mj mr := zr_getR (zD_of zk_71 d_71_33 rfl rfl) rfl rfl rfl h
theorem q_71_36 : zRun 71 36 [l0, l1, some (.int x)] S sh mi mj mr = zRun 71 37 [l0, l1, some (.int x)] (.int x :: S) sh mi mj mr := zr_l (zD_of zk_71 d_71_36 rfl rfl) rfl rfl rfl
theorem q_71_37t7 (h : zAt sh o 7 x) : zRun 71 37 L (.int x :: .ref o :: S) sh mi mj mr = zRun 71 38 L (va_rf (mr o x.toNatClampNeg) :: S) sh mi mj mr := zr_aald (zD_of zk_71 d_71_37 rfl rfl) (by decide) h
theorem q_71_37t10 (h : zAt sh o 10 x) : zRun 71 37 L (.int x :: .ref o :: S) sh mi mj mr = zRun 71 38 L (va_rf (mr o x.toNatClampNeg) :: S) sh mi mj mr := zr_aald (zD_of zk_71 d_71_37 rfl rfl) (by decide) h
theorem q_71_37t11 (h : zAt sh o 11 x) : zRun 71 37 L (.int x :: .ref o :: S) sh mi mj mr = zRun 71 38 L (va_rf (mr o x.toNatClampNeg) :: S) sh mi mj mr := zr_aald (zD_of zk_71 d_71_37 rfl rfl) (by decide) h
theorem q_71_38  {o0 : Nat} (hS : zcat S ≤ 8) (h : zIs sh o 0 6) : zRun 71 38 L (.ref o0 :: .ref o :: S) sh mi mj mr = (zCall 74 [.ref o, .ref o0] sh mi mj mr).bind fun r => zRun 71 41 L (r.1.toList ++ S) r.2.1 r.2.2.1 r.2.2.2.1 r.2.2.2.2 := zr_V (zD_of zk_71 d_71_38 rfl rfl) rfl zk_74 rfl rfl rfl hS h
theorem q_71_41  : zRun 71 41 [l0, l1, some (.int x)] S sh mi mj mr = zRun 71 44 [l0, zk2 l1, some (.int (x + 1))] S sh mi mj mr := zr_s1 (i := 2) (v := .int (x + 1)) (L := [l0, l1, some (.int x)]) (zD_of zk_71 d_71_41 rfl rfl) rfl rfl rfl rfl
theorem q_71_44  : zRun 71 44 L S sh mi mj mr = zRun 71 21 L S sh mi mj mr := zr_go (off := (-23)) (zD_of zk_71 d_71_44 rfl rfl) rfl rfl (by decide)
theorem q_71_47  : zRun 71 47 L [] sh mi mj mr = some (none, sh, mi, mj, mr) := zr_ret (zD_of zk_71 d_71_47 rfl rfl) rfl rfl rfl rfl rfl rfl
theorem e_71 {o0 : Nat} : zCall 71 [.ref o, .ref o0] sh mi mj mr = zRun 71 0 [some (.ref o), some (.ref o0), none] [] sh mi mj mr := rfl
theorem d_72_0 : decode cX5_expressionSet 0 = .ok (.iconst 0, 1) := by decide +kernel
theorem d_72_1 : decode cX5_expressionSet 1 = .ok (.istore_n 1, 1) := by decide +kernel
theorem d_72_2 : decode cX5_expressionSet 2 = .ok (.iconst 0, 1) := by decide +kernel
theorem d_72_3 : decode cX5_expressionSet 3 = .ok (.istore_n 2, 1) := by decide +kernel
theorem d_72_4 : decode cX5_expressionSet 4 = .ok (.iload_n 2, 1) := by decide +kernel
theorem d_72_5 : decode cX5_expressionSet 5 = .ok (.iconst 4, 1) := by decide +kernel
theorem d_72_6 : decode cX5_expressionSet 6 = .ok (.if_icmp .ge 27, 3) := by decide +kernel
theorem d_72_9 : decode cX5_expressionSet 9 = .ok (.aload_n 0, 1) := by decide +kernel
theorem d_72_10 : decode cX5_expressionSet 10 = .ok (.getfield 20, 3) := by decide +kernel
theorem d_72_13 : decode cX5_expressionSet 13 = .ok (.iload_n 2, 1) := by decide +kernel
theorem d_72_14 : decode cX5_expressionSet 14 = .ok (.aaload, 1) := by decide +kernel
theorem d_72_15 : decode cX5_expressionSet 15 = .ok (.getfield 40, 3) := by decide +kernel
theorem d_72_18 : decode cX5_expressionSet 18 = .ok (.ifCond .le 9, 3) := by decide +kernel
theorem d_72_21 : decode cX5_expressionSet 21 = .ok (.iload_n 1, 1) := by decide +kernel
theorem d_72_22 : decode cX5_expressionSet 22 = .ok (.iconst 1, 1) := by decide +kernel
theorem d_72_23 : decode cX5_expressionSet 23 = .ok (.iload_n 2, 1) := by decide +kernel
theorem d_72_24 : decode cX5_expressionSet 24 = .ok (.ishl, 1) := by decide +kernel
theorem d_72_25 : decode cX5_expressionSet 25 = .ok (.ior, 1) := by decide +kernel
theorem d_72_26 : decode cX5_expressionSet 26 = .ok (.istore_n 1, 1) := by decide +kernel
theorem d_72_27 : decode cX5_expressionSet 27 = .ok (.iinc 2 1, 3) := by decide +kernel
theorem d_72_30 : decode cX5_expressionSet 30 = .ok (.goto (-26), 3) := by decide +kernel
theorem d_72_33 : decode cX5_expressionSet 33 = .ok (.iload_n 1, 1) := by decide +kernel
theorem d_72_34 : decode cX5_expressionSet 34 = .ok (.ireturn, 1) := by decide +kernel
theorem q_72_0  : zRun 72 0 L S sh mi mj mr = zRun 72 1 L (.int 0 :: S) sh mi mj mr := zr_p (zD_of zk_72 d_72_0 rfl rfl) rfl
theorem q_72_1 : zRun 72 1 [l0, l1, l2] (.int x :: S) sh mi mj mr = zRun 72 2 [zk2 l0, some (.int x), l2] S sh mi mj mr := zr_s1 (i := 1) (v := .int x) (L := [l0, l1, l2]) (zD_of zk_72 d_72_1 rfl rfl) rfl rfl rfl rfl
theorem q_72_2  : zRun 72 2 L S sh mi mj mr = zRun 72 3 L (.int 0 :: S) sh mi mj mr := zr_p (zD_of zk_72 d_72_2 rfl rfl) rfl
theorem q_72_3 : zRun 72 3 [l0, l1, l2] (.int x :: S) sh mi mj mr = zRun 72 4 [l0, zk2 l1, some (.int x)] S sh mi mj mr := zr_s1 (i := 2) (v := .int x) (L := [l0, l1, l2]) (zD_of zk_72 d_72_3 rfl rfl) rfl rfl rfl rfl
theorem q_72_4 : zRun 72 4 [l0, l1, some (.int x)] S sh mi mj mr = zRun 72 5 [l0, l1, some (.int x)] (.int x :: S) sh mi mj mr := zr_l (zD_of zk_72 d_72_4 rfl rfl) rfl rfl rfl
theorem q_72_5  : zRun 72 5 L S sh mi mj mr = zRun 72 6 L (.int 4 :: S) sh mi mj mr := zr_p (zD_of zk_72 d_72_5 rfl rfl) rfl
theorem q_72_6  : zRun 72 6 L (.int y :: .int x :: S) sh mi mj mr = if y ≤ x then zRun 72 33 L S sh mi mj mr else zRun 72 9 L S sh mi mj mr := zr_if (off := 27) (P := y ≤ x) (zD_of zk_72 d_72_6 rfl rfl) rfl rfl (by decide)
theorem q_72_9r : zRun 72 9 [some (.ref o), l1, l2] S sh mi mj mr = zRun 72 10 [some (.ref o), l1, l2] (.ref o :: S) sh mi mj mr := zr_l (zD_of zk_72 d_72_9 rfl rfl) rfl rfl rfl
theorem q_72_9n : zRun 72 9 [some (.null), l1, l2] S sh mi mj mr = zRun 72 10 [some (.null), l1, l2] (.null :: S) sh mi mj mr := zr_l (zD_of zk_72 d_72_9 rfl rfl) rfl rfl rfl
theorem q_72_10 (h : zIs sh o 0 5) : zRun 72 10 L (.ref o :: S) sh mi mj mr = zRun 72 13 L (va_rf (mr o 1) :: S) sh mi mj mr := zr_getR (zD_of zk_72 d_72_10 rfl rfl) rfl rfl rfl h
theorem q_72_13 : zRun 72 13 [l0, l1, some (.int x)] S sh mi mj mr = zRun 72 14 [l0, l1, some (.int x)] (.int x :: S) sh mi mj mr := zr_l (zD_of zk_72 d_72_13 rfl rfl) rfl rfl rfl
theorem q_72_14t7 (h : zAt sh o 7 x) : zRun 72 14 L (.int x :: .ref o :: S) sh mi mj mr = zRun 72 15 L (va_rf (mr o x.toNatClampNeg) :: S) sh mi mj mr := zr_aald (zD_of zk_72 d_72_14 rfl rfl) (by decide) h
theorem q_72_14t10 (h : zAt sh o 10 x) : zRun 72 14 L (.int x :: .ref o :: S) sh mi mj mr = zRun 72 15 L (va_rf (mr o x.toNatClampNeg) :: S) sh mi mj mr := zr_aald (zD_of zk_72 d_72_14 rfl rfl) (by decide) h
theorem q_72_14t11 (h : zAt sh o 11 x) : zRun 72 14 L (.int x :: .ref o :: S) sh mi mj mr = zRun 72 15 L (va_rf (mr o x.toNatClampNeg) :: S) sh mi mj mr := zr_aald (zD_of zk_72 d_72_14 rfl rfl) (by decide) h
theorem q_72_15 (h : zIs sh o 0 6) : zRun 72 15 L (.ref o :: S) sh mi mj mr = zRun 72 18 L (.int (mi o 2) :: S) sh mi mj mr := zr_getI (zD_of zk_72 d_72_15 rfl rfl) rfl rfl (Or.inl rfl) h
theorem q_72_18  : zRun 72 18 L (.int x :: S) sh mi mj mr = if x ≤ 0 then zRun 72 27 L S sh mi mj mr else zRun 72 21 L S sh mi mj mr := zr_if (off := 9) (P := x ≤ 0) (zD_of zk_72 d_72_18 rfl rfl) rfl rfl (by decide)
theorem q_72_21 : zRun 72 21 [l0, some (.int x), l2] S sh mi mj mr = zRun 72 22 [l0, some (.int x), l2] (.int x :: S) sh mi mj mr := zr_l (zD_of zk_72 d_72_21 rfl rfl) rfl rfl rfl
theorem q_72_22  : zRun 72 22 L S sh mi mj mr = zRun 72 23 L (.int 1 :: S) sh mi mj mr := zr_p (zD_of zk_72 d_72_22 rfl rfl) rfl
theorem q_72_23 : zRun 72 23 [l0, l1, some (.int x)] S sh mi mj mr = zRun 72 24 [l0, l1, some (.int x)] (.int x :: S) sh mi mj mr := zr_l (zD_of zk_72 d_72_23 rfl rfl) rfl rfl rfl
theorem q_72_24  : zRun 72 24 L (.int y :: .int x :: S) sh mi mj mr = zRun 72 25 L (.int (x <<< (y &&& 31)) :: S) sh mi mj mr := zr_p (zD_of zk_72 d_72_24 rfl rfl) rfl
theorem q_72_25  : zRun 72 25 L (.int y :: .int x :: S) sh mi mj mr = zRun 72 26 L (.int (x ||| y) :: S) sh mi mj mr := zr_p (zD_of zk_72 d_72_25 rfl rfl) rfl
theorem q_72_26 : zRun 72 26 [l0, l1, l2] (.int x :: S) sh mi mj mr = zRun 72 27 [zk2 l0, some (.int x), l2] S sh mi mj mr := zr_s1 (i := 1) (v := .int x) (L := [l0, l1, l2]) (zD_of zk_72 d_72_26 rfl rfl) rfl rfl rfl rfl
theorem q_72_27  : zRun 72 27 [l0, l1, some (.int x)] S sh mi mj mr = zRun 72 30 [l0, zk2 l1, some (.int (x + 1))] S sh mi mj mr := zr_s1 (i := 2) (v := .int (x + 1)) (L := [l0, l1, some (.int x)]) (zD_of zk_72 d_72_27 rfl rfl) rfl rfl rfl rfl
theorem q_72_30  : zRun 72 30 L S sh mi mj mr = zRun 72 4 L S sh mi mj mr := zr_go (off := (-26)) (zD_of zk_72 d_72_30 rfl rfl) rfl rfl (by decide)
theorem q_72_33 : zRun 72 33 [l0, some (.int x), l2] S sh mi mj mr = zRun 72 34 [l0, some (.int x), l2] (.int x :: S) sh mi mj mr := zr_l (zD_of zk_72 d_72_33 rfl rfl) rfl rfl rfl
theorem q_72_34  : zRun 72 34 L ([.int x]) sh mi mj mr = some (some (.int x), sh, mi, mj, mr) := zr_ret (zD_of zk_72 d_72_34 rfl rfl) rfl rfl rfl rfl rfl (if_pos rfl)
theorem e_72 : zCall 72 [.ref o] sh mi mj mr = zRun 72 0 [some (.ref o), none, none] [] sh mi mj mr := rfl
theorem d_73_0 : decode cX6_init 0 = .ok (.aload_n 0, 1) := by decide +kernel
theorem d_73_1 : decode cX6_init 1 = .ok (.invokespecial 3, 3) := by decide +kernel
theorem d_73_4 : decode cX6_init 4 = .ok (.aload_n 0, 1) := by decide +kernel
theorem d_73_5 : decode cX6_init 5 = .ok (.bipush 60, 2) := by decide +kernel
theorem d_73_7 : decode cX6_init 7 = .ok (.newarray .int, 2) := by decide +kernel
theorem d_73_9 : decode cX6_init 9 = .ok (.putfield 9, 3) := by decide +kernel
theorem d_73_12 : decode cX6_init 12 = .ok (.aload_n 0, 1) := by decide +kernel
theorem d_73_13 : decode cX6_init 13 = .ok (.bipush 60, 2) := by decide +kernel
theorem d_73_15 : decode cX6_init 15 = .ok (.newarray .int, 2) := by decide +kernel
theorem d_73_17 : decode cX6_init 17 = .ok (.putfield 15, 3) := by decide +kernel
theorem d_73_20 : decode cX6_init 20 = .ok (.aload_n 0, 1) := by decide +kernel
theorem d_73_21 : decode cX6_init 21 = .ok (.iconst 0, 1) := by decide +kernel
theorem d_73_22 : decode cX6_init 22 = .ok (.putfield 18, 3) := by decide +kernel
theorem d_73_25 : decode cX6_init 25 = .ok (.return_, 1) := by decide +kernel
theorem q_73_0r : zRun 73 0 [some (.ref o)] S sh mi mj mr = zRun 73 1 [some (.ref o)] (.ref o :: S) sh mi mj mr := zr_l (zD_of zk_73 d_73_0 rfl rfl) rfl rfl rfl
theorem q_73_0n : zRun 73 0 [some (.null)] S sh mi mj mr = zRun 73 1 [some (.null)] (.null :: S) sh mi mj mr := zr_l (zD_of zk_73 d_73_0 rfl rfl) rfl rfl rfl
theorem q_73_1 (h : zcat S ≤ 8) : zRun 73 1 L (.ref o :: S) sh mi mj mr = zRun 73 4 L S sh mi mj mr := zr_obj (zD_of zk_73 d_73_1 rfl rfl) rfl h
theorem q_73_4r : zRun 73 4 [some (.ref o)] S sh mi mj mr = zRun 73 5 [some (.ref o)] (.ref o :: S) sh mi mj mr := zr_l (zD_of zk_73 d_73_4 rfl rfl) rfl rfl rfl
theorem q_73_4n : zRun 73 4 [some (.null)] S sh mi mj mr = zRun 73 5 [some (.null)] (.null :: S) sh mi mj mr := zr_l (zD_of zk_73 d_73_4 rfl rfl) rfl rfl rfl
theorem q_73_5  : zRun 73 5 L S sh mi mj mr = zRun 73 7 L (.int 60 :: S) sh mi mj mr := zr_p (zD_of zk_73 d_73_5 rfl rfl) rfl
theorem q_73_7 (h : 0 ≤ x ∧ x ≤ 100000) : zRun 73 7 L (.int x :: S) sh mi mj mr = zRun 73 9 L (.ref sh.length :: S) (sh ++ [(1, x.toNatClampNeg)]) mi mj mr := zr_w (zD_of zk_73 d_73_7 rfl rfl) rfl rfl rfl rfl (if_pos h)
theorem q_73_9 (h : zIs sh o 0 6) : zRun 73 9 L (.ref o2 :: .ref o :: S) sh mi mj mr = zRun 73 12 L S sh mi mj (zup mr o 0 (some o2)) := zr_putR (zD_of zk_73 d_73_9 rfl rfl) rfl rfl rfl (Or.inr ⟨rfl, rfl⟩) h
theorem q_73_12r : zRun 73 12 [some (.ref o)] S sh mi mj mr = zRun 73 13 [some (.ref o)] (.ref o :: S) sh mi mj mr := zr_l (zD_of zk_73 d_73_12 rfl rfl) rfl rfl rfl
theorem q_73_12n : zRun 73 12 [some (.null)] S sh mi mj mr = zRun 73 13 [some (.null)] (.null :: S) sh mi mj mr := zr_l (zD_of zk_73 d_73_12 rfl rfl) rfl rfl rfl
theorem q_73_13  : zRun 73 13 L S sh mi mj mr = zRun 73 15 L (.int 60 :: S) sh mi mj mr := zr_p (zD_of zk_73 d_73_13 rfl rfl) rfl
theorem q_73_15 (h : 0 ≤ x ∧ x ≤ 100000) : zRun 73 15 L (.int x :: S) sh mi mj mr = zRun 73 17 L (.ref sh.length :: S) (sh ++ [(1, x.toNatClampNeg)]) mi mj mr := zr_w (zD_of zk_73 d_73_15 rfl rfl) rfl rfl rfl rfl (if_pos h)
theorem q_73_17 (h : zIs sh o 0 6) : zRun 73 17 L (.ref o2 :: .ref o :: S) sh mi mj mr = zRun 73 20 L S sh mi mj (zup mr o 1 (some o2)) := zr_putR (zD_of zk_73 d_73_17 rfl rfl) rfl rfl rfl (Or.inr ⟨rfl, rfl⟩) h
theorem q_73_20r : zRun 73 20 [some (.ref o)] S sh mi mj mr = zRun 73 21 [some (.ref o)] (.ref o :: S) sh mi mj mr := zr_l (zD_of zk_73 d_73_20 rfl rfl) rfl rfl rfl
theorem q_73_20n : zRun 73 20 [some (.null)] S sh mi mj mr = zRun 73 21 [some (.null)] (.null :: S) sh mi mj mr := zr_l (zD_of zk_73 d_73_20 rfl rfl) rfl rfl rfl
theorem q_73_21  : zRun 73 21 L S sh mi mj mr = zRun 73 22 L (.int 0 :: S) sh mi mj mr := zr_p (zD_of zk_73 d_73_21 rfl rfl) rfl
theorem q_73_22 (h : zIs sh o 0 6) : zRun 73 22 L (.int x :: .ref o :: S) sh mi mj mr = zRun 73 25 L S sh (zup mi o 2 x) mj mr := zr_putI (zD_of zk_73 d_73_22 rfl rfl) rfl rfl rfl (Or.inr ⟨rfl, rfl⟩) h
theorem q_73_25  : zRun 73 25 L [] sh mi mj mr = some (none, sh, mi, mj, mr) := zr_ret (zD_of zk_73 d_73_25 rfl rfl) rfl rfl rfl rfl rfl rfl
theorem e_73 : zCall 73 [.ref o] sh mi mj mr = zRun 73 0 [some (.ref o)] [] sh mi mj mr := rfl
theorem d_74_0 : decode cX6_copyFrom 0 = .ok (.aload_n 0, 1) := by decide +kernel
theorem d_74_1 : decode cX6_copyFrom 1 = .ok (.aload_n 1, 1) := by decide +kernel
theorem d_74_2 : decode cX6_copyFrom 2 = .ok (.getfield 18, 3) := by decide +kernel
theorem d_74_5 : decode cX6_copyFrom 5 = .ok (.putfield 18, 3) := by decide +kernel
theorem d_74_8 : decode cX6_copyFrom 8 = .ok (.aload_n 1, 1) := by decide +kernel
theorem d_74_9 : decode cX6_copyFrom 9 = .ok (.getfield 9, 3) := by decide +kernel
theorem d_74_12 : decode cX6_copyFrom 12 = .ok (.iconst 0, 1) := by decide +kernel
theorem d_74_13 : decode cX6_copyFrom 13 = .ok (.aload_n 0, 1) := by decide +kernel
theorem d_74_14 : decode cX6_copyFrom 14 = .ok (.getfield 9, 3) := by decide +kernel
theorem d_74_17 : decode cX6_copyFrom 17 = .ok (.iconst 0, 1) := by decide +kernel
theorem d_74_18 : decode cX6_copyFrom 18 = .ok (.bipush 60, 2) := by decide +kernel
theorem d_74_20 : decode cX6_copyFrom 20 = .ok (.invokestatic 22, 3) := by decide +kernel
theorem d_74_23 : decode cX6_copyFrom 23 = .ok (.aload_n 1, 1) := by decide +kernel
theorem d_74_24 : decode cX6_copyFrom 24 = .ok (.getfield 15, 3) := by decide +kernel
theorem d_74_27 : decode cX6_copyFrom 27 = .ok (.iconst 0, 1) := by decide +kernel
theorem d_74_28 : decode cX6_copyFrom 28 = .ok (.aload_n 0, 1) := by decide +kernel
theorem d_74_29 : decode cX6_copyFrom 29 = .ok (.getfield 15, 3) := by decide +kernel
theorem d_74_32 : decode cX6_copyFrom 32 = .ok (.iconst 0, 1) := by decide +kernel
theorem d_74_33 : decode cX6_copyFrom 33 = .ok (.bipush 60, 2) := by decide +kernel
theorem d_74_35 : decode cX6_copyFrom 35 = .ok (.invokestatic 22, 3) := by decide +kernel
theorem d_74_38 : decode cX6_copyFrom 38 = .ok (.return_, 1) := by decide +kernel
theorem q_74_0r : zRun 74 0 [some (.ref o), l1] S sh mi mj mr = zRun 74 1 [some (.ref o), l1] (.ref o :: S) sh mi mj mr := zr_l (zD_of zk_74 d_74_0 rfl rfl) rfl rfl rfl
theorem q_74_0n : zRun 74 0 [some (.null), l1] S sh mi mj mr = zRun 74 1 [some (.null), l1] (.null :: S) sh mi mj mr := zr_l (zD_of zk_74 d_74_0 rfl rfl) rfl rfl rfl
theorem q_74_1r : zRun 74 1 [l0, some (.ref o)] S sh mi mj mr = zRun 74 2 [l0, some (.ref o)] (.ref o :: S) sh mi mj mr := zr_l (zD_of zk_74 d_74_1 rfl rfl) rfl rfl rfl
theorem q_74_1n : zRun 74 1 [l0, some (.null)] S sh mi mj mr = zRun 74 2 [l0, some (.null)] (.null :: S) sh mi mj mr := zr_l (zD_of zk_74 d_74_1 rfl rfl) rfl rfl rfl
theorem q_74_2 (h : zIs sh o 0 6) : zRun 74 2 L (.ref o :: S) sh mi mj mr = zRun 74 5 L (.int (mi o 2) :: S) sh mi mj mr := zr_getI (zD_of zk_74 d_74_2 rfl rfl) rfl rfl (Or.inl rfl) h
theorem q_74_5 (h : zIs sh o 0 6) : zRun 74 5 L (.int x :: .ref o :: S) sh mi mj mr = zRun 74 8 L S sh (zup mi o 2 x) mj mr := zr_putI (zD_of zk_74 d_74_5 rfl rfl) rfl rfl rfl (Or.inl rfl) h
theorem q_74_8r : zRun 74 8 [l0, some (.ref o)] S sh mi mj mr = zRun 74 9 [l0, some (.ref o)] (.ref o :: S) sh mi mj mr := zr_l (zD_of zk_74 d_74_8 rfl rfl) rfl rfl rfl
theorem q_74_8n : zRun 74 8 [l0, some (.null)] S sh mi mj mr = zRun 74 9 [l0, some (.null)] (.null :: S) sh mi mj mr := zr_l (zD_of zk_74 d_74_8 rfl rfl) rfl rfl rfl
theorem q_74_9 (h : zIs sh o 0 6) : zRun 74 9 L (.ref o :: S) sh mi mj mr = zRun 74 12 L (va_rf (mr o 0) :: S) sh mi mj mr := zr_getR (zD_of zk_74 d_74_9 rfl rfl) rfl rfl rfl h
theorem q_74_12  : zRun 74 12 L S sh mi mj mr = zRun 74 13 L (.int 0 :: S) sh mi mj mr := zr_p (zD_of zk_74 d_74_12 rfl rfl) rfl
theorem q_74_13r : zRun 74 13 [some (.ref o), l1] S sh mi mj mr = zRun 74 14 [some (.ref o), l1] (.ref o :: S) sh mi mj mr := zr_l (zD_of zk_74 d_74_13 rfl rfl) rfl rfl rfl
theorem q_74_13n : zRun 74 13 [some (.null), l1] S sh mi mj mr = zRun 74 14 [some (.null), l1] (.null :: S) sh mi mj mr := zr_l (zD_of zk_74 d_74_13 rfl rfl) rfl rfl rfl
theorem q_74_14 (h : zIs sh o 0 6) : zRun 74 14 L (.ref o :: S) sh mi mj mr = zRun 74 17 L (va_rf (mr o 0) :: S) sh mi mj mr := zr_getR (zD_of zk_74 d_74_14 rfl rfl) rfl rfl rfl h
theorem q_74_17  : zRun 74 17 L S sh mi mj mr = zRun 74 18 L (.int 0 :: S) sh mi mj mr := zr_p (zD_of zk_74 d_74_17 rfl rfl) rfl
theorem q_74_18  : zRun 74 18 L S sh mi mj mr = zRun 74 20 L (.int 60 :: S) sh mi mj mr := zr_p (zD_of zk_74 d_74_18 rfl rfl) rfl
theorem q_74_20i {n0 n1 : Nat} (hS : zcat S ≤ 8) (h0 : zIs sh o2 1 n0) (h1 : zIs sh o 1 n1) (hq : 0 ≤ x ∧ 0 ≤ y ∧ 0 ≤ z ∧ x.toNatClampNeg + z.toNatClampNeg ≤ n0 ∧ y.toNatClampNeg + z.toNatClampNeg ≤ n1) : zRun 74 20 L (.int z :: .int y :: .ref o :: .int x :: .ref o2 :: S) sh mi mj mr = zRun 74 23 L S sh (zrw mi o (va_cpy (mi o2) (mi o) x.toNatClampNeg y.toNatClampNeg z.toNatClampNeg)) mj mr := zr_acpI (zD_of zk_74 d_74_20 rfl rfl) rfl hS h0 h1 hq
theorem q_74_20j {n0 n1 : Nat} (hS : zcat S ≤ 8) (h0 : zIs sh o2 2 n0) (h1 : zIs sh o 2 n1) (hq : 0 ≤ x ∧ 0 ≤ y ∧ 0 ≤ z ∧ x.toNatClampNeg + z.toNatClampNeg ≤ n0 ∧ y.toNatClampNeg + z.toNatClampNeg ≤ n1) : zRun 74 20 L (.int z :: .int y :: .ref o :: .int x :: .ref o2 :: S) sh mi mj mr = zRun 74 23 L S sh mi (zrw mj o (va_cpy (mj o2) (mj o) x.toNatClampNeg y.toNatClampNeg z.toNatClampNeg)) mr := zr_acpJ (zD_of zk_74 d_74_20 rfl rfl) rfl hS h0 h1 hq
theorem q_74_23r : zRun 74 23 [l0, some (.ref o)] S sh mi mj mr = zRun 74 24 [l0, some (.ref o)] (.ref o :: S) sh mi mj mr := zr_l (zD_of zk_74 d_74_23 rfl rfl) rfl rfl rfl
theorem q_74_23n : zRun 74 23 [l0, some (.null)] S sh mi mj mr = zRun 74 24 [l0, some (.null)] (.null :: S) sh mi mj mr := zr_l (zD_of zk_74 d_74_23 rfl rfl) rfl rfl rfl
theorem q_74_24 (h : zIs sh o 0 6) : zRun 74 24 L (.ref o :: S) sh mi mj mr = zRun 74 27 L (va_rf (mr o 1) :: S) sh mi mj mr := zr_getR (zD_of zk_74 d_74_24 rfl rfl) rfl rfl rfl h
theorem q_74_27  : zRun 74 27 L S sh mi mj mr = zRun 74 28 L (.int 0 :: S) sh mi mj mr := zr_p (zD_of zk_74 d_74_27 rfl rfl) rfl
theorem q_74_28r : zRun 74 28 [some (.ref o), l1] S sh mi mj mr = zRun 74 29 [some (.ref o), l1] (.ref o :: S) sh mi mj mr := zr_l (zD_of zk_74 d_74_28 rfl rfl) rfl rfl rfl
theorem q_74_28n : zRun 74 28 [some (.null), l1] S sh mi mj mr = zRun 74 29 [some (.null), l1] (.null :: S) sh mi mj mr := zr_l (zD_of zk_74 d_74_28 rfl rfl) rfl rfl rfl
theorem q_74_29 (h : zIs sh o 0 6) : zRun 74 29 L (.ref o :: S) sh mi mj mr = zRun 74 32 L (va_rf (mr o 1) :: S) sh mi mj mr := zr_getR (zD_of zk_74 d_74_29 rfl rfl) rfl rfl rfl h
theorem q_74_32  : zRun 74 32 L S sh mi mj mr = zRun 74 33 L (.int 0 :: S) sh mi mj mr := zr_p (zD_of zk_74 d_74_32 rfl rfl) rfl
theorem q_74_33  : zRun 74 33 L S sh mi mj mr = zRun 74 35 L (.int 60 :: S) sh mi mj mr := zr_p (zD_of zk_74 d_74_33 rfl rfl) rfl
theorem q_74_35i {n0 n1 : Nat} (hS : zcat S ≤ 8) (h0 : zIs sh o2 1 n0) (h1 : zIs sh o 1 n1) (hq : 0 ≤ x ∧ 0 ≤ y ∧ 0 ≤ z ∧ x.toNatClampNeg + z.toNatClampNeg ≤ n0 ∧ y.toNatClampNeg + z.toNatClampNeg ≤ n1) : zRun 74 35 L (.int z :: .int y :: .ref o :: .int x :: .ref o2 :: S) sh mi mj mr = zRun 74 38 L S sh (zrw mi o (va_cpy (mi o2) (mi o) x.toNatClampNeg y.toNatClampNeg z.toNatClampNeg)) mj mr := zr_acpI (zD_of zk_74 d_74_35 rfl rfl) rfl hS h0 h1 hq
theorem q_74_35j {n0 n1 : Nat} (hS : zcat S ≤ 8) (h0 : zIs sh o2 2 n0) (h1 : zIs sh o 2 n1) (hq : 0 ≤ x ∧ 0 ≤ y ∧ 0 ≤ z ∧ x.toNatClampNeg + z.toNatClampNeg ≤ n0 ∧ y.toNatClampNeg + z.toNatClampNeg ≤ n1) : zRun 74 35 L (.int z :: .int y :: .ref o :: .int x :: .ref o2 :: S) sh mi mj mr = zRun 74 38 L S sh mi (zrw mj o (va_cpy (mj o2) (mj o) x.toNatClampNeg y.toNatClampNeg z.toNatClampNeg)) mr := zr_acpJ (zD_of zk_74 d_74_35 rfl rfl) rfl hS h0 h1 hq
theorem q_74_38  : zRun 74 38 L [] sh mi mj mr = some (none, sh, mi, mj, mr) := zr_ret (zD_of zk_74 d_74_38 rfl rfl) rfl rfl rfl rfl rfl rfl
theorem e_74 {o0 : Nat} : zCall 74 [.ref o, .ref o0] sh mi mj mr = zRun 74 0 [some (.ref o), some (.ref o0)] [] sh mi mj mr := rfl
theorem d_75_0 : decode cX6_append 0 = .ok (.aload_n 0, 1) := by decide +kernel
theorem d_75_1 : decode cX6_append 1 = .ok (.getfield 18, 3) := by decide +kernel
theorem d_75_4 : decode cX6_append 4 = .ok (.bipush 60, 2) := by decide +kernel
theorem d_75_6 : decode cX6_append 6 = .ok (.if_icmp .lt 4, 3) := by decide +kernel
theorem d_75_9 : decode cX6_append 9 = .ok (.return_, 1) := by decide +kernel
theorem d_75_10 : decode cX6_append 10 = .ok (.aload_n 0, 1) := by decide +kernel
theorem d_75_11 : decode cX6_append 11 = .ok (.getfield 9, 3) := by decide +kernel
theorem d_75_14 : decode cX6_append 14 = .ok (.aload_n 0, 1) := by decide +kernel
theorem d_75_15 : decode cX6_append 15 = .ok (.getfield 18, 3) := by decide +kernel
theorem d_75_18 : decode cX6_append 18 = .ok (.iload_n 1, 1) := by decide +kernel
theorem d_75_19 : decode cX6_append 19 = .ok (.iastore, 1) := by decide +kernel
theorem d_75_20 : decode cX6_append 20 = .ok (.aload_n 0, 1) := by decide +kernel
theorem d_75_21 : decode cX6_append 21 = .ok (.getfield 15, 3) := by decide +kernel
theorem d_75_24 : decode cX6_append 24 = .ok (.aload_n 0, 1) := by decide +kernel
theorem d_75_25 : decode cX6_append 25 = .ok (.getfield 18, 3) := by decide +kernel
theorem d_75_28 : decode cX6_append 28 = .ok (.iload_n 2, 1) := by decide +kernel
theorem d_75_29 : decode cX6_append 29 = .ok (.iastore, 1) := by decide +kernel
theorem d_75_30 : decode cX6_append 30 = .ok (.aload_n 0, 1) := by decide +kernel
theorem d_75_31 : decode cX6_append 31 = .ok (.dup, 1) := by decide +kernel
theorem d_75_32 : decode cX6_append 32 = .ok (.getfield 18, 3) := by decide +kernel
theorem d_75_35 : decode cX6_append 35 = .ok (.iconst 1, 1) := by decide +kernel
theorem d_75_36 : decode cX6_append 36 = .ok (.iadd, 1) := by decide +kernel
theorem d_75_37 : decode cX6_append 37 = .ok (.putfield 18, 3) := by decide +kernel
theorem d_75_40 : decode cX6_append 40 = .ok (.return_, 1) := by decide +kernel
theorem q_75_0r : zRun 75 0 [some (.ref o), l1, l2] S sh mi mj mr = zRun 75 1 [some (.ref o), l1, l2] (.ref o :: S) sh mi mj mr := zr_l (zD_of zk_75 d_75_0 rfl rfl) rfl rfl rfl
theorem q_75_0n : zRun 75 0 [some (.null), l1, l2] S sh mi mj mr = zRun 75 1 [some (.null), l1, l2] (.null :: S) sh mi mj mr := zr_l (zD_of zk_75 d_75_0 rfl rfl) rfl rfl rfl
theorem q_75_1 (h : zIs sh o 0 6) : zRun 75 1 L (.ref o :: S) sh mi mj mr = zRun 75 4 L (.int (mi o 2) :: S) sh mi mj mr := zr_getI (zD_of zk_75 d_75_1 rfl rfl) rfl rfl (Or.inl rfl) h
theorem q_75_4  : zRun 75 4 L S sh mi mj mr = zRun 75 6 L (.int 60 :: S) sh mi mj mr := zr_p (zD_of zk_75 d_75_4 rfl rfl) rfl
theorem q_75_6  : zRun 75 6 L (.int y :: .int x :: S) sh mi mj mr = if x < y then zRun 75 10 L S sh mi mj mr else zRun 75 9 L S sh mi mj mr := zr_if (off := 4) (P := x < y) (zD_of zk_75 d_75_6 rfl rfl) rfl rfl (by decide)
theorem q_75_9  : zRun 75 9 L [] sh mi mj mr = some (none, sh, mi, mj, mr) := zr_ret (zD_of zk_75 d_75_9 rfl rfl) rfl rfl rfl rfl rfl rfl
theorem q_75_10r : zRun 75 10 [some (.ref o), l1, l2] S sh mi mj mr = zRun 75 11 [some (.ref o), l1, l2] (.ref o :: S) sh mi mj mr := zr_l (zD_of zk_75 d_75_10 rfl rfl) rfl rfl rfl
theorem q_75_10n : zRun 75 10 [some (.null), l1, l2] S sh mi mj mr = zRun 75 11 [some (.null), l1, l2] (.null :: S) sh mi mj mr := zr_l (zD_of zk_75 d_75_10 rfl rfl) rfl rfl rfl
theorem q_75_11 (h : zIs sh o 0 6) : zRun 75 11 L (.ref o :: S) sh mi mj mr = zRun 75 14 L (va_rf (mr o 0) :: S) sh mi mj mr := zr_getR (zD_of zk_75 d_75_11 rfl rfl) rfl rfl rfl h
theorem q_75_14r : zRun 75 14 [some (.ref o), l1, l2] S sh mi mj mr = zRun 75 15 [some (.ref o), l1, l2] (.ref o :: S) sh mi mj mr := zr_l (zD_of zk_75 d_75_14 rfl rfl) rfl rfl rfl
theorem q_75_14n : zRun 75 14 [some (.null), l1, l2] S sh mi mj mr = zRun 75 15 [some (.null), l1, l2] (.null :: S) sh mi mj mr := zr_l (zD_of zk_75 d_75_14 rfl rfl) rfl rfl rfl
theorem q_75_15 (h : zIs sh o 0 6) : zRun 75 15 L (.ref o :: S) sh mi mj mr = zRun 75 18 L (.int (mi o 2) :: S) sh mi mj mr := zr_getI (zD_of zk_75 d_75_15 rfl rfl) rfl rfl (Or.inl rfl) h
theorem q_75_18 : zRun 75 18 [l0, some (.int x), l2] S sh mi mj mr = zRun 75 19 [l0, some (.int x), l2] (.int x :: S) sh mi mj mr := zr_l (zD_of zk_75 d_75_18 rfl rfl) rfl rfl rfl
theorem q_75_19 (h : zAt sh o 1 x) : zRun 75 19 L (.int y :: .int x :: .ref o :: S) sh mi mj mr = zRun 75 20 L S sh (zup mi o x.toNatClampNeg y) mj mr := zr_iast (zD_of zk_75 d_75_19 rfl rfl) h
theorem q_75_20r : zRun 75 20 [some (.ref o), l1, l2] S sh mi mj mr = zRun 75 21 [some (.ref o), l1, l2] (.ref o :: S) sh mi mj mr := zr_l (zD_of zk_75 d_75_20 rfl rfl) rfl rfl rfl
theorem q_75_20n : zRun 75 20 [some (.null), l1, l2] S sh mi mj mr = zRun 75 21 [some (.null), l1, l2] (.null :: S) sh mi mj mr := zr_l (zD_of zk_75 d_75_20 rfl rfl) rfl rfl rfl
theorem q_75_21 (h : zIs sh o 0 6) : zRun 75 21 L (.ref o :: S) sh mi mj mr = zRun 75 24 L (va_rf (mr o 1) :: S) sh mi mj mr := zr_getR (zD_of zk_75 d_75_21 rfl rfl) rfl rfl rfl h
theorem q_75_24r : zRun 75 24 [some (.ref o), l1, l2] S sh mi mj mr = zRun 75 25 [some (.ref o), l1, l2] (.ref o :: S) sh mi mj mr := zr_l (zD_of zk_75 d_75_24 rfl rfl) rfl rfl rfl
theorem q_75_24n : zRun 75 24 [some (.null), l1, l2] S sh mi mj mr = zRun 75 25 [some (.null), l1, l2] (.null :: S) sh mi mj mr := zr_l (zD_of zk_75 d_75_24 rfl rfl) rfl rfl rfl
theorem q_75_25 (h : zIs sh o 0 6) : zRun 75 25 L (.ref o :: S) sh mi mj mr = zRun 75 28 L (.int (mi o 2) :: S) sh mi mj mr := zr_getI (zD_of zk_75 d_75_25 rfl rfl) rfl rfl (Or.inl rfl) h
theorem q_75_28 : zRun 75 28 [l0, l1, some (.int x)] S sh mi mj mr = zRun 75 29 [l0, l1, some (.int x)] (.int x :: S) sh mi mj mr := zr_l (zD_of zk_75 d_75_28 rfl rfl) rfl rfl rfl
theorem q_75_29 (h : zAt sh o 1 x) : zRun 75 29 L (.int y :: .int x :: .ref o :: S) sh mi mj mr = zRun 75 30 L S sh (zup mi o x.toNatClampNeg y) mj mr := zr_iast (zD_of zk_75 d_75_29 rfl rfl) h
theorem q_75_30r : zRun 75 30 [some (.ref o), l1, l2] S sh mi mj mr = zRun 75 31 [some (.ref o), l1, l2] (.ref o :: S) sh mi mj mr := zr_l (zD_of zk_75 d_75_30 rfl rfl) rfl rfl rfl
theorem q_75_30n : zRun 75 30 [some (.null), l1, l2] S sh mi mj mr = zRun 75 31 [some (.null), l1, l2] (.null :: S) sh mi mj mr := zr_l (zD_of zk_75 d_75_30 rfl rfl) rfl rfl rfl
theorem q_75_31r : zRun 75 31 L (.ref o :: S) sh mi mj mr = zRun 75 32 L (.ref o :: .ref o :: S) sh mi mj mr := zr_p (zD_of zk_75 d_75_31 rfl rfl) rfl
theorem q_75_31i : zRun 75 31 L (.int x :: S) sh mi mj mr = zRun 75 32 L (.int x :: .int x :: S) sh mi mj mr := zr_p (zD_of zk_75 d_75_31 rfl rfl) rfl
theorem q_75_32 (h : zIs sh o 0 6) : zRun 75 32 L (.ref o :: S) sh mi mj mr = zRun 75 35 L (.int (mi o 2) :: S) sh mi mj mr := zr_getI (zD_of zk_75 d_75_32 rfl rfl) rfl rfl (Or.inl rfl) h
theorem q_75_35  : zRun 75 35 L S sh mi mj mr = zRun 75 36 L (.int 1 :: S) sh mi mj mr := zr_p (zD_of zk_75 d_75_35 rfl rfl) rfl
theorem q_75_36  : zRun 75 36 L (.int y :: .int x :: S) sh mi mj mr = zRun 75 37 L (.int (x + y) :: S) sh mi mj mr := zr_p (zD_of zk_75 d_75_36 rfl rfl) rfl
theorem q_75_37 (h : zIs sh o 0 6) : zRun 75 37 L (.int x :: .ref o :: S) sh mi mj mr = zRun 75 40 L S sh (zup mi o 2 x) mj mr := zr_putI (zD_of zk_75 d_75_37 rfl rfl) rfl rfl rfl (Or.inl rfl) h
theorem q_75_40  : zRun 75 40 L [] sh mi mj mr = some (none, sh, mi, mj, mr) := zr_ret (zD_of zk_75 d_75_40 rfl rfl) rfl rfl rfl rfl rfl rfl
theorem e_75 {x0 x1 : Int32} : zCall 75 [.ref o, .int x0, .int x1] sh mi mj mr = zRun 75 0 [some (.ref o), some (.int x0), some (.int x1)] [] sh mi mj mr := rfl
theorem d_76_0 : decode cX6_lastValue 0 = .ok (.aload_n 0, 1) := by decide +kernel
theorem d_76_1 : decode cX6_lastValue 1 = .ok (.getfield 18, 3) := by decide +kernel
theorem d_76_4 : decode cX6_lastValue 4 = .ok (.ifCond .le 17, 3) := by decide +kernel
theorem d_76_7 : decode cX6_lastValue 7 = .ok (.aload_n 0, 1) := by decide +kernel
theorem d_76_8 : decode cX6_lastValue 8 = .ok (.getfield 15, 3) := by decide +kernel
theorem d_76_11 : decode cX6_lastValue 11 = .ok (.aload_n 0, 1) := by decide +kernel
theorem d_76_12 : decode cX6_lastValue 12 = .ok (.getfield 18, 3) := by decide +kernel
theorem d_76_15 : decode cX6_lastValue 15 = .ok (.iconst 1, 1) := by decide +kernel
theorem d_76_16 : decode cX6_lastValue 16 = .ok (.isub, 1) := by decide +kernel
theorem d_76_17 : decode cX6_lastValue 17 = .ok (.iaload, 1) := by decide +kernel
theorem d_76_18 : decode cX6_lastValue 18 = .ok (.goto 4, 3) := by decide +kernel
theorem d_76_21 : decode cX6_lastValue 21 = .ok (.iconst 0, 1) := by decide +kernel
theorem d_76_22 : decode cX6_lastValue 22 = .ok (.ireturn, 1) := by decide +kernel
theorem q_76_0r : zRun 76 0 [some (.ref o)] S sh mi mj mr = zRun 76 1 [some (.ref o)] (.ref o :: S) sh mi mj mr := zr_l (zD_of zk_76 d_76_0 rfl rfl) rfl rfl rfl
theorem q_76_0n : zRun 76 0 [some (.null)] S sh mi mj mr = zRun 76 1 [some (.null)] (.null :: S) sh mi mj mr := zr_l (zD_of zk_76 d_76_0 rfl rfl) rfl rfl rfl
theorem q_76_1 (h : zIs sh o 0 6) : zRun 76 1 L (.ref o :: S) sh mi mj mr = zRun 76 4 L (.int (mi o 2) :: S) sh mi mj mr := zr_getI (zD_of zk_76 d_76_1 rfl rfl) rfl rfl (Or.inl rfl) h
theorem q_76_4  : zRun 76 4 L (.int x :: S) sh mi mj mr = if x ≤ 0 then zRun 76 21 L S sh mi mj mr else zRun 76 7 L S sh mi mj mr := zr_if (off := 17) (P := x ≤ 0) (zD_of zk_76 d_76_4 rfl rfl) rfl rfl (by decide)
theorem q_76_7r : zRun 76 7 [some (.ref o)] S sh mi mj mr = zRun 76 8 [some (.ref o)] (.ref o :: S) sh mi mj mr := zr_l (zD_of zk_76 d_76_7 rfl rfl) rfl rfl rfl
theorem q_76_7n : zRun 76 7 [some (.null)] S sh mi mj mr = zRun 76 8 [some (.null)] (.null :: S) sh mi mj mr := zr_l (zD_of zk_76 d_76_7 rfl rfl) rfl rfl rfl
theorem q_76_8 (h : zIs sh o 0 6) : zRun 76 8 L (.ref o :: S) sh mi mj mr = zRun 76 11 L (va_rf (mr o 1) :: S) sh mi mj mr := zr_getR (zD_of zk_76 d_76_8 rfl rfl) rfl rfl rfl h
theorem q_76_11r : zRun 76 11 [some (.ref o)] S sh mi mj mr = zRun 76 12 [some (.ref o)] (.ref o :: S) sh mi mj mr := zr_l (zD_of zk_76 d_76_11 rfl rfl) rfl rfl rfl
theorem q_76_11n : zRun 76 11 [some (.null)] S sh mi mj mr = zRun 76 12 [some (.null)] (.null :: S) sh mi mj mr := zr_l (zD_of zk_76 d_76_11 rfl rfl) rfl rfl rfl
theorem q_76_12 (h : zIs sh o 0 6) : zRun 76 12 L (.ref o :: S) sh mi mj mr = zRun 76 15 L (.int (mi o 2) :: S) sh mi mj mr := zr_getI (zD_of zk_76 d_76_12 rfl rfl) rfl rfl (Or.inl rfl) h
theorem q_76_15  : zRun 76 15 L S sh mi mj mr = zRun 76 16 L (.int 1 :: S) sh mi mj mr := zr_p (zD_of zk_76 d_76_15 rfl rfl) rfl
theorem q_76_16  : zRun 76 16 L (.int y :: .int x :: S) sh mi mj mr = zRun 76 17 L (.int (x - y) :: S) sh mi mj mr := zr_p (zD_of zk_76 d_76_16 rfl rfl) rfl
theorem q_76_17 (h : zAt sh o 1 x) : zRun 76 17 L (.int x :: .ref o :: S) sh mi mj mr = zRun 76 18 L (.int (mi o x.toNatClampNeg) :: S) sh mi mj mr := zr_iald (zD_of zk_76 d_76_17 rfl rfl) h
theorem q_76_18  : zRun 76 18 L S sh mi mj mr = zRun 76 22 L S sh mi mj mr := zr_go (off := 4) (zD_of zk_76 d_76_18 rfl rfl) rfl rfl (by decide)
theorem q_76_21  : zRun 76 21 L S sh mi mj mr = zRun 76 22 L (.int 0 :: S) sh mi mj mr := zr_p (zD_of zk_76 d_76_21 rfl rfl) rfl
theorem q_76_22  : zRun 76 22 L ([.int x]) sh mi mj mr = some (some (.int x), sh, mi, mj, mr) := zr_ret (zD_of zk_76 d_76_22 rfl rfl) rfl rfl rfl rfl rfl (if_pos rfl)
theorem e_76 : zCall 76 [.ref o] sh mi mj mr = zRun 76 0 [some (.ref o)] [] sh mi mj mr := rfl
theorem d_77_0 : decode cX6_setLastValue 0 = .ok (.aload_n 0, 1) := by decide +kernel
theorem d_77_1 : decode cX6_setLastValue 1 = .ok (.getfield 18, 3) := by decide +kernel
theorem d_77_4 : decode cX6_setLastValue 4 = .ok (.ifCond .le 15, 3) := by decide +kernel
theorem d_77_7 : decode cX6_setLastValue 7 = .ok (.aload_n 0, 1) := by decide +kernel
theorem d_77_8 : decode cX6_setLastValue 8 = .ok (.getfield 15, 3) := by decide +kernel
theorem d_77_11 : decode cX6_setLastValue 11 = .ok (.aload_n 0, 1) := by decide +kernel
theorem d_77_12 : decode cX6_setLastValue 12 = .ok (.getfield 18, 3) := by decide +kernel
theorem d_77_15 : decode cX6_setLastValue 15 = .ok (.iconst 1, 1) := by decide +kernel
theorem d_77_16 : decode cX6_setLastValue 16 = .ok (.isub, 1) := by decide +kernel
theorem d_77_17 : decode cX6_setLastValue 17 = .ok (.iload_n 1, 1) := by decide +kernel
theorem d_77_18 : decode cX6_setLastValue 18 = .ok (.iastore, 1) := by decide +kernel
theorem d_77_19 : decode cX6_setLastValue 19 = .ok (.return_, 1) := by decide +kernel
theorem q_77_0r : zRun 77 0 [some (.ref o), l1] S sh mi mj mr = zRun 77 1 [some (.ref o), l1] (.ref o :: S) sh mi mj mr := zr_l (zD_of zk_77 d_77_0 rfl rfl) rfl rfl rfl
theorem q_77_0n : zRun 77 0 [some (.null), l1] S sh mi mj mr = zRun 77 1 [some (.null), l1] (.null :: S) sh mi mj mr := zr_l (zD_of zk_77 d_77_0 rfl rfl) rfl rfl rfl
theorem q_77_1 (h : zIs sh o 0 6) : zRun 77 1 L (.ref o :: S) sh mi mj mr = zRun 77 4 L (.int (mi o 2) :: S) sh mi mj mr := zr_getI (zD_of zk_77 d_77_1 rfl rfl) rfl rfl (Or.inl rfl) h
theorem q_77_4  : zRun 77 4 L (.int x :: S) sh mi mj mr = if x ≤ 0 then zRun 77 19 L S sh mi mj mr else zRun 77 7 L S sh mi mj mr := zr_if (off := 15) (P := x ≤ 0) (zD_of zk_77 d_77_4 rfl rfl) rfl rfl (by decide)
theorem q_77_7r : zRun 77 7 [some (.ref o), l1] S sh mi mj mr = zRun 77 8 [some (.ref o), l1] (.ref o :: S) sh mi mj mr := zr_l (zD_of zk_77 d_77_7 rfl rfl) rfl rfl rfl
theorem q_77_7n : zRun 77 7 [some (.null), l1] S sh mi mj mr = zRun 77 8 [some (.null), l1] (.null :: S) sh mi mj mr := zr_l (zD_of zk_77 d_77_7 rfl rfl) rfl rfl rfl
theorem q_77_8 (h : zIs sh o 0 6) : zRun 77 8 L (.ref o :: S) sh mi mj mr = zRun 77 11 L (va_rf (mr o 1) :: S) sh mi mj mr := zr_getR (zD_of zk_77 d_77_8 rfl rfl) rfl rfl rfl h
theorem q_77_11r : zRun 77 11 [some (.ref o), l1] S sh mi mj mr = zRun 77 12 [some (.ref o), l1] (.ref o :: S) sh mi mj mr := zr_l (zD_of zk_77 d_77_11 rfl rfl) rfl rfl rfl
theorem q_77_11n : zRun 77 11 [some (.null), l1] S sh mi mj mr = zRun 77 12 [some (.null), l1] (.null :: S) sh mi mj mr := zr_l (zD_of zk_77 d_77_11 rfl rfl) rfl rfl rfl
theorem q_77_12 (h : zIs sh o 0 6) : zRun 77 12 L (.ref o :: S) sh mi mj mr = zRun 77 15 L (.int (mi o 2) :: S) sh mi mj mr := zr_getI (zD_of zk_77 d_77_12 rfl rfl) rfl rfl (Or.inl rfl) h
theorem q_77_15  : zRun 77 15 L S sh mi mj mr = zRun 77 16 L (.int 1 :: S) sh mi mj mr := zr_p (zD_of zk_77 d_77_15 rfl rfl) rfl
theorem q_77_16  : zRun 77 16 L (.int y :: .int x :: S) sh mi mj mr = zRun 77 17 L (.int (x - y) :: S) sh mi mj mr := zr_p (zD_of zk_77 d_77_16 rfl rfl) rfl
theorem q_77_17 : zRun 77 17 [l0, some (.int x)] S sh mi mj mr = zRun 77 18 [l0, some (.int x)] (.int x :: S) sh mi mj mr := zr_l (zD_of zk_77 d_77_17 rfl rfl) rfl rfl rfl
theorem q_77_18 (h : zAt sh o 1 x) : zRun 77 18 L (.int y :: .int x :: .ref o :: S) sh mi mj mr = zRun 77 19 L S sh (zup mi o x.toNatClampNeg y) mj mr := zr_iast (zD_of zk_77 d_77_18 rfl rfl) h
theorem q_77_19  : zRun 77 19 L [] sh mi mj mr = some (none, sh, mi, mj, mr) := zr_ret (zD_of zk_77 d_77_19 rfl rfl) rfl rfl rfl rfl rfl rfl
theorem e_77 {x0 : Int32} : zCall 77 [.ref o, .int x0] sh mi mj mr = zRun 77 0 [some (.ref o), some (.int x0)] [] sh mi mj mr := rfl
theorem d_78_0 : decode cX7_init 0 = .ok (.aload_n 0, 1) := by decide +kernel
theorem d_78_1 : decode cX7_init 1 = .ok (.invokespecial 3, 3) := by decide +kernel
theorem d_78_4 : decode cX7_init 4 = .ok (.aload_n 0, 1) := by decide +kernel
theorem d_78_5 : decode cX7_init 5 = .ok (.bipush 48, 2) := by decide +kernel
theorem d_78_7 : decode cX7_init 7 = .ok (.newarray .char, 2) := by decide +kernel
theorem d_78_9 : decode cX7_init 9 = .ok (.putfield 9, 3) := by decide +kernel
theorem d_78_12 : decode cX7_init 12 = .ok (.aload_n 0, 1) := by decide +kernel
theorem d_78_13 : decode cX7_init 13 = .ok (.iconst 0, 1) := by decide +kernel
theorem d_78_14 : decode cX7_init 14 = .ok (.putfield 13, 3) := by decide +kernel
theorem d_78_17 : decode cX7_init 17 = .ok (.aload_n 0, 1) := by decide +kernel
theorem d_78_18 : decode cX7_init 18 = .ok (.new 17, 3) := by decide +kernel
theorem d_78_21 : decode cX7_init 21 = .ok (.dup, 1) := by decide +kernel
theorem d_78_22 : decode cX7_init 22 = .ok (.invokespecial 19, 3) := by decide +kernel
theorem d_78_25 : decode cX7_init 25 = .ok (.putfield 20, 3) := by decide +kernel
theorem d_78_28 : decode cX7_init 28 = .ok (.aload_n 0, 1) := by decide +kernel
theorem d_78_29 : decode cX7_init 29 = .ok (.iconst 2, 1) := by decide +kernel
theorem d_78_30 : decode cX7_init 30 = .ok (.anewarray 17, 3) := by decide +kernel
theorem d_78_33 : decode cX7_init 33 = .ok (.putfield 24, 3) := by decide +kernel
theorem d_78_36 : decode cX7_init 36 = .ok (.aload_n 0, 1) := by decide +kernel
theorem d_78_37 : decode cX7_init 37 = .ok (.iconst 2, 1) := by decide +kernel
theorem d_78_38 : decode cX7_init 38 = .ok (.newarray .boolean, 2) := by decide +kernel
theorem d_78_40 : decode cX7_init 40 = .ok (.putfield 28, 3) := by decide +kernel
theorem d_78_43 : decode cX7_init 43 = .ok (.aload_n 0, 1) := by decide +kernel
theorem d_78_44 : decode cX7_init 44 = .ok (.new 32, 3) := by decide +kernel
theorem d_78_47 : decode cX7_init 47 = .ok (.dup, 1) := by decide +kernel
theorem d_78_48 : decode cX7_init 48 = .ok (.invokespecial 34, 3) := by decide +kernel
theorem d_78_51 : decode cX7_init 51 = .ok (.putfield 35, 3) := by decide +kernel
theorem d_78_54 : decode cX7_init 54 = .ok (.aload_n 0, 1) := by decide +kernel
theorem d_78_55 : decode cX7_init 55 = .ok (.new 39, 3) := by decide +kernel
theorem d_78_58 : decode cX7_init 58 = .ok (.dup, 1) := by decide +kernel
theorem d_78_59 : decode cX7_init 59 = .ok (.invokespecial 41, 3) := by decide +kernel
theorem d_78_62 : decode cX7_init 62 = .ok (.putfield 42, 3) := by decide +kernel
theorem d_78_65 : decode cX7_init 65 = .ok (.aload_n 0, 1) := by decide +kernel
theorem d_78_66 : decode cX7_init 66 = .ok (.new 46, 3) := by decide +kernel
theorem d_78_69 : decode cX7_init 69 = .ok (.dup, 1) := by decide +kernel
theorem d_78_70 : decode cX7_init 70 = .ok (.invokespecial 48, 3) := by decide +kernel
theorem d_78_73 : decode cX7_init 73 = .ok (.putfield 49, 3) := by decide +kernel
theorem d_78_76 : decode cX7_init 76 = .ok (.aload_n 0, 1) := by decide +kernel
theorem d_78_77 : decode cX7_init 77 = .ok (.new 53, 3) := by decide +kernel
theorem d_78_80 : decode cX7_init 80 = .ok (.dup, 1) := by decide +kernel
theorem d_78_81 : decode cX7_init 81 = .ok (.invokespecial 55, 3) := by decide +kernel
theorem d_78_84 : decode cX7_init 84 = .ok (.putfield 56, 3) := by decide +kernel
theorem d_78_87 : decode cX7_init 87 = .ok (.aload_n 0, 1) := by decide +kernel
theorem d_78_88 : decode cX7_init 88 = .ok (.iconst 0, 1) := by decide +kernel
theorem d_78_89 : decode cX7_init 89 = .ok (.putfield 60, 3) := by decide +kernel
theorem d_78_92 : decode cX7_init 92 = .ok (.aload_n 0, 1) := by decide +kernel
theorem d_78_93 : decode cX7_init 93 = .ok (.new 53, 3) := by decide +kernel
theorem d_78_96 : decode cX7_init 96 = .ok (.dup, 1) := by decide +kernel
theorem d_78_97 : decode cX7_init 97 = .ok (.invokespecial 55, 3) := by decide +kernel
theorem d_78_100 : decode cX7_init 100 = .ok (.putfield 63, 3) := by decide +kernel
theorem d_78_103 : decode cX7_init 103 = .ok (.aload_n 0, 1) := by decide +kernel
theorem d_78_104 : decode cX7_init 104 = .ok (.new 53, 3) := by decide +kernel
theorem d_78_107 : decode cX7_init 107 = .ok (.dup, 1) := by decide +kernel
theorem d_78_108 : decode cX7_init 108 = .ok (.invokespecial 55, 3) := by decide +kernel
theorem d_78_111 : decode cX7_init 111 = .ok (.putfield 66, 3) := by decide +kernel
theorem d_78_114 : decode cX7_init 114 = .ok (.aload_n 0, 1) := by decide +kernel
theorem d_78_115 : decode cX7_init 115 = .ok (.new 53, 3) := by decide +kernel
theorem d_78_118 : decode cX7_init 118 = .ok (.dup, 1) := by decide +kernel
theorem d_78_119 : decode cX7_init 119 = .ok (.invokespecial 55, 3) := by decide +kernel
theorem d_78_122 : decode cX7_init 122 = .ok (.putfield 69, 3) := by decide +kernel
theorem d_78_125 : decode cX7_init 125 = .ok (.iconst 0, 1) := by decide +kernel
theorem d_78_126 : decode cX7_init 126 = .ok (.istore_n 1, 1) := by decide +kernel
theorem d_78_127 : decode cX7_init 127 = .ok (.iload_n 1, 1) := by decide +kernel
theorem d_78_128 : decode cX7_init 128 = .ok (.iconst 2, 1) := by decide +kernel
theorem d_78_129 : decode cX7_init 129 = .ok (.if_icmp .ge 22, 3) := by decide +kernel
theorem d_78_132 : decode cX7_init 132 = .ok (.aload_n 0, 1) := by decide +kernel
theorem d_78_133 : decode cX7_init 133 = .ok (.getfield 24, 3) := by decide +kernel
theorem d_78_136 : decode cX7_init 136 = .ok (.iload_n 1, 1) := by decide +kernel
theorem d_78_137 : decode cX7_init 137 = .ok (.new 17, 3) := by decide +kernel
theorem d_78_140 : decode cX7_init 140 = .ok (.dup, 1) := by decide +kernel
theorem d_78_141 : decode cX7_init 141 = .ok (.invokespecial 19, 3) := by decide +kernel
theorem d_78_144 : decode cX7_init 144 = .ok (.aastore, 1) := by decide +kernel
theorem d_78_145 : decode cX7_init 145 = .ok (.iinc 1 1, 3) := by decide +kernel
theorem d_78_148 : decode cX7_init 148 = .ok (.goto (-21), 3) := by decide +kernel
theorem d_78_151 : decode cX7_init 151 = .ok (.return_, 1) := by decide +kernel
theorem q_78_0r : zRun 78 0 [some (.ref o), l1] S sh mi mj mr = zRun 78 1 [some (.ref o), l1] (.ref o :: S) sh mi mj mr := zr_l (zD_of zk_78 d_78_0 rfl rfl) rfl rfl rfl
theorem q_78_0n : zRun 78 0 [some (.null), l1] S sh mi mj mr = zRun 78 1 [some (.null), l1] (.null :: S) sh mi mj mr := zr_l (zD_of zk_78 d_78_0 rfl rfl) rfl rfl rfl
theorem q_78_1 (h : zcat S ≤ 8) : zRun 78 1 L (.ref o :: S) sh mi mj mr = zRun 78 4 L S sh mi mj mr := zr_obj (zD_of zk_78 d_78_1 rfl rfl) rfl h
theorem q_78_4r : zRun 78 4 [some (.ref o), l1] S sh mi mj mr = zRun 78 5 [some (.ref o), l1] (.ref o :: S) sh mi mj mr := zr_l (zD_of zk_78 d_78_4 rfl rfl) rfl rfl rfl
theorem q_78_4n : zRun 78 4 [some (.null), l1] S sh mi mj mr = zRun 78 5 [some (.null), l1] (.null :: S) sh mi mj mr := zr_l (zD_of zk_78 d_78_4 rfl rfl) rfl rfl rfl
theorem q_78_5  : zRun 78 5 L S sh mi mj mr = zRun 78 7 L (.int 48 :: S) sh mi mj mr := zr_p (zD_of zk_78 d_78_5 rfl rfl) rfl
theorem q_78_7 (h : 0 ≤ x ∧ x ≤ 100000) : zRun 78 7 L (.int x :: S) sh mi mj mr = zRun 78 9 L (.ref sh.length :: S) (sh ++ [(3, x.toNatClampNeg)]) mi mj mr := zr_w (zD_of zk_78 d_78_7 rfl rfl) rfl rfl rfl rfl (if_pos h)
theorem q_78_9 (h : zIs sh o 0 7) : zRun 78 9 L (.ref o2 :: .ref o :: S) sh mi mj mr = zRun 78 12 L S sh mi mj (zup mr o 0 (some o2)) := zr_putR (zD_of zk_78 d_78_9 rfl rfl) rfl rfl rfl (Or.inr ⟨rfl, rfl⟩) h
theorem q_78_12r : zRun 78 12 [some (.ref o), l1] S sh mi mj mr = zRun 78 13 [some (.ref o), l1] (.ref o :: S) sh mi mj mr := zr_l (zD_of zk_78 d_78_12 rfl rfl) rfl rfl rfl
theorem q_78_12n : zRun 78 12 [some (.null), l1] S sh mi mj mr = zRun 78 13 [some (.null), l1] (.null :: S) sh mi mj mr := zr_l (zD_of zk_78 d_78_12 rfl rfl) rfl rfl rfl
theorem q_78_13  : zRun 78 13 L S sh mi mj mr = zRun 78 14 L (.int 0 :: S) sh mi mj mr := zr_p (zD_of zk_78 d_78_13 rfl rfl) rfl
theorem q_78_14 (h : zIs sh o 0 7) : zRun 78 14 L (.int x :: .ref o :: S) sh mi mj mr = zRun 78 17 L S sh (zup mi o 1 x) mj mr := zr_putI (zD_of zk_78 d_78_14 rfl rfl) rfl rfl rfl (Or.inr ⟨rfl, rfl⟩) h
theorem q_78_17r : zRun 78 17 [some (.ref o), l1] S sh mi mj mr = zRun 78 18 [some (.ref o), l1] (.ref o :: S) sh mi mj mr := zr_l (zD_of zk_78 d_78_17 rfl rfl) rfl rfl rfl
theorem q_78_17n : zRun 78 17 [some (.null), l1] S sh mi mj mr = zRun 78 18 [some (.null), l1] (.null :: S) sh mi mj mr := zr_l (zD_of zk_78 d_78_17 rfl rfl) rfl rfl rfl
theorem q_78_18  : zRun 78 18 L S sh mi mj mr = zRun 78 21 L (.ref sh.length :: S) (sh ++ [(0, 5)]) mi mj mr := zr_new (zD_of zk_78 d_78_18 rfl rfl) rfl (by decide)
theorem q_78_21r : zRun 78 21 L (.ref o :: S) sh mi mj mr = zRun 78 22 L (.ref o :: .ref o :: S) sh mi mj mr := zr_p (zD_of zk_78 d_78_21 rfl rfl) rfl
theorem q_78_21i : zRun 78 21 L (.int x :: S) sh mi mj mr = zRun 78 22 L (.int x :: .int x :: S) sh mi mj mr := zr_p (zD_of zk_78 d_78_21 rfl rfl) rfl
theorem q_78_22  (hS : zcat S ≤ 8) (h : 1 ≤ o) : zRun 78 22 L (.ref o :: S) sh mi mj mr = (zCall 70 [.ref o] sh mi mj mr).bind fun r => zRun 78 25 L (r.1.toList ++ S) r.2.1 r.2.2.1 r.2.2.2.1 r.2.2.2.2 := zr_I (zD_of zk_78 d_78_22 rfl rfl) (Or.inl rfl) rfl zk_70 rfl rfl rfl hS h
theorem q_78_25 (h : zIs sh o 0 7) : zRun 78 25 L (.ref o2 :: .ref o :: S) sh mi mj mr = zRun 78 28 L S sh mi mj (zup mr o 2 (some o2)) := zr_putR (zD_of zk_78 d_78_25 rfl rfl) rfl rfl rfl (Or.inr ⟨rfl, rfl⟩) h
theorem q_78_28r : zRun 78 28 [some (.ref o), l1] S sh mi mj mr = zRun 78 29 [some (.ref o), l1] (.ref o :: S) sh mi mj mr := zr_l (zD_of zk_78 d_78_28 rfl rfl) rfl rfl rfl
theorem q_78_28n : zRun 78 28 [some (.null), l1] S sh mi mj mr = zRun 78 29 [some (.null), l1] (.null :: S) sh mi mj mr := zr_l (zD_of zk_78 d_78_28 rfl rfl) rfl rfl rfl
theorem q_78_29  : zRun 78 29 L S sh mi mj mr = zRun 78 30 L (.int 2 :: S) sh mi mj mr := zr_p (zD_of zk_78 d_78_29 rfl rfl) rfl
theorem q_78_30 (h : 0 ≤ x ∧ x ≤ 100000) : zRun 78 30 L (.int x :: S) sh mi mj mr = zRun 78 33 L (.ref sh.length :: S) (sh ++ [(10, x.toNatClampNeg)]) mi mj mr := zr_anew (zD_of zk_78 d_78_30 rfl rfl) rfl ⟨h.1, h.2, by decide⟩
theorem q_78_33 (h : zIs sh o 0 7) : zRun 78 33 L (.ref o2 :: .ref o :: S) sh mi mj mr = zRun 78 36 L S sh mi mj (zup mr o 3 (some o2)) := zr_putR (zD_of zk_78 d_78_33 rfl rfl) rfl rfl rfl (Or.inr ⟨rfl, rfl⟩) h
theorem q_78_36r : zRun 78 36 [some (.ref o), l1] S sh mi mj mr = zRun 78 37 [some (.ref o), l1] (.ref o :: S) sh mi mj mr := zr_l (zD_of zk_78 d_78_36 rfl rfl) rfl rfl rfl
theorem q_78_36n : zRun 78 36 [some (.null), l1] S sh mi mj mr = zRun 78 37 [some (.null), l1] (.null :: S) sh mi mj mr := zr_l (zD_of zk_78 d_78_36 rfl rfl) rfl rfl rfl
theorem q_78_37  : zRun 78 37 L S sh mi mj mr = zRun 78 38 L (.int 2 :: S) sh mi mj mr := zr_p (zD_of zk_78 d_78_37 rfl rfl) rfl
theorem q_78_38 (h : 0 ≤ x ∧ x ≤ 100000) : zRun 78 38 L (.int x :: S) sh mi mj mr = zRun 78 40 L (.ref sh.length :: S) (sh ++ [(4, x.toNatClampNeg)]) mi mj mr := zr_w (zD_of zk_78 d_78_38 rfl rfl) rfl rfl rfl rfl (if_pos h)
theorem q_78_40 (h : zIs sh o 0 7) : zRun 78 40 L (.ref o2 :: .ref o :: S) sh mi mj mr = zRun 78 43 L S sh mi mj (zup mr o 4 (some o2)) := zr_putR (zD_of zk_78 d_78_40 rfl rfl) rfl rfl rfl (Or.inr ⟨rfl, rfl⟩) h
theorem q_78_43r : zRun 78 43 [some (.ref o), l1] S sh mi mj mr = zRun 78 44 [some (.ref o), l1] (.ref o :: S) sh mi mj mr := zr_l (zD_of zk_78 d_78_43 rfl rfl) rfl rfl rfl
theorem q_78_43n : zRun 78 43 [some (.null), l1] S sh mi mj mr = zRun 78 44 [some (.null), l1] (.null :: S) sh mi mj mr := zr_l (zD_of zk_78 d_78_43 rfl rfl) rfl rfl rfl
theorem q_78_44  : zRun 78 44 L S sh mi mj mr = zRun 78 47 L (.ref sh.length :: S) (sh ++ [(0, 4)]) mi mj mr := zr_new (zD_of zk_78 d_78_44 rfl rfl) rfl (by decide)
theorem q_78_47r : zRun 78 47 L (.ref o :: S) sh mi mj mr = zRun 78 48 L (.ref o :: .ref o :: S) sh mi mj mr := zr_p (zD_of zk_78 d_78_47 rfl rfl) rfl
theorem q_78_47i : zRun 78 47 L (.int x :: S) sh mi mj mr = zRun 78 48 L (.int x :: .int x :: S) sh mi mj mr := zr_p (zD_of zk_78 d_78_47 rfl rfl) rfl
theorem q_78_48  (hS : zcat S ≤ 8) (h : 1 ≤ o) : zRun 78 48 L (.ref o :: S) sh mi mj mr = (zCall 54 [.ref o] sh mi mj mr).bind fun r => zRun 78 51 L (r.1.toList ++ S) r.2.1 r.2.2.1 r.2.2.2.1 r.2.2.2.2 := zr_I (zD_of zk_78 d_78_48 rfl rfl) (Or.inr rfl) rfl zk_54 rfl rfl rfl hS h
theorem q_78_51 (h : zIs sh o 0 7) : zRun 78 51 L (.ref o2 :: .ref o :: S) sh mi mj mr = zRun 78 54 L S sh mi mj (zup mr o 5 (some o2)) := zr_putR (zD_of zk_78 d_78_51 rfl rfl) rfl rfl rfl (Or.inr ⟨rfl, rfl⟩) h
theorem q_78_54r : zRun 78 54 [some (.ref o), l1] S sh mi mj mr = zRun 78 55 [some (.ref o), l1] (.ref o :: S) sh mi mj mr := zr_l (zD_of zk_78 d_78_54 rfl rfl) rfl rfl rfl
theorem q_78_54n : zRun 78 54 [some (.null), l1] S sh mi mj mr = zRun 78 55 [some (.null), l1] (.null :: S) sh mi mj mr := zr_l (zD_of zk_78 d_78_54 rfl rfl) rfl rfl rfl
theorem q_78_55  : zRun 78 55 L S sh mi mj mr = zRun 78 58 L (.ref sh.length :: S) (sh ++ [(0, 3)]) mi mj mr := zr_new (zD_of zk_78 d_78_55 rfl rfl) rfl (by decide)
theorem q_78_58r : zRun 78 58 L (.ref o :: S) sh mi mj mr = zRun 78 59 L (.ref o :: .ref o :: S) sh mi mj mr := zr_p (zD_of zk_78 d_78_58 rfl rfl) rfl
theorem q_78_58i : zRun 78 58 L (.int x :: S) sh mi mj mr = zRun 78 59 L (.int x :: .int x :: S) sh mi mj mr := zr_p (zD_of zk_78 d_78_58 rfl rfl) rfl
theorem q_78_59  (hS : zcat S ≤ 8) (h : 1 ≤ o) : zRun 78 59 L (.ref o :: S) sh mi mj mr = (zCall 44 [.ref o] sh mi mj mr).bind fun r => zRun 78 62 L (r.1.toList ++ S) r.2.1 r.2.2.1 r.2.2.2.1 r.2.2.2.2 := zr_I (zD_of zk_78 d_78_59 rfl rfl) (Or.inl rfl) rfl zk_44 rfl rfl rfl hS h
theorem q_78_62 (h : zIs sh o 0 7) : zRun 78 62 L (.ref o2 :: .ref o :: S) sh mi mj mr = zRun 78 65 L S sh mi mj (zup mr o 6 (some o2)) := zr_putR (zD_of zk_78 d_78_62 rfl rfl) rfl rfl rfl (Or.inr ⟨rfl, rfl⟩) h
theorem q_78_65r : zRun 78 65 [some (.ref o), l1] S sh mi mj mr = zRun 78 66 [some (.ref o), l1] (.ref o :: S) sh mi mj mr := zr_l (zD_of zk_78 d_78_65 rfl rfl) rfl rfl rfl
theorem q_78_65n : zRun 78 65 [some (.null), l1] S sh mi mj mr = zRun 78 66 [some (.null), l1] (.null :: S) sh mi mj mr := zr_l (zD_of zk_78 d_78_65 rfl rfl) rfl rfl rfl
theorem q_78_66  : zRun 78 66 L S sh mi mj mr = zRun 78 69 L (.ref sh.length :: S) (sh ++ [(0, 1)]) mi mj mr := zr_new (zD_of zk_78 d_78_66 rfl rfl) rfl (by decide)
theorem q_78_69r : zRun 78 69 L (.ref o :: S) sh mi mj mr = zRun 78 70 L (.ref o :: .ref o :: S) sh mi mj mr := zr_p (zD_of zk_78 d_78_69 rfl rfl) rfl
theorem q_78_69i : zRun 78 69 L (.int x :: S) sh mi mj mr = zRun 78 70 L (.int x :: .int x :: S) sh mi mj mr := zr_p (zD_of zk_78 d_78_69 rfl rfl) rfl
theorem q_78_70  (hS : zcat S ≤ 8) (h : 1 ≤ o) : zRun 78 70 L (.ref o :: S) sh mi mj mr = (zCall 10 [.ref o] sh mi mj mr).bind fun r => zRun 78 73 L (r.1.toList ++ S) r.2.1 r.2.2.1 r.2.2.2.1 r.2.2.2.2 := zr_I (zD_of zk_78 d_78_70 rfl rfl) (Or.inr rfl) rfl zk_10 rfl rfl rfl hS h
theorem q_78_73 (h : zIs sh o 0 7) : zRun 78 73 L (.ref o2 :: .ref o :: S) sh mi mj mr = zRun 78 76 L S sh mi mj (zup mr o 7 (some o2)) := zr_putR (zD_of zk_78 d_78_73 rfl rfl) rfl rfl rfl (Or.inr ⟨rfl, rfl⟩) h
theorem q_78_76r : zRun 78 76 [some (.ref o), l1] S sh mi mj mr = zRun 78 77 [some (.ref o), l1] (.ref o :: S) sh mi mj mr := zr_l (zD_of zk_78 d_78_76 rfl rfl) rfl rfl rfl
theorem q_78_76n : zRun 78 76 [some (.null), l1] S sh mi mj mr = zRun 78 77 [some (.null), l1] (.null :: S) sh mi mj mr := zr_l (zD_of zk_78 d_78_76 rfl rfl) rfl rfl rfl
theorem q_78_77  : zRun 78 77 L S sh mi mj mr = zRun 78 80 L (.ref sh.length :: S) (sh ++ [(0, 0)]) mi mj mr := zr_new (zD_of zk_78 d_78_77 rfl rfl) rfl (by decide)
theorem q_78_80r : zRun 78 80 L (.ref o :: S) sh mi mj mr = zRun 78 81 L (.ref o :: .ref o :: S) sh mi mj mr := zr_p (zD_of zk_78 d_78_80 rfl rfl) rfl
theorem q_78_80i : zRun 78 80 L (.int x :: S) sh mi mj mr = zRun 78 81 L (.int x :: .int x :: S) sh mi mj mr := zr_p (zD_of zk_78 d_78_80 rfl rfl) rfl
theorem q_78_81  (hS : zcat S ≤ 8) (h : 1 ≤ o) : zRun 78 81 L (.ref o :: S) sh mi mj mr = (zCall 1 [.ref o] sh mi mj mr).bind fun r => zRun 78 84 L (r.1.toList ++ S) r.2.1 r.2.2.1 r.2.2.2.1 r.2.2.2.2 := zr_I (zD_of zk_78 d_78_81 rfl rfl) (Or.inr rfl) rfl zk_1 rfl rfl rfl hS h
theorem q_78_84 (h : zIs sh o 0 7) : zRun 78 84 L (.ref o2 :: .ref o :: S) sh mi mj mr = zRun 78 87 L S sh mi mj (zup mr o 8 (some o2)) := zr_putR (zD_of zk_78 d_78_84 rfl rfl) rfl rfl rfl (Or.inr ⟨rfl, rfl⟩) h
theorem q_78_87r : zRun 78 87 [some (.ref o), l1] S sh mi mj mr = zRun 78 88 [some (.ref o), l1] (.ref o :: S) sh mi mj mr := zr_l (zD_of zk_78 d_78_87 rfl rfl) rfl rfl rfl
theorem q_78_87n : zRun 78 87 [some (.null), l1] S sh mi mj mr = zRun 78 88 [some (.null), l1] (.null :: S) sh mi mj mr := zr_l (zD_of zk_78 d_78_87 rfl rfl) rfl rfl rfl
theorem q_78_88  : zRun 78 88 L S sh mi mj mr = zRun 78 89 L (.int 0 :: S) sh mi mj mr := zr_p (zD_of zk_78 d_78_88 rfl rfl) rfl
theorem q_78_89 (h : zIs sh o 0 7) : zRun 78 89 L (.int x :: .ref o :: S) sh mi mj mr = zRun 78 92 L S sh (zup mi o 9 x) mj mr := zr_putI (zD_of zk_78 d_78_89 rfl rfl) rfl rfl rfl (Or.inr ⟨rfl, rfl⟩) h
theorem q_78_92r : zRun 78 92 [some (.ref o), l1] S sh mi mj mr = zRun 78 93 [some (.ref o), l1] (.ref o :: S) sh mi mj mr := zr_l (zD_of zk_78 d_78_92 rfl rfl) rfl rfl rfl
theorem q_78_92n : zRun 78 92 [some (.null), l1] S sh mi mj mr = zRun 78 93 [some (.null), l1] (.null :: S) sh mi mj mr := zr_l (zD_of zk_78 d_78_92 rfl rfl) rfl rfl rfl
theorem q_78_93  : zRun 78 93 L S sh mi mj mr = zRun 78 96 L (.ref sh.length :: S) (sh ++ [(0, 0)]) mi mj mr := zr_new (zD_of zk_78 d_78_93 rfl rfl) rfl (by decide)
theorem q_78_96r : zRun 78 96 L (.ref o :: S) sh mi mj mr = zRun 78 97 L (.ref o :: .ref o :: S) sh mi mj mr := zr_p (zD_of zk_78 d_78_96 rfl rfl) rfl
theorem q_78_96i : zRun 78 96 L (.int x :: S) sh mi mj mr = zRun 78 97 L (.int x :: .int x :: S) sh mi mj mr := zr_p (zD_of zk_78 d_78_96 rfl rfl) rfl
theorem q_78_97  (hS : zcat S ≤ 8) (h : 1 ≤ o) : zRun 78 97 L (.ref o :: S) sh mi mj mr = (zCall 1 [.ref o] sh mi mj mr).bind fun r => zRun 78 100 L (r.1.toList ++ S) r.2.1 r.2.2.1 r.2.2.2.1 r.2.2.2.2 := zr_I (zD_of zk_78 d_78_97 rfl rfl) (Or.inr rfl) rfl zk_1 rfl rfl rfl hS h
theorem q_78_100 (h : zIs sh o 0 7) : zRun 78 100 L (.ref o2 :: .ref o :: S) sh mi mj mr = zRun 78 103 L S sh mi mj (zup mr o 10 (some o2)) := zr_putR (zD_of zk_78 d_78_100 rfl rfl) rfl rfl rfl (Or.inr ⟨rfl, rfl⟩) h
theorem q_78_103r : zRun 78 103 [some (.ref o), l1] S sh mi mj mr = zRun 78 104 [some (.ref o), l1] (.ref o :: S) sh mi mj mr := zr_l (zD_of zk_78 d_78_103 rfl rfl) rfl rfl rfl
theorem q_78_103n : zRun 78 103 [some (.null), l1] S sh mi mj mr = zRun 78 104 [some (.null), l1] (.null :: S) sh mi mj mr := zr_l (zD_of zk_78 d_78_103 rfl rfl) rfl rfl rfl
theorem q_78_104  : zRun 78 104 L S sh mi mj mr = zRun 78 107 L (.ref sh.length :: S) (sh ++ [(0, 0)]) mi mj mr := zr_new (zD_of zk_78 d_78_104 rfl rfl) rfl (by decide)
theorem q_78_107r : zRun 78 107 L (.ref o :: S) sh mi mj mr = zRun 78 108 L (.ref o :: .ref o :: S) sh mi mj mr := zr_p (zD_of zk_78 d_78_107 rfl rfl) rfl
theorem q_78_107i : zRun 78 107 L (.int x :: S) sh mi mj mr = zRun 78 108 L (.int x :: .int x :: S) sh mi mj mr := zr_p (zD_of zk_78 d_78_107 rfl rfl) rfl
theorem q_78_108  (hS : zcat S ≤ 8) (h : 1 ≤ o) : zRun 78 108 L (.ref o :: S) sh mi mj mr = (zCall 1 [.ref o] sh mi mj mr).bind fun r => zRun 78 111 L (r.1.toList ++ S) r.2.1 r.2.2.1 r.2.2.2.1 r.2.2.2.2 := zr_I (zD_of zk_78 d_78_108 rfl rfl) (Or.inr rfl) rfl zk_1 rfl rfl rfl hS h
theorem q_78_111 (h : zIs sh o 0 7) : zRun 78 111 L (.ref o2 :: .ref o :: S) sh mi mj mr = zRun 78 114 L S sh mi mj (zup mr o 11 (some o2)) := zr_putR (zD_of zk_78 d_78_111 rfl rfl) rfl rfl rfl (Or.inr ⟨rfl, rfl⟩) h
theorem q_78_114r : zRun 78 114 [some (.ref o), l1] S sh mi mj mr = zRun 78 115 [some (.ref o), l1] (.ref o :: S) sh mi mj mr := zr_l (zD_of zk_78 d_78_114 rfl rfl) rfl rfl rfl
theorem q_78_114n : zRun 78 114 [some (.null), l1] S sh mi mj mr = zRun 78 115 [some (.null), l1] (.null :: S) sh mi mj mr := zr_l (zD_of zk_78 d_78_114 rfl rfl) rfl rfl rfl
theorem q_78_115  : zRun 78 115 L S sh mi mj mr = zRun 78 118 L (.ref sh.length :: S) (sh ++ [(0, 0)]) mi mj mr := zr_new (zD_of zk_78 d_78_115 rfl rfl) rfl (by decide)
theorem q_78_118r : zRun 78 118 L (.ref o :: S) sh mi mj mr = zRun 78 119 L (.ref o :: .ref o :: S) sh mi mj mr := zr_p (zD_of zk_78 d_78_118 rfl rfl) rfl
theorem q_78_118i : zRun 78 118 L (.int x :: S) sh mi mj mr = zRun 78 119 L (.int x :: .int x :: S) sh mi mj mr := zr_p (zD_of zk_78 d_78_118 rfl rfl) rfl
theorem q_78_119  (hS : zcat S ≤ 8) (h : 1 ≤ o) : zRun 78 119 L (.ref o :: S) sh mi mj mr = (zCall 1 [.ref o] sh mi mj mr).bind fun r => zRun 78 122 L (r.1.toList ++ S) r.2.1 r.2.2.1 r.2.2.2.1 r.2.2.2.2 := zr_I (zD_of zk_78 d_78_119 rfl rfl) (Or.inr rfl) rfl zk_1 rfl rfl rfl hS h
theorem q_78_122 (h : zIs sh o 0 7) : zRun 78 122 L (.ref o2 :: .ref o :: S) sh mi mj mr = zRun 78 125 L S sh mi mj (zup mr o 12 (some o2)) := zr_putR (zD_of zk_78 d_78_122 rfl rfl) rfl rfl rfl (Or.inr ⟨rfl, rfl⟩) h
theorem q_78_125  : zRun 78 125 L S sh mi mj mr = zRun 78 126 L (.int 0 :: S) sh mi mj mr := zr_p (zD_of zk_78 d_78_125 rfl rfl) rfl
theorem q_78_126 : zRun 78 126 [l0, l1] (.int x :: S) sh mi mj mr = zRun 78 127 [zk2 l0, some (.int x)] S sh mi mj mr := zr_s1 (i := 1) (v := .int x) (L := [l0, l1]) (zD_of zk_78 d_78_126 rfl rfl) rfl rfl rfl rfl
theorem q_78_127 : zRun 78 127 [l0, some (.int x)] S sh mi mj mr = zRun 78 128 [l0, some (.int x)] (.int x :: S) sh mi mj mr := zr_l (zD_of zk_78 d_78_127 rfl rfl) rfl rfl rfl
theorem q_78_128  : zRun 78 128 L S sh mi mj mr = zRun 78 129 L (.int 2 :: S) sh mi mj mr := zr_p (zD_of zk_78 d_78_128 rfl rfl) rfl
theorem q_78_129  : zRun 78 129 L (.int y :: .int x :: S) sh mi mj mr = if y ≤ x then zRun 78 151 L S sh mi mj mr else zRun 78 132 L S sh mi mj mr := zr_if (off := 22) (P := y ≤ x) (zD_of zk_78 d_78_129 rfl rfl) rfl rfl (by decide)
theorem q_78_132r : zRun 78 132 [some (.ref o), l1] S sh mi mj mr = zRun 78 133 [some (.ref o), l1] (.ref o :: S) sh mi mj mr := zr_l (zD_of zk_78 d_78_132 rfl rfl) rfl rfl rfl
theorem q_78_132n : zRun 78 132 [some (.null), l1] S sh mi mj mr = zRun 78 133 [some (.null), l1] (.null :: S) sh mi mj mr := zr_l (zD_of zk_78 d_78_132 rfl rfl) rfl rfl rfl
theorem q_78_133 (h : zIs sh o 0 7) : zRun 78 133 L (.ref o :: S) sh mi mj mr = zRun 78 136 L (va_rf (mr o 3) :: S) sh mi mj mr := zr_getR (zD_of zk_78 d_78_133 rfl rfl) rfl rfl rfl h
theorem q_78_136 : zRun 78 136 [l0, some (.int x)] S sh mi mj mr = zRun 78 137 [l0, some (.int x)] (.int x :: S) sh mi mj mr := zr_l (zD_of zk_78 d_78_136 rfl rfl) rfl rfl rfl
theorem q_78_137  : zRun 78 137 L S sh mi mj mr = zRun 78 140 L (.ref sh.length :: S) (sh ++ [(0, 5)]) mi mj mr := zr_new (zD_of zk_78 d_78_137 rfl rfl) rfl (by decide)
theorem q_78_140r : zRun 78 140 L (.ref o :: S) sh mi mj mr = zRun 78 141 L (.ref o :: .ref o :: S) sh mi mj mr := zr_p (zD_of zk_78 d_78_140 rfl rfl) rfl
theorem q_78_140i : zRun 78 140 L (.int x :: S) sh mi mj mr = zRun 78 141 L (.int x :: .int x :: S) sh mi mj mr := zr_p (zD_of zk_78 d_78_140 rfl rfl) rfl
theorem q_78_141  (hS : zcat S ≤ 8) (h : 1 ≤ o) : zRun 78 141 L (.ref o :: S) sh mi mj mr = (zCall 70 [.ref o] sh mi mj mr).bind fun r => zRun 78 144 L (r.1.toList ++ S) r.2.1 r.2.2.1 r.2.2.2.1 r.2.2.2.2 := zr_I (zD_of zk_78 d_78_141 rfl rfl) (Or.inl rfl) rfl zk_70 rfl rfl rfl hS h
theorem q_78_144t7 (h : zAt sh o 7 x) (h2 : zIs sh o2 0 2) : zRun 78 144 L (.ref o2 :: .int x :: .ref o :: S) sh mi mj mr = zRun 78 145 L S sh mi mj (zup mr o x.toNatClampNeg (some o2)) := zr_aast (zD_of zk_78 d_78_144 rfl rfl) (by decide) h h2
theorem q_78_144t10 (h : zAt sh o 10 x) (h2 : zIs sh o2 0 5) : zRun 78 144 L (.ref o2 :: .int x :: .ref o :: S) sh mi mj mr = zRun 78 145 L S sh mi mj (zup mr o x.toNatClampNeg (some o2)) := zr_aast (zD_of zk_78 d_78_144 rfl rfl) (by decide) h h2
theorem q_78_144t11 (h : zAt sh o 11 x) (h2 : zIs sh o2 0 6) : zRun 78 144 L (.ref o2 :: .int x :: .ref o :: S) sh mi mj mr = zRun 78 145 L S sh mi mj (zup mr o x.toNatClampNeg (some o2)) := zr_aast (zD_of zk_78 d_78_144 rfl rfl) (by decide) h h2
theorem q_78_145  : zRun 78 145 [l0, some (.int x)] S sh mi mj mr = zRun 78 148 [zk2 l0, some (.int (x + 1))] S sh mi mj mr := zr_s1 (i := 1) (v := .int (x + 1)) (L := [l0, some (.int x)]) (zD_of zk_78 d_78_145 rfl rfl) rfl rfl rfl rfl
theorem q_78_148  : zRun 78 148 L S sh mi mj mr = zRun 78 127 L S sh mi mj mr := zr_go (off := (-21)) (zD_of zk_78 d_78_148 rfl rfl) rfl rfl (by decide)
theorem q_78_151  : zRun 78 151 L [] sh mi mj mr = some (none, sh, mi, mj, mr) := zr_ret (zD_of zk_78 d_78_151 rfl rfl) rfl rfl rfl rfl rfl rfl
theorem e_78 : zCall 78 [.ref o] sh mi mj mr = zRun 78 0 [some (.ref o), none] [] sh mi mj mr := rfl
theorem d_79_0 : decode cX7_setDomain 0 = .ok (.iload_n 1, 1) := by decide +kernel
theorem d_79_1 : decode cX7_setDomain 1 = .ok (.invokestatic 72, 3) := by decide +kernel
theorem d_79_4 : decode cX7_setDomain 4 = .ok (.ifCond .ne 5, 3) := by decide +kernel
theorem d_79_7 : decode cX7_setDomain 7 = .ok (.iconst (-1), 1) := by decide +kernel
theorem d_79_8 : decode cX7_setDomain 8 = .ok (.ireturn, 1) := by decide +kernel
theorem d_79_9 : decode cX7_setDomain 9 = .ok (.iload_n 2, 1) := by decide +kernel
theorem d_79_10 : decode cX7_setDomain 10 = .ok (.ldc 76, 2) := by decide +kernel
theorem d_79_12 : decode cX7_setDomain 12 = .ok (.if_icmp .lt 20, 3) := by decide +kernel
theorem d_79_15 : decode cX7_setDomain 15 = .ok (.iload_n 2, 1) := by decide +kernel
theorem d_79_16 : decode cX7_setDomain 16 = .ok (.ldc 77, 2) := by decide +kernel
theorem d_79_18 : decode cX7_setDomain 18 = .ok (.if_icmp .gt 14, 3) := by decide +kernel
theorem d_79_21 : decode cX7_setDomain 21 = .ok (.iload_n 3, 1) := by decide +kernel
theorem d_79_22 : decode cX7_setDomain 22 = .ok (.iload_n 2, 1) := by decide +kernel
theorem d_79_23 : decode cX7_setDomain 23 = .ok (.if_icmp .lt 9, 3) := by decide +kernel
theorem d_79_26 : decode cX7_setDomain 26 = .ok (.iload_n 3, 1) := by decide +kernel
theorem d_79_27 : decode cX7_setDomain 27 = .ok (.ldc 77, 2) := by decide +kernel
theorem d_79_29 : decode cX7_setDomain 29 = .ok (.if_icmp .le 6, 3) := by decide +kernel
theorem d_79_32 : decode cX7_setDomain 32 = .ok (.bipush (-2), 2) := by decide +kernel
theorem d_79_34 : decode cX7_setDomain 34 = .ok (.ireturn, 1) := by decide +kernel
theorem d_79_35 : decode cX7_setDomain 35 = .ok (.aload_n 0, 1) := by decide +kernel
theorem d_79_36 : decode cX7_setDomain 36 = .ok (.getfield 20, 3) := by decide +kernel
theorem d_79_39 : decode cX7_setDomain 39 = .ok (.getfield 78, 3) := by decide +kernel
theorem d_79_42 : decode cX7_setDomain 42 = .ok (.iload_n 1, 1) := by decide +kernel
theorem d_79_43 : decode cX7_setDomain 43 = .ok (.invokevirtual 81, 3) := by decide +kernel
theorem d_79_46 : decode cX7_setDomain 46 = .ok (.istore 4, 2) := by decide +kernel
theorem d_79_48 : decode cX7_setDomain 48 = .ok (.aload_n 0, 1) := by decide +kernel
theorem d_79_49 : decode cX7_setDomain 49 = .ok (.getfield 20, 3) := by decide +kernel
theorem d_79_52 : decode cX7_setDomain 52 = .ok (.getfield 78, 3) := by decide +kernel
theorem d_79_55 : decode cX7_setDomain 55 = .ok (.iload_n 1, 1) := by decide +kernel
theorem d_79_56 : decode cX7_setDomain 56 = .ok (.iload_n 2, 1) := by decide +kernel
theorem d_79_57 : decode cX7_setDomain 57 = .ok (.iload_n 3, 1) := by decide +kernel
theorem d_79_58 : decode cX7_setDomain 58 = .ok (.invokevirtual 85, 3) := by decide +kernel
theorem d_79_61 : decode cX7_setDomain 61 = .ok (.iload 4, 2) := by decide +kernel
theorem d_79_63 : decode cX7_setDomain 63 = .ok (.ireturn, 1) := by decide +kernel
theorem q_79_0 : zRun 79 0 [l0, some (.int x), l2, l3, l4] S sh mi mj mr = zRun 79 1 [l0, some (.int x), l2, l3, l4] (.int x :: S) sh mi mj mr := zr_l (zD_of zk_79 d_79_0 rfl rfl) rfl rfl rfl
theorem q_79_1  {x0 : Int32} (hS : zcat S ≤ 8) : zRun 79 1 L (.int x0 :: S) sh mi mj mr = (zCall 108 [.int x0] sh mi mj mr).bind fun r => zRun 79 4 L (r.1.toList ++ S) r.2.1 r.2.2.1 r.2.2.2.1 r.2.2.2.2 := zr_S (zD_of zk_79 d_79_1 rfl rfl) rfl zk_108 rfl rfl rfl hS
theorem q_79_4  : zRun 79 4 L (.int x :: S) sh mi mj mr = if ¬ x = 0 then zRun 79 9 L S sh mi mj mr else zRun 79 7 L S sh mi mj mr := zr_if (off := 5) (P := ¬ x = 0) (zD_of zk_79 d_79_4 rfl rfl) rfl rfl (by decide)
theorem q_79_7  : zRun 79 7 L S sh mi mj mr = zRun 79 8 L (.int (-1) :: S) sh mi mj mr := zr_p (zD_of zk_79 d_79_7 rfl rfl) rfl
theorem q_79_8  : zRun 79 8 L ([.int x]) sh mi mj mr = some (some (.int x), sh, mi, mj, mr) := zr_ret (zD_of zk_79 d_79_8 rfl rfl) rfl rfl rfl rfl rfl (if_pos rfl)
theorem q_79_9 : zRun 79 9 [l0, l1, some (.int x), l3, l4] S sh mi mj mr = zRun 79 10 [l0, l1, some (.int x), l3, l4] (.int x :: S) sh mi mj mr := zr_l (zD_of zk_79 d_79_9 rfl rfl) rfl rfl rfl
theorem q_79_10  : zRun 79 10 L S sh mi mj mr = zRun 79 12 L (.int (-100000) :: S) sh mi mj mr := zr_k32 (zD_of zk_79 d_79_10 rfl rfl) (by first | exact Or.inl rfl | exact Or.inr rfl) rfl
theorem q_79_12  : zRun 79 12 L (.int y :: .int x :: S) sh mi mj mr = if x < y then zRun 79 32 L S sh mi mj mr else zRun 79 15 L S sh mi mj mr := zr_if (off := 20) (P := x < y) (zD_of zk_79 d_79_12 rfl rfl) rfl rfl (by decide)
theorem q_79_15 : zRun 79 15 [l0, l1, some (.int x), l3, l4] S sh mi mj mr = zRun 79 16 [l0, l1, some (.int x), l3, l4] (.int x :: S) sh mi mj mr := zr_l (zD_of zk_79 d_79_15 rfl rfl) rfl rfl rfl
theorem q_79_16  : zRun 79 16 L S sh mi mj mr = zRun 79 18 L (.int 100000 :: S) sh mi mj mr := zr_k32 (zD_of zk_79 d_79_16 rfl rfl) (by first | exact Or.inl rfl | exact Or.inr rfl) rfl
theorem q_79_18  : zRun 79 18 L (.int y :: .int x :: S) sh mi mj mr = if y < x then zRun 79 32 L S sh mi mj mr else zRun 79 21 L S sh mi mj mr := zr_if (off := 14) (P := y < x) (zD_of zk_79 d_79_18 rfl rfl) rfl rfl (by decide)
theorem q_79_21 : zRun 79 21 [l0, l1, l2, some (.int x), l4] S sh mi mj mr = zRun 79 22 [l0, l1, l2, some (.int x), l4] (.int x :: S) sh mi mj mr := zr_l (zD_of zk_79 d_79_21 rfl rfl) rfl rfl rfl
theorem q_79_22 : zRun 79 22 [l0, l1, some (.int x), l3, l4] S sh mi mj mr = zRun 79 23 [l0, l1, some (.int x), l3, l4] (.int x :: S) sh mi mj mr := zr_l (zD_of zk_79 d_79_22 rfl rfl) rfl rfl rfl
theorem q_79_23  : zRun 79 23 L (.int y :: .int x :: S) sh mi mj mr = if x < y then zRun 79 32 L S sh mi mj mr else zRun 79 26 L S sh mi mj mr := zr_if (off := 9) (P := x < y) (zD_of zk_79 d_79_23 rfl rfl) rfl rfl (by decide)
theorem q_79_26 : zRun 79 26 [l0, l1, l2, some (.int x), l4] S sh mi mj mr = zRun 79 27 [l0, l1, l2, some (.int x), l4] (.int x :: S) sh mi mj mr := zr_l (zD_of zk_79 d_79_26 rfl rfl) rfl rfl rfl
theorem q_79_27  : zRun 79 27 L S sh mi mj mr = zRun 79 29 L (.int 100000 :: S) sh mi mj mr := zr_k32 (zD_of zk_79 d_79_27 rfl rfl) (by first | exact Or.inl rfl | exact Or.inr rfl) rfl
theorem q_79_29  : zRun 79 29 L (.int y :: .int x :: S) sh mi mj mr = if x ≤ y then zRun 79 35 L S sh mi mj mr else zRun 79 32 L S sh mi mj mr := zr_if (off := 6) (P := x ≤ y) (zD_of zk_79 d_79_29 rfl rfl) rfl rfl (by decide)
theorem q_79_32  : zRun 79 32 L S sh mi mj mr = zRun 79 34 L (.int (-2) :: S) sh mi mj mr := zr_p (zD_of zk_79 d_79_32 rfl rfl) rfl
theorem q_79_34  : zRun 79 34 L ([.int x]) sh mi mj mr = some (some (.int x), sh, mi, mj, mr) := zr_ret (zD_of zk_79 d_79_34 rfl rfl) rfl rfl rfl rfl rfl (if_pos rfl)
theorem q_79_35r : zRun 79 35 [some (.ref o), l1, l2, l3, l4] S sh mi mj mr = zRun 79 36 [some (.ref o), l1, l2, l3, l4] (.ref o :: S) sh mi mj mr := zr_l (zD_of zk_79 d_79_35 rfl rfl) rfl rfl rfl
theorem q_79_35n : zRun 79 35 [some (.null), l1, l2, l3, l4] S sh mi mj mr = zRun 79 36 [some (.null), l1, l2, l3, l4] (.null :: S) sh mi mj mr := zr_l (zD_of zk_79 d_79_35 rfl rfl) rfl rfl rfl
theorem q_79_36 (h : zIs sh o 0 7) : zRun 79 36 L (.ref o :: S) sh mi mj mr = zRun 79 39 L (va_rf (mr o 2) :: S) sh mi mj mr := zr_getR (zD_of zk_79 d_79_36 rfl rfl) rfl rfl rfl h
theorem q_79_39 (h : zIs sh o 0 5) : zRun 79 39 L (.ref o :: S) sh mi mj mr = zRun 79 42 L (va_rf (mr o 0) :: S) sh mi mj mr := zr_getR (zD_of zk_79 d_79_39 rfl rfl) rfl rfl rfl h
theorem q_79_42 : zRun 79 42 [l0, some (.int x), l2, l3, l4] S sh mi mj mr = zRun 79 43 [l0, some (.int x), l2, l3, l4] (.int x :: S) sh mi mj mr := zr_l (zD_of zk_79 d_79_42 rfl rfl) rfl rfl rfl
theorem q_79_43  {x0 : Int32} (hS : zcat S ≤ 8) (h : zIs sh o 0 0) : zRun 79 43 L (.int x0 :: .ref o :: S) sh mi mj mr = (zCall 4 [.ref o, .int x0] sh mi mj mr).bind fun r => zRun 79 46 L (r.1.toList ++ S) r.2.1 r.2.2.1 r.2.2.2.1 r.2.2.2.2 := zr_V (zD_of zk_79 d_79_43 rfl rfl) rfl zk_4 rfl rfl rfl hS h
theorem q_79_46 : zRun 79 46 [l0, l1, l2, l3, l4] (.int x :: S) sh mi mj mr = zRun 79 48 [l0, l1, l2, zk2 l3, some (.int x)] S sh mi mj mr := zr_s1 (i := 4) (v := .int x) (L := [l0, l1, l2, l3, l4]) (zD_of zk_79 d_79_46 rfl rfl) rfl rfl rfl rfl
theorem q_79_48r : zRun 79 48 [some (.ref o), l1, l2, l3, l4] S sh mi mj mr = zRun 79 49 [some (.ref o), l1, l2, l3, l4] (.ref o :: S) sh mi mj mr := zr_l (zD_of zk_79 d_79_48 rfl rfl) rfl rfl rfl
theorem q_79_48n : zRun 79 48 [some (.null), l1, l2, l3, l4] S sh mi mj mr = zRun 79 49 [some (.null), l1, l2, l3, l4] (.null :: S) sh mi mj mr := zr_l (zD_of zk_79 d_79_48 rfl rfl) rfl rfl rfl
theorem q_79_49 (h : zIs sh o 0 7) : zRun 79 49 L (.ref o :: S) sh mi mj mr = zRun 79 52 L (va_rf (mr o 2) :: S) sh mi mj mr := zr_getR (zD_of zk_79 d_79_49 rfl rfl) rfl rfl rfl h
theorem q_79_52 (h : zIs sh o 0 5) : zRun 79 52 L (.ref o :: S) sh mi mj mr = zRun 79 55 L (va_rf (mr o 0) :: S) sh mi mj mr := zr_getR (zD_of zk_79 d_79_52 rfl rfl) rfl rfl rfl h
theorem q_79_55 : zRun 79 55 [l0, some (.int x), l2, l3, l4] S sh mi mj mr = zRun 79 56 [l0, some (.int x), l2, l3, l4] (.int x :: S) sh mi mj mr := zr_l (zD_of zk_79 d_79_55 rfl rfl) rfl rfl rfl
theorem q_79_56 : zRun 79 56 [l0, l1, some (.int x), l3, l4] S sh mi mj mr = zRun 79 57 [l0, l1, some (.int x), l3, l4] (.int x :: S) sh mi mj mr := zr_l (zD_of zk_79 d_79_56 rfl rfl) rfl rfl rfl
theorem q_79_57 : zRun 79 57 [l0, l1, l2, some (.int x), l4] S sh mi mj mr = zRun 79 58 [l0, l1, l2, some (.int x), l4] (.int x :: S) sh mi mj mr := zr_l (zD_of zk_79 d_79_57 rfl rfl) rfl rfl rfl
theorem q_79_58  {x0 x1 x2 : Int32} (hS : zcat S ≤ 8) (h : zIs sh o 0 0) : zRun 79 58 L (.int x2 :: .int x1 :: .int x0 :: .ref o :: S) sh mi mj mr = (zCall 2 [.ref o, .int x0, .int x1, .int x2] sh mi mj mr).bind fun r => zRun 79 61 L (r.1.toList ++ S) r.2.1 r.2.2.1 r.2.2.2.1 r.2.2.2.2 := zr_V (zD_of zk_79 d_79_58 rfl rfl) rfl zk_2 rfl rfl rfl hS h
theorem q_79_61 : zRun 79 61 [l0, l1, l2, l3, some (.int x)] S sh mi mj mr = zRun 79 63 [l0, l1, l2, l3, some (.int x)] (.int x :: S) sh mi mj mr := zr_l (zD_of zk_79 d_79_61 rfl rfl) rfl rfl rfl
theorem q_79_63  : zRun 79 63 L ([.int x]) sh mi mj mr = some (some (.int x), sh, mi, mj, mr) := zr_ret (zD_of zk_79 d_79_63 rfl rfl) rfl rfl rfl rfl rfl (if_pos rfl)
theorem e_79 {x0 x1 x2 : Int32} : zCall 79 [.ref o, .int x0, .int x1, .int x2] sh mi mj mr = zRun 79 0 [some (.ref o), some (.int x0), some (.int x1), some (.int x2), none] [] sh mi mj mr := rfl
theorem d_80_0 : decode cX7_domain 0 = .ok (.iload_n 1, 1) := by decide +kernel
theorem d_80_1 : decode cX7_domain 1 = .ok (.invokestatic 72, 3) := by decide +kernel
theorem d_80_4 : decode cX7_domain 4 = .ok (.ifCond .ne 5, 3) := by decide +kernel
theorem d_80_7 : decode cX7_domain 7 = .ok (.iconst (-1), 1) := by decide +kernel
theorem d_80_8 : decode cX7_domain 8 = .ok (.ireturn, 1) := by decide +kernel
theorem d_80_9 : decode cX7_domain 9 = .ok (.iload_n 2, 1) := by decide +kernel
theorem d_80_10 : decode cX7_domain 10 = .ok (.invokestatic 89, 3) := by decide +kernel
theorem d_80_13 : decode cX7_domain 13 = .ok (.ifCond .ne 6, 3) := by decide +kernel
theorem d_80_16 : decode cX7_domain 16 = .ok (.bipush (-2), 2) := by decide +kernel
theorem d_80_18 : decode cX7_domain 18 = .ok (.ireturn, 1) := by decide +kernel
theorem d_80_19 : decode cX7_domain 19 = .ok (.ldc 92, 2) := by decide +kernel
theorem d_80_21 : decode cX7_domain 21 = .ok (.iload_n 2, 1) := by decide +kernel
theorem d_80_22 : decode cX7_domain 22 = .ok (.ifCond .ne 18, 3) := by decide +kernel
theorem d_80_25 : decode cX7_domain 25 = .ok (.aload_n 0, 1) := by decide +kernel
theorem d_80_26 : decode cX7_domain 26 = .ok (.getfield 20, 3) := by decide +kernel
theorem d_80_29 : decode cX7_domain 29 = .ok (.getfield 78, 3) := by decide +kernel
theorem d_80_32 : decode cX7_domain 32 = .ok (.getfield 93, 3) := by decide +kernel
theorem d_80_35 : decode cX7_domain 35 = .ok (.iload_n 1, 1) := by decide +kernel
theorem d_80_36 : decode cX7_domain 36 = .ok (.iaload, 1) := by decide +kernel
theorem d_80_37 : decode cX7_domain 37 = .ok (.goto 15, 3) := by decide +kernel
theorem d_80_40 : decode cX7_domain 40 = .ok (.aload_n 0, 1) := by decide +kernel
theorem d_80_41 : decode cX7_domain 41 = .ok (.getfield 20, 3) := by decide +kernel
theorem d_80_44 : decode cX7_domain 44 = .ok (.getfield 78, 3) := by decide +kernel
theorem d_80_47 : decode cX7_domain 47 = .ok (.getfield 97, 3) := by decide +kernel
theorem d_80_50 : decode cX7_domain 50 = .ok (.iload_n 1, 1) := by decide +kernel
theorem d_80_51 : decode cX7_domain 51 = .ok (.iaload, 1) := by decide +kernel
theorem d_80_52 : decode cX7_domain 52 = .ok (.iadd, 1) := by decide +kernel
theorem d_80_53 : decode cX7_domain 53 = .ok (.ireturn, 1) := by decide +kernel
theorem q_80_0 : zRun 80 0 [l0, some (.int x), l2] S sh mi mj mr = zRun 80 1 [l0, some (.int x), l2] (.int x :: S) sh mi mj mr := zr_l (zD_of zk_80 d_80_0 rfl rfl) rfl rfl rfl
theorem q_80_1  {x0 : Int32} (hS : zcat S ≤ 8) : zRun 80 1 L (.int x0 :: S) sh mi mj mr = (zCall 108 [.int x0] sh mi mj mr).bind fun r => zRun 80 4 L (r.1.toList ++ S) r.2.1 r.2.2.1 r.2.2.2.1 r.2.2.2.2 := zr_S (zD_of zk_80 d_80_1 rfl rfl) rfl zk_108 rfl rfl rfl hS
theorem q_80_4  : zRun 80 4 L (.int x :: S) sh mi mj mr = if ¬ x = 0 then zRun 80 9 L S sh mi mj mr else zRun 80 7 L S sh mi mj mr := zr_if (off := 5) (P := ¬ x = 0) (zD_of zk_80 d_80_4 rfl rfl) rfl rfl (by decide)
theorem q_80_7  : zRun 80 7 L S sh mi mj mr = zRun 80 8 L (.int (-1) :: S) sh mi mj mr := zr_p (zD_of zk_80 d_80_7 rfl rfl) rfl
theorem q_80_8  : zRun 80 8 L ([.int x]) sh mi mj mr = some (some (.int x), sh, mi, mj, mr) := zr_ret (zD_of zk_80 d_80_8 rfl rfl) rfl rfl rfl rfl rfl (if_pos rfl)
theorem q_80_9 : zRun 80 9 [l0, l1, some (.int x)] S sh mi mj mr = zRun 80 10 [l0, l1, some (.int x)] (.int x :: S) sh mi mj mr := zr_l (zD_of zk_80 d_80_9 rfl rfl) rfl rfl rfl
theorem q_80_10  {x0 : Int32} (hS : zcat S ≤ 8) : zRun 80 10 L (.int x0 :: S) sh mi mj mr = (zCall 109 [.int x0] sh mi mj mr).bind fun r => zRun 80 13 L (r.1.toList ++ S) r.2.1 r.2.2.1 r.2.2.2.1 r.2.2.2.2 := zr_S (zD_of zk_80 d_80_10 rfl rfl) rfl zk_109 rfl rfl rfl hS
theorem q_80_13  : zRun 80 13 L (.int x :: S) sh mi mj mr = if ¬ x = 0 then zRun 80 19 L S sh mi mj mr else zRun 80 16 L S sh mi mj mr := zr_if (off := 6) (P := ¬ x = 0) (zD_of zk_80 d_80_13 rfl rfl) rfl rfl (by decide)
theorem q_80_16  : zRun 80 16 L S sh mi mj mr = zRun 80 18 L (.int (-2) :: S) sh mi mj mr := zr_p (zD_of zk_80 d_80_16 rfl rfl) rfl
theorem q_80_18  : zRun 80 18 L ([.int x]) sh mi mj mr = some (some (.int x), sh, mi, mj, mr) := zr_ret (zD_of zk_80 d_80_18 rfl rfl) rfl rfl rfl rfl rfl (if_pos rfl)
theorem q_80_19  : zRun 80 19 L S sh mi mj mr = zRun 80 21 L (.int 1000000 :: S) sh mi mj mr := zr_k32 (zD_of zk_80 d_80_19 rfl rfl) (by first | exact Or.inl rfl | exact Or.inr rfl) rfl
theorem q_80_21 : zRun 80 21 [l0, l1, some (.int x)] S sh mi mj mr = zRun 80 22 [l0, l1, some (.int x)] (.int x :: S) sh mi mj mr := zr_l (zD_of zk_80 d_80_21 rfl rfl) rfl rfl rfl
theorem q_80_22  : zRun 80 22 L (.int x :: S) sh mi mj mr = if ¬ x = 0 then zRun 80 40 L S sh mi mj mr else zRun 80 25 L S sh mi mj mr := zr_if (off := 18) (P := ¬ x = 0) (zD_of zk_80 d_80_22 rfl rfl) rfl rfl (by decide)
theorem q_80_25r : zRun 80 25 [some (.ref o), l1, l2] S sh mi mj mr = zRun 80 26 [some (.ref o), l1, l2] (.ref o :: S) sh mi mj mr := zr_l (zD_of zk_80 d_80_25 rfl rfl) rfl rfl rfl
theorem q_80_25n : zRun 80 25 [some (.null), l1, l2] S sh mi mj mr = zRun 80 26 [some (.null), l1, l2] (.null :: S) sh mi mj mr := zr_l (zD_of zk_80 d_80_25 rfl rfl) rfl rfl rfl
theorem q_80_26 (h : zIs sh o 0 7) : zRun 80 26 L (.ref o :: S) sh mi mj mr = zRun 80 29 L (va_rf (mr o 2) :: S) sh mi mj mr := zr_getR (zD_of zk_80 d_80_26 rfl rfl) rfl rfl rfl h
theorem q_80_29 (h : zIs sh o 0 5) : zRun 80 29 L (.ref o :: S) sh mi mj mr = zRun 80 32 L (va_rf (mr o 0) :: S) sh mi mj mr := zr_getR (zD_of zk_80 d_80_29 rfl rfl) rfl rfl rfl h
theorem q_80_32 (h : zIs sh o 0 0) : zRun 80 32 L (.ref o :: S) sh mi mj mr = zRun 80 35 L (va_rf (mr o 0) :: S) sh mi mj mr := zr_getR (zD_of zk_80 d_80_32 rfl rfl) rfl rfl rfl h
theorem q_80_35 : zRun 80 35 [l0, some (.int x), l2] S sh mi mj mr = zRun 80 36 [l0, some (.int x), l2] (.int x :: S) sh mi mj mr := zr_l (zD_of zk_80 d_80_35 rfl rfl) rfl rfl rfl
theorem q_80_36 (h : zAt sh o 1 x) : zRun 80 36 L (.int x :: .ref o :: S) sh mi mj mr = zRun 80 37 L (.int (mi o x.toNatClampNeg) :: S) sh mi mj mr := zr_iald (zD_of zk_80 d_80_36 rfl rfl) h
theorem q_80_37  : zRun 80 37 L S sh mi mj mr = zRun 80 52 L S sh mi mj mr := zr_go (off := 15) (zD_of zk_80 d_80_37 rfl rfl) rfl rfl (by decide)
theorem q_80_40r : zRun 80 40 [some (.ref o), l1, l2] S sh mi mj mr = zRun 80 41 [some (.ref o), l1, l2] (.ref o :: S) sh mi mj mr := zr_l (zD_of zk_80 d_80_40 rfl rfl) rfl rfl rfl
theorem q_80_40n : zRun 80 40 [some (.null), l1, l2] S sh mi mj mr = zRun 80 41 [some (.null), l1, l2] (.null :: S) sh mi mj mr := zr_l (zD_of zk_80 d_80_40 rfl rfl) rfl rfl rfl
theorem q_80_41 (h : zIs sh o 0 7) : zRun 80 41 L (.ref o :: S) sh mi mj mr = zRun 80 44 L (va_rf (mr o 2) :: S) sh mi mj mr := zr_getR (zD_of zk_80 d_80_41 rfl rfl) rfl rfl rfl h
theorem q_80_44 (h : zIs sh o 0 5) : zRun 80 44 L (.ref o :: S) sh mi mj mr = zRun 80 47 L (va_rf (mr o 0) :: S) sh mi mj mr := zr_getR (zD_of zk_80 d_80_44 rfl rfl) rfl rfl rfl h
theorem q_80_47 (h : zIs sh o 0 0) : zRun 80 47 L (.ref o :: S) sh mi mj mr = zRun 80 50 L (va_rf (mr o 1) :: S) sh mi mj mr := zr_getR (zD_of zk_80 d_80_47 rfl rfl) rfl rfl rfl h
theorem q_80_50 : zRun 80 50 [l0, some (.int x), l2] S sh mi mj mr = zRun 80 51 [l0, some (.int x), l2] (.int x :: S) sh mi mj mr := zr_l (zD_of zk_80 d_80_50 rfl rfl) rfl rfl rfl
theorem q_80_51 (h : zAt sh o 1 x) : zRun 80 51 L (.int x :: .ref o :: S) sh mi mj mr = zRun 80 52 L (.int (mi o x.toNatClampNeg) :: S) sh mi mj mr := zr_iald (zD_of zk_80 d_80_51 rfl rfl) h
theorem q_80_52  : zRun 80 52 L (.int y :: .int x :: S) sh mi mj mr = zRun 80 53 L (.int (x + y) :: S) sh mi mj mr := zr_p (zD_of zk_80 d_80_52 rfl rfl) rfl
theorem q_80_53  : zRun 80 53 L ([.int x]) sh mi mj mr = some (some (.int x), sh, mi, mj, mr) := zr_ret (zD_of zk_80 d_80_53 rfl rfl) rfl rfl rfl rfl rfl (if_pos rfl)
theorem e_80 {x0 x1 : Int32} : zCall 80 [.ref o, .int x0, .int x1] sh mi mj mr = zRun 80 0 [some (.ref o), some (.int x0), some (.int x1)] [] sh mi mj mr := rfl
theorem d_81_0 : decode cX7_setSymbols 0 = .ok (.iload_n 1, 1) := by decide +kernel
theorem d_81_1 : decode cX7_setSymbols 1 = .ok (.ifCond .lt 9, 3) := by decide +kernel
theorem d_81_4 : decode cX7_setSymbols 4 = .ok (.iload_n 1, 1) := by decide +kernel
theorem d_81_5 : decode cX7_setSymbols 5 = .ok (.bipush 8, 2) := by decide +kernel
theorem d_81_7 : decode cX7_setSymbols 7 = .ok (.if_icmp .le 6, 3) := by decide +kernel
theorem d_81_10 : decode cX7_setSymbols 10 = .ok (.bipush (-2), 2) := by decide +kernel
theorem d_81_12 : decode cX7_setSymbols 12 = .ok (.ireturn, 1) := by decide +kernel
theorem d_81_13 : decode cX7_setSymbols 13 = .ok (.aload_n 0, 1) := by decide +kernel
theorem d_81_14 : decode cX7_setSymbols 14 = .ok (.getfield 20, 3) := by decide +kernel
theorem d_81_17 : decode cX7_setSymbols 17 = .ok (.getfield 100, 3) := by decide +kernel
theorem d_81_20 : decode cX7_setSymbols 20 = .ok (.istore_n 2, 1) := by decide +kernel
theorem d_81_21 : decode cX7_setSymbols 21 = .ok (.aload_n 0, 1) := by decide +kernel
theorem d_81_22 : decode cX7_setSymbols 22 = .ok (.getfield 20, 3) := by decide +kernel
theorem d_81_25 : decode cX7_setSymbols 25 = .ok (.iload_n 1, 1) := by decide +kernel
theorem d_81_26 : decode cX7_setSymbols 26 = .ok (.putfield 100, 3) := by decide +kernel
theorem d_81_29 : decode cX7_setSymbols 29 = .ok (.iload_n 2, 1) := by decide +kernel
theorem d_81_30 : decode cX7_setSymbols 30 = .ok (.ireturn, 1) := by decide +kernel
theorem q_81_0 : zRun 81 0 [l0, some (.int x), l2] S sh mi mj mr = zRun 81 1 [l0, some (.int x), l2] (.int x :: S) sh mi mj mr := zr_l (zD_of zk_81 d_81_0 rfl rfl) rfl rfl rfl
theorem q_81_1  : zRun 81 1 L (.int x :: S) sh mi mj mr = if x < 0 then zRun 81 10 L S sh mi mj mr else zRun 81 4 L S sh mi mj mr := zr_if (off := 9) (P := x < 0) (zD_of zk_81 d_81_1 rfl rfl) rfl rfl (by decide)
theorem q_81_4 : zRun 81 4 [l0, some (.int x), l2] S sh mi mj mr = zRun 81 5 [l0, some (.int x), l2] (.int x :: S) sh mi mj mr := zr_l (zD_of zk_81 d_81_4 rfl rfl) rfl rfl rfl
theorem q_81_5  : zRun 81 5 L S sh mi mj mr = zRun 81 7 L (.int 8 :: S) sh mi mj mr := zr_p (zD_of zk_81 d_81_5 rfl rfl) rfl
theorem q_81_7  : zRun 81 7 L (.int y :: .int x :: S) sh mi mj mr = if x ≤ y then zRun 81 13 L S sh mi mj mr else zRun 81 10 L S sh mi mj mr := zr_if (off := 6) (P := x ≤ y) (zD_of zk_81 d_81_7 rfl rfl) rfl rfl (by decide)
theorem q_81_10  : zRun 81 10 L S sh mi mj mr = zRun 81 12 L (.int (-2) :: S) sh mi mj mr := zr_p (zD_of zk_81 d_81_10 rfl rfl) rfl
theorem q_81_12  : zRun 81 12 L ([.int x]) sh mi mj mr = some (some (.int x), sh, mi, mj, mr) := zr_ret (zD_of zk_81 d_81_12 rfl rfl) rfl rfl rfl rfl rfl (if_pos rfl)
theorem q_81_13r : zRun 81 13 [some (.ref o), l1, l2] S sh mi mj mr = zRun 81 14 [some (.ref o), l1, l2] (.ref o :: S) sh mi mj mr := zr_l (zD_of zk_81 d_81_13 rfl rfl) rfl rfl rfl
theorem q_81_13n : zRun 81 13 [some (.null), l1, l2] S sh mi mj mr = zRun 81 14 [some (.null), l1, l2] (.null :: S) sh mi mj mr := zr_l (zD_of zk_81 d_81_13 rfl rfl) rfl rfl rfl
theorem q_81_14 (h : zIs sh o 0 7) : zRun 81 14 L (.ref o :: S) sh mi mj mr = zRun 81 17 L (va_rf (mr o 2) :: S) sh mi mj mr := zr_getR (zD_of zk_81 d_81_14 rfl rfl) rfl rfl rfl h
theorem q_81_17 (h : zIs sh o 0 5) : zRun 81 17 L (.ref o :: S) sh mi mj mr = zRun 81 20 L (.int (mi o 2) :: S) sh mi mj mr := zr_getI (zD_of zk_81 d_81_17 rfl rfl) rfl rfl (Or.inl rfl) h
theorem q_81_20 : zRun 81 20 [l0, l1, l2] (.int x :: S) sh mi mj mr = zRun 81 21 [l0, zk2 l1, some (.int x)] S sh mi mj mr := zr_s1 (i := 2) (v := .int x) (L := [l0, l1, l2]) (zD_of zk_81 d_81_20 rfl rfl) rfl rfl rfl rfl
theorem q_81_21r : zRun 81 21 [some (.ref o), l1, l2] S sh mi mj mr = zRun 81 22 [some (.ref o), l1, l2] (.ref o :: S) sh mi mj mr := zr_l (zD_of zk_81 d_81_21 rfl rfl) rfl rfl rfl
theorem q_81_21n : zRun 81 21 [some (.null), l1, l2] S sh mi mj mr = zRun 81 22 [some (.null), l1, l2] (.null :: S) sh mi mj mr := zr_l (zD_of zk_81 d_81_21 rfl rfl) rfl rfl rfl
theorem q_81_22 (h : zIs sh o 0 7) : zRun 81 22 L (.ref o :: S) sh mi mj mr = zRun 81 25 L (va_rf (mr o 2) :: S) sh mi mj mr := zr_getR (zD_of zk_81 d_81_22 rfl rfl) rfl rfl rfl h
theorem q_81_25 : zRun 81 25 [l0, some (.int x), l2] S sh mi mj mr = zRun 81 26 [l0, some (.int x), l2] (.int x :: S) sh mi mj mr := zr_l (zD_of zk_81 d_81_25 rfl rfl) rfl rfl rfl
theorem q_81_26 (h : zIs sh o 0 5) : zRun 81 26 L (.int x :: .ref o :: S) sh mi mj mr = zRun 81 29 L S sh (zup mi o 2 x) mj mr := zr_putI (zD_of zk_81 d_81_26 rfl rfl) rfl rfl rfl (Or.inl rfl) h
theorem q_81_29 : zRun 81 29 [l0, l1, some (.int x)] S sh mi mj mr = zRun 81 30 [l0, l1, some (.int x)] (.int x :: S) sh mi mj mr := zr_l (zD_of zk_81 d_81_29 rfl rfl) rfl rfl rfl
theorem q_81_30  : zRun 81 30 L ([.int x]) sh mi mj mr = some (some (.int x), sh, mi, mj, mr) := zr_ret (zD_of zk_81 d_81_30 rfl rfl) rfl rfl rfl rfl rfl (if_pos rfl)
theorem e_81 {x0 : Int32} : zCall 81 [.ref o, .int x0] sh mi mj mr = zRun 81 0 [some (.ref o), some (.int x0), none] [] sh mi mj mr := rfl
theorem d_82_0 : decode cX7_say 0 = .ok (.iload_n 1, 1) := by decide +kernel
theorem d_82_1 : decode cX7_say 1 = .ok (.bipush 33, 2) := by decide +kernel
theorem d_82_3 : decode cX7_say 3 = .ok (.if_icmp .lt 9, 3) := by decide +kernel
theorem d_82_6 : decode cX7_say 6 = .ok (.iload_n 1, 1) := by decide +kernel
theorem d_82_7 : decode cX7_say 7 = .ok (.bipush 126, 2) := by decide +kernel
theorem d_82_9 : decode cX7_say 9 = .ok (.if_icmp .le 6, 3) := by decide +kernel
theorem d_82_12 : decode cX7_say 12 = .ok (.bipush (-2), 2) := by decide +kernel
theorem d_82_14 : decode cX7_say 14 = .ok (.ireturn, 1) := by decide +kernel
theorem d_82_15 : decode cX7_say 15 = .ok (.aload_n 0, 1) := by decide +kernel
theorem d_82_16 : decode cX7_say 16 = .ok (.getfield 13, 3) := by decide +kernel
theorem d_82_19 : decode cX7_say 19 = .ok (.bipush 48, 2) := by decide +kernel
theorem d_82_21 : decode cX7_say 21 = .ok (.if_icmp .lt 6, 3) := by decide +kernel
theorem d_82_24 : decode cX7_say 24 = .ok (.bipush (-4), 2) := by decide +kernel
theorem d_82_26 : decode cX7_say 26 = .ok (.ireturn, 1) := by decide +kernel
theorem d_82_27 : decode cX7_say 27 = .ok (.aload_n 0, 1) := by decide +kernel
theorem d_82_28 : decode cX7_say 28 = .ok (.getfield 9, 3) := by decide +kernel
theorem d_82_31 : decode cX7_say 31 = .ok (.aload_n 0, 1) := by decide +kernel
theorem d_82_32 : decode cX7_say 32 = .ok (.getfield 13, 3) := by decide +kernel
theorem d_82_35 : decode cX7_say 35 = .ok (.iload_n 1, 1) := by decide +kernel
theorem d_82_36 : decode cX7_say 36 = .ok (.i2c, 1) := by decide +kernel
theorem d_82_37 : decode cX7_say 37 = .ok (.castore, 1) := by decide +kernel
theorem d_82_38 : decode cX7_say 38 = .ok (.aload_n 0, 1) := by decide +kernel
theorem d_82_39 : decode cX7_say 39 = .ok (.dup, 1) := by decide +kernel
theorem d_82_40 : decode cX7_say 40 = .ok (.getfield 13, 3) := by decide +kernel
theorem d_82_43 : decode cX7_say 43 = .ok (.iconst 1, 1) := by decide +kernel
theorem d_82_44 : decode cX7_say 44 = .ok (.iadd, 1) := by decide +kernel
theorem d_82_45 : decode cX7_say 45 = .ok (.putfield 13, 3) := by decide +kernel
theorem d_82_48 : decode cX7_say 48 = .ok (.aload_n 0, 1) := by decide +kernel
theorem d_82_49 : decode cX7_say 49 = .ok (.getfield 13, 3) := by decide +kernel
theorem d_82_52 : decode cX7_say 52 = .ok (.ireturn, 1) := by decide +kernel
theorem q_82_0 : zRun 82 0 [l0, some (.int x)] S sh mi mj mr = zRun 82 1 [l0, some (.int x)] (.int x :: S) sh mi mj mr := zr_l (zD_of zk_82 d_82_0 rfl rfl) rfl rfl rfl
theorem q_82_1  : zRun 82 1 L S sh mi mj mr = zRun 82 3 L (.int 33 :: S) sh mi mj mr := zr_p (zD_of zk_82 d_82_1 rfl rfl) rfl
theorem q_82_3  : zRun 82 3 L (.int y :: .int x :: S) sh mi mj mr = if x < y then zRun 82 12 L S sh mi mj mr else zRun 82 6 L S sh mi mj mr := zr_if (off := 9) (P := x < y) (zD_of zk_82 d_82_3 rfl rfl) rfl rfl (by decide)
theorem q_82_6 : zRun 82 6 [l0, some (.int x)] S sh mi mj mr = zRun 82 7 [l0, some (.int x)] (.int x :: S) sh mi mj mr := zr_l (zD_of zk_82 d_82_6 rfl rfl) rfl rfl rfl
theorem q_82_7  : zRun 82 7 L S sh mi mj mr = zRun 82 9 L (.int 126 :: S) sh mi mj mr := zr_p (zD_of zk_82 d_82_7 rfl rfl) rfl
theorem q_82_9  : zRun 82 9 L (.int y :: .int x :: S) sh mi mj mr = if x ≤ y then zRun 82 15 L S sh mi mj mr else zRun 82 12 L S sh mi mj mr := zr_if (off := 6) (P := x ≤ y) (zD_of zk_82 d_82_9 rfl rfl) rfl rfl (by decide)
theorem q_82_12  : zRun 82 12 L S sh mi mj mr = zRun 82 14 L (.int (-2) :: S) sh mi mj mr := zr_p (zD_of zk_82 d_82_12 rfl rfl) rfl
theorem q_82_14  : zRun 82 14 L ([.int x]) sh mi mj mr = some (some (.int x), sh, mi, mj, mr) := zr_ret (zD_of zk_82 d_82_14 rfl rfl) rfl rfl rfl rfl rfl (if_pos rfl)
theorem q_82_15r : zRun 82 15 [some (.ref o), l1] S sh mi mj mr = zRun 82 16 [some (.ref o), l1] (.ref o :: S) sh mi mj mr := zr_l (zD_of zk_82 d_82_15 rfl rfl) rfl rfl rfl
theorem q_82_15n : zRun 82 15 [some (.null), l1] S sh mi mj mr = zRun 82 16 [some (.null), l1] (.null :: S) sh mi mj mr := zr_l (zD_of zk_82 d_82_15 rfl rfl) rfl rfl rfl
theorem q_82_16 (h : zIs sh o 0 7) : zRun 82 16 L (.ref o :: S) sh mi mj mr = zRun 82 19 L (.int (mi o 1) :: S) sh mi mj mr := zr_getI (zD_of zk_82 d_82_16 rfl rfl) rfl rfl (Or.inl rfl) h
theorem q_82_19  : zRun 82 19 L S sh mi mj mr = zRun 82 21 L (.int 48 :: S) sh mi mj mr := zr_p (zD_of zk_82 d_82_19 rfl rfl) rfl
theorem q_82_21  : zRun 82 21 L (.int y :: .int x :: S) sh mi mj mr = if x < y then zRun 82 27 L S sh mi mj mr else zRun 82 24 L S sh mi mj mr := zr_if (off := 6) (P := x < y) (zD_of zk_82 d_82_21 rfl rfl) rfl rfl (by decide)
theorem q_82_24  : zRun 82 24 L S sh mi mj mr = zRun 82 26 L (.int (-4) :: S) sh mi mj mr := zr_p (zD_of zk_82 d_82_24 rfl rfl) rfl
theorem q_82_26  : zRun 82 26 L ([.int x]) sh mi mj mr = some (some (.int x), sh, mi, mj, mr) := zr_ret (zD_of zk_82 d_82_26 rfl rfl) rfl rfl rfl rfl rfl (if_pos rfl)
theorem q_82_27r : zRun 82 27 [some (.ref o), l1] S sh mi mj mr = zRun 82 28 [some (.ref o), l1] (.ref o :: S) sh mi mj mr := zr_l (zD_of zk_82 d_82_27 rfl rfl) rfl rfl rfl
theorem q_82_27n : zRun 82 27 [some (.null), l1] S sh mi mj mr = zRun 82 28 [some (.null), l1] (.null :: S) sh mi mj mr := zr_l (zD_of zk_82 d_82_27 rfl rfl) rfl rfl rfl
theorem q_82_28 (h : zIs sh o 0 7) : zRun 82 28 L (.ref o :: S) sh mi mj mr = zRun 82 31 L (va_rf (mr o 0) :: S) sh mi mj mr := zr_getR (zD_of zk_82 d_82_28 rfl rfl) rfl rfl rfl h
theorem q_82_31r : zRun 82 31 [some (.ref o), l1] S sh mi mj mr = zRun 82 32 [some (.ref o), l1] (.ref o :: S) sh mi mj mr := zr_l (zD_of zk_82 d_82_31 rfl rfl) rfl rfl rfl
theorem q_82_31n : zRun 82 31 [some (.null), l1] S sh mi mj mr = zRun 82 32 [some (.null), l1] (.null :: S) sh mi mj mr := zr_l (zD_of zk_82 d_82_31 rfl rfl) rfl rfl rfl
theorem q_82_32 (h : zIs sh o 0 7) : zRun 82 32 L (.ref o :: S) sh mi mj mr = zRun 82 35 L (.int (mi o 1) :: S) sh mi mj mr := zr_getI (zD_of zk_82 d_82_32 rfl rfl) rfl rfl (Or.inl rfl) h
theorem q_82_35 : zRun 82 35 [l0, some (.int x)] S sh mi mj mr = zRun 82 36 [l0, some (.int x)] (.int x :: S) sh mi mj mr := zr_l (zD_of zk_82 d_82_35 rfl rfl) rfl rfl rfl
theorem q_82_36  : zRun 82 36 L (.int x :: S) sh mi mj mr = zRun 82 37 L (.int (x.toUInt32 % 65536).toInt32 :: S) sh mi mj mr := zr_p (zD_of zk_82 d_82_36 rfl rfl) rfl
theorem q_82_37 (h : zAt sh o 3 x) : zRun 82 37 L (.int y :: .int x :: .ref o :: S) sh mi mj mr = zRun 82 38 L S sh (zup mi o x.toNatClampNeg (vp_nar .char y)) mj mr := zr_cast (zD_of zk_82 d_82_37 rfl rfl) h
theorem q_82_38r : zRun 82 38 [some (.ref o), l1] S sh mi mj mr = zRun 82 39 [some (.ref o), l1] (.ref o :: S) sh mi mj mr := zr_l (zD_of zk_82 d_82_38 rfl rfl) rfl rfl rfl
theorem q_82_38n : zRun 82 38 [some (.null), l1] S sh mi mj mr = zRun 82 39 [some (.null), l1] (.null :: S) sh mi mj mr := zr_l (zD_of zk_82 d_82_38 rfl rfl) rfl rfl rfl
theorem q_82_39r : zRun 82 39 L (.ref o :: S) sh mi mj mr = zRun 82 40 L (.ref o :: .ref o :: S) sh mi mj mr := zr_p (zD_of zk_82 d_82_39 rfl rfl) rfl
theorem q_82_39i : zRun 82 39 L (.int x :: S) sh mi mj mr = zRun 82 40 L (.int x :: .int x :: S) sh mi mj mr := zr_p (zD_of zk_82 d_82_39 rfl rfl) rfl
theorem q_82_40 (h : zIs sh o 0 7) : zRun 82 40 L (.ref o :: S) sh mi mj mr = zRun 82 43 L (.int (mi o 1) :: S) sh mi mj mr := zr_getI (zD_of zk_82 d_82_40 rfl rfl) rfl rfl (Or.inl rfl) h
theorem q_82_43  : zRun 82 43 L S sh mi mj mr = zRun 82 44 L (.int 1 :: S) sh mi mj mr := zr_p (zD_of zk_82 d_82_43 rfl rfl) rfl
theorem q_82_44  : zRun 82 44 L (.int y :: .int x :: S) sh mi mj mr = zRun 82 45 L (.int (x + y) :: S) sh mi mj mr := zr_p (zD_of zk_82 d_82_44 rfl rfl) rfl
theorem q_82_45 (h : zIs sh o 0 7) : zRun 82 45 L (.int x :: .ref o :: S) sh mi mj mr = zRun 82 48 L S sh (zup mi o 1 x) mj mr := zr_putI (zD_of zk_82 d_82_45 rfl rfl) rfl rfl rfl (Or.inl rfl) h
theorem q_82_48r : zRun 82 48 [some (.ref o), l1] S sh mi mj mr = zRun 82 49 [some (.ref o), l1] (.ref o :: S) sh mi mj mr := zr_l (zD_of zk_82 d_82_48 rfl rfl) rfl rfl rfl
theorem q_82_48n : zRun 82 48 [some (.null), l1] S sh mi mj mr = zRun 82 49 [some (.null), l1] (.null :: S) sh mi mj mr := zr_l (zD_of zk_82 d_82_48 rfl rfl) rfl rfl rfl
theorem q_82_49 (h : zIs sh o 0 7) : zRun 82 49 L (.ref o :: S) sh mi mj mr = zRun 82 52 L (.int (mi o 1) :: S) sh mi mj mr := zr_getI (zD_of zk_82 d_82_49 rfl rfl) rfl rfl (Or.inl rfl) h
theorem q_82_52  : zRun 82 52 L ([.int x]) sh mi mj mr = some (some (.int x), sh, mi, mj, mr) := zr_ret (zD_of zk_82 d_82_52 rfl rfl) rfl rfl rfl rfl rfl (if_pos rfl)
theorem e_82 {x0 : Int32} : zCall 82 [.ref o, .int x0] sh mi mj mr = zRun 82 0 [some (.ref o), some (.int x0)] [] sh mi mj mr := rfl
theorem d_83_0 : decode cL_cell 0 = .ok (.iload_n 1, 1) := by decide +kernel
theorem d_83_1 : decode cL_cell 1 = .ok (.aload_n 0, 1) := by decide +kernel
theorem d_83_2 : decode cL_cell 2 = .ok (.arraylength, 1) := by decide +kernel
theorem d_83_3 : decode cL_cell 3 = .ok (.if_icmp .ge 9, 3) := by decide +kernel
theorem d_83_6 : decode cL_cell 6 = .ok (.aload_n 0, 1) := by decide +kernel
theorem d_83_7 : decode cL_cell 7 = .ok (.iload_n 1, 1) := by decide +kernel
theorem d_83_8 : decode cL_cell 8 = .ok (.iaload, 1) := by decide +kernel
theorem d_83_9 : decode cL_cell 9 = .ok (.goto 11, 3) := by decide +kernel
theorem d_83_12 : decode cL_cell 12 = .ok (.ldc 7, 2) := by decide +kernel
theorem d_83_14 : decode cL_cell 14 = .ok (.iload_n 1, 1) := by decide +kernel
theorem d_83_15 : decode cL_cell 15 = .ok (.sipush 1609, 3) := by decide +kernel
theorem d_83_18 : decode cL_cell 18 = .ok (.iadd, 1) := by decide +kernel
theorem d_83_19 : decode cL_cell 19 = .ok (.imul, 1) := by decide +kernel
theorem d_83_20 : decode cL_cell 20 = .ok (.ireturn, 1) := by decide +kernel
theorem q_83_0 : zRun 83 0 [l0, some (.int x)] S sh mi mj mr = zRun 83 1 [l0, some (.int x)] (.int x :: S) sh mi mj mr := zr_l (zD_of zk_83 d_83_0 rfl rfl) rfl rfl rfl
theorem q_83_1r : zRun 83 1 [some (.ref o), l1] S sh mi mj mr = zRun 83 2 [some (.ref o), l1] (.ref o :: S) sh mi mj mr := zr_l (zD_of zk_83 d_83_1 rfl rfl) rfl rfl rfl
theorem q_83_1n : zRun 83 1 [some (.null), l1] S sh mi mj mr = zRun 83 2 [some (.null), l1] (.null :: S) sh mi mj mr := zr_l (zD_of zk_83 d_83_1 rfl rfl) rfl rfl rfl
theorem q_83_2 {n : Nat} (h : sh[0]? = some (99, n)) : zRun 83 2 L (.ref 0 :: S) sh mi mj mr = zRun 83 3 L (.int (Int32.ofNat n) :: S) sh mi mj mr := zr_slen (zD_of zk_83 d_83_2 rfl rfl) h
theorem q_83_3  : zRun 83 3 L (.int y :: .int x :: S) sh mi mj mr = if y ≤ x then zRun 83 12 L S sh mi mj mr else zRun 83 6 L S sh mi mj mr := zr_if (off := 9) (P := y ≤ x) (zD_of zk_83 d_83_3 rfl rfl) rfl rfl (by decide)
theorem q_83_6r : zRun 83 6 [some (.ref o), l1] S sh mi mj mr = zRun 83 7 [some (.ref o), l1] (.ref o :: S) sh mi mj mr := zr_l (zD_of zk_83 d_83_6 rfl rfl) rfl rfl rfl
theorem q_83_6n : zRun 83 6 [some (.null), l1] S sh mi mj mr = zRun 83 7 [some (.null), l1] (.null :: S) sh mi mj mr := zr_l (zD_of zk_83 d_83_6 rfl rfl) rfl rfl rfl
theorem q_83_7 : zRun 83 7 [l0, some (.int x)] S sh mi mj mr = zRun 83 8 [l0, some (.int x)] (.int x :: S) sh mi mj mr := zr_l (zD_of zk_83 d_83_7 rfl rfl) rfl rfl rfl
theorem q_83_8 {n : Nat} (h : sh[0]? = some (99, n)) (hi : zin x n = true) : zRun 83 8 L (.int x :: .ref 0 :: S) sh mi mj mr = zRun 83 9 L (.int (mi 0 x.toNatClampNeg) :: S) sh mi mj mr := zr_sald (zD_of zk_83 d_83_8 rfl rfl) h hi
theorem q_83_9  : zRun 83 9 L S sh mi mj mr = zRun 83 20 L S sh mi mj mr := zr_go (off := 11) (zD_of zk_83 d_83_9 rfl rfl) rfl rfl (by decide)
theorem q_83_12  : zRun 83 12 L S sh mi mj mr = zRun 83 14 L (.int 739982445 :: S) sh mi mj mr := zr_k32 (zD_of zk_83 d_83_12 rfl rfl) (by first | exact Or.inl rfl | exact Or.inr rfl) rfl
theorem q_83_14 : zRun 83 14 [l0, some (.int x)] S sh mi mj mr = zRun 83 15 [l0, some (.int x)] (.int x :: S) sh mi mj mr := zr_l (zD_of zk_83 d_83_14 rfl rfl) rfl rfl rfl
theorem q_83_15  : zRun 83 15 L S sh mi mj mr = zRun 83 18 L (.int 1609 :: S) sh mi mj mr := zr_p (zD_of zk_83 d_83_15 rfl rfl) rfl
theorem q_83_18  : zRun 83 18 L (.int y :: .int x :: S) sh mi mj mr = zRun 83 19 L (.int (x + y) :: S) sh mi mj mr := zr_p (zD_of zk_83 d_83_18 rfl rfl) rfl
theorem q_83_19  : zRun 83 19 L (.int y :: .int x :: S) sh mi mj mr = zRun 83 20 L (.int (x * y) :: S) sh mi mj mr := zr_p (zD_of zk_83 d_83_19 rfl rfl) rfl
theorem q_83_20  : zRun 83 20 L ([.int x]) sh mi mj mr = some (some (.int x), sh, mi, mj, mr) := zr_ret (zD_of zk_83 d_83_20 rfl rfl) rfl rfl rfl rfl rfl (if_pos rfl)
theorem e_83 {x0 : Int32} {o0 : Nat} : zCall 83 [.ref o0, .int x0] sh mi mj mr = zRun 83 0 [some (.ref o0), some (.int x0)] [] sh mi mj mr := rfl
theorem d_84_0 : decode cX7_fault 0 = .ok (.aload_n 0, 1) := by decide +kernel
theorem d_84_1 : decode cX7_fault 1 = .ok (.getfield 35, 3) := by decide +kernel
theorem d_84_4 : decode cX7_fault 4 = .ok (.aload_n 0, 1) := by decide +kernel
theorem d_84_5 : decode cX7_fault 5 = .ok (.getfield 9, 3) := by decide +kernel
theorem d_84_8 : decode cX7_fault 8 = .ok (.aload_n 0, 1) := by decide +kernel
theorem d_84_9 : decode cX7_fault 9 = .ok (.getfield 13, 3) := by decide +kernel
theorem d_84_12 : decode cX7_fault 12 = .ok (.invokevirtual 103, 3) := by decide +kernel
theorem d_84_15 : decode cX7_fault 15 = .ok (.ireturn, 1) := by decide +kernel
theorem q_84_0r : zRun 84 0 [some (.ref o)] S sh mi mj mr = zRun 84 1 [some (.ref o)] (.ref o :: S) sh mi mj mr := zr_l (zD_of zk_84 d_84_0 rfl rfl) rfl rfl rfl
theorem q_84_0n : zRun 84 0 [some (.null)] S sh mi mj mr = zRun 84 1 [some (.null)] (.null :: S) sh mi mj mr := zr_l (zD_of zk_84 d_84_0 rfl rfl) rfl rfl rfl
theorem q_84_1 (h : zIs sh o 0 7) : zRun 84 1 L (.ref o :: S) sh mi mj mr = zRun 84 4 L (va_rf (mr o 5) :: S) sh mi mj mr := zr_getR (zD_of zk_84 d_84_1 rfl rfl) rfl rfl rfl h
theorem q_84_4r : zRun 84 4 [some (.ref o)] S sh mi mj mr = zRun 84 5 [some (.ref o)] (.ref o :: S) sh mi mj mr := zr_l (zD_of zk_84 d_84_4 rfl rfl) rfl rfl rfl
theorem q_84_4n : zRun 84 4 [some (.null)] S sh mi mj mr = zRun 84 5 [some (.null)] (.null :: S) sh mi mj mr := zr_l (zD_of zk_84 d_84_4 rfl rfl) rfl rfl rfl
theorem q_84_5 (h : zIs sh o 0 7) : zRun 84 5 L (.ref o :: S) sh mi mj mr = zRun 84 8 L (va_rf (mr o 0) :: S) sh mi mj mr := zr_getR (zD_of zk_84 d_84_5 rfl rfl) rfl rfl rfl h
theorem q_84_8r : zRun 84 8 [some (.ref o)] S sh mi mj mr = zRun 84 9 [some (.ref o)] (.ref o :: S) sh mi mj mr := zr_l (zD_of zk_84 d_84_8 rfl rfl) rfl rfl rfl
theorem q_84_8n : zRun 84 8 [some (.null)] S sh mi mj mr = zRun 84 9 [some (.null)] (.null :: S) sh mi mj mr := zr_l (zD_of zk_84 d_84_8 rfl rfl) rfl rfl rfl
theorem q_84_9 (h : zIs sh o 0 7) : zRun 84 9 L (.ref o :: S) sh mi mj mr = zRun 84 12 L (.int (mi o 1) :: S) sh mi mj mr := zr_getI (zD_of zk_84 d_84_9 rfl rfl) rfl rfl (Or.inl rfl) h
theorem q_84_12  {x0 : Int32} {o0 : Nat} (hS : zcat S ≤ 8) (h : zIs sh o 0 4) : zRun 84 12 L (.int x0 :: .ref o0 :: .ref o :: S) sh mi mj mr = (zCall 55 [.ref o, .ref o0, .int x0] sh mi mj mr).bind fun r => zRun 84 15 L (r.1.toList ++ S) r.2.1 r.2.2.1 r.2.2.2.1 r.2.2.2.2 := zr_V (zD_of zk_84 d_84_12 rfl rfl) rfl zk_55 rfl rfl rfl hS h
theorem q_84_15  : zRun 84 15 L ([.int x]) sh mi mj mr = some (some (.int x), sh, mi, mj, mr) := zr_ret (zD_of zk_84 d_84_15 rfl rfl) rfl rfl rfl rfl rfl (if_pos rfl)
theorem e_84 : zCall 84 [.ref o] sh mi mj mr = zRun 84 0 [some (.ref o)] [] sh mi mj mr := rfl
theorem d_85_0 : decode cX7_load 0 = .ok (.iload_n 1, 1) := by decide +kernel
theorem d_85_1 : decode cX7_load 1 = .ok (.ifCond .lt 8, 3) := by decide +kernel
theorem d_85_4 : decode cX7_load 4 = .ok (.iload_n 1, 1) := by decide +kernel
theorem d_85_5 : decode cX7_load 5 = .ok (.iconst 4, 1) := by decide +kernel
theorem d_85_6 : decode cX7_load 6 = .ok (.if_icmp .lt 5, 3) := by decide +kernel
theorem d_85_9 : decode cX7_load 9 = .ok (.iconst (-1), 1) := by decide +kernel
theorem d_85_10 : decode cX7_load 10 = .ok (.ireturn, 1) := by decide +kernel
theorem d_85_11 : decode cX7_load 11 = .ok (.aload_n 0, 1) := by decide +kernel
theorem d_85_12 : decode cX7_load 12 = .ok (.getfield 35, 3) := by decide +kernel
theorem d_85_15 : decode cX7_load 15 = .ok (.aload_n 0, 1) := by decide +kernel
theorem d_85_16 : decode cX7_load 16 = .ok (.getfield 9, 3) := by decide +kernel
theorem d_85_19 : decode cX7_load 19 = .ok (.aload_n 0, 1) := by decide +kernel
theorem d_85_20 : decode cX7_load 20 = .ok (.getfield 13, 3) := by decide +kernel
theorem d_85_23 : decode cX7_load 23 = .ok (.invokevirtual 103, 3) := by decide +kernel
theorem d_85_26 : decode cX7_load 26 = .ok (.bipush (-6), 2) := by decide +kernel
theorem d_85_28 : decode cX7_load 28 = .ok (.if_icmp .eq 6, 3) := by decide +kernel
theorem d_85_31 : decode cX7_load 31 = .ok (.bipush (-3), 2) := by decide +kernel
theorem d_85_33 : decode cX7_load 33 = .ok (.ireturn, 1) := by decide +kernel
theorem d_85_34 : decode cX7_load 34 = .ok (.aload_n 0, 1) := by decide +kernel
theorem d_85_35 : decode cX7_load 35 = .ok (.getfield 20, 3) := by decide +kernel
theorem d_85_38 : decode cX7_load 38 = .ok (.getfield 107, 3) := by decide +kernel
theorem d_85_41 : decode cX7_load 41 = .ok (.iload_n 1, 1) := by decide +kernel
theorem d_85_42 : decode cX7_load 42 = .ok (.aaload, 1) := by decide +kernel
theorem d_85_43 : decode cX7_load 43 = .ok (.aload_n 0, 1) := by decide +kernel
theorem d_85_44 : decode cX7_load 44 = .ok (.getfield 35, 3) := by decide +kernel
theorem d_85_47 : decode cX7_load 47 = .ok (.getfield 111, 3) := by decide +kernel
theorem d_85_50 : decode cX7_load 50 = .ok (.invokevirtual 115, 3) := by decide +kernel
theorem d_85_53 : decode cX7_load 53 = .ok (.aload_n 0, 1) := by decide +kernel
theorem d_85_54 : decode cX7_load 54 = .ok (.iconst 0, 1) := by decide +kernel
theorem d_85_55 : decode cX7_load 55 = .ok (.putfield 13, 3) := by decide +kernel
theorem d_85_58 : decode cX7_load 58 = .ok (.aload_n 0, 1) := by decide +kernel
theorem d_85_59 : decode cX7_load 59 = .ok (.getfield 35, 3) := by decide +kernel
theorem d_85_62 : decode cX7_load 62 = .ok (.getfield 111, 3) := by decide +kernel
theorem d_85_65 : decode cX7_load 65 = .ok (.getfield 121, 3) := by decide +kernel
theorem d_85_68 : decode cX7_load 68 = .ok (.ireturn, 1) := by decide +kernel
theorem q_85_0 : zRun 85 0 [l0, some (.int x)] S sh mi mj mr = zRun 85 1 [l0, some (.int x)] (.int x :: S) sh mi mj mr := zr_l (zD_of zk_85 d_85_0 rfl rfl) rfl rfl rfl
theorem q_85_1  : zRun 85 1 L (.int x :: S) sh mi mj mr = if x < 0 then zRun 85 9 L S sh mi mj mr else zRun 85 4 L S sh mi mj mr := zr_if (off := 8) (P := x < 0) (zD_of zk_85 d_85_1 rfl rfl) rfl rfl (by decide)
theorem q_85_4 : zRun 85 4 [l0, some (.int x)] S sh mi mj mr = zRun 85 5 [l0, some (.int x)] (.int x :: S) sh mi mj mr := zr_l (zD_of zk_85 d_85_4 rfl rfl) rfl rfl rfl
theorem q_85_5  : zRun 85 5 L S sh mi mj mr = zRun 85 6 L (.int 4 :: S) sh mi mj mr := zr_p (zD_of zk_85 d_85_5 rfl rfl) rfl
theorem q_85_6  : zRun 85 6 L (.int y :: .int x :: S) sh mi mj mr = if x < y then zRun 85 11 L S sh mi mj mr else zRun 85 9 L S sh mi mj mr := zr_if (off := 5) (P := x < y) (zD_of zk_85 d_85_6 rfl rfl) rfl rfl (by decide)
theorem q_85_9  : zRun 85 9 L S sh mi mj mr = zRun 85 10 L (.int (-1) :: S) sh mi mj mr := zr_p (zD_of zk_85 d_85_9 rfl rfl) rfl
theorem q_85_10  : zRun 85 10 L ([.int x]) sh mi mj mr = some (some (.int x), sh, mi, mj, mr) := zr_ret (zD_of zk_85 d_85_10 rfl rfl) rfl rfl rfl rfl rfl (if_pos rfl)
theorem q_85_11r : zRun 85 11 [some (.ref o), l1] S sh mi mj mr = zRun 85 12 [some (.ref o), l1] (.ref o :: S) sh mi mj mr := zr_l (zD_of zk_85 d_85_11 rfl rfl) rfl rfl rfl
theorem q_85_11n : zRun 85 11 [some (.null), l1] S sh mi mj mr = zRun 85 12 [some (.null), l1] (.null :: S) sh mi mj mr := zr_l (zD_of zk_85 d_85_11 rfl rfl) rfl rfl rfl
theorem q_85_12 (h : zIs sh o 0 7) : zRun 85 12 L (.ref o :: S) sh mi mj mr = zRun 85 15 L (va_rf (mr o 5) :: S) sh mi mj mr := zr_getR (zD_of zk_85 d_85_12 rfl rfl) rfl rfl rfl h
theorem q_85_15r : zRun 85 15 [some (.ref o), l1] S sh mi mj mr = zRun 85 16 [some (.ref o), l1] (.ref o :: S) sh mi mj mr := zr_l (zD_of zk_85 d_85_15 rfl rfl) rfl rfl rfl
theorem q_85_15n : zRun 85 15 [some (.null), l1] S sh mi mj mr = zRun 85 16 [some (.null), l1] (.null :: S) sh mi mj mr := zr_l (zD_of zk_85 d_85_15 rfl rfl) rfl rfl rfl
theorem q_85_16 (h : zIs sh o 0 7) : zRun 85 16 L (.ref o :: S) sh mi mj mr = zRun 85 19 L (va_rf (mr o 0) :: S) sh mi mj mr := zr_getR (zD_of zk_85 d_85_16 rfl rfl) rfl rfl rfl h
theorem q_85_19r : zRun 85 19 [some (.ref o), l1] S sh mi mj mr = zRun 85 20 [some (.ref o), l1] (.ref o :: S) sh mi mj mr := zr_l (zD_of zk_85 d_85_19 rfl rfl) rfl rfl rfl
theorem q_85_19n : zRun 85 19 [some (.null), l1] S sh mi mj mr = zRun 85 20 [some (.null), l1] (.null :: S) sh mi mj mr := zr_l (zD_of zk_85 d_85_19 rfl rfl) rfl rfl rfl
theorem q_85_20 (h : zIs sh o 0 7) : zRun 85 20 L (.ref o :: S) sh mi mj mr = zRun 85 23 L (.int (mi o 1) :: S) sh mi mj mr := zr_getI (zD_of zk_85 d_85_20 rfl rfl) rfl rfl (Or.inl rfl) h
theorem q_85_23  {x0 : Int32} {o0 : Nat} (hS : zcat S ≤ 8) (h : zIs sh o 0 4) : zRun 85 23 L (.int x0 :: .ref o0 :: .ref o :: S) sh mi mj mr = (zCall 55 [.ref o, .ref o0, .int x0] sh mi mj mr).bind fun r => zRun 85 26 L (r.1.toList ++ S) r.2.1 r.2.2.1 r.2.2.2.1 r.2.2.2.2 := zr_V (zD_of zk_85 d_85_23 rfl rfl) rfl zk_55 rfl rfl rfl hS h
theorem q_85_26  : zRun 85 26 L S sh mi mj mr = zRun 85 28 L (.int (-6) :: S) sh mi mj mr := zr_p (zD_of zk_85 d_85_26 rfl rfl) rfl
theorem q_85_28  : zRun 85 28 L (.int y :: .int x :: S) sh mi mj mr = if x = y then zRun 85 34 L S sh mi mj mr else zRun 85 31 L S sh mi mj mr := zr_if (off := 6) (P := x = y) (zD_of zk_85 d_85_28 rfl rfl) rfl rfl (by decide)
theorem q_85_31  : zRun 85 31 L S sh mi mj mr = zRun 85 33 L (.int (-3) :: S) sh mi mj mr := zr_p (zD_of zk_85 d_85_31 rfl rfl) rfl
theorem q_85_33  : zRun 85 33 L ([.int x]) sh mi mj mr = some (some (.int x), sh, mi, mj, mr) := zr_ret (zD_of zk_85 d_85_33 rfl rfl) rfl rfl rfl rfl rfl (if_pos rfl)
theorem q_85_34r : zRun 85 34 [some (.ref o), l1] S sh mi mj mr = zRun 85 35 [some (.ref o), l1] (.ref o :: S) sh mi mj mr := zr_l (zD_of zk_85 d_85_34 rfl rfl) rfl rfl rfl
theorem q_85_34n : zRun 85 34 [some (.null), l1] S sh mi mj mr = zRun 85 35 [some (.null), l1] (.null :: S) sh mi mj mr := zr_l (zD_of zk_85 d_85_34 rfl rfl) rfl rfl rfl
theorem q_85_35 (h : zIs sh o 0 7) : zRun 85 35 L (.ref o :: S) sh mi mj mr = zRun 85 38 L (va_rf (mr o 2) :: S) sh mi mj mr := zr_getR (zD_of zk_85 d_85_35 rfl rfl) rfl rfl rfl h
theorem q_85_38 (h : zIs sh o 0 5) : zRun 85 38 L (.ref o :: S) sh mi mj mr = zRun 85 41 L (va_rf (mr o 1) :: S) sh mi mj mr := zr_getR (zD_of zk_85 d_85_38 rfl rfl) rfl rfl rfl h
theorem q_85_41 : zRun 85 41 [l0, some (.int x)] S sh mi mj mr = zRun 85 42 [l0, some (.int x)] (.int x :: S) sh mi mj mr := zr_l (zD_of zk_85 d_85_41 rfl rfl) rfl rfl rfl
theorem q_85_42t7 (h : zAt sh o 7 x) : zRun 85 42 L (.int x :: .ref o :: S) sh mi mj mr = zRun 85 43 L (va_rf (mr o x.toNatClampNeg) :: S) sh mi mj mr := zr_aald (zD_of zk_85 d_85_42 rfl rfl) (by decide) h
theorem q_85_42t10 (h : zAt sh o 10 x) : zRun 85 42 L (.int x :: .ref o :: S) sh mi mj mr = zRun 85 43 L (va_rf (mr o x.toNatClampNeg) :: S) sh mi mj mr := zr_aald (zD_of zk_85 d_85_42 rfl rfl) (by decide) h
theorem q_85_42t11 (h : zAt sh o 11 x) : zRun 85 42 L (.int x :: .ref o :: S) sh mi mj mr = zRun 85 43 L (va_rf (mr o x.toNatClampNeg) :: S) sh mi mj mr := zr_aald (zD_of zk_85 d_85_42 rfl rfl) (by decide) h
theorem q_85_43r : zRun 85 43 [some (.ref o), l1] S sh mi mj mr = zRun 85 44 [some (.ref o), l1] (.ref o :: S) sh mi mj mr := zr_l (zD_of zk_85 d_85_43 rfl rfl) rfl rfl rfl
theorem q_85_43n : zRun 85 43 [some (.null), l1] S sh mi mj mr = zRun 85 44 [some (.null), l1] (.null :: S) sh mi mj mr := zr_l (zD_of zk_85 d_85_43 rfl rfl) rfl rfl rfl
theorem q_85_44 (h : zIs sh o 0 7) : zRun 85 44 L (.ref o :: S) sh mi mj mr = zRun 85 47 L (va_rf (mr o 5) :: S) sh mi mj mr := zr_getR (zD_of zk_85 d_85_44 rfl rfl) rfl rfl rfl h
theorem q_85_47 (h : zIs sh o 0 4) : zRun 85 47 L (.ref o :: S) sh mi mj mr = zRun 85 50 L (va_rf (mr o 0) :: S) sh mi mj mr := zr_getR (zD_of zk_85 d_85_47 rfl rfl) rfl rfl rfl h
theorem q_85_50  {o0 : Nat} (hS : zcat S ≤ 8) (h : zIs sh o 0 6) : zRun 85 50 L (.ref o0 :: .ref o :: S) sh mi mj mr = (zCall 74 [.ref o, .ref o0] sh mi mj mr).bind fun r => zRun 85 53 L (r.1.toList ++ S) r.2.1 r.2.2.1 r.2.2.2.1 r.2.2.2.2 := zr_V (zD_of zk_85 d_85_50 rfl rfl) rfl zk_74 rfl rfl rfl hS h
theorem q_85_53r : zRun 85 53 [some (.ref o), l1] S sh mi mj mr = zRun 85 54 [some (.ref o), l1] (.ref o :: S) sh mi mj mr := zr_l (zD_of zk_85 d_85_53 rfl rfl) rfl rfl rfl
theorem q_85_53n : zRun 85 53 [some (.null), l1] S sh mi mj mr = zRun 85 54 [some (.null), l1] (.null :: S) sh mi mj mr := zr_l (zD_of zk_85 d_85_53 rfl rfl) rfl rfl rfl
theorem q_85_54  : zRun 85 54 L S sh mi mj mr = zRun 85 55 L (.int 0 :: S) sh mi mj mr := zr_p (zD_of zk_85 d_85_54 rfl rfl) rfl
theorem q_85_55 (h : zIs sh o 0 7) : zRun 85 55 L (.int x :: .ref o :: S) sh mi mj mr = zRun 85 58 L S sh (zup mi o 1 x) mj mr := zr_putI (zD_of zk_85 d_85_55 rfl rfl) rfl rfl rfl (Or.inl rfl) h
theorem q_85_58r : zRun 85 58 [some (.ref o), l1] S sh mi mj mr = zRun 85 59 [some (.ref o), l1] (.ref o :: S) sh mi mj mr := zr_l (zD_of zk_85 d_85_58 rfl rfl) rfl rfl rfl
theorem q_85_58n : zRun 85 58 [some (.null), l1] S sh mi mj mr = zRun 85 59 [some (.null), l1] (.null :: S) sh mi mj mr := zr_l (zD_of zk_85 d_85_58 rfl rfl) rfl rfl rfl
theorem q_85_59 (h : zIs sh o 0 7) : zRun 85 59 L (.ref o :: S) sh mi mj mr = zRun 85 62 L (va_rf (mr o 5) :: S) sh mi mj mr := zr_getR (zD_of zk_85 d_85_59 rfl rfl) rfl rfl rfl h
theorem q_85_62 (h : zIs sh o 0 4) : zRun 85 62 L (.ref o :: S) sh mi mj mr = zRun 85 65 L (va_rf (mr o 0) :: S) sh mi mj mr := zr_getR (zD_of zk_85 d_85_62 rfl rfl) rfl rfl rfl h
theorem q_85_65 (h : zIs sh o 0 6) : zRun 85 65 L (.ref o :: S) sh mi mj mr = zRun 85 68 L (.int (mi o 2) :: S) sh mi mj mr := zr_getI (zD_of zk_85 d_85_65 rfl rfl) rfl rfl (Or.inl rfl) h
theorem q_85_68  : zRun 85 68 L ([.int x]) sh mi mj mr = some (some (.int x), sh, mi, mj, mr) := zr_ret (zD_of zk_85 d_85_68 rfl rfl) rfl rfl rfl rfl rfl (if_pos rfl)
theorem e_85 {x0 : Int32} : zCall 85 [.ref o, .int x0] sh mi mj mr = zRun 85 0 [some (.ref o), some (.int x0)] [] sh mi mj mr := rfl
theorem d_86_0 : decode cX7_step 0 = .ok (.aload_n 0, 1) := by decide +kernel
theorem d_86_1 : decode cX7_step 1 = .ok (.iload_n 1, 1) := by decide +kernel
theorem d_86_2 : decode cX7_step 2 = .ok (.invokevirtual 124, 3) := by decide +kernel
theorem d_86_5 : decode cX7_step 5 = .ok (.astore 4, 2) := by decide +kernel
theorem d_86_7 : decode cX7_step 7 = .ok (.aload 4, 2) := by decide +kernel
theorem d_86_9 : decode cX7_step 9 = .ok (.ifnull 17, 3) := by decide +kernel
theorem d_86_12 : decode cX7_step 12 = .ok (.iload_n 2, 1) := by decide +kernel
theorem d_86_13 : decode cX7_step 13 = .ok (.iconst (-1), 1) := by decide +kernel
theorem d_86_14 : decode cX7_step 14 = .ok (.if_icmp .lt 12, 3) := by decide +kernel
theorem d_86_17 : decode cX7_step 17 = .ok (.iload_n 2, 1) := by decide +kernel
theorem d_86_18 : decode cX7_step 18 = .ok (.aload 4, 2) := by decide +kernel
theorem d_86_20 : decode cX7_step 20 = .ok (.getfield 121, 3) := by decide +kernel
theorem d_86_23 : decode cX7_step 23 = .ok (.if_icmp .lt 5, 3) := by decide +kernel
theorem d_86_26 : decode cX7_step 26 = .ok (.iconst (-1), 1) := by decide +kernel
theorem d_86_27 : decode cX7_step 27 = .ok (.ireturn, 1) := by decide +kernel
theorem d_86_28 : decode cX7_step 28 = .ok (.iload_n 3, 1) := by decide +kernel
theorem d_86_29 : decode cX7_step 29 = .ok (.ifCond .eq 11, 3) := by decide +kernel
theorem d_86_32 : decode cX7_step 32 = .ok (.iload_n 3, 1) := by decide +kernel
theorem d_86_33 : decode cX7_step 33 = .ok (.iconst 1, 1) := by decide +kernel
theorem d_86_34 : decode cX7_step 34 = .ok (.if_icmp .eq 6, 3) := by decide +kernel
theorem d_86_37 : decode cX7_step 37 = .ok (.bipush (-2), 2) := by decide +kernel
theorem d_86_39 : decode cX7_step 39 = .ok (.ireturn, 1) := by decide +kernel
theorem d_86_40 : decode cX7_step 40 = .ok (.iload_n 2, 1) := by decide +kernel
theorem d_86_41 : decode cX7_step 41 = .ok (.iconst (-1), 1) := by decide +kernel
theorem d_86_42 : decode cX7_step 42 = .ok (.if_icmp .ne 9, 3) := by decide +kernel
theorem d_86_45 : decode cX7_step 45 = .ok (.aload 4, 2) := by decide +kernel
theorem d_86_47 : decode cX7_step 47 = .ok (.getfield 121, 3) := by decide +kernel
theorem d_86_50 : decode cX7_step 50 = .ok (.ireturn, 1) := by decide +kernel
theorem d_86_51 : decode cX7_step 51 = .ok (.iload_n 3, 1) := by decide +kernel
theorem d_86_52 : decode cX7_step 52 = .ok (.ifCond .ne 11, 3) := by decide +kernel
theorem d_86_55 : decode cX7_step 55 = .ok (.aload 4, 2) := by decide +kernel
theorem d_86_57 : decode cX7_step 57 = .ok (.getfield 128, 3) := by decide +kernel
theorem d_86_60 : decode cX7_step 60 = .ok (.iload_n 2, 1) := by decide +kernel
theorem d_86_61 : decode cX7_step 61 = .ok (.iaload, 1) := by decide +kernel
theorem d_86_62 : decode cX7_step 62 = .ok (.ireturn, 1) := by decide +kernel
theorem d_86_63 : decode cX7_step 63 = .ok (.aload 4, 2) := by decide +kernel
theorem d_86_65 : decode cX7_step 65 = .ok (.getfield 128, 3) := by decide +kernel
theorem d_86_68 : decode cX7_step 68 = .ok (.iload_n 2, 1) := by decide +kernel
theorem d_86_69 : decode cX7_step 69 = .ok (.iaload, 1) := by decide +kernel
theorem d_86_70 : decode cX7_step 70 = .ok (.ifCond .ne 13, 3) := by decide +kernel
theorem d_86_73 : decode cX7_step 73 = .ok (.aload 4, 2) := by decide +kernel
theorem d_86_75 : decode cX7_step 75 = .ok (.getfield 131, 3) := by decide +kernel
theorem d_86_78 : decode cX7_step 78 = .ok (.iload_n 2, 1) := by decide +kernel
theorem d_86_79 : decode cX7_step 79 = .ok (.iaload, 1) := by decide +kernel
theorem d_86_80 : decode cX7_step 80 = .ok (.goto 5, 3) := by decide +kernel
theorem d_86_83 : decode cX7_step 83 = .ok (.bipush (-6), 2) := by decide +kernel
theorem d_86_85 : decode cX7_step 85 = .ok (.ireturn, 1) := by decide +kernel
theorem q_86_0r : zRun 86 0 [some (.ref o), l1, l2, l3, l4] S sh mi mj mr = zRun 86 1 [some (.ref o), l1, l2, l3, l4] (.ref o :: S) sh mi mj mr := zr_l (zD_of zk_86 d_86_0 rfl rfl) rfl rfl rfl
theorem q_86_0n : zRun 86 0 [some (.null), l1, l2, l3, l4] S sh mi mj mr = zRun 86 1 [some (.null), l1, l2, l3, l4] (.null :: S) sh mi mj mr := zr_l (zD_of zk_86 d_86_0 rfl rfl) rfl rfl rfl
theorem q_86_1 : zRun 86 1 [l0, some (.int x), l2, l3, l4] S sh mi mj mr = zRun 86 2 [l0, some (.int x), l2, l3, l4] (.int x :: S) sh mi mj mr := zr_l (zD_of zk_86 d_86_1 rfl rfl) rfl rfl rfl
theorem q_86_2  {x0 : Int32} (hS : zcat S ≤ 8) (h : zIs sh o 0 7) : zRun 86 2 L (.int x0 :: .ref o :: S) sh mi mj mr = (zCall 103 [.ref o, .int x0] sh mi mj mr).bind fun r => zRun 86 5 L (r.1.toList ++ S) r.2.1 r.2.2.1 r.2.2.2.1 r.2.2.2.2 := zr_V (zD_of zk_86 d_86_2 rfl rfl) rfl zk_103 rfl rfl rfl hS h
theorem q_86_5r : zRun 86 5 [l0, l1, l2, l3, l4] (.ref o :: S) sh mi mj mr = zRun 86 7 [l0, l1, l2, zk2 l3, some (.ref o)] S sh mi mj mr := zr_s1 (i := 4) (v := .ref o) (L := [l0, l1, l2, l3, l4]) (zD_of zk_86 d_86_5 rfl rfl) rfl rfl rfl rfl
theorem q_86_5n : zRun 86 5 [l0, l1, l2, l3, l4] (.null :: S) sh mi mj mr = zRun 86 7 [l0, l1, l2, zk2 l3, some (.null)] S sh mi mj mr := zr_s1 (i := 4) (v := .null) (L := [l0, l1, l2, l3, l4]) (zD_of zk_86 d_86_5 rfl rfl) rfl rfl rfl rfl
theorem q_86_7r : zRun 86 7 [l0, l1, l2, l3, some (.ref o)] S sh mi mj mr = zRun 86 9 [l0, l1, l2, l3, some (.ref o)] (.ref o :: S) sh mi mj mr := zr_l (zD_of zk_86 d_86_7 rfl rfl) rfl rfl rfl
theorem q_86_7n : zRun 86 7 [l0, l1, l2, l3, some (.null)] S sh mi mj mr = zRun 86 9 [l0, l1, l2, l3, some (.null)] (.null :: S) sh mi mj mr := zr_l (zD_of zk_86 d_86_7 rfl rfl) rfl rfl rfl
theorem q_86_9n : zRun 86 9 L (.null :: S) sh mi mj mr = zRun 86 26 L S sh mi mj mr := zr_go (off := 17) (zD_of zk_86 d_86_9 rfl rfl) rfl rfl (by decide)
theorem q_86_9r : zRun 86 9 L (.ref o :: S) sh mi mj mr = zRun 86 12 L S sh mi mj mr := zr_no (off := 17) (zD_of zk_86 d_86_9 rfl rfl) rfl rfl (by decide)
theorem q_86_12 : zRun 86 12 [l0, l1, some (.int x), l3, l4] S sh mi mj mr = zRun 86 13 [l0, l1, some (.int x), l3, l4] (.int x :: S) sh mi mj mr := zr_l (zD_of zk_86 d_86_12 rfl rfl) rfl rfl rfl
theorem q_86_13  : zRun 86 13 L S sh mi mj mr = zRun 86 14 L (.int (-1) :: S) sh mi mj mr := zr_p (zD_of zk_86 d_86_13 rfl rfl) rfl
theorem q_86_14  : zRun 86 14 L (.int y :: .int x :: S) sh mi mj mr = if x < y then zRun 86 26 L S sh mi mj mr else zRun 86 17 L S sh mi mj mr := zr_if (off := 12) (P := x < y) (zD_of zk_86 d_86_14 rfl rfl) rfl rfl (by decide)
theorem q_86_17 : zRun 86 17 [l0, l1, some (.int x), l3, l4] S sh mi mj mr = zRun 86 18 [l0, l1, some (.int x), l3, l4] (.int x :: S) sh mi mj mr := zr_l (zD_of zk_86 d_86_17 rfl rfl) rfl rfl rfl
theorem q_86_18r : zRun 86 18 [l0, l1, l2, l3, some (.ref o)] S sh mi mj mr = zRun 86 20 [l0, l1, l2, l3, some (.ref o)] (.ref o :: S) sh mi mj mr := zr_l (zD_of zk_86 d_86_18 rfl rfl) rfl rfl rfl
theorem q_86_18n : zRun 86 18 [l0, l1, l2, l3, some (.null)] S sh mi mj mr = zRun 86 20 [l0, l1, l2, l3, some (.null)] (.null :: S) sh mi mj mr := zr_l (zD_of zk_86 d_86_18 rfl rfl) rfl rfl rfl
theorem q_86_20 (h : zIs sh o 0 6) : zRun 86 20 L (.ref o :: S) sh mi mj mr = zRun 86 23 L (.int (mi o 2) :: S) sh mi mj mr := zr_getI (zD_of zk_86 d_86_20 rfl rfl) rfl rfl (Or.inl rfl) h
theorem q_86_23  : zRun 86 23 L (.int y :: .int x :: S) sh mi mj mr = if x < y then zRun 86 28 L S sh mi mj mr else zRun 86 26 L S sh mi mj mr := zr_if (off := 5) (P := x < y) (zD_of zk_86 d_86_23 rfl rfl) rfl rfl (by decide)
theorem q_86_26  : zRun 86 26 L S sh mi mj mr = zRun 86 27 L (.int (-1) :: S) sh mi mj mr := zr_p (zD_of zk_86 d_86_26 rfl rfl) rfl
theorem q_86_27  : zRun 86 27 L ([.int x]) sh mi mj mr = some (some (.int x), sh, mi, mj, mr) := zr_ret (zD_of zk_86 d_86_27 rfl rfl) rfl rfl rfl rfl rfl (if_pos rfl)
theorem q_86_28 : zRun 86 28 [l0, l1, l2, some (.int x), l4] S sh mi mj mr = zRun 86 29 [l0, l1, l2, some (.int x), l4] (.int x :: S) sh mi mj mr := zr_l (zD_of zk_86 d_86_28 rfl rfl) rfl rfl rfl
theorem q_86_29  : zRun 86 29 L (.int x :: S) sh mi mj mr = if x = 0 then zRun 86 40 L S sh mi mj mr else zRun 86 32 L S sh mi mj mr := zr_if (off := 11) (P := x = 0) (zD_of zk_86 d_86_29 rfl rfl) rfl rfl (by decide)
theorem q_86_32 : zRun 86 32 [l0, l1, l2, some (.int x), l4] S sh mi mj mr = zRun 86 33 [l0, l1, l2, some (.int x), l4] (.int x :: S) sh mi mj mr := zr_l (zD_of zk_86 d_86_32 rfl rfl) rfl rfl rfl
theorem q_86_33  : zRun 86 33 L S sh mi mj mr = zRun 86 34 L (.int 1 :: S) sh mi mj mr := zr_p (zD_of zk_86 d_86_33 rfl rfl) rfl
theorem q_86_34  : zRun 86 34 L (.int y :: .int x :: S) sh mi mj mr = if x = y then zRun 86 40 L S sh mi mj mr else zRun 86 37 L S sh mi mj mr := zr_if (off := 6) (P := x = y) (zD_of zk_86 d_86_34 rfl rfl) rfl rfl (by decide)
theorem q_86_37  : zRun 86 37 L S sh mi mj mr = zRun 86 39 L (.int (-2) :: S) sh mi mj mr := zr_p (zD_of zk_86 d_86_37 rfl rfl) rfl
theorem q_86_39  : zRun 86 39 L ([.int x]) sh mi mj mr = some (some (.int x), sh, mi, mj, mr) := zr_ret (zD_of zk_86 d_86_39 rfl rfl) rfl rfl rfl rfl rfl (if_pos rfl)
theorem q_86_40 : zRun 86 40 [l0, l1, some (.int x), l3, l4] S sh mi mj mr = zRun 86 41 [l0, l1, some (.int x), l3, l4] (.int x :: S) sh mi mj mr := zr_l (zD_of zk_86 d_86_40 rfl rfl) rfl rfl rfl
theorem q_86_41  : zRun 86 41 L S sh mi mj mr = zRun 86 42 L (.int (-1) :: S) sh mi mj mr := zr_p (zD_of zk_86 d_86_41 rfl rfl) rfl
theorem q_86_42  : zRun 86 42 L (.int y :: .int x :: S) sh mi mj mr = if ¬ x = y then zRun 86 51 L S sh mi mj mr else zRun 86 45 L S sh mi mj mr := zr_if (off := 9) (P := ¬ x = y) (zD_of zk_86 d_86_42 rfl rfl) rfl rfl (by decide)
theorem q_86_45r : zRun 86 45 [l0, l1, l2, l3, some (.ref o)] S sh mi mj mr = zRun 86 47 [l0, l1, l2, l3, some (.ref o)] (.ref o :: S) sh mi mj mr := zr_l (zD_of zk_86 d_86_45 rfl rfl) rfl rfl rfl
theorem q_86_45n : zRun 86 45 [l0, l1, l2, l3, some (.null)] S sh mi mj mr = zRun 86 47 [l0, l1, l2, l3, some (.null)] (.null :: S) sh mi mj mr := zr_l (zD_of zk_86 d_86_45 rfl rfl) rfl rfl rfl
theorem q_86_47 (h : zIs sh o 0 6) : zRun 86 47 L (.ref o :: S) sh mi mj mr = zRun 86 50 L (.int (mi o 2) :: S) sh mi mj mr := zr_getI (zD_of zk_86 d_86_47 rfl rfl) rfl rfl (Or.inl rfl) h
theorem q_86_50  : zRun 86 50 L ([.int x]) sh mi mj mr = some (some (.int x), sh, mi, mj, mr) := zr_ret (zD_of zk_86 d_86_50 rfl rfl) rfl rfl rfl rfl rfl (if_pos rfl)
theorem q_86_51 : zRun 86 51 [l0, l1, l2, some (.int x), l4] S sh mi mj mr = zRun 86 52 [l0, l1, l2, some (.int x), l4] (.int x :: S) sh mi mj mr := zr_l (zD_of zk_86 d_86_51 rfl rfl) rfl rfl rfl
theorem q_86_52  : zRun 86 52 L (.int x :: S) sh mi mj mr = if ¬ x = 0 then zRun 86 63 L S sh mi mj mr else zRun 86 55 L S sh mi mj mr := zr_if (off := 11) (P := ¬ x = 0) (zD_of zk_86 d_86_52 rfl rfl) rfl rfl (by decide)
theorem q_86_55r : zRun 86 55 [l0, l1, l2, l3, some (.ref o)] S sh mi mj mr = zRun 86 57 [l0, l1, l2, l3, some (.ref o)] (.ref o :: S) sh mi mj mr := zr_l (zD_of zk_86 d_86_55 rfl rfl) rfl rfl rfl
theorem q_86_55n : zRun 86 55 [l0, l1, l2, l3, some (.null)] S sh mi mj mr = zRun 86 57 [l0, l1, l2, l3, some (.null)] (.null :: S) sh mi mj mr := zr_l (zD_of zk_86 d_86_55 rfl rfl) rfl rfl rfl
theorem q_86_57 (h : zIs sh o 0 6) : zRun 86 57 L (.ref o :: S) sh mi mj mr = zRun 86 60 L (va_rf (mr o 0) :: S) sh mi mj mr := zr_getR (zD_of zk_86 d_86_57 rfl rfl) rfl rfl rfl h
theorem q_86_60 : zRun 86 60 [l0, l1, some (.int x), l3, l4] S sh mi mj mr = zRun 86 61 [l0, l1, some (.int x), l3, l4] (.int x :: S) sh mi mj mr := zr_l (zD_of zk_86 d_86_60 rfl rfl) rfl rfl rfl
theorem q_86_61 (h : zAt sh o 1 x) : zRun 86 61 L (.int x :: .ref o :: S) sh mi mj mr = zRun 86 62 L (.int (mi o x.toNatClampNeg) :: S) sh mi mj mr := zr_iald (zD_of zk_86 d_86_61 rfl rfl) h
theorem q_86_62  : zRun 86 62 L ([.int x]) sh mi mj mr = some (some (.int x), sh, mi, mj, mr) := zr_ret (zD_of zk_86 d_86_62 rfl rfl) rfl rfl rfl rfl rfl (if_pos rfl)
theorem q_86_63r : zRun 86 63 [l0, l1, l2, l3, some (.ref o)] S sh mi mj mr = zRun 86 65 [l0, l1, l2, l3, some (.ref o)] (.ref o :: S) sh mi mj mr := zr_l (zD_of zk_86 d_86_63 rfl rfl) rfl rfl rfl
theorem q_86_63n : zRun 86 63 [l0, l1, l2, l3, some (.null)] S sh mi mj mr = zRun 86 65 [l0, l1, l2, l3, some (.null)] (.null :: S) sh mi mj mr := zr_l (zD_of zk_86 d_86_63 rfl rfl) rfl rfl rfl
theorem q_86_65 (h : zIs sh o 0 6) : zRun 86 65 L (.ref o :: S) sh mi mj mr = zRun 86 68 L (va_rf (mr o 0) :: S) sh mi mj mr := zr_getR (zD_of zk_86 d_86_65 rfl rfl) rfl rfl rfl h
theorem q_86_68 : zRun 86 68 [l0, l1, some (.int x), l3, l4] S sh mi mj mr = zRun 86 69 [l0, l1, some (.int x), l3, l4] (.int x :: S) sh mi mj mr := zr_l (zD_of zk_86 d_86_68 rfl rfl) rfl rfl rfl
theorem q_86_69 (h : zAt sh o 1 x) : zRun 86 69 L (.int x :: .ref o :: S) sh mi mj mr = zRun 86 70 L (.int (mi o x.toNatClampNeg) :: S) sh mi mj mr := zr_iald (zD_of zk_86 d_86_69 rfl rfl) h
theorem q_86_70  : zRun 86 70 L (.int x :: S) sh mi mj mr = if ¬ x = 0 then zRun 86 83 L S sh mi mj mr else zRun 86 73 L S sh mi mj mr := zr_if (off := 13) (P := ¬ x = 0) (zD_of zk_86 d_86_70 rfl rfl) rfl rfl (by decide)
theorem q_86_73r : zRun 86 73 [l0, l1, l2, l3, some (.ref o)] S sh mi mj mr = zRun 86 75 [l0, l1, l2, l3, some (.ref o)] (.ref o :: S) sh mi mj mr := zr_l (zD_of zk_86 d_86_73 rfl rfl) rfl rfl rfl
theorem q_86_73n : zRun 86 73 [l0, l1, l2, l3, some (.null)] S sh mi mj mr = zRun 86 75 [l0, l1, l2, l3, some (.null)] (.null :: S) sh mi mj mr := zr_l (zD_of zk_86 d_86_73 rfl rfl) rfl rfl rfl
theorem q_86_75 (h : zIs sh o 0 6) : zRun 86 75 L (.ref o :: S) sh mi mj mr = zRun 86 78 L (va_rf (mr o 1) :: S) sh mi mj mr := zr_getR (zD_of zk_86 d_86_75 rfl rfl) rfl rfl rfl h
theorem q_86_78 : zRun 86 78 [l0, l1, some (.int x), l3, l4] S sh mi mj mr = zRun 86 79 [l0, l1, some (.int x), l3, l4] (.int x :: S) sh mi mj mr := zr_l (zD_of zk_86 d_86_78 rfl rfl) rfl rfl rfl
theorem q_86_79 (h : zAt sh o 1 x) : zRun 86 79 L (.int x :: .ref o :: S) sh mi mj mr = zRun 86 80 L (.int (mi o x.toNatClampNeg) :: S) sh mi mj mr := zr_iald (zD_of zk_86 d_86_79 rfl rfl) h
theorem q_86_80  : zRun 86 80 L S sh mi mj mr = zRun 86 85 L S sh mi mj mr := zr_go (off := 5) (zD_of zk_86 d_86_80 rfl rfl) rfl rfl (by decide)
theorem q_86_83  : zRun 86 83 L S sh mi mj mr = zRun 86 85 L (.int (-6) :: S) sh mi mj mr := zr_p (zD_of zk_86 d_86_83 rfl rfl) rfl
theorem q_86_85  : zRun 86 85 L ([.int x]) sh mi mj mr = some (some (.int x), sh, mi, mj, mr) := zr_ret (zD_of zk_86 d_86_85 rfl rfl) rfl rfl rfl rfl rfl (if_pos rfl)
theorem e_86 {x0 x1 x2 : Int32} : zCall 86 [.ref o, .int x0, .int x1, .int x2] sh mi mj mr = zRun 86 0 [some (.ref o), some (.int x0), some (.int x1), some (.int x2), none] [] sh mi mj mr := rfl
theorem d_87_0 : decode cX7_inputs 0 = .ok (.aload_n 0, 1) := by decide +kernel
theorem d_87_1 : decode cX7_inputs 1 = .ok (.iload_n 1, 1) := by decide +kernel
theorem d_87_2 : decode cX7_inputs 2 = .ok (.invokevirtual 124, 3) := by decide +kernel
theorem d_87_5 : decode cX7_inputs 5 = .ok (.astore_n 2, 1) := by decide +kernel
theorem d_87_6 : decode cX7_inputs 6 = .ok (.aload_n 2, 1) := by decide +kernel
theorem d_87_7 : decode cX7_inputs 7 = .ok (.ifnonnull 5, 3) := by decide +kernel
theorem d_87_10 : decode cX7_inputs 10 = .ok (.iconst (-1), 1) := by decide +kernel
theorem d_87_11 : decode cX7_inputs 11 = .ok (.ireturn, 1) := by decide +kernel
theorem d_87_12 : decode cX7_inputs 12 = .ok (.iconst 0, 1) := by decide +kernel
theorem d_87_13 : decode cX7_inputs 13 = .ok (.istore_n 3, 1) := by decide +kernel
theorem d_87_14 : decode cX7_inputs 14 = .ok (.iconst 0, 1) := by decide +kernel
theorem d_87_15 : decode cX7_inputs 15 = .ok (.istore 4, 2) := by decide +kernel
theorem d_87_17 : decode cX7_inputs 17 = .ok (.iload 4, 2) := by decide +kernel
theorem d_87_19 : decode cX7_inputs 19 = .ok (.aload_n 2, 1) := by decide +kernel
theorem d_87_20 : decode cX7_inputs 20 = .ok (.getfield 121, 3) := by decide +kernel
theorem d_87_23 : decode cX7_inputs 23 = .ok (.if_icmp .ge 39, 3) := by decide +kernel
theorem d_87_26 : decode cX7_inputs 26 = .ok (.aload_n 2, 1) := by decide +kernel
theorem d_87_27 : decode cX7_inputs 27 = .ok (.getfield 128, 3) := by decide +kernel
theorem d_87_30 : decode cX7_inputs 30 = .ok (.iload 4, 2) := by decide +kernel
theorem d_87_32 : decode cX7_inputs 32 = .ok (.iaload, 1) := by decide +kernel
theorem d_87_33 : decode cX7_inputs 33 = .ok (.istore 5, 2) := by decide +kernel
theorem d_87_35 : decode cX7_inputs 35 = .ok (.iload 5, 2) := by decide +kernel
theorem d_87_37 : decode cX7_inputs 37 = .ok (.iconst 1, 1) := by decide +kernel
theorem d_87_38 : decode cX7_inputs 38 = .ok (.if_icmp .lt 18, 3) := by decide +kernel
theorem d_87_41 : decode cX7_inputs 41 = .ok (.iload 5, 2) := by decide +kernel
theorem d_87_43 : decode cX7_inputs 43 = .ok (.iconst 5, 1) := by decide +kernel
theorem d_87_44 : decode cX7_inputs 44 = .ok (.if_icmp .ge 12, 3) := by decide +kernel
theorem d_87_47 : decode cX7_inputs 47 = .ok (.iload_n 3, 1) := by decide +kernel
theorem d_87_48 : decode cX7_inputs 48 = .ok (.iconst 1, 1) := by decide +kernel
theorem d_87_49 : decode cX7_inputs 49 = .ok (.iload 5, 2) := by decide +kernel
theorem d_87_51 : decode cX7_inputs 51 = .ok (.iconst 1, 1) := by decide +kernel
theorem d_87_52 : decode cX7_inputs 52 = .ok (.isub, 1) := by decide +kernel
theorem d_87_53 : decode cX7_inputs 53 = .ok (.ishl, 1) := by decide +kernel
theorem d_87_54 : decode cX7_inputs 54 = .ok (.ior, 1) := by decide +kernel
theorem d_87_55 : decode cX7_inputs 55 = .ok (.istore_n 3, 1) := by decide +kernel
theorem d_87_56 : decode cX7_inputs 56 = .ok (.iinc 4 1, 3) := by decide +kernel
theorem d_87_59 : decode cX7_inputs 59 = .ok (.goto (-42), 3) := by decide +kernel
theorem d_87_62 : decode cX7_inputs 62 = .ok (.iload_n 3, 1) := by decide +kernel
theorem d_87_63 : decode cX7_inputs 63 = .ok (.ireturn, 1) := by decide +kernel
theorem q_87_0r : zRun 87 0 [some (.ref o), l1, l2, l3, l4, l5] S sh mi mj mr = zRun 87 1 [some (.ref o), l1, l2, l3, l4, l5] (.ref o :: S) sh mi mj mr := zr_l (zD_of zk_87 d_87_0 rfl rfl) rfl rfl rfl
theorem q_87_0n : zRun 87 0 [some (.null), l1, l2, l3, l4, l5] S sh mi mj mr = zRun 87 1 [some (.null), l1, l2, l3, l4, l5] (.null :: S) sh mi mj mr := zr_l (zD_of zk_87 d_87_0 rfl rfl) rfl rfl rfl
theorem q_87_1 : zRun 87 1 [l0, some (.int x), l2, l3, l4, l5] S sh mi mj mr = zRun 87 2 [l0, some (.int x), l2, l3, l4, l5] (.int x :: S) sh mi mj mr := zr_l (zD_of zk_87 d_87_1 rfl rfl) rfl rfl rfl
theorem q_87_2  {x0 : Int32} (hS : zcat S ≤ 8) (h : zIs sh o 0 7) : zRun 87 2 L (.int x0 :: .ref o :: S) sh mi mj mr = (zCall 103 [.ref o, .int x0] sh mi mj mr).bind fun r => zRun 87 5 L (r.1.toList ++ S) r.2.1 r.2.2.1 r.2.2.2.1 r.2.2.2.2 := zr_V (zD_of zk_87 d_87_2 rfl rfl) rfl zk_103 rfl rfl rfl hS h
theorem q_87_5r : zRun 87 5 [l0, l1, l2, l3, l4, l5] (.ref o :: S) sh mi mj mr = zRun 87 6 [l0, zk2 l1, some (.ref o), l3, l4, l5] S sh mi mj mr := zr_s1 (i := 2) (v := .ref o) (L := [l0, l1, l2, l3, l4, l5]) (zD_of zk_87 d_87_5 rfl rfl) rfl rfl rfl rfl
theorem q_87_5n : zRun 87 5 [l0, l1, l2, l3, l4, l5] (.null :: S) sh mi mj mr = zRun 87 6 [l0, zk2 l1, some (.null), l3, l4, l5] S sh mi mj mr := zr_s1 (i := 2) (v := .null) (L := [l0, l1, l2, l3, l4, l5]) (zD_of zk_87 d_87_5 rfl rfl) rfl rfl rfl rfl
theorem q_87_6r : zRun 87 6 [l0, l1, some (.ref o), l3, l4, l5] S sh mi mj mr = zRun 87 7 [l0, l1, some (.ref o), l3, l4, l5] (.ref o :: S) sh mi mj mr := zr_l (zD_of zk_87 d_87_6 rfl rfl) rfl rfl rfl
theorem q_87_6n : zRun 87 6 [l0, l1, some (.null), l3, l4, l5] S sh mi mj mr = zRun 87 7 [l0, l1, some (.null), l3, l4, l5] (.null :: S) sh mi mj mr := zr_l (zD_of zk_87 d_87_6 rfl rfl) rfl rfl rfl
theorem q_87_7n : zRun 87 7 L (.null :: S) sh mi mj mr = zRun 87 10 L S sh mi mj mr := zr_no (off := 5) (zD_of zk_87 d_87_7 rfl rfl) rfl rfl (by decide)
theorem q_87_7r : zRun 87 7 L (.ref o :: S) sh mi mj mr = zRun 87 12 L S sh mi mj mr := zr_go (off := 5) (zD_of zk_87 d_87_7 rfl rfl) rfl rfl (by decide)
theorem q_87_10  : zRun 87 10 L S sh mi mj mr = zRun 87 11 L (.int (-1) :: S) sh mi mj mr := zr_p (zD_of zk_87 d_87_10 rfl rfl) rfl
theorem q_87_11  : zRun 87 11 L ([.int x]) sh mi mj mr = some (some (.int x), sh, mi, mj, mr) := zr_ret (zD_of zk_87 d_87_11 rfl rfl) rfl rfl rfl rfl rfl (if_pos rfl)
theorem q_87_12  : zRun 87 12 L S sh mi mj mr = zRun 87 13 L (.int 0 :: S) sh mi mj mr := zr_p (zD_of zk_87 d_87_12 rfl rfl) rfl
theorem q_87_13 : zRun 87 13 [l0, l1, l2, l3, l4, l5] (.int x :: S) sh mi mj mr = zRun 87 14 [l0, l1, zk2 l2, some (.int x), l4, l5] S sh mi mj mr := zr_s1 (i := 3) (v := .int x) (L := [l0, l1, l2, l3, l4, l5]) (zD_of zk_87 d_87_13 rfl rfl) rfl rfl rfl rfl
theorem q_87_14  : zRun 87 14 L S sh mi mj mr = zRun 87 15 L (.int 0 :: S) sh mi mj mr := zr_p (zD_of zk_87 d_87_14 rfl rfl) rfl
theorem q_87_15 : zRun 87 15 [l0, l1, l2, l3, l4, l5] (.int x :: S) sh mi mj mr = zRun 87 17 [l0, l1, l2, zk2 l3, some (.int x), l5] S sh mi mj mr := zr_s1 (i := 4) (v := .int x) (L := [l0, l1, l2, l3, l4, l5]) (zD_of zk_87 d_87_15 rfl rfl) rfl rfl rfl rfl
theorem q_87_17 : zRun 87 17 [l0, l1, l2, l3, some (.int x), l5] S sh mi mj mr = zRun 87 19 [l0, l1, l2, l3, some (.int x), l5] (.int x :: S) sh mi mj mr := zr_l (zD_of zk_87 d_87_17 rfl rfl) rfl rfl rfl
theorem q_87_19r : zRun 87 19 [l0, l1, some (.ref o), l3, l4, l5] S sh mi mj mr = zRun 87 20 [l0, l1, some (.ref o), l3, l4, l5] (.ref o :: S) sh mi mj mr := zr_l (zD_of zk_87 d_87_19 rfl rfl) rfl rfl rfl
theorem q_87_19n : zRun 87 19 [l0, l1, some (.null), l3, l4, l5] S sh mi mj mr = zRun 87 20 [l0, l1, some (.null), l3, l4, l5] (.null :: S) sh mi mj mr := zr_l (zD_of zk_87 d_87_19 rfl rfl) rfl rfl rfl
theorem q_87_20 (h : zIs sh o 0 6) : zRun 87 20 L (.ref o :: S) sh mi mj mr = zRun 87 23 L (.int (mi o 2) :: S) sh mi mj mr := zr_getI (zD_of zk_87 d_87_20 rfl rfl) rfl rfl (Or.inl rfl) h
theorem q_87_23  : zRun 87 23 L (.int y :: .int x :: S) sh mi mj mr = if y ≤ x then zRun 87 62 L S sh mi mj mr else zRun 87 26 L S sh mi mj mr := zr_if (off := 39) (P := y ≤ x) (zD_of zk_87 d_87_23 rfl rfl) rfl rfl (by decide)
theorem q_87_26r : zRun 87 26 [l0, l1, some (.ref o), l3, l4, l5] S sh mi mj mr = zRun 87 27 [l0, l1, some (.ref o), l3, l4, l5] (.ref o :: S) sh mi mj mr := zr_l (zD_of zk_87 d_87_26 rfl rfl) rfl rfl rfl
theorem q_87_26n : zRun 87 26 [l0, l1, some (.null), l3, l4, l5] S sh mi mj mr = zRun 87 27 [l0, l1, some (.null), l3, l4, l5] (.null :: S) sh mi mj mr := zr_l (zD_of zk_87 d_87_26 rfl rfl) rfl rfl rfl
theorem q_87_27 (h : zIs sh o 0 6) : zRun 87 27 L (.ref o :: S) sh mi mj mr = zRun 87 30 L (va_rf (mr o 0) :: S) sh mi mj mr := zr_getR (zD_of zk_87 d_87_27 rfl rfl) rfl rfl rfl h
theorem q_87_30 : zRun 87 30 [l0, l1, l2, l3, some (.int x), l5] S sh mi mj mr = zRun 87 32 [l0, l1, l2, l3, some (.int x), l5] (.int x :: S) sh mi mj mr := zr_l (zD_of zk_87 d_87_30 rfl rfl) rfl rfl rfl
theorem q_87_32 (h : zAt sh o 1 x) : zRun 87 32 L (.int x :: .ref o :: S) sh mi mj mr = zRun 87 33 L (.int (mi o x.toNatClampNeg) :: S) sh mi mj mr := zr_iald (zD_of zk_87 d_87_32 rfl rfl) h
theorem q_87_33 : zRun 87 33 [l0, l1, l2, l3, l4, l5] (.int x :: S) sh mi mj mr = zRun 87 35 [l0, l1, l2, l3, zk2 l4, some (.int x)] S sh mi mj mr := zr_s1 (i := 5) (v := .int x) (L := [l0, l1, l2, l3, l4, l5]) (zD_of zk_87 d_87_33 rfl rfl) rfl rfl rfl rfl
theorem q_87_35 : zRun 87 35 [l0, l1, l2, l3, l4, some (.int x)] S sh mi mj mr = zRun 87 37 [l0, l1, l2, l3, l4, some (.int x)] (.int x :: S) sh mi mj mr := zr_l (zD_of zk_87 d_87_35 rfl rfl) rfl rfl rfl
theorem q_87_37  : zRun 87 37 L S sh mi mj mr = zRun 87 38 L (.int 1 :: S) sh mi mj mr := zr_p (zD_of zk_87 d_87_37 rfl rfl) rfl
theorem q_87_38  : zRun 87 38 L (.int y :: .int x :: S) sh mi mj mr = if x < y then zRun 87 56 L S sh mi mj mr else zRun 87 41 L S sh mi mj mr := zr_if (off := 18) (P := x < y) (zD_of zk_87 d_87_38 rfl rfl) rfl rfl (by decide)
theorem q_87_41 : zRun 87 41 [l0, l1, l2, l3, l4, some (.int x)] S sh mi mj mr = zRun 87 43 [l0, l1, l2, l3, l4, some (.int x)] (.int x :: S) sh mi mj mr := zr_l (zD_of zk_87 d_87_41 rfl rfl) rfl rfl rfl
theorem q_87_43  : zRun 87 43 L S sh mi mj mr = zRun 87 44 L (.int 5 :: S) sh mi mj mr := zr_p (zD_of zk_87 d_87_43 rfl rfl) rfl
theorem q_87_44  : zRun 87 44 L (.int y :: .int x :: S) sh mi mj mr = if y ≤ x then zRun 87 56 L S sh mi mj mr else zRun 87 47 L S sh mi mj mr := zr_if (off := 12) (P := y ≤ x) (zD_of zk_87 d_87_44 rfl rfl) rfl rfl (by decide)
theorem q_87_47 : zRun 87 47 [l0, l1, l2, some (.int x), l4, l5] S sh mi mj mr = zRun 87 48 [l0, l1, l2, some (.int x), l4, l5] (.int x :: S) sh mi mj mr := zr_l (zD_of zk_87 d_87_47 rfl rfl) rfl rfl rfl
theorem q_87_48  : zRun 87 48 L S sh mi mj mr = zRun 87 49 L (.int 1 :: S) sh mi mj mr := zr_p (zD_of zk_87 d_87_48 rfl rfl) rfl
theorem q_87_49 : zRun 87 49 [l0, l1, l2, l3, l4, some (.int x)] S sh mi mj mr = zRun 87 51 [l0, l1, l2, l3, l4, some (.int x)] (.int x :: S) sh mi mj mr := zr_l (zD_of zk_87 d_87_49 rfl rfl) rfl rfl rfl
theorem q_87_51  : zRun 87 51 L S sh mi mj mr = zRun 87 52 L (.int 1 :: S) sh mi mj mr := zr_p (zD_of zk_87 d_87_51 rfl rfl) rfl
theorem q_87_52  : zRun 87 52 L (.int y :: .int x :: S) sh mi mj mr = zRun 87 53 L (.int (x - y) :: S) sh mi mj mr := zr_p (zD_of zk_87 d_87_52 rfl rfl) rfl
theorem q_87_53  : zRun 87 53 L (.int y :: .int x :: S) sh mi mj mr = zRun 87 54 L (.int (x <<< (y &&& 31)) :: S) sh mi mj mr := zr_p (zD_of zk_87 d_87_53 rfl rfl) rfl
theorem q_87_54  : zRun 87 54 L (.int y :: .int x :: S) sh mi mj mr = zRun 87 55 L (.int (x ||| y) :: S) sh mi mj mr := zr_p (zD_of zk_87 d_87_54 rfl rfl) rfl
theorem q_87_55 : zRun 87 55 [l0, l1, l2, l3, l4, l5] (.int x :: S) sh mi mj mr = zRun 87 56 [l0, l1, zk2 l2, some (.int x), l4, l5] S sh mi mj mr := zr_s1 (i := 3) (v := .int x) (L := [l0, l1, l2, l3, l4, l5]) (zD_of zk_87 d_87_55 rfl rfl) rfl rfl rfl rfl
theorem q_87_56  : zRun 87 56 [l0, l1, l2, l3, some (.int x), l5] S sh mi mj mr = zRun 87 59 [l0, l1, l2, zk2 l3, some (.int (x + 1)), l5] S sh mi mj mr := zr_s1 (i := 4) (v := .int (x + 1)) (L := [l0, l1, l2, l3, some (.int x), l5]) (zD_of zk_87 d_87_56 rfl rfl) rfl rfl rfl rfl
theorem q_87_59  : zRun 87 59 L S sh mi mj mr = zRun 87 17 L S sh mi mj mr := zr_go (off := (-42)) (zD_of zk_87 d_87_59 rfl rfl) rfl rfl (by decide)
theorem q_87_62 : zRun 87 62 [l0, l1, l2, some (.int x), l4, l5] S sh mi mj mr = zRun 87 63 [l0, l1, l2, some (.int x), l4, l5] (.int x :: S) sh mi mj mr := zr_l (zD_of zk_87 d_87_62 rfl rfl) rfl rfl rfl
theorem q_87_63  : zRun 87 63 L ([.int x]) sh mi mj mr = some (some (.int x), sh, mi, mj, mr) := zr_ret (zD_of zk_87 d_87_63 rfl rfl) rfl rfl rfl rfl rfl (if_pos rfl)
theorem e_87 {x0 : Int32} : zCall 87 [.ref o, .int x0] sh mi mj mr = zRun 87 0 [some (.ref o), some (.int x0), none, none, none, none] [] sh mi mj mr := rfl
theorem d_88_0 : decode cX7_reason 0 = .ok (.aload_n 0, 1) := by decide +kernel
theorem d_88_1 : decode cX7_reason 1 = .ok (.iload_n 1, 1) := by decide +kernel
theorem d_88_2 : decode cX7_reason 2 = .ok (.invokevirtual 124, 3) := by decide +kernel
theorem d_88_5 : decode cX7_reason 5 = .ok (.astore_n 2, 1) := by decide +kernel
theorem d_88_6 : decode cX7_reason 6 = .ok (.aload_n 2, 1) := by decide +kernel
theorem d_88_7 : decode cX7_reason 7 = .ok (.ifnonnull 5, 3) := by decide +kernel
theorem d_88_10 : decode cX7_reason 10 = .ok (.iconst (-1), 1) := by decide +kernel
theorem d_88_11 : decode cX7_reason 11 = .ok (.ireturn, 1) := by decide +kernel
theorem d_88_12 : decode cX7_reason 12 = .ok (.aload_n 0, 1) := by decide +kernel
theorem d_88_13 : decode cX7_reason 13 = .ok (.getfield 42, 3) := by decide +kernel
theorem d_88_16 : decode cX7_reason 16 = .ok (.aload_n 2, 1) := by decide +kernel
theorem d_88_17 : decode cX7_reason 17 = .ok (.aload_n 2, 1) := by decide +kernel
theorem d_88_18 : decode cX7_reason 18 = .ok (.getfield 121, 3) := by decide +kernel
theorem d_88_21 : decode cX7_reason 21 = .ok (.aload_n 0, 1) := by decide +kernel
theorem d_88_22 : decode cX7_reason 22 = .ok (.getfield 20, 3) := by decide +kernel
theorem d_88_25 : decode cX7_reason 25 = .ok (.getfield 78, 3) := by decide +kernel
theorem d_88_28 : decode cX7_reason 28 = .ok (.aload_n 0, 1) := by decide +kernel
theorem d_88_29 : decode cX7_reason 29 = .ok (.getfield 20, 3) := by decide +kernel
theorem d_88_32 : decode cX7_reason 32 = .ok (.getfield 100, 3) := by decide +kernel
theorem d_88_35 : decode cX7_reason 35 = .ok (.invokevirtual 134, 3) := by decide +kernel
theorem d_88_38 : decode cX7_reason 38 = .ok (.getfield 138, 3) := by decide +kernel
theorem d_88_41 : decode cX7_reason 41 = .ok (.ireturn, 1) := by decide +kernel
theorem q_88_0r : zRun 88 0 [some (.ref o), l1, l2] S sh mi mj mr = zRun 88 1 [some (.ref o), l1, l2] (.ref o :: S) sh mi mj mr := zr_l (zD_of zk_88 d_88_0 rfl rfl) rfl rfl rfl
theorem q_88_0n : zRun 88 0 [some (.null), l1, l2] S sh mi mj mr = zRun 88 1 [some (.null), l1, l2] (.null :: S) sh mi mj mr := zr_l (zD_of zk_88 d_88_0 rfl rfl) rfl rfl rfl
theorem q_88_1 : zRun 88 1 [l0, some (.int x), l2] S sh mi mj mr = zRun 88 2 [l0, some (.int x), l2] (.int x :: S) sh mi mj mr := zr_l (zD_of zk_88 d_88_1 rfl rfl) rfl rfl rfl
theorem q_88_2  {x0 : Int32} (hS : zcat S ≤ 8) (h : zIs sh o 0 7) : zRun 88 2 L (.int x0 :: .ref o :: S) sh mi mj mr = (zCall 103 [.ref o, .int x0] sh mi mj mr).bind fun r => zRun 88 5 L (r.1.toList ++ S) r.2.1 r.2.2.1 r.2.2.2.1 r.2.2.2.2 := zr_V (zD_of zk_88 d_88_2 rfl rfl) rfl zk_103 rfl rfl rfl hS h
theorem q_88_5r : zRun 88 5 [l0, l1, l2] (.ref o :: S) sh mi mj mr = zRun 88 6 [l0, zk2 l1, some (.ref o)] S sh mi mj mr := zr_s1 (i := 2) (v := .ref o) (L := [l0, l1, l2]) (zD_of zk_88 d_88_5 rfl rfl) rfl rfl rfl rfl
theorem q_88_5n : zRun 88 5 [l0, l1, l2] (.null :: S) sh mi mj mr = zRun 88 6 [l0, zk2 l1, some (.null)] S sh mi mj mr := zr_s1 (i := 2) (v := .null) (L := [l0, l1, l2]) (zD_of zk_88 d_88_5 rfl rfl) rfl rfl rfl rfl
theorem q_88_6r : zRun 88 6 [l0, l1, some (.ref o)] S sh mi mj mr = zRun 88 7 [l0, l1, some (.ref o)] (.ref o :: S) sh mi mj mr := zr_l (zD_of zk_88 d_88_6 rfl rfl) rfl rfl rfl
theorem q_88_6n : zRun 88 6 [l0, l1, some (.null)] S sh mi mj mr = zRun 88 7 [l0, l1, some (.null)] (.null :: S) sh mi mj mr := zr_l (zD_of zk_88 d_88_6 rfl rfl) rfl rfl rfl
theorem q_88_7n : zRun 88 7 L (.null :: S) sh mi mj mr = zRun 88 10 L S sh mi mj mr := zr_no (off := 5) (zD_of zk_88 d_88_7 rfl rfl) rfl rfl (by decide)
theorem q_88_7r : zRun 88 7 L (.ref o :: S) sh mi mj mr = zRun 88 12 L S sh mi mj mr := zr_go (off := 5) (zD_of zk_88 d_88_7 rfl rfl) rfl rfl (by decide)
theorem q_88_10  : zRun 88 10 L S sh mi mj mr = zRun 88 11 L (.int (-1) :: S) sh mi mj mr := zr_p (zD_of zk_88 d_88_10 rfl rfl) rfl
theorem q_88_11  : zRun 88 11 L ([.int x]) sh mi mj mr = some (some (.int x), sh, mi, mj, mr) := zr_ret (zD_of zk_88 d_88_11 rfl rfl) rfl rfl rfl rfl rfl (if_pos rfl)
theorem q_88_12r : zRun 88 12 [some (.ref o), l1, l2] S sh mi mj mr = zRun 88 13 [some (.ref o), l1, l2] (.ref o :: S) sh mi mj mr := zr_l (zD_of zk_88 d_88_12 rfl rfl) rfl rfl rfl
theorem q_88_12n : zRun 88 12 [some (.null), l1, l2] S sh mi mj mr = zRun 88 13 [some (.null), l1, l2] (.null :: S) sh mi mj mr := zr_l (zD_of zk_88 d_88_12 rfl rfl) rfl rfl rfl
theorem q_88_13 (h : zIs sh o 0 7) : zRun 88 13 L (.ref o :: S) sh mi mj mr = zRun 88 16 L (va_rf (mr o 6) :: S) sh mi mj mr := zr_getR (zD_of zk_88 d_88_13 rfl rfl) rfl rfl rfl h
theorem q_88_16r : zRun 88 16 [l0, l1, some (.ref o)] S sh mi mj mr = zRun 88 17 [l0, l1, some (.ref o)] (.ref o :: S) sh mi mj mr := zr_l (zD_of zk_88 d_88_16 rfl rfl) rfl rfl rfl
theorem q_88_16n : zRun 88 16 [l0, l1, some (.null)] S sh mi mj mr = zRun 88 17 [l0, l1, some (.null)] (.null :: S) sh mi mj mr := zr_l (zD_of zk_88 d_88_16 rfl rfl) rfl rfl rfl
theorem q_88_17r : zRun 88 17 [l0, l1, some (.ref o)] S sh mi mj mr = zRun 88 18 [l0, l1, some (.ref o)] (.ref o :: S) sh mi mj mr := zr_l (zD_of zk_88 d_88_17 rfl rfl) rfl rfl rfl
theorem q_88_17n : zRun 88 17 [l0, l1, some (.null)] S sh mi mj mr = zRun 88 18 [l0, l1, some (.null)] (.null :: S) sh mi mj mr := zr_l (zD_of zk_88 d_88_17 rfl rfl) rfl rfl rfl
theorem q_88_18 (h : zIs sh o 0 6) : zRun 88 18 L (.ref o :: S) sh mi mj mr = zRun 88 21 L (.int (mi o 2) :: S) sh mi mj mr := zr_getI (zD_of zk_88 d_88_18 rfl rfl) rfl rfl (Or.inl rfl) h
theorem q_88_21r : zRun 88 21 [some (.ref o), l1, l2] S sh mi mj mr = zRun 88 22 [some (.ref o), l1, l2] (.ref o :: S) sh mi mj mr := zr_l (zD_of zk_88 d_88_21 rfl rfl) rfl rfl rfl
theorem q_88_21n : zRun 88 21 [some (.null), l1, l2] S sh mi mj mr = zRun 88 22 [some (.null), l1, l2] (.null :: S) sh mi mj mr := zr_l (zD_of zk_88 d_88_21 rfl rfl) rfl rfl rfl
theorem q_88_22 (h : zIs sh o 0 7) : zRun 88 22 L (.ref o :: S) sh mi mj mr = zRun 88 25 L (va_rf (mr o 2) :: S) sh mi mj mr := zr_getR (zD_of zk_88 d_88_22 rfl rfl) rfl rfl rfl h
theorem q_88_25 (h : zIs sh o 0 5) : zRun 88 25 L (.ref o :: S) sh mi mj mr = zRun 88 28 L (va_rf (mr o 0) :: S) sh mi mj mr := zr_getR (zD_of zk_88 d_88_25 rfl rfl) rfl rfl rfl h
theorem q_88_28r : zRun 88 28 [some (.ref o), l1, l2] S sh mi mj mr = zRun 88 29 [some (.ref o), l1, l2] (.ref o :: S) sh mi mj mr := zr_l (zD_of zk_88 d_88_28 rfl rfl) rfl rfl rfl
theorem q_88_28n : zRun 88 28 [some (.null), l1, l2] S sh mi mj mr = zRun 88 29 [some (.null), l1, l2] (.null :: S) sh mi mj mr := zr_l (zD_of zk_88 d_88_28 rfl rfl) rfl rfl rfl
theorem q_88_29 (h : zIs sh o 0 7) : zRun 88 29 L (.ref o :: S) sh mi mj mr = zRun 88 32 L (va_rf (mr o 2) :: S) sh mi mj mr := zr_getR (zD_of zk_88 d_88_29 rfl rfl) rfl rfl rfl h
theorem q_88_32 (h : zIs sh o 0 5) : zRun 88 32 L (.ref o :: S) sh mi mj mr = zRun 88 35 L (.int (mi o 2) :: S) sh mi mj mr := zr_getI (zD_of zk_88 d_88_32 rfl rfl) rfl rfl (Or.inl rfl) h
theorem q_88_35  {x0 x1 : Int32} {o0 o1 : Nat} (hS : zcat S ≤ 8) (h : zIs sh o 0 3) : zRun 88 35 L (.int x1 :: .ref o1 :: .int x0 :: .ref o0 :: .ref o :: S) sh mi mj mr = (zCall 45 [.ref o, .ref o0, .int x0, .ref o1, .int x1] sh mi mj mr).bind fun r => zRun 88 38 L (r.1.toList ++ S) r.2.1 r.2.2.1 r.2.2.2.1 r.2.2.2.2 := zr_V (zD_of zk_88 d_88_35 rfl rfl) rfl zk_45 rfl rfl rfl hS h
theorem q_88_38 (h : zIs sh o 0 2) : zRun 88 38 L (.ref o :: S) sh mi mj mr = zRun 88 41 L (.int (mi o 0) :: S) sh mi mj mr := zr_getI (zD_of zk_88 d_88_38 rfl rfl) rfl rfl (Or.inl rfl) h
theorem q_88_41  : zRun 88 41 L ([.int x]) sh mi mj mr = some (some (.int x), sh, mi, mj, mr) := zr_ret (zD_of zk_88 d_88_41 rfl rfl) rfl rfl rfl rfl rfl (if_pos rfl)
theorem e_88 {x0 : Int32} : zCall 88 [.ref o, .int x0] sh mi mj mr = zRun 88 0 [some (.ref o), some (.int x0), none] [] sh mi mj mr := rfl
theorem d_89_0 : decode cX7_bound 0 = .ok (.aload_n 0, 1) := by decide +kernel
theorem d_89_1 : decode cX7_bound 1 = .ok (.iload_n 1, 1) := by decide +kernel
theorem d_89_2 : decode cX7_bound 2 = .ok (.invokevirtual 124, 3) := by decide +kernel
theorem d_89_5 : decode cX7_bound 5 = .ok (.astore 4, 2) := by decide +kernel
theorem d_89_7 : decode cX7_bound 7 = .ok (.aload 4, 2) := by decide +kernel
theorem d_89_9 : decode cX7_bound 9 = .ok (.ifnonnull 8, 3) := by decide +kernel
theorem d_89_12 : decode cX7_bound 12 = .ok (.iconst (-1), 1) := by decide +kernel
theorem d_89_13 : decode cX7_bound 13 = .ok (.invokestatic 143, 3) := by decide +kernel
theorem d_89_16 : decode cX7_bound 16 = .ok (.lreturn, 1) := by decide +kernel
theorem d_89_17 : decode cX7_bound 17 = .ok (.iload_n 2, 1) := by decide +kernel
theorem d_89_18 : decode cX7_bound 18 = .ok (.ifCond .lt 15, 3) := by decide +kernel
theorem d_89_21 : decode cX7_bound 21 = .ok (.iload_n 2, 1) := by decide +kernel
theorem d_89_22 : decode cX7_bound 22 = .ok (.iconst 2, 1) := by decide +kernel
theorem d_89_23 : decode cX7_bound 23 = .ok (.if_icmp .gt 10, 3) := by decide +kernel
theorem d_89_26 : decode cX7_bound 26 = .ok (.iload_n 3, 1) := by decide +kernel
theorem d_89_27 : decode cX7_bound 27 = .ok (.invokestatic 89, 3) := by decide +kernel
theorem d_89_30 : decode cX7_bound 30 = .ok (.ifCond .ne 9, 3) := by decide +kernel
theorem d_89_33 : decode cX7_bound 33 = .ok (.bipush (-2), 2) := by decide +kernel
theorem d_89_35 : decode cX7_bound 35 = .ok (.invokestatic 143, 3) := by decide +kernel
theorem d_89_38 : decode cX7_bound 38 = .ok (.lreturn, 1) := by decide +kernel
theorem d_89_39 : decode cX7_bound 39 = .ok (.aload_n 0, 1) := by decide +kernel
theorem d_89_40 : decode cX7_bound 40 = .ok (.getfield 42, 3) := by decide +kernel
theorem d_89_43 : decode cX7_bound 43 = .ok (.aload 4, 2) := by decide +kernel
theorem d_89_45 : decode cX7_bound 45 = .ok (.aload 4, 2) := by decide +kernel
theorem d_89_47 : decode cX7_bound 47 = .ok (.getfield 121, 3) := by decide +kernel
theorem d_89_50 : decode cX7_bound 50 = .ok (.aload_n 0, 1) := by decide +kernel
theorem d_89_51 : decode cX7_bound 51 = .ok (.getfield 20, 3) := by decide +kernel
theorem d_89_54 : decode cX7_bound 54 = .ok (.getfield 78, 3) := by decide +kernel
theorem d_89_57 : decode cX7_bound 57 = .ok (.aload_n 0, 1) := by decide +kernel
theorem d_89_58 : decode cX7_bound 58 = .ok (.getfield 20, 3) := by decide +kernel
theorem d_89_61 : decode cX7_bound 61 = .ok (.getfield 100, 3) := by decide +kernel
theorem d_89_64 : decode cX7_bound 64 = .ok (.invokevirtual 134, 3) := by decide +kernel
theorem d_89_67 : decode cX7_bound 67 = .ok (.astore 5, 2) := by decide +kernel
theorem d_89_69 : decode cX7_bound 69 = .ok (.aload 5, 2) := by decide +kernel
theorem d_89_71 : decode cX7_bound 71 = .ok (.getfield 138, 3) := by decide +kernel
theorem d_89_74 : decode cX7_bound 74 = .ok (.ifCond .eq 9, 3) := by decide +kernel
theorem d_89_77 : decode cX7_bound 77 = .ok (.bipush (-5), 2) := by decide +kernel
theorem d_89_79 : decode cX7_bound 79 = .ok (.invokestatic 143, 3) := by decide +kernel
theorem d_89_82 : decode cX7_bound 82 = .ok (.lreturn, 1) := by decide +kernel
theorem d_89_83 : decode cX7_bound 83 = .ok (.iload_n 2, 1) := by decide +kernel
theorem d_89_84 : decode cX7_bound 84 = .ok (.ifCond .ne 33, 3) := by decide +kernel
theorem d_89_87 : decode cX7_bound 87 = .ok (.iload_n 3, 1) := by decide +kernel
theorem d_89_88 : decode cX7_bound 88 = .ok (.ifCond .ne 17, 3) := by decide +kernel
theorem d_89_91 : decode cX7_bound 91 = .ok (.aload 5, 2) := by decide +kernel
theorem d_89_93 : decode cX7_bound 93 = .ok (.getfield 147, 3) := by decide +kernel
theorem d_89_96 : decode cX7_bound 96 = .ok (.aload 5, 2) := by decide +kernel
theorem d_89_98 : decode cX7_bound 98 = .ok (.getfield 151, 3) := by decide +kernel
theorem d_89_101 : decode cX7_bound 101 = .ok (.lsub, 1) := by decide +kernel
theorem d_89_102 : decode cX7_bound 102 = .ok (.goto 14, 3) := by decide +kernel
theorem d_89_105 : decode cX7_bound 105 = .ok (.aload 5, 2) := by decide +kernel
theorem d_89_107 : decode cX7_bound 107 = .ok (.getfield 147, 3) := by decide +kernel
theorem d_89_110 : decode cX7_bound 110 = .ok (.aload 5, 2) := by decide +kernel
theorem d_89_112 : decode cX7_bound 112 = .ok (.getfield 151, 3) := by decide +kernel
theorem d_89_115 : decode cX7_bound 115 = .ok (.ladd, 1) := by decide +kernel
theorem d_89_116 : decode cX7_bound 116 = .ok (.lreturn, 1) := by decide +kernel
theorem d_89_117 : decode cX7_bound 117 = .ok (.iload_n 2, 1) := by decide +kernel
theorem d_89_118 : decode cX7_bound 118 = .ok (.iconst 1, 1) := by decide +kernel
theorem d_89_119 : decode cX7_bound 119 = .ok (.if_icmp .ne 21, 3) := by decide +kernel
theorem d_89_122 : decode cX7_bound 122 = .ok (.iload_n 3, 1) := by decide +kernel
theorem d_89_123 : decode cX7_bound 123 = .ok (.ifCond .ne 11, 3) := by decide +kernel
theorem d_89_126 : decode cX7_bound 126 = .ok (.aload 5, 2) := by decide +kernel
theorem d_89_128 : decode cX7_bound 128 = .ok (.getfield 154, 3) := by decide +kernel
theorem d_89_131 : decode cX7_bound 131 = .ok (.goto 8, 3) := by decide +kernel
theorem d_89_134 : decode cX7_bound 134 = .ok (.aload 5, 2) := by decide +kernel
theorem d_89_136 : decode cX7_bound 136 = .ok (.getfield 156, 3) := by decide +kernel
theorem d_89_139 : decode cX7_bound 139 = .ok (.lreturn, 1) := by decide +kernel
theorem d_89_140 : decode cX7_bound 140 = .ok (.aload 5, 2) := by decide +kernel
theorem d_89_142 : decode cX7_bound 142 = .ok (.iload_n 3, 1) := by decide +kernel
theorem d_89_143 : decode cX7_bound 143 = .ok (.invokevirtual 158, 3) := by decide +kernel
theorem d_89_146 : decode cX7_bound 146 = .ok (.lreturn, 1) := by decide +kernel
theorem q_89_0r : zRun 89 0 [some (.ref o), l1, l2, l3, l4, l5] S sh mi mj mr = zRun 89 1 [some (.ref o), l1, l2, l3, l4, l5] (.ref o :: S) sh mi mj mr := zr_l (zD_of zk_89 d_89_0 rfl rfl) rfl rfl rfl
theorem q_89_0n : zRun 89 0 [some (.null), l1, l2, l3, l4, l5] S sh mi mj mr = zRun 89 1 [some (.null), l1, l2, l3, l4, l5] (.null :: S) sh mi mj mr := zr_l (zD_of zk_89 d_89_0 rfl rfl) rfl rfl rfl
theorem q_89_1 : zRun 89 1 [l0, some (.int x), l2, l3, l4, l5] S sh mi mj mr = zRun 89 2 [l0, some (.int x), l2, l3, l4, l5] (.int x :: S) sh mi mj mr := zr_l (zD_of zk_89 d_89_1 rfl rfl) rfl rfl rfl
theorem q_89_2  {x0 : Int32} (hS : zcat S ≤ 8) (h : zIs sh o 0 7) : zRun 89 2 L (.int x0 :: .ref o :: S) sh mi mj mr = (zCall 103 [.ref o, .int x0] sh mi mj mr).bind fun r => zRun 89 5 L (r.1.toList ++ S) r.2.1 r.2.2.1 r.2.2.2.1 r.2.2.2.2 := zr_V (zD_of zk_89 d_89_2 rfl rfl) rfl zk_103 rfl rfl rfl hS h
theorem q_89_5r : zRun 89 5 [l0, l1, l2, l3, l4, l5] (.ref o :: S) sh mi mj mr = zRun 89 7 [l0, l1, l2, zk2 l3, some (.ref o), l5] S sh mi mj mr := zr_s1 (i := 4) (v := .ref o) (L := [l0, l1, l2, l3, l4, l5]) (zD_of zk_89 d_89_5 rfl rfl) rfl rfl rfl rfl
theorem q_89_5n : zRun 89 5 [l0, l1, l2, l3, l4, l5] (.null :: S) sh mi mj mr = zRun 89 7 [l0, l1, l2, zk2 l3, some (.null), l5] S sh mi mj mr := zr_s1 (i := 4) (v := .null) (L := [l0, l1, l2, l3, l4, l5]) (zD_of zk_89 d_89_5 rfl rfl) rfl rfl rfl rfl
theorem q_89_7r : zRun 89 7 [l0, l1, l2, l3, some (.ref o), l5] S sh mi mj mr = zRun 89 9 [l0, l1, l2, l3, some (.ref o), l5] (.ref o :: S) sh mi mj mr := zr_l (zD_of zk_89 d_89_7 rfl rfl) rfl rfl rfl
theorem q_89_7n : zRun 89 7 [l0, l1, l2, l3, some (.null), l5] S sh mi mj mr = zRun 89 9 [l0, l1, l2, l3, some (.null), l5] (.null :: S) sh mi mj mr := zr_l (zD_of zk_89 d_89_7 rfl rfl) rfl rfl rfl
theorem q_89_9n : zRun 89 9 L (.null :: S) sh mi mj mr = zRun 89 12 L S sh mi mj mr := zr_no (off := 8) (zD_of zk_89 d_89_9 rfl rfl) rfl rfl (by decide)
theorem q_89_9r : zRun 89 9 L (.ref o :: S) sh mi mj mr = zRun 89 17 L S sh mi mj mr := zr_go (off := 8) (zD_of zk_89 d_89_9 rfl rfl) rfl rfl (by decide)
theorem q_89_12  : zRun 89 12 L S sh mi mj mr = zRun 89 13 L (.int (-1) :: S) sh mi mj mr := zr_p (zD_of zk_89 d_89_12 rfl rfl) rfl
theorem q_89_13  {x0 : Int32} (hS : zcat S ≤ 8) : zRun 89 13 L (.int x0 :: S) sh mi mj mr = (zCall 107 [.int x0] sh mi mj mr).bind fun r => zRun 89 16 L (r.1.toList ++ S) r.2.1 r.2.2.1 r.2.2.2.1 r.2.2.2.2 := zr_S (zD_of zk_89 d_89_13 rfl rfl) rfl zk_107 rfl rfl rfl hS
theorem q_89_16  : zRun 89 16 L ([.long u]) sh mi mj mr = some (some (.long u), sh, mi, mj, mr) := zr_ret (zD_of zk_89 d_89_16 rfl rfl) rfl rfl rfl rfl rfl rfl
theorem q_89_17 : zRun 89 17 [l0, l1, some (.int x), l3, l4, l5] S sh mi mj mr = zRun 89 18 [l0, l1, some (.int x), l3, l4, l5] (.int x :: S) sh mi mj mr := zr_l (zD_of zk_89 d_89_17 rfl rfl) rfl rfl rfl
theorem q_89_18  : zRun 89 18 L (.int x :: S) sh mi mj mr = if x < 0 then zRun 89 33 L S sh mi mj mr else zRun 89 21 L S sh mi mj mr := zr_if (off := 15) (P := x < 0) (zD_of zk_89 d_89_18 rfl rfl) rfl rfl (by decide)
theorem q_89_21 : zRun 89 21 [l0, l1, some (.int x), l3, l4, l5] S sh mi mj mr = zRun 89 22 [l0, l1, some (.int x), l3, l4, l5] (.int x :: S) sh mi mj mr := zr_l (zD_of zk_89 d_89_21 rfl rfl) rfl rfl rfl
theorem q_89_22  : zRun 89 22 L S sh mi mj mr = zRun 89 23 L (.int 2 :: S) sh mi mj mr := zr_p (zD_of zk_89 d_89_22 rfl rfl) rfl
theorem q_89_23  : zRun 89 23 L (.int y :: .int x :: S) sh mi mj mr = if y < x then zRun 89 33 L S sh mi mj mr else zRun 89 26 L S sh mi mj mr := zr_if (off := 10) (P := y < x) (zD_of zk_89 d_89_23 rfl rfl) rfl rfl (by decide)
theorem q_89_26 : zRun 89 26 [l0, l1, l2, some (.int x), l4, l5] S sh mi mj mr = zRun 89 27 [l0, l1, l2, some (.int x), l4, l5] (.int x :: S) sh mi mj mr := zr_l (zD_of zk_89 d_89_26 rfl rfl) rfl rfl rfl
theorem q_89_27  {x0 : Int32} (hS : zcat S ≤ 8) : zRun 89 27 L (.int x0 :: S) sh mi mj mr = (zCall 109 [.int x0] sh mi mj mr).bind fun r => zRun 89 30 L (r.1.toList ++ S) r.2.1 r.2.2.1 r.2.2.2.1 r.2.2.2.2 := zr_S (zD_of zk_89 d_89_27 rfl rfl) rfl zk_109 rfl rfl rfl hS
theorem q_89_30  : zRun 89 30 L (.int x :: S) sh mi mj mr = if ¬ x = 0 then zRun 89 39 L S sh mi mj mr else zRun 89 33 L S sh mi mj mr := zr_if (off := 9) (P := ¬ x = 0) (zD_of zk_89 d_89_30 rfl rfl) rfl rfl (by decide)
theorem q_89_33  : zRun 89 33 L S sh mi mj mr = zRun 89 35 L (.int (-2) :: S) sh mi mj mr := zr_p (zD_of zk_89 d_89_33 rfl rfl) rfl
theorem q_89_35  {x0 : Int32} (hS : zcat S ≤ 8) : zRun 89 35 L (.int x0 :: S) sh mi mj mr = (zCall 107 [.int x0] sh mi mj mr).bind fun r => zRun 89 38 L (r.1.toList ++ S) r.2.1 r.2.2.1 r.2.2.2.1 r.2.2.2.2 := zr_S (zD_of zk_89 d_89_35 rfl rfl) rfl zk_107 rfl rfl rfl hS
theorem q_89_38  : zRun 89 38 L ([.long u]) sh mi mj mr = some (some (.long u), sh, mi, mj, mr) := zr_ret (zD_of zk_89 d_89_38 rfl rfl) rfl rfl rfl rfl rfl rfl
theorem q_89_39r : zRun 89 39 [some (.ref o), l1, l2, l3, l4, l5] S sh mi mj mr = zRun 89 40 [some (.ref o), l1, l2, l3, l4, l5] (.ref o :: S) sh mi mj mr := zr_l (zD_of zk_89 d_89_39 rfl rfl) rfl rfl rfl
theorem q_89_39n : zRun 89 39 [some (.null), l1, l2, l3, l4, l5] S sh mi mj mr = zRun 89 40 [some (.null), l1, l2, l3, l4, l5] (.null :: S) sh mi mj mr := zr_l (zD_of zk_89 d_89_39 rfl rfl) rfl rfl rfl
theorem q_89_40 (h : zIs sh o 0 7) : zRun 89 40 L (.ref o :: S) sh mi mj mr = zRun 89 43 L (va_rf (mr o 6) :: S) sh mi mj mr := zr_getR (zD_of zk_89 d_89_40 rfl rfl) rfl rfl rfl h
theorem q_89_43r : zRun 89 43 [l0, l1, l2, l3, some (.ref o), l5] S sh mi mj mr = zRun 89 45 [l0, l1, l2, l3, some (.ref o), l5] (.ref o :: S) sh mi mj mr := zr_l (zD_of zk_89 d_89_43 rfl rfl) rfl rfl rfl
theorem q_89_43n : zRun 89 43 [l0, l1, l2, l3, some (.null), l5] S sh mi mj mr = zRun 89 45 [l0, l1, l2, l3, some (.null), l5] (.null :: S) sh mi mj mr := zr_l (zD_of zk_89 d_89_43 rfl rfl) rfl rfl rfl
theorem q_89_45r : zRun 89 45 [l0, l1, l2, l3, some (.ref o), l5] S sh mi mj mr = zRun 89 47 [l0, l1, l2, l3, some (.ref o), l5] (.ref o :: S) sh mi mj mr := zr_l (zD_of zk_89 d_89_45 rfl rfl) rfl rfl rfl
theorem q_89_45n : zRun 89 45 [l0, l1, l2, l3, some (.null), l5] S sh mi mj mr = zRun 89 47 [l0, l1, l2, l3, some (.null), l5] (.null :: S) sh mi mj mr := zr_l (zD_of zk_89 d_89_45 rfl rfl) rfl rfl rfl
theorem q_89_47 (h : zIs sh o 0 6) : zRun 89 47 L (.ref o :: S) sh mi mj mr = zRun 89 50 L (.int (mi o 2) :: S) sh mi mj mr := zr_getI (zD_of zk_89 d_89_47 rfl rfl) rfl rfl (Or.inl rfl) h
theorem q_89_50r : zRun 89 50 [some (.ref o), l1, l2, l3, l4, l5] S sh mi mj mr = zRun 89 51 [some (.ref o), l1, l2, l3, l4, l5] (.ref o :: S) sh mi mj mr := zr_l (zD_of zk_89 d_89_50 rfl rfl) rfl rfl rfl
theorem q_89_50n : zRun 89 50 [some (.null), l1, l2, l3, l4, l5] S sh mi mj mr = zRun 89 51 [some (.null), l1, l2, l3, l4, l5] (.null :: S) sh mi mj mr := zr_l (zD_of zk_89 d_89_50 rfl rfl) rfl rfl rfl
theorem q_89_51 (h : zIs sh o 0 7) : zRun 89 51 L (.ref o :: S) sh mi mj mr = zRun 89 54 L (va_rf (mr o 2) :: S) sh mi mj mr := zr_getR (zD_of zk_89 d_89_51 rfl rfl) rfl rfl rfl h
theorem q_89_54 (h : zIs sh o 0 5) : zRun 89 54 L (.ref o :: S) sh mi mj mr = zRun 89 57 L (va_rf (mr o 0) :: S) sh mi mj mr := zr_getR (zD_of zk_89 d_89_54 rfl rfl) rfl rfl rfl h
theorem q_89_57r : zRun 89 57 [some (.ref o), l1, l2, l3, l4, l5] S sh mi mj mr = zRun 89 58 [some (.ref o), l1, l2, l3, l4, l5] (.ref o :: S) sh mi mj mr := zr_l (zD_of zk_89 d_89_57 rfl rfl) rfl rfl rfl
theorem q_89_57n : zRun 89 57 [some (.null), l1, l2, l3, l4, l5] S sh mi mj mr = zRun 89 58 [some (.null), l1, l2, l3, l4, l5] (.null :: S) sh mi mj mr := zr_l (zD_of zk_89 d_89_57 rfl rfl) rfl rfl rfl
theorem q_89_58 (h : zIs sh o 0 7) : zRun 89 58 L (.ref o :: S) sh mi mj mr = zRun 89 61 L (va_rf (mr o 2) :: S) sh mi mj mr := zr_getR (zD_of zk_89 d_89_58 rfl rfl) rfl rfl rfl h
theorem q_89_61 (h : zIs sh o 0 5) : zRun 89 61 L (.ref o :: S) sh mi mj mr = zRun 89 64 L (.int (mi o 2) :: S) sh mi mj mr := zr_getI (zD_of zk_89 d_89_61 rfl rfl) rfl rfl (Or.inl rfl) h
theorem q_89_64  {x0 x1 : Int32} {o0 o1 : Nat} (hS : zcat S ≤ 8) (h : zIs sh o 0 3) : zRun 89 64 L (.int x1 :: .ref o1 :: .int x0 :: .ref o0 :: .ref o :: S) sh mi mj mr = (zCall 45 [.ref o, .ref o0, .int x0, .ref o1, .int x1] sh mi mj mr).bind fun r => zRun 89 67 L (r.1.toList ++ S) r.2.1 r.2.2.1 r.2.2.2.1 r.2.2.2.2 := zr_V (zD_of zk_89 d_89_64 rfl rfl) rfl zk_45 rfl rfl rfl hS h
theorem q_89_67r : zRun 89 67 [l0, l1, l2, l3, l4, l5] (.ref o :: S) sh mi mj mr = zRun 89 69 [l0, l1, l2, l3, zk2 l4, some (.ref o)] S sh mi mj mr := zr_s1 (i := 5) (v := .ref o) (L := [l0, l1, l2, l3, l4, l5]) (zD_of zk_89 d_89_67 rfl rfl) rfl rfl rfl rfl
theorem q_89_67n : zRun 89 67 [l0, l1, l2, l3, l4, l5] (.null :: S) sh mi mj mr = zRun 89 69 [l0, l1, l2, l3, zk2 l4, some (.null)] S sh mi mj mr := zr_s1 (i := 5) (v := .null) (L := [l0, l1, l2, l3, l4, l5]) (zD_of zk_89 d_89_67 rfl rfl) rfl rfl rfl rfl
theorem q_89_69r : zRun 89 69 [l0, l1, l2, l3, l4, some (.ref o)] S sh mi mj mr = zRun 89 71 [l0, l1, l2, l3, l4, some (.ref o)] (.ref o :: S) sh mi mj mr := zr_l (zD_of zk_89 d_89_69 rfl rfl) rfl rfl rfl
theorem q_89_69n : zRun 89 69 [l0, l1, l2, l3, l4, some (.null)] S sh mi mj mr = zRun 89 71 [l0, l1, l2, l3, l4, some (.null)] (.null :: S) sh mi mj mr := zr_l (zD_of zk_89 d_89_69 rfl rfl) rfl rfl rfl
theorem q_89_71 (h : zIs sh o 0 2) : zRun 89 71 L (.ref o :: S) sh mi mj mr = zRun 89 74 L (.int (mi o 0) :: S) sh mi mj mr := zr_getI (zD_of zk_89 d_89_71 rfl rfl) rfl rfl (Or.inl rfl) h
theorem q_89_74  : zRun 89 74 L (.int x :: S) sh mi mj mr = if x = 0 then zRun 89 83 L S sh mi mj mr else zRun 89 77 L S sh mi mj mr := zr_if (off := 9) (P := x = 0) (zD_of zk_89 d_89_74 rfl rfl) rfl rfl (by decide)
theorem q_89_77  : zRun 89 77 L S sh mi mj mr = zRun 89 79 L (.int (-5) :: S) sh mi mj mr := zr_p (zD_of zk_89 d_89_77 rfl rfl) rfl
theorem q_89_79  {x0 : Int32} (hS : zcat S ≤ 8) : zRun 89 79 L (.int x0 :: S) sh mi mj mr = (zCall 107 [.int x0] sh mi mj mr).bind fun r => zRun 89 82 L (r.1.toList ++ S) r.2.1 r.2.2.1 r.2.2.2.1 r.2.2.2.2 := zr_S (zD_of zk_89 d_89_79 rfl rfl) rfl zk_107 rfl rfl rfl hS
theorem q_89_82  : zRun 89 82 L ([.long u]) sh mi mj mr = some (some (.long u), sh, mi, mj, mr) := zr_ret (zD_of zk_89 d_89_82 rfl rfl) rfl rfl rfl rfl rfl rfl
theorem q_89_83 : zRun 89 83 [l0, l1, some (.int x), l3, l4, l5] S sh mi mj mr = zRun 89 84 [l0, l1, some (.int x), l3, l4, l5] (.int x :: S) sh mi mj mr := zr_l (zD_of zk_89 d_89_83 rfl rfl) rfl rfl rfl
theorem q_89_84  : zRun 89 84 L (.int x :: S) sh mi mj mr = if ¬ x = 0 then zRun 89 117 L S sh mi mj mr else zRun 89 87 L S sh mi mj mr := zr_if (off := 33) (P := ¬ x = 0) (zD_of zk_89 d_89_84 rfl rfl) rfl rfl (by decide)
theorem q_89_87 : zRun 89 87 [l0, l1, l2, some (.int x), l4, l5] S sh mi mj mr = zRun 89 88 [l0, l1, l2, some (.int x), l4, l5] (.int x :: S) sh mi mj mr := zr_l (zD_of zk_89 d_89_87 rfl rfl) rfl rfl rfl
theorem q_89_88  : zRun 89 88 L (.int x :: S) sh mi mj mr = if ¬ x = 0 then zRun 89 105 L S sh mi mj mr else zRun 89 91 L S sh mi mj mr := zr_if (off := 17) (P := ¬ x = 0) (zD_of zk_89 d_89_88 rfl rfl) rfl rfl (by decide)
theorem q_89_91r : zRun 89 91 [l0, l1, l2, l3, l4, some (.ref o)] S sh mi mj mr = zRun 89 93 [l0, l1, l2, l3, l4, some (.ref o)] (.ref o :: S) sh mi mj mr := zr_l (zD_of zk_89 d_89_91 rfl rfl) rfl rfl rfl
theorem q_89_91n : zRun 89 91 [l0, l1, l2, l3, l4, some (.null)] S sh mi mj mr = zRun 89 93 [l0, l1, l2, l3, l4, some (.null)] (.null :: S) sh mi mj mr := zr_l (zD_of zk_89 d_89_91 rfl rfl) rfl rfl rfl
theorem q_89_93 (h : zIs sh o 0 2) : zRun 89 93 L (.ref o :: S) sh mi mj mr = zRun 89 96 L (.long (mj o 1) :: S) sh mi mj mr := zr_getJ (zD_of zk_89 d_89_93 rfl rfl) rfl rfl rfl h
theorem q_89_96r : zRun 89 96 [l0, l1, l2, l3, l4, some (.ref o)] S sh mi mj mr = zRun 89 98 [l0, l1, l2, l3, l4, some (.ref o)] (.ref o :: S) sh mi mj mr := zr_l (zD_of zk_89 d_89_96 rfl rfl) rfl rfl rfl
theorem q_89_96n : zRun 89 96 [l0, l1, l2, l3, l4, some (.null)] S sh mi mj mr = zRun 89 98 [l0, l1, l2, l3, l4, some (.null)] (.null :: S) sh mi mj mr := zr_l (zD_of zk_89 d_89_96 rfl rfl) rfl rfl rfl
theorem q_89_98 (h : zIs sh o 0 2) : zRun 89 98 L (.ref o :: S) sh mi mj mr = zRun 89 101 L (.long (mj o 6) :: S) sh mi mj mr := zr_getJ (zD_of zk_89 d_89_98 rfl rfl) rfl rfl rfl h
theorem q_89_101  : zRun 89 101 L (.long v :: .long u :: S) sh mi mj mr = zRun 89 102 L (.long (u - v) :: S) sh mi mj mr := zr_p (zD_of zk_89 d_89_101 rfl rfl) rfl
theorem q_89_102  : zRun 89 102 L S sh mi mj mr = zRun 89 116 L S sh mi mj mr := zr_go (off := 14) (zD_of zk_89 d_89_102 rfl rfl) rfl rfl (by decide)
theorem q_89_105r : zRun 89 105 [l0, l1, l2, l3, l4, some (.ref o)] S sh mi mj mr = zRun 89 107 [l0, l1, l2, l3, l4, some (.ref o)] (.ref o :: S) sh mi mj mr := zr_l (zD_of zk_89 d_89_105 rfl rfl) rfl rfl rfl
theorem q_89_105n : zRun 89 105 [l0, l1, l2, l3, l4, some (.null)] S sh mi mj mr = zRun 89 107 [l0, l1, l2, l3, l4, some (.null)] (.null :: S) sh mi mj mr := zr_l (zD_of zk_89 d_89_105 rfl rfl) rfl rfl rfl
theorem q_89_107 (h : zIs sh o 0 2) : zRun 89 107 L (.ref o :: S) sh mi mj mr = zRun 89 110 L (.long (mj o 1) :: S) sh mi mj mr := zr_getJ (zD_of zk_89 d_89_107 rfl rfl) rfl rfl rfl h
theorem q_89_110r : zRun 89 110 [l0, l1, l2, l3, l4, some (.ref o)] S sh mi mj mr = zRun 89 112 [l0, l1, l2, l3, l4, some (.ref o)] (.ref o :: S) sh mi mj mr := zr_l (zD_of zk_89 d_89_110 rfl rfl) rfl rfl rfl
theorem q_89_110n : zRun 89 110 [l0, l1, l2, l3, l4, some (.null)] S sh mi mj mr = zRun 89 112 [l0, l1, l2, l3, l4, some (.null)] (.null :: S) sh mi mj mr := zr_l (zD_of zk_89 d_89_110 rfl rfl) rfl rfl rfl
theorem q_89_112 (h : zIs sh o 0 2) : zRun 89 112 L (.ref o :: S) sh mi mj mr = zRun 89 115 L (.long (mj o 6) :: S) sh mi mj mr := zr_getJ (zD_of zk_89 d_89_112 rfl rfl) rfl rfl rfl h
theorem q_89_115  : zRun 89 115 L (.long v :: .long u :: S) sh mi mj mr = zRun 89 116 L (.long (u + v) :: S) sh mi mj mr := zr_p (zD_of zk_89 d_89_115 rfl rfl) rfl
theorem q_89_116  : zRun 89 116 L ([.long u]) sh mi mj mr = some (some (.long u), sh, mi, mj, mr) := zr_ret (zD_of zk_89 d_89_116 rfl rfl) rfl rfl rfl rfl rfl rfl
theorem q_89_117 : zRun 89 117 [l0, l1, some (.int x), l3, l4, l5] S sh mi mj mr = zRun 89 118 [l0, l1, some (.int x), l3, l4, l5] (.int x :: S) sh mi mj mr := zr_l (zD_of zk_89 d_89_117 rfl rfl) rfl rfl rfl
theorem q_89_118  : zRun 89 118 L S sh mi mj mr = zRun 89 119 L (.int 1 :: S) sh mi mj mr := zr_p (zD_of zk_89 d_89_118 rfl rfl) rfl
theorem q_89_119  : zRun 89 119 L (.int y :: .int x :: S) sh mi mj mr = if ¬ x = y then zRun 89 140 L S sh mi mj mr else zRun 89 122 L S sh mi mj mr := zr_if (off := 21) (P := ¬ x = y) (zD_of zk_89 d_89_119 rfl rfl) rfl rfl (by decide)
theorem q_89_122 : zRun 89 122 [l0, l1, l2, some (.int x), l4, l5] S sh mi mj mr = zRun 89 123 [l0, l1, l2, some (.int x), l4, l5] (.int x :: S) sh mi mj mr := zr_l (zD_of zk_89 d_89_122 rfl rfl) rfl rfl rfl
theorem q_89_123  : zRun 89 123 L (.int x :: S) sh mi mj mr = if ¬ x = 0 then zRun 89 134 L S sh mi mj mr else zRun 89 126 L S sh mi mj mr := zr_if (off := 11) (P := ¬ x = 0) (zD_of zk_89 d_89_123 rfl rfl) rfl rfl (by decide)
theorem q_89_126r : zRun 89 126 [l0, l1, l2, l3, l4, some (.ref o)] S sh mi mj mr = zRun 89 128 [l0, l1, l2, l3, l4, some (.ref o)] (.ref o :: S) sh mi mj mr := zr_l (zD_of zk_89 d_89_126 rfl rfl) rfl rfl rfl
theorem q_89_126n : zRun 89 126 [l0, l1, l2, l3, l4, some (.null)] S sh mi mj mr = zRun 89 128 [l0, l1, l2, l3, l4, some (.null)] (.null :: S) sh mi mj mr := zr_l (zD_of zk_89 d_89_126 rfl rfl) rfl rfl rfl
theorem q_89_128 (h : zIs sh o 0 2) : zRun 89 128 L (.ref o :: S) sh mi mj mr = zRun 89 131 L (.long (mj o 3) :: S) sh mi mj mr := zr_getJ (zD_of zk_89 d_89_128 rfl rfl) rfl rfl rfl h
theorem q_89_131  : zRun 89 131 L S sh mi mj mr = zRun 89 139 L S sh mi mj mr := zr_go (off := 8) (zD_of zk_89 d_89_131 rfl rfl) rfl rfl (by decide)
theorem q_89_134r : zRun 89 134 [l0, l1, l2, l3, l4, some (.ref o)] S sh mi mj mr = zRun 89 136 [l0, l1, l2, l3, l4, some (.ref o)] (.ref o :: S) sh mi mj mr := zr_l (zD_of zk_89 d_89_134 rfl rfl) rfl rfl rfl
theorem q_89_134n : zRun 89 134 [l0, l1, l2, l3, l4, some (.null)] S sh mi mj mr = zRun 89 136 [l0, l1, l2, l3, l4, some (.null)] (.null :: S) sh mi mj mr := zr_l (zD_of zk_89 d_89_134 rfl rfl) rfl rfl rfl
theorem q_89_136 (h : zIs sh o 0 2) : zRun 89 136 L (.ref o :: S) sh mi mj mr = zRun 89 139 L (.long (mj o 4) :: S) sh mi mj mr := zr_getJ (zD_of zk_89 d_89_136 rfl rfl) rfl rfl rfl h
theorem q_89_139  : zRun 89 139 L ([.long u]) sh mi mj mr = some (some (.long u), sh, mi, mj, mr) := zr_ret (zD_of zk_89 d_89_139 rfl rfl) rfl rfl rfl rfl rfl rfl
theorem q_89_140r : zRun 89 140 [l0, l1, l2, l3, l4, some (.ref o)] S sh mi mj mr = zRun 89 142 [l0, l1, l2, l3, l4, some (.ref o)] (.ref o :: S) sh mi mj mr := zr_l (zD_of zk_89 d_89_140 rfl rfl) rfl rfl rfl
theorem q_89_140n : zRun 89 140 [l0, l1, l2, l3, l4, some (.null)] S sh mi mj mr = zRun 89 142 [l0, l1, l2, l3, l4, some (.null)] (.null :: S) sh mi mj mr := zr_l (zD_of zk_89 d_89_140 rfl rfl) rfl rfl rfl
theorem q_89_142 : zRun 89 142 [l0, l1, l2, some (.int x), l4, l5] S sh mi mj mr = zRun 89 143 [l0, l1, l2, some (.int x), l4, l5] (.int x :: S) sh mi mj mr := zr_l (zD_of zk_89 d_89_142 rfl rfl) rfl rfl rfl
theorem q_89_143  {x0 : Int32} (hS : zcat S ≤ 8) (h : zIs sh o 0 2) : zRun 89 143 L (.int x0 :: .ref o :: S) sh mi mj mr = (zCall 21 [.ref o, .int x0] sh mi mj mr).bind fun r => zRun 89 146 L (r.1.toList ++ S) r.2.1 r.2.2.1 r.2.2.2.1 r.2.2.2.2 := zr_V (zD_of zk_89 d_89_143 rfl rfl) rfl zk_21 rfl rfl rfl hS h
theorem q_89_146  : zRun 89 146 L ([.long u]) sh mi mj mr = some (some (.long u), sh, mi, mj, mr) := zr_ret (zD_of zk_89 d_89_146 rfl rfl) rfl rfl rfl rfl rfl rfl
theorem e_89 {x0 x1 x2 : Int32} : zCall 89 [.ref o, .int x0, .int x1, .int x2] sh mi mj mr = zRun 89 0 [some (.ref o), some (.int x0), some (.int x1), some (.int x2), none, none] [] sh mi mj mr := rfl
theorem d_90_0 : decode cX7_part 0 = .ok (.aload_n 0, 1) := by decide +kernel
theorem d_90_1 : decode cX7_part 1 = .ok (.iload_n 1, 1) := by decide +kernel
theorem d_90_2 : decode cX7_part 2 = .ok (.invokevirtual 124, 3) := by decide +kernel
theorem d_90_5 : decode cX7_part 5 = .ok (.astore_n 3, 1) := by decide +kernel
theorem d_90_6 : decode cX7_part 6 = .ok (.aload_n 3, 1) := by decide +kernel
theorem d_90_7 : decode cX7_part 7 = .ok (.ifnonnull 8, 3) := by decide +kernel
theorem d_90_10 : decode cX7_part 10 = .ok (.iconst (-1), 1) := by decide +kernel
theorem d_90_11 : decode cX7_part 11 = .ok (.invokestatic 143, 3) := by decide +kernel
theorem d_90_14 : decode cX7_part 14 = .ok (.lreturn, 1) := by decide +kernel
theorem d_90_15 : decode cX7_part 15 = .ok (.iload_n 2, 1) := by decide +kernel
theorem d_90_16 : decode cX7_part 16 = .ok (.ifCond .lt 9, 3) := by decide +kernel
theorem d_90_19 : decode cX7_part 19 = .ok (.iload_n 2, 1) := by decide +kernel
theorem d_90_20 : decode cX7_part 20 = .ok (.bipush 14, 2) := by decide +kernel
theorem d_90_22 : decode cX7_part 22 = .ok (.if_icmp .le 9, 3) := by decide +kernel
theorem d_90_25 : decode cX7_part 25 = .ok (.bipush (-2), 2) := by decide +kernel
theorem d_90_27 : decode cX7_part 27 = .ok (.invokestatic 143, 3) := by decide +kernel
theorem d_90_30 : decode cX7_part 30 = .ok (.lreturn, 1) := by decide +kernel
theorem d_90_31 : decode cX7_part 31 = .ok (.aload_n 0, 1) := by decide +kernel
theorem d_90_32 : decode cX7_part 32 = .ok (.getfield 42, 3) := by decide +kernel
theorem d_90_35 : decode cX7_part 35 = .ok (.aload_n 3, 1) := by decide +kernel
theorem d_90_36 : decode cX7_part 36 = .ok (.aload_n 3, 1) := by decide +kernel
theorem d_90_37 : decode cX7_part 37 = .ok (.getfield 121, 3) := by decide +kernel
theorem d_90_40 : decode cX7_part 40 = .ok (.aload_n 0, 1) := by decide +kernel
theorem d_90_41 : decode cX7_part 41 = .ok (.getfield 20, 3) := by decide +kernel
theorem d_90_44 : decode cX7_part 44 = .ok (.getfield 78, 3) := by decide +kernel
theorem d_90_47 : decode cX7_part 47 = .ok (.aload_n 0, 1) := by decide +kernel
theorem d_90_48 : decode cX7_part 48 = .ok (.getfield 20, 3) := by decide +kernel
theorem d_90_51 : decode cX7_part 51 = .ok (.getfield 100, 3) := by decide +kernel
theorem d_90_54 : decode cX7_part 54 = .ok (.invokevirtual 134, 3) := by decide +kernel
theorem d_90_57 : decode cX7_part 57 = .ok (.astore 4, 2) := by decide +kernel
theorem d_90_59 : decode cX7_part 59 = .ok (.aload 4, 2) := by decide +kernel
theorem d_90_61 : decode cX7_part 61 = .ok (.getfield 138, 3) := by decide +kernel
theorem d_90_64 : decode cX7_part 64 = .ok (.ifCond .eq 9, 3) := by decide +kernel
theorem d_90_67 : decode cX7_part 67 = .ok (.bipush (-5), 2) := by decide +kernel
theorem d_90_69 : decode cX7_part 69 = .ok (.invokestatic 143, 3) := by decide +kernel
theorem d_90_72 : decode cX7_part 72 = .ok (.lreturn, 1) := by decide +kernel
theorem d_90_73 : decode cX7_part 73 = .ok (.iload_n 2, 1) := by decide +kernel
theorem d_90_74 : decode cX7_part 74 = .ok (.bipush 12, 2) := by decide +kernel
theorem d_90_76 : decode cX7_part 76 = .ok (.if_icmp .ge 11, 3) := by decide +kernel
theorem d_90_79 : decode cX7_part 79 = .ok (.aload 4, 2) := by decide +kernel
theorem d_90_81 : decode cX7_part 81 = .ok (.getfield 161, 3) := by decide +kernel
theorem d_90_84 : decode cX7_part 84 = .ok (.iload_n 2, 1) := by decide +kernel
theorem d_90_85 : decode cX7_part 85 = .ok (.laload, 1) := by decide +kernel
theorem d_90_86 : decode cX7_part 86 = .ok (.lreturn, 1) := by decide +kernel
theorem d_90_87 : decode cX7_part 87 = .ok (.iload_n 2, 1) := by decide +kernel
theorem d_90_88 : decode cX7_part 88 = .ok (.bipush 12, 2) := by decide +kernel
theorem d_90_90 : decode cX7_part 90 = .ok (.if_icmp .ne 9, 3) := by decide +kernel
theorem d_90_93 : decode cX7_part 93 = .ok (.aload 4, 2) := by decide +kernel
theorem d_90_95 : decode cX7_part 95 = .ok (.getfield 147, 3) := by decide +kernel
theorem d_90_98 : decode cX7_part 98 = .ok (.lreturn, 1) := by decide +kernel
theorem d_90_99 : decode cX7_part 99 = .ok (.iload_n 2, 1) := by decide +kernel
theorem d_90_100 : decode cX7_part 100 = .ok (.bipush 13, 2) := by decide +kernel
theorem d_90_102 : decode cX7_part 102 = .ok (.if_icmp .ne 11, 3) := by decide +kernel
theorem d_90_105 : decode cX7_part 105 = .ok (.aload 4, 2) := by decide +kernel
theorem d_90_107 : decode cX7_part 107 = .ok (.getfield 165, 3) := by decide +kernel
theorem d_90_110 : decode cX7_part 110 = .ok (.goto 8, 3) := by decide +kernel
theorem d_90_113 : decode cX7_part 113 = .ok (.aload 4, 2) := by decide +kernel
theorem d_90_115 : decode cX7_part 115 = .ok (.getfield 151, 3) := by decide +kernel
theorem d_90_118 : decode cX7_part 118 = .ok (.lreturn, 1) := by decide +kernel
theorem q_90_0r : zRun 90 0 [some (.ref o), l1, l2, l3, l4] S sh mi mj mr = zRun 90 1 [some (.ref o), l1, l2, l3, l4] (.ref o :: S) sh mi mj mr := zr_l (zD_of zk_90 d_90_0 rfl rfl) rfl rfl rfl
theorem q_90_0n : zRun 90 0 [some (.null), l1, l2, l3, l4] S sh mi mj mr = zRun 90 1 [some (.null), l1, l2, l3, l4] (.null :: S) sh mi mj mr := zr_l (zD_of zk_90 d_90_0 rfl rfl) rfl rfl rfl
theorem q_90_1 : zRun 90 1 [l0, some (.int x), l2, l3, l4] S sh mi mj mr = zRun 90 2 [l0, some (.int x), l2, l3, l4] (.int x :: S) sh mi mj mr := zr_l (zD_of zk_90 d_90_1 rfl rfl) rfl rfl rfl
theorem q_90_2  {x0 : Int32} (hS : zcat S ≤ 8) (h : zIs sh o 0 7) : zRun 90 2 L (.int x0 :: .ref o :: S) sh mi mj mr = (zCall 103 [.ref o, .int x0] sh mi mj mr).bind fun r => zRun 90 5 L (r.1.toList ++ S) r.2.1 r.2.2.1 r.2.2.2.1 r.2.2.2.2 := zr_V (zD_of zk_90 d_90_2 rfl rfl) rfl zk_103 rfl rfl rfl hS h
theorem q_90_5r : zRun 90 5 [l0, l1, l2, l3, l4] (.ref o :: S) sh mi mj mr = zRun 90 6 [l0, l1, zk2 l2, some (.ref o), l4] S sh mi mj mr := zr_s1 (i := 3) (v := .ref o) (L := [l0, l1, l2, l3, l4]) (zD_of zk_90 d_90_5 rfl rfl) rfl rfl rfl rfl
theorem q_90_5n : zRun 90 5 [l0, l1, l2, l3, l4] (.null :: S) sh mi mj mr = zRun 90 6 [l0, l1, zk2 l2, some (.null), l4] S sh mi mj mr := zr_s1 (i := 3) (v := .null) (L := [l0, l1, l2, l3, l4]) (zD_of zk_90 d_90_5 rfl rfl) rfl rfl rfl rfl
theorem q_90_6r : zRun 90 6 [l0, l1, l2, some (.ref o), l4] S sh mi mj mr = zRun 90 7 [l0, l1, l2, some (.ref o), l4] (.ref o :: S) sh mi mj mr := zr_l (zD_of zk_90 d_90_6 rfl rfl) rfl rfl rfl
theorem q_90_6n : zRun 90 6 [l0, l1, l2, some (.null), l4] S sh mi mj mr = zRun 90 7 [l0, l1, l2, some (.null), l4] (.null :: S) sh mi mj mr := zr_l (zD_of zk_90 d_90_6 rfl rfl) rfl rfl rfl
theorem q_90_7n : zRun 90 7 L (.null :: S) sh mi mj mr = zRun 90 10 L S sh mi mj mr := zr_no (off := 8) (zD_of zk_90 d_90_7 rfl rfl) rfl rfl (by decide)
theorem q_90_7r : zRun 90 7 L (.ref o :: S) sh mi mj mr = zRun 90 15 L S sh mi mj mr := zr_go (off := 8) (zD_of zk_90 d_90_7 rfl rfl) rfl rfl (by decide)
theorem q_90_10  : zRun 90 10 L S sh mi mj mr = zRun 90 11 L (.int (-1) :: S) sh mi mj mr := zr_p (zD_of zk_90 d_90_10 rfl rfl) rfl
theorem q_90_11  {x0 : Int32} (hS : zcat S ≤ 8) : zRun 90 11 L (.int x0 :: S) sh mi mj mr = (zCall 107 [.int x0] sh mi mj mr).bind fun r => zRun 90 14 L (r.1.toList ++ S) r.2.1 r.2.2.1 r.2.2.2.1 r.2.2.2.2 := zr_S (zD_of zk_90 d_90_11 rfl rfl) rfl zk_107 rfl rfl rfl hS
theorem q_90_14  : zRun 90 14 L ([.long u]) sh mi mj mr = some (some (.long u), sh, mi, mj, mr) := zr_ret (zD_of zk_90 d_90_14 rfl rfl) rfl rfl rfl rfl rfl rfl
theorem q_90_15 : zRun 90 15 [l0, l1, some (.int x), l3, l4] S sh mi mj mr = zRun 90 16 [l0, l1, some (.int x), l3, l4] (.int x :: S) sh mi mj mr := zr_l (zD_of zk_90 d_90_15 rfl rfl) rfl rfl rfl
theorem q_90_16  : zRun 90 16 L (.int x :: S) sh mi mj mr = if x < 0 then zRun 90 25 L S sh mi mj mr else zRun 90 19 L S sh mi mj mr := zr_if (off := 9) (P := x < 0) (zD_of zk_90 d_90_16 rfl rfl) rfl rfl (by decide)
theorem q_90_19 : zRun 90 19 [l0, l1, some (.int x), l3, l4] S sh mi mj mr = zRun 90 20 [l0, l1, some (.int x), l3, l4] (.int x :: S) sh mi mj mr := zr_l (zD_of zk_90 d_90_19 rfl rfl) rfl rfl rfl
theorem q_90_20  : zRun 90 20 L S sh mi mj mr = zRun 90 22 L (.int 14 :: S) sh mi mj mr := zr_p (zD_of zk_90 d_90_20 rfl rfl) rfl
theorem q_90_22  : zRun 90 22 L (.int y :: .int x :: S) sh mi mj mr = if x ≤ y then zRun 90 31 L S sh mi mj mr else zRun 90 25 L S sh mi mj mr := zr_if (off := 9) (P := x ≤ y) (zD_of zk_90 d_90_22 rfl rfl) rfl rfl (by decide)
theorem q_90_25  : zRun 90 25 L S sh mi mj mr = zRun 90 27 L (.int (-2) :: S) sh mi mj mr := zr_p (zD_of zk_90 d_90_25 rfl rfl) rfl
theorem q_90_27  {x0 : Int32} (hS : zcat S ≤ 8) : zRun 90 27 L (.int x0 :: S) sh mi mj mr = (zCall 107 [.int x0] sh mi mj mr).bind fun r => zRun 90 30 L (r.1.toList ++ S) r.2.1 r.2.2.1 r.2.2.2.1 r.2.2.2.2 := zr_S (zD_of zk_90 d_90_27 rfl rfl) rfl zk_107 rfl rfl rfl hS
theorem q_90_30  : zRun 90 30 L ([.long u]) sh mi mj mr = some (some (.long u), sh, mi, mj, mr) := zr_ret (zD_of zk_90 d_90_30 rfl rfl) rfl rfl rfl rfl rfl rfl
theorem q_90_31r : zRun 90 31 [some (.ref o), l1, l2, l3, l4] S sh mi mj mr = zRun 90 32 [some (.ref o), l1, l2, l3, l4] (.ref o :: S) sh mi mj mr := zr_l (zD_of zk_90 d_90_31 rfl rfl) rfl rfl rfl
theorem q_90_31n : zRun 90 31 [some (.null), l1, l2, l3, l4] S sh mi mj mr = zRun 90 32 [some (.null), l1, l2, l3, l4] (.null :: S) sh mi mj mr := zr_l (zD_of zk_90 d_90_31 rfl rfl) rfl rfl rfl
theorem q_90_32 (h : zIs sh o 0 7) : zRun 90 32 L (.ref o :: S) sh mi mj mr = zRun 90 35 L (va_rf (mr o 6) :: S) sh mi mj mr := zr_getR (zD_of zk_90 d_90_32 rfl rfl) rfl rfl rfl h
theorem q_90_35r : zRun 90 35 [l0, l1, l2, some (.ref o), l4] S sh mi mj mr = zRun 90 36 [l0, l1, l2, some (.ref o), l4] (.ref o :: S) sh mi mj mr := zr_l (zD_of zk_90 d_90_35 rfl rfl) rfl rfl rfl
theorem q_90_35n : zRun 90 35 [l0, l1, l2, some (.null), l4] S sh mi mj mr = zRun 90 36 [l0, l1, l2, some (.null), l4] (.null :: S) sh mi mj mr := zr_l (zD_of zk_90 d_90_35 rfl rfl) rfl rfl rfl
theorem q_90_36r : zRun 90 36 [l0, l1, l2, some (.ref o), l4] S sh mi mj mr = zRun 90 37 [l0, l1, l2, some (.ref o), l4] (.ref o :: S) sh mi mj mr := zr_l (zD_of zk_90 d_90_36 rfl rfl) rfl rfl rfl
theorem q_90_36n : zRun 90 36 [l0, l1, l2, some (.null), l4] S sh mi mj mr = zRun 90 37 [l0, l1, l2, some (.null), l4] (.null :: S) sh mi mj mr := zr_l (zD_of zk_90 d_90_36 rfl rfl) rfl rfl rfl
theorem q_90_37 (h : zIs sh o 0 6) : zRun 90 37 L (.ref o :: S) sh mi mj mr = zRun 90 40 L (.int (mi o 2) :: S) sh mi mj mr := zr_getI (zD_of zk_90 d_90_37 rfl rfl) rfl rfl (Or.inl rfl) h
theorem q_90_40r : zRun 90 40 [some (.ref o), l1, l2, l3, l4] S sh mi mj mr = zRun 90 41 [some (.ref o), l1, l2, l3, l4] (.ref o :: S) sh mi mj mr := zr_l (zD_of zk_90 d_90_40 rfl rfl) rfl rfl rfl
theorem q_90_40n : zRun 90 40 [some (.null), l1, l2, l3, l4] S sh mi mj mr = zRun 90 41 [some (.null), l1, l2, l3, l4] (.null :: S) sh mi mj mr := zr_l (zD_of zk_90 d_90_40 rfl rfl) rfl rfl rfl
theorem q_90_41 (h : zIs sh o 0 7) : zRun 90 41 L (.ref o :: S) sh mi mj mr = zRun 90 44 L (va_rf (mr o 2) :: S) sh mi mj mr := zr_getR (zD_of zk_90 d_90_41 rfl rfl) rfl rfl rfl h
theorem q_90_44 (h : zIs sh o 0 5) : zRun 90 44 L (.ref o :: S) sh mi mj mr = zRun 90 47 L (va_rf (mr o 0) :: S) sh mi mj mr := zr_getR (zD_of zk_90 d_90_44 rfl rfl) rfl rfl rfl h
theorem q_90_47r : zRun 90 47 [some (.ref o), l1, l2, l3, l4] S sh mi mj mr = zRun 90 48 [some (.ref o), l1, l2, l3, l4] (.ref o :: S) sh mi mj mr := zr_l (zD_of zk_90 d_90_47 rfl rfl) rfl rfl rfl
theorem q_90_47n : zRun 90 47 [some (.null), l1, l2, l3, l4] S sh mi mj mr = zRun 90 48 [some (.null), l1, l2, l3, l4] (.null :: S) sh mi mj mr := zr_l (zD_of zk_90 d_90_47 rfl rfl) rfl rfl rfl
theorem q_90_48 (h : zIs sh o 0 7) : zRun 90 48 L (.ref o :: S) sh mi mj mr = zRun 90 51 L (va_rf (mr o 2) :: S) sh mi mj mr := zr_getR (zD_of zk_90 d_90_48 rfl rfl) rfl rfl rfl h
theorem q_90_51 (h : zIs sh o 0 5) : zRun 90 51 L (.ref o :: S) sh mi mj mr = zRun 90 54 L (.int (mi o 2) :: S) sh mi mj mr := zr_getI (zD_of zk_90 d_90_51 rfl rfl) rfl rfl (Or.inl rfl) h
theorem q_90_54  {x0 x1 : Int32} {o0 o1 : Nat} (hS : zcat S ≤ 8) (h : zIs sh o 0 3) : zRun 90 54 L (.int x1 :: .ref o1 :: .int x0 :: .ref o0 :: .ref o :: S) sh mi mj mr = (zCall 45 [.ref o, .ref o0, .int x0, .ref o1, .int x1] sh mi mj mr).bind fun r => zRun 90 57 L (r.1.toList ++ S) r.2.1 r.2.2.1 r.2.2.2.1 r.2.2.2.2 := zr_V (zD_of zk_90 d_90_54 rfl rfl) rfl zk_45 rfl rfl rfl hS h
theorem q_90_57r : zRun 90 57 [l0, l1, l2, l3, l4] (.ref o :: S) sh mi mj mr = zRun 90 59 [l0, l1, l2, zk2 l3, some (.ref o)] S sh mi mj mr := zr_s1 (i := 4) (v := .ref o) (L := [l0, l1, l2, l3, l4]) (zD_of zk_90 d_90_57 rfl rfl) rfl rfl rfl rfl
theorem q_90_57n : zRun 90 57 [l0, l1, l2, l3, l4] (.null :: S) sh mi mj mr = zRun 90 59 [l0, l1, l2, zk2 l3, some (.null)] S sh mi mj mr := zr_s1 (i := 4) (v := .null) (L := [l0, l1, l2, l3, l4]) (zD_of zk_90 d_90_57 rfl rfl) rfl rfl rfl rfl
theorem q_90_59r : zRun 90 59 [l0, l1, l2, l3, some (.ref o)] S sh mi mj mr = zRun 90 61 [l0, l1, l2, l3, some (.ref o)] (.ref o :: S) sh mi mj mr := zr_l (zD_of zk_90 d_90_59 rfl rfl) rfl rfl rfl
theorem q_90_59n : zRun 90 59 [l0, l1, l2, l3, some (.null)] S sh mi mj mr = zRun 90 61 [l0, l1, l2, l3, some (.null)] (.null :: S) sh mi mj mr := zr_l (zD_of zk_90 d_90_59 rfl rfl) rfl rfl rfl
theorem q_90_61 (h : zIs sh o 0 2) : zRun 90 61 L (.ref o :: S) sh mi mj mr = zRun 90 64 L (.int (mi o 0) :: S) sh mi mj mr := zr_getI (zD_of zk_90 d_90_61 rfl rfl) rfl rfl (Or.inl rfl) h
theorem q_90_64  : zRun 90 64 L (.int x :: S) sh mi mj mr = if x = 0 then zRun 90 73 L S sh mi mj mr else zRun 90 67 L S sh mi mj mr := zr_if (off := 9) (P := x = 0) (zD_of zk_90 d_90_64 rfl rfl) rfl rfl (by decide)
theorem q_90_67  : zRun 90 67 L S sh mi mj mr = zRun 90 69 L (.int (-5) :: S) sh mi mj mr := zr_p (zD_of zk_90 d_90_67 rfl rfl) rfl
theorem q_90_69  {x0 : Int32} (hS : zcat S ≤ 8) : zRun 90 69 L (.int x0 :: S) sh mi mj mr = (zCall 107 [.int x0] sh mi mj mr).bind fun r => zRun 90 72 L (r.1.toList ++ S) r.2.1 r.2.2.1 r.2.2.2.1 r.2.2.2.2 := zr_S (zD_of zk_90 d_90_69 rfl rfl) rfl zk_107 rfl rfl rfl hS
theorem q_90_72  : zRun 90 72 L ([.long u]) sh mi mj mr = some (some (.long u), sh, mi, mj, mr) := zr_ret (zD_of zk_90 d_90_72 rfl rfl) rfl rfl rfl rfl rfl rfl
theorem q_90_73 : zRun 90 73 [l0, l1, some (.int x), l3, l4] S sh mi mj mr = zRun 90 74 [l0, l1, some (.int x), l3, l4] (.int x :: S) sh mi mj mr := zr_l (zD_of zk_90 d_90_73 rfl rfl) rfl rfl rfl
theorem q_90_74  : zRun 90 74 L S sh mi mj mr = zRun 90 76 L (.int 12 :: S) sh mi mj mr := zr_p (zD_of zk_90 d_90_74 rfl rfl) rfl
theorem q_90_76  : zRun 90 76 L (.int y :: .int x :: S) sh mi mj mr = if y ≤ x then zRun 90 87 L S sh mi mj mr else zRun 90 79 L S sh mi mj mr := zr_if (off := 11) (P := y ≤ x) (zD_of zk_90 d_90_76 rfl rfl) rfl rfl (by decide)
theorem q_90_79r : zRun 90 79 [l0, l1, l2, l3, some (.ref o)] S sh mi mj mr = zRun 90 81 [l0, l1, l2, l3, some (.ref o)] (.ref o :: S) sh mi mj mr := zr_l (zD_of zk_90 d_90_79 rfl rfl) rfl rfl rfl
theorem q_90_79n : zRun 90 79 [l0, l1, l2, l3, some (.null)] S sh mi mj mr = zRun 90 81 [l0, l1, l2, l3, some (.null)] (.null :: S) sh mi mj mr := zr_l (zD_of zk_90 d_90_79 rfl rfl) rfl rfl rfl
theorem q_90_81 (h : zIs sh o 0 2) : zRun 90 81 L (.ref o :: S) sh mi mj mr = zRun 90 84 L (va_rf (mr o 5) :: S) sh mi mj mr := zr_getR (zD_of zk_90 d_90_81 rfl rfl) rfl rfl rfl h
theorem q_90_84 : zRun 90 84 [l0, l1, some (.int x), l3, l4] S sh mi mj mr = zRun 90 85 [l0, l1, some (.int x), l3, l4] (.int x :: S) sh mi mj mr := zr_l (zD_of zk_90 d_90_84 rfl rfl) rfl rfl rfl
theorem q_90_85 (h : zAt sh o 2 x) : zRun 90 85 L (.int x :: .ref o :: S) sh mi mj mr = zRun 90 86 L (.long (mj o x.toNatClampNeg) :: S) sh mi mj mr := zr_lald (zD_of zk_90 d_90_85 rfl rfl) h
theorem q_90_86  : zRun 90 86 L ([.long u]) sh mi mj mr = some (some (.long u), sh, mi, mj, mr) := zr_ret (zD_of zk_90 d_90_86 rfl rfl) rfl rfl rfl rfl rfl rfl
theorem q_90_87 : zRun 90 87 [l0, l1, some (.int x), l3, l4] S sh mi mj mr = zRun 90 88 [l0, l1, some (.int x), l3, l4] (.int x :: S) sh mi mj mr := zr_l (zD_of zk_90 d_90_87 rfl rfl) rfl rfl rfl
theorem q_90_88  : zRun 90 88 L S sh mi mj mr = zRun 90 90 L (.int 12 :: S) sh mi mj mr := zr_p (zD_of zk_90 d_90_88 rfl rfl) rfl
theorem q_90_90  : zRun 90 90 L (.int y :: .int x :: S) sh mi mj mr = if ¬ x = y then zRun 90 99 L S sh mi mj mr else zRun 90 93 L S sh mi mj mr := zr_if (off := 9) (P := ¬ x = y) (zD_of zk_90 d_90_90 rfl rfl) rfl rfl (by decide)
theorem q_90_93r : zRun 90 93 [l0, l1, l2, l3, some (.ref o)] S sh mi mj mr = zRun 90 95 [l0, l1, l2, l3, some (.ref o)] (.ref o :: S) sh mi mj mr := zr_l (zD_of zk_90 d_90_93 rfl rfl) rfl rfl rfl
theorem q_90_93n : zRun 90 93 [l0, l1, l2, l3, some (.null)] S sh mi mj mr = zRun 90 95 [l0, l1, l2, l3, some (.null)] (.null :: S) sh mi mj mr := zr_l (zD_of zk_90 d_90_93 rfl rfl) rfl rfl rfl
theorem q_90_95 (h : zIs sh o 0 2) : zRun 90 95 L (.ref o :: S) sh mi mj mr = zRun 90 98 L (.long (mj o 1) :: S) sh mi mj mr := zr_getJ (zD_of zk_90 d_90_95 rfl rfl) rfl rfl rfl h
theorem q_90_98  : zRun 90 98 L ([.long u]) sh mi mj mr = some (some (.long u), sh, mi, mj, mr) := zr_ret (zD_of zk_90 d_90_98 rfl rfl) rfl rfl rfl rfl rfl rfl
theorem q_90_99 : zRun 90 99 [l0, l1, some (.int x), l3, l4] S sh mi mj mr = zRun 90 100 [l0, l1, some (.int x), l3, l4] (.int x :: S) sh mi mj mr := zr_l (zD_of zk_90 d_90_99 rfl rfl) rfl rfl rfl
theorem q_90_100  : zRun 90 100 L S sh mi mj mr = zRun 90 102 L (.int 13 :: S) sh mi mj mr := zr_p (zD_of zk_90 d_90_100 rfl rfl) rfl
theorem q_90_102  : zRun 90 102 L (.int y :: .int x :: S) sh mi mj mr = if ¬ x = y then zRun 90 113 L S sh mi mj mr else zRun 90 105 L S sh mi mj mr := zr_if (off := 11) (P := ¬ x = y) (zD_of zk_90 d_90_102 rfl rfl) rfl rfl (by decide)
theorem q_90_105r : zRun 90 105 [l0, l1, l2, l3, some (.ref o)] S sh mi mj mr = zRun 90 107 [l0, l1, l2, l3, some (.ref o)] (.ref o :: S) sh mi mj mr := zr_l (zD_of zk_90 d_90_105 rfl rfl) rfl rfl rfl
theorem q_90_105n : zRun 90 105 [l0, l1, l2, l3, some (.null)] S sh mi mj mr = zRun 90 107 [l0, l1, l2, l3, some (.null)] (.null :: S) sh mi mj mr := zr_l (zD_of zk_90 d_90_105 rfl rfl) rfl rfl rfl
theorem q_90_107 (h : zIs sh o 0 2) : zRun 90 107 L (.ref o :: S) sh mi mj mr = zRun 90 110 L (.long (mj o 2) :: S) sh mi mj mr := zr_getJ (zD_of zk_90 d_90_107 rfl rfl) rfl rfl rfl h
theorem q_90_110  : zRun 90 110 L S sh mi mj mr = zRun 90 118 L S sh mi mj mr := zr_go (off := 8) (zD_of zk_90 d_90_110 rfl rfl) rfl rfl (by decide)
theorem q_90_113r : zRun 90 113 [l0, l1, l2, l3, some (.ref o)] S sh mi mj mr = zRun 90 115 [l0, l1, l2, l3, some (.ref o)] (.ref o :: S) sh mi mj mr := zr_l (zD_of zk_90 d_90_113 rfl rfl) rfl rfl rfl
theorem q_90_113n : zRun 90 113 [l0, l1, l2, l3, some (.null)] S sh mi mj mr = zRun 90 115 [l0, l1, l2, l3, some (.null)] (.null :: S) sh mi mj mr := zr_l (zD_of zk_90 d_90_113 rfl rfl) rfl rfl rfl
theorem q_90_115 (h : zIs sh o 0 2) : zRun 90 115 L (.ref o :: S) sh mi mj mr = zRun 90 118 L (.long (mj o 6) :: S) sh mi mj mr := zr_getJ (zD_of zk_90 d_90_115 rfl rfl) rfl rfl rfl h
theorem q_90_118  : zRun 90 118 L ([.long u]) sh mi mj mr = some (some (.long u), sh, mi, mj, mr) := zr_ret (zD_of zk_90 d_90_118 rfl rfl) rfl rfl rfl rfl rfl rfl
theorem e_90 {x0 x1 : Int32} : zCall 90 [.ref o, .int x0, .int x1] sh mi mj mr = zRun 90 0 [some (.ref o), some (.int x0), some (.int x1), none, none] [] sh mi mj mr := rfl
theorem d_91_0 : decode cX7_trace 0 = .ok (.aload_n 0, 1) := by decide +kernel
theorem d_91_1 : decode cX7_trace 1 = .ok (.iload_n 1, 1) := by decide +kernel
theorem d_91_2 : decode cX7_trace 2 = .ok (.invokevirtual 124, 3) := by decide +kernel
theorem d_91_5 : decode cX7_trace 5 = .ok (.astore 4, 2) := by decide +kernel
theorem d_91_7 : decode cX7_trace 7 = .ok (.aload 4, 2) := by decide +kernel
theorem d_91_9 : decode cX7_trace 9 = .ok (.ifnull 16, 3) := by decide +kernel
theorem d_91_12 : decode cX7_trace 12 = .ok (.iload_n 2, 1) := by decide +kernel
theorem d_91_13 : decode cX7_trace 13 = .ok (.ifCond .lt 12, 3) := by decide +kernel
theorem d_91_16 : decode cX7_trace 16 = .ok (.iload_n 2, 1) := by decide +kernel
theorem d_91_17 : decode cX7_trace 17 = .ok (.aload 4, 2) := by decide +kernel
theorem d_91_19 : decode cX7_trace 19 = .ok (.getfield 121, 3) := by decide +kernel
theorem d_91_22 : decode cX7_trace 22 = .ok (.if_icmp .lt 8, 3) := by decide +kernel
theorem d_91_25 : decode cX7_trace 25 = .ok (.iconst (-1), 1) := by decide +kernel
theorem d_91_26 : decode cX7_trace 26 = .ok (.invokestatic 143, 3) := by decide +kernel
theorem d_91_29 : decode cX7_trace 29 = .ok (.lreturn, 1) := by decide +kernel
theorem d_91_30 : decode cX7_trace 30 = .ok (.iload_n 3, 1) := by decide +kernel
theorem d_91_31 : decode cX7_trace 31 = .ok (.invokestatic 89, 3) := by decide +kernel
theorem d_91_34 : decode cX7_trace 34 = .ok (.ifCond .ne 9, 3) := by decide +kernel
theorem d_91_37 : decode cX7_trace 37 = .ok (.bipush (-2), 2) := by decide +kernel
theorem d_91_39 : decode cX7_trace 39 = .ok (.invokestatic 143, 3) := by decide +kernel
theorem d_91_42 : decode cX7_trace 42 = .ok (.lreturn, 1) := by decide +kernel
theorem d_91_43 : decode cX7_trace 43 = .ok (.aload_n 0, 1) := by decide +kernel
theorem d_91_44 : decode cX7_trace 44 = .ok (.getfield 42, 3) := by decide +kernel
theorem d_91_47 : decode cX7_trace 47 = .ok (.aload 4, 2) := by decide +kernel
theorem d_91_49 : decode cX7_trace 49 = .ok (.iload_n 2, 1) := by decide +kernel
theorem d_91_50 : decode cX7_trace 50 = .ok (.iconst 1, 1) := by decide +kernel
theorem d_91_51 : decode cX7_trace 51 = .ok (.iadd, 1) := by decide +kernel
theorem d_91_52 : decode cX7_trace 52 = .ok (.aload_n 0, 1) := by decide +kernel
theorem d_91_53 : decode cX7_trace 53 = .ok (.getfield 20, 3) := by decide +kernel
theorem d_91_56 : decode cX7_trace 56 = .ok (.getfield 78, 3) := by decide +kernel
theorem d_91_59 : decode cX7_trace 59 = .ok (.aload_n 0, 1) := by decide +kernel
theorem d_91_60 : decode cX7_trace 60 = .ok (.getfield 20, 3) := by decide +kernel
theorem d_91_63 : decode cX7_trace 63 = .ok (.getfield 100, 3) := by decide +kernel
theorem d_91_66 : decode cX7_trace 66 = .ok (.invokevirtual 134, 3) := by decide +kernel
theorem d_91_69 : decode cX7_trace 69 = .ok (.iload_n 3, 1) := by decide +kernel
theorem d_91_70 : decode cX7_trace 70 = .ok (.invokestatic 168, 3) := by decide +kernel
theorem d_91_73 : decode cX7_trace 73 = .ok (.lreturn, 1) := by decide +kernel
theorem q_91_0r : zRun 91 0 [some (.ref o), l1, l2, l3, l4] S sh mi mj mr = zRun 91 1 [some (.ref o), l1, l2, l3, l4] (.ref o :: S) sh mi mj mr := zr_l (zD_of zk_91 d_91_0 rfl rfl) rfl rfl rfl
theorem q_91_0n : zRun 91 0 [some (.null), l1, l2, l3, l4] S sh mi mj mr = zRun 91 1 [some (.null), l1, l2, l3, l4] (.null :: S) sh mi mj mr := zr_l (zD_of zk_91 d_91_0 rfl rfl) rfl rfl rfl
theorem q_91_1 : zRun 91 1 [l0, some (.int x), l2, l3, l4] S sh mi mj mr = zRun 91 2 [l0, some (.int x), l2, l3, l4] (.int x :: S) sh mi mj mr := zr_l (zD_of zk_91 d_91_1 rfl rfl) rfl rfl rfl
theorem q_91_2  {x0 : Int32} (hS : zcat S ≤ 8) (h : zIs sh o 0 7) : zRun 91 2 L (.int x0 :: .ref o :: S) sh mi mj mr = (zCall 103 [.ref o, .int x0] sh mi mj mr).bind fun r => zRun 91 5 L (r.1.toList ++ S) r.2.1 r.2.2.1 r.2.2.2.1 r.2.2.2.2 := zr_V (zD_of zk_91 d_91_2 rfl rfl) rfl zk_103 rfl rfl rfl hS h
theorem q_91_5r : zRun 91 5 [l0, l1, l2, l3, l4] (.ref o :: S) sh mi mj mr = zRun 91 7 [l0, l1, l2, zk2 l3, some (.ref o)] S sh mi mj mr := zr_s1 (i := 4) (v := .ref o) (L := [l0, l1, l2, l3, l4]) (zD_of zk_91 d_91_5 rfl rfl) rfl rfl rfl rfl
theorem q_91_5n : zRun 91 5 [l0, l1, l2, l3, l4] (.null :: S) sh mi mj mr = zRun 91 7 [l0, l1, l2, zk2 l3, some (.null)] S sh mi mj mr := zr_s1 (i := 4) (v := .null) (L := [l0, l1, l2, l3, l4]) (zD_of zk_91 d_91_5 rfl rfl) rfl rfl rfl rfl
theorem q_91_7r : zRun 91 7 [l0, l1, l2, l3, some (.ref o)] S sh mi mj mr = zRun 91 9 [l0, l1, l2, l3, some (.ref o)] (.ref o :: S) sh mi mj mr := zr_l (zD_of zk_91 d_91_7 rfl rfl) rfl rfl rfl
theorem q_91_7n : zRun 91 7 [l0, l1, l2, l3, some (.null)] S sh mi mj mr = zRun 91 9 [l0, l1, l2, l3, some (.null)] (.null :: S) sh mi mj mr := zr_l (zD_of zk_91 d_91_7 rfl rfl) rfl rfl rfl
theorem q_91_9n : zRun 91 9 L (.null :: S) sh mi mj mr = zRun 91 25 L S sh mi mj mr := zr_go (off := 16) (zD_of zk_91 d_91_9 rfl rfl) rfl rfl (by decide)
theorem q_91_9r : zRun 91 9 L (.ref o :: S) sh mi mj mr = zRun 91 12 L S sh mi mj mr := zr_no (off := 16) (zD_of zk_91 d_91_9 rfl rfl) rfl rfl (by decide)
theorem q_91_12 : zRun 91 12 [l0, l1, some (.int x), l3, l4] S sh mi mj mr = zRun 91 13 [l0, l1, some (.int x), l3, l4] (.int x :: S) sh mi mj mr := zr_l (zD_of zk_91 d_91_12 rfl rfl) rfl rfl rfl
theorem q_91_13  : zRun 91 13 L (.int x :: S) sh mi mj mr = if x < 0 then zRun 91 25 L S sh mi mj mr else zRun 91 16 L S sh mi mj mr := zr_if (off := 12) (P := x < 0) (zD_of zk_91 d_91_13 rfl rfl) rfl rfl (by decide)
theorem q_91_16 : zRun 91 16 [l0, l1, some (.int x), l3, l4] S sh mi mj mr = zRun 91 17 [l0, l1, some (.int x), l3, l4] (.int x :: S) sh mi mj mr := zr_l (zD_of zk_91 d_91_16 rfl rfl) rfl rfl rfl
theorem q_91_17r : zRun 91 17 [l0, l1, l2, l3, some (.ref o)] S sh mi mj mr = zRun 91 19 [l0, l1, l2, l3, some (.ref o)] (.ref o :: S) sh mi mj mr := zr_l (zD_of zk_91 d_91_17 rfl rfl) rfl rfl rfl
theorem q_91_17n : zRun 91 17 [l0, l1, l2, l3, some (.null)] S sh mi mj mr = zRun 91 19 [l0, l1, l2, l3, some (.null)] (.null :: S) sh mi mj mr := zr_l (zD_of zk_91 d_91_17 rfl rfl) rfl rfl rfl
theorem q_91_19 (h : zIs sh o 0 6) : zRun 91 19 L (.ref o :: S) sh mi mj mr = zRun 91 22 L (.int (mi o 2) :: S) sh mi mj mr := zr_getI (zD_of zk_91 d_91_19 rfl rfl) rfl rfl (Or.inl rfl) h
theorem q_91_22  : zRun 91 22 L (.int y :: .int x :: S) sh mi mj mr = if x < y then zRun 91 30 L S sh mi mj mr else zRun 91 25 L S sh mi mj mr := zr_if (off := 8) (P := x < y) (zD_of zk_91 d_91_22 rfl rfl) rfl rfl (by decide)
theorem q_91_25  : zRun 91 25 L S sh mi mj mr = zRun 91 26 L (.int (-1) :: S) sh mi mj mr := zr_p (zD_of zk_91 d_91_25 rfl rfl) rfl
theorem q_91_26  {x0 : Int32} (hS : zcat S ≤ 8) : zRun 91 26 L (.int x0 :: S) sh mi mj mr = (zCall 107 [.int x0] sh mi mj mr).bind fun r => zRun 91 29 L (r.1.toList ++ S) r.2.1 r.2.2.1 r.2.2.2.1 r.2.2.2.2 := zr_S (zD_of zk_91 d_91_26 rfl rfl) rfl zk_107 rfl rfl rfl hS
theorem q_91_29  : zRun 91 29 L ([.long u]) sh mi mj mr = some (some (.long u), sh, mi, mj, mr) := zr_ret (zD_of zk_91 d_91_29 rfl rfl) rfl rfl rfl rfl rfl rfl
theorem q_91_30 : zRun 91 30 [l0, l1, l2, some (.int x), l4] S sh mi mj mr = zRun 91 31 [l0, l1, l2, some (.int x), l4] (.int x :: S) sh mi mj mr := zr_l (zD_of zk_91 d_91_30 rfl rfl) rfl rfl rfl
theorem q_91_31  {x0 : Int32} (hS : zcat S ≤ 8) : zRun 91 31 L (.int x0 :: S) sh mi mj mr = (zCall 109 [.int x0] sh mi mj mr).bind fun r => zRun 91 34 L (r.1.toList ++ S) r.2.1 r.2.2.1 r.2.2.2.1 r.2.2.2.2 := zr_S (zD_of zk_91 d_91_31 rfl rfl) rfl zk_109 rfl rfl rfl hS
theorem q_91_34  : zRun 91 34 L (.int x :: S) sh mi mj mr = if ¬ x = 0 then zRun 91 43 L S sh mi mj mr else zRun 91 37 L S sh mi mj mr := zr_if (off := 9) (P := ¬ x = 0) (zD_of zk_91 d_91_34 rfl rfl) rfl rfl (by decide)
theorem q_91_37  : zRun 91 37 L S sh mi mj mr = zRun 91 39 L (.int (-2) :: S) sh mi mj mr := zr_p (zD_of zk_91 d_91_37 rfl rfl) rfl
theorem q_91_39  {x0 : Int32} (hS : zcat S ≤ 8) : zRun 91 39 L (.int x0 :: S) sh mi mj mr = (zCall 107 [.int x0] sh mi mj mr).bind fun r => zRun 91 42 L (r.1.toList ++ S) r.2.1 r.2.2.1 r.2.2.2.1 r.2.2.2.2 := zr_S (zD_of zk_91 d_91_39 rfl rfl) rfl zk_107 rfl rfl rfl hS
theorem q_91_42  : zRun 91 42 L ([.long u]) sh mi mj mr = some (some (.long u), sh, mi, mj, mr) := zr_ret (zD_of zk_91 d_91_42 rfl rfl) rfl rfl rfl rfl rfl rfl
theorem q_91_43r : zRun 91 43 [some (.ref o), l1, l2, l3, l4] S sh mi mj mr = zRun 91 44 [some (.ref o), l1, l2, l3, l4] (.ref o :: S) sh mi mj mr := zr_l (zD_of zk_91 d_91_43 rfl rfl) rfl rfl rfl
theorem q_91_43n : zRun 91 43 [some (.null), l1, l2, l3, l4] S sh mi mj mr = zRun 91 44 [some (.null), l1, l2, l3, l4] (.null :: S) sh mi mj mr := zr_l (zD_of zk_91 d_91_43 rfl rfl) rfl rfl rfl
theorem q_91_44 (h : zIs sh o 0 7) : zRun 91 44 L (.ref o :: S) sh mi mj mr = zRun 91 47 L (va_rf (mr o 6) :: S) sh mi mj mr := zr_getR (zD_of zk_91 d_91_44 rfl rfl) rfl rfl rfl h
theorem q_91_47r : zRun 91 47 [l0, l1, l2, l3, some (.ref o)] S sh mi mj mr = zRun 91 49 [l0, l1, l2, l3, some (.ref o)] (.ref o :: S) sh mi mj mr := zr_l (zD_of zk_91 d_91_47 rfl rfl) rfl rfl rfl
theorem q_91_47n : zRun 91 47 [l0, l1, l2, l3, some (.null)] S sh mi mj mr = zRun 91 49 [l0, l1, l2, l3, some (.null)] (.null :: S) sh mi mj mr := zr_l (zD_of zk_91 d_91_47 rfl rfl) rfl rfl rfl
theorem q_91_49 : zRun 91 49 [l0, l1, some (.int x), l3, l4] S sh mi mj mr = zRun 91 50 [l0, l1, some (.int x), l3, l4] (.int x :: S) sh mi mj mr := zr_l (zD_of zk_91 d_91_49 rfl rfl) rfl rfl rfl
theorem q_91_50  : zRun 91 50 L S sh mi mj mr = zRun 91 51 L (.int 1 :: S) sh mi mj mr := zr_p (zD_of zk_91 d_91_50 rfl rfl) rfl
theorem q_91_51  : zRun 91 51 L (.int y :: .int x :: S) sh mi mj mr = zRun 91 52 L (.int (x + y) :: S) sh mi mj mr := zr_p (zD_of zk_91 d_91_51 rfl rfl) rfl
theorem q_91_52r : zRun 91 52 [some (.ref o), l1, l2, l3, l4] S sh mi mj mr = zRun 91 53 [some (.ref o), l1, l2, l3, l4] (.ref o :: S) sh mi mj mr := zr_l (zD_of zk_91 d_91_52 rfl rfl) rfl rfl rfl
theorem q_91_52n : zRun 91 52 [some (.null), l1, l2, l3, l4] S sh mi mj mr = zRun 91 53 [some (.null), l1, l2, l3, l4] (.null :: S) sh mi mj mr := zr_l (zD_of zk_91 d_91_52 rfl rfl) rfl rfl rfl
theorem q_91_53 (h : zIs sh o 0 7) : zRun 91 53 L (.ref o :: S) sh mi mj mr = zRun 91 56 L (va_rf (mr o 2) :: S) sh mi mj mr := zr_getR (zD_of zk_91 d_91_53 rfl rfl) rfl rfl rfl h
theorem q_91_56 (h : zIs sh o 0 5) : zRun 91 56 L (.ref o :: S) sh mi mj mr = zRun 91 59 L (va_rf (mr o 0) :: S) sh mi mj mr := zr_getR (zD_of zk_91 d_91_56 rfl rfl) rfl rfl rfl h
theorem q_91_59r : zRun 91 59 [some (.ref o), l1, l2, l3, l4] S sh mi mj mr = zRun 91 60 [some (.ref o), l1, l2, l3, l4] (.ref o :: S) sh mi mj mr := zr_l (zD_of zk_91 d_91_59 rfl rfl) rfl rfl rfl
theorem q_91_59n : zRun 91 59 [some (.null), l1, l2, l3, l4] S sh mi mj mr = zRun 91 60 [some (.null), l1, l2, l3, l4] (.null :: S) sh mi mj mr := zr_l (zD_of zk_91 d_91_59 rfl rfl) rfl rfl rfl
theorem q_91_60 (h : zIs sh o 0 7) : zRun 91 60 L (.ref o :: S) sh mi mj mr = zRun 91 63 L (va_rf (mr o 2) :: S) sh mi mj mr := zr_getR (zD_of zk_91 d_91_60 rfl rfl) rfl rfl rfl h
theorem q_91_63 (h : zIs sh o 0 5) : zRun 91 63 L (.ref o :: S) sh mi mj mr = zRun 91 66 L (.int (mi o 2) :: S) sh mi mj mr := zr_getI (zD_of zk_91 d_91_63 rfl rfl) rfl rfl (Or.inl rfl) h
theorem q_91_66  {x0 x1 : Int32} {o0 o1 : Nat} (hS : zcat S ≤ 8) (h : zIs sh o 0 3) : zRun 91 66 L (.int x1 :: .ref o1 :: .int x0 :: .ref o0 :: .ref o :: S) sh mi mj mr = (zCall 45 [.ref o, .ref o0, .int x0, .ref o1, .int x1] sh mi mj mr).bind fun r => zRun 91 69 L (r.1.toList ++ S) r.2.1 r.2.2.1 r.2.2.2.1 r.2.2.2.2 := zr_V (zD_of zk_91 d_91_66 rfl rfl) rfl zk_45 rfl rfl rfl hS h
theorem q_91_69 : zRun 91 69 [l0, l1, l2, some (.int x), l4] S sh mi mj mr = zRun 91 70 [l0, l1, l2, some (.int x), l4] (.int x :: S) sh mi mj mr := zr_l (zD_of zk_91 d_91_69 rfl rfl) rfl rfl rfl
theorem q_91_70  {x0 : Int32} {o0 : Nat} (hS : zcat S ≤ 8) : zRun 91 70 L (.int x0 :: .ref o0 :: S) sh mi mj mr = (zCall 106 [.ref o0, .int x0] sh mi mj mr).bind fun r => zRun 91 73 L (r.1.toList ++ S) r.2.1 r.2.2.1 r.2.2.2.1 r.2.2.2.2 := zr_S (zD_of zk_91 d_91_70 rfl rfl) rfl zk_106 rfl rfl rfl hS
theorem q_91_73  : zRun 91 73 L ([.long u]) sh mi mj mr = some (some (.long u), sh, mi, mj, mr) := zr_ret (zD_of zk_91 d_91_73 rfl rfl) rfl rfl rfl rfl rfl rfl
theorem e_91 {x0 x1 x2 : Int32} : zCall 91 [.ref o, .int x0, .int x1, .int x2] sh mi mj mr = zRun 91 0 [some (.ref o), some (.int x0), some (.int x1), some (.int x2), none] [] sh mi mj mr := rfl
theorem d_92_0 : decode cX7_dominant 0 = .ok (.aload_n 0, 1) := by decide +kernel
theorem d_92_1 : decode cX7_dominant 1 = .ok (.iload_n 1, 1) := by decide +kernel
theorem d_92_2 : decode cX7_dominant 2 = .ok (.invokevirtual 124, 3) := by decide +kernel
theorem d_92_5 : decode cX7_dominant 5 = .ok (.astore_n 2, 1) := by decide +kernel
theorem d_92_6 : decode cX7_dominant 6 = .ok (.aload_n 2, 1) := by decide +kernel
theorem d_92_7 : decode cX7_dominant 7 = .ok (.ifnonnull 5, 3) := by decide +kernel
theorem d_92_10 : decode cX7_dominant 10 = .ok (.iconst (-1), 1) := by decide +kernel
theorem d_92_11 : decode cX7_dominant 11 = .ok (.ireturn, 1) := by decide +kernel
theorem d_92_12 : decode cX7_dominant 12 = .ok (.aload_n 0, 1) := by decide +kernel
theorem d_92_13 : decode cX7_dominant 13 = .ok (.getfield 42, 3) := by decide +kernel
theorem d_92_16 : decode cX7_dominant 16 = .ok (.aload_n 2, 1) := by decide +kernel
theorem d_92_17 : decode cX7_dominant 17 = .ok (.aload_n 2, 1) := by decide +kernel
theorem d_92_18 : decode cX7_dominant 18 = .ok (.getfield 121, 3) := by decide +kernel
theorem d_92_21 : decode cX7_dominant 21 = .ok (.aload_n 0, 1) := by decide +kernel
theorem d_92_22 : decode cX7_dominant 22 = .ok (.getfield 20, 3) := by decide +kernel
theorem d_92_25 : decode cX7_dominant 25 = .ok (.getfield 78, 3) := by decide +kernel
theorem d_92_28 : decode cX7_dominant 28 = .ok (.aload_n 0, 1) := by decide +kernel
theorem d_92_29 : decode cX7_dominant 29 = .ok (.getfield 20, 3) := by decide +kernel
theorem d_92_32 : decode cX7_dominant 32 = .ok (.getfield 100, 3) := by decide +kernel
theorem d_92_35 : decode cX7_dominant 35 = .ok (.invokevirtual 134, 3) := by decide +kernel
theorem d_92_38 : decode cX7_dominant 38 = .ok (.astore_n 3, 1) := by decide +kernel
theorem d_92_39 : decode cX7_dominant 39 = .ok (.aload_n 3, 1) := by decide +kernel
theorem d_92_40 : decode cX7_dominant 40 = .ok (.getfield 138, 3) := by decide +kernel
theorem d_92_43 : decode cX7_dominant 43 = .ok (.ifCond .eq 6, 3) := by decide +kernel
theorem d_92_46 : decode cX7_dominant 46 = .ok (.bipush (-5), 2) := by decide +kernel
theorem d_92_48 : decode cX7_dominant 48 = .ok (.ireturn, 1) := by decide +kernel
theorem d_92_49 : decode cX7_dominant 49 = .ok (.bipush (-6), 2) := by decide +kernel
theorem d_92_51 : decode cX7_dominant 51 = .ok (.istore 4, 2) := by decide +kernel
theorem d_92_53 : decode cX7_dominant 53 = .ok (.lconst 0, 1) := by decide +kernel
theorem d_92_54 : decode cX7_dominant 54 = .ok (.lstore 5, 2) := by decide +kernel
theorem d_92_56 : decode cX7_dominant 56 = .ok (.iconst 0, 1) := by decide +kernel
theorem d_92_57 : decode cX7_dominant 57 = .ok (.istore 7, 2) := by decide +kernel
theorem d_92_59 : decode cX7_dominant 59 = .ok (.iload 7, 2) := by decide +kernel
theorem d_92_61 : decode cX7_dominant 61 = .ok (.iconst 4, 1) := by decide +kernel
theorem d_92_62 : decode cX7_dominant 62 = .ok (.if_icmp .ge 33, 3) := by decide +kernel
theorem d_92_65 : decode cX7_dominant 65 = .ok (.aload_n 3, 1) := by decide +kernel
theorem d_92_66 : decode cX7_dominant 66 = .ok (.iload 7, 2) := by decide +kernel
theorem d_92_68 : decode cX7_dominant 68 = .ok (.invokevirtual 172, 3) := by decide +kernel
theorem d_92_71 : decode cX7_dominant 71 = .ok (.lstore 8, 2) := by decide +kernel
theorem d_92_73 : decode cX7_dominant 73 = .ok (.lload 8, 2) := by decide +kernel
theorem d_92_75 : decode cX7_dominant 75 = .ok (.lload 5, 2) := by decide +kernel
theorem d_92_77 : decode cX7_dominant 77 = .ok (.lcmp, 1) := by decide +kernel
theorem d_92_78 : decode cX7_dominant 78 = .ok (.ifCond .le 11, 3) := by decide +kernel
theorem d_92_81 : decode cX7_dominant 81 = .ok (.lload 8, 2) := by decide +kernel
theorem d_92_83 : decode cX7_dominant 83 = .ok (.lstore 5, 2) := by decide +kernel
theorem d_92_85 : decode cX7_dominant 85 = .ok (.iload 7, 2) := by decide +kernel
theorem d_92_87 : decode cX7_dominant 87 = .ok (.istore 4, 2) := by decide +kernel
theorem d_92_89 : decode cX7_dominant 89 = .ok (.iinc 7 1, 3) := by decide +kernel
theorem d_92_92 : decode cX7_dominant 92 = .ok (.goto (-33), 3) := by decide +kernel
theorem d_92_95 : decode cX7_dominant 95 = .ok (.iload 4, 2) := by decide +kernel
theorem d_92_97 : decode cX7_dominant 97 = .ok (.ireturn, 1) := by decide +kernel
theorem q_92_0r : zRun 92 0 [some (.ref o), l1, l2, l3, l4, l5, l6, l7, l8, l9] S sh mi mj mr = zRun 92 1 [some (.ref o), l1, l2, l3, l4, l5, l6, l7, l8, l9] (.ref o :: S) sh mi mj mr := zr_l (zD_of zk_92 d_92_0 rfl rfl) rfl rfl rfl
theorem q_92_0n : zRun 92 0 [some (.null), l1, l2, l3, l4, l5, l6, l7, l8, l9] S sh mi mj mr = zRun 92 1 [some (.null), l1, l2, l3, l4, l5, l6, l7, l8, l9] (.null :: S) sh mi mj mr := zr_l (zD_of zk_92 d_92_0 rfl rfl) rfl rfl rfl
theorem q_92_1 : zRun 92 1 [l0, some (.int x), l2, l3, l4, l5, l6, l7, l8, l9] S sh mi mj mr = zRun 92 2 [l0, some (.int x), l2, l3, l4, l5, l6, l7, l8, l9] (.int x :: S) sh mi mj mr := zr_l (zD_of zk_92 d_92_1 rfl rfl) rfl rfl rfl
theorem q_92_2  {x0 : Int32} (hS : zcat S ≤ 8) (h : zIs sh o 0 7) : zRun 92 2 L (.int x0 :: .ref o :: S) sh mi mj mr = (zCall 103 [.ref o, .int x0] sh mi mj mr).bind fun r => zRun 92 5 L (r.1.toList ++ S) r.2.1 r.2.2.1 r.2.2.2.1 r.2.2.2.2 := zr_V (zD_of zk_92 d_92_2 rfl rfl) rfl zk_103 rfl rfl rfl hS h
theorem q_92_5r : zRun 92 5 [l0, l1, l2, l3, l4, l5, l6, l7, l8, l9] (.ref o :: S) sh mi mj mr = zRun 92 6 [l0, zk2 l1, some (.ref o), l3, l4, l5, l6, l7, l8, l9] S sh mi mj mr := zr_s1 (i := 2) (v := .ref o) (L := [l0, l1, l2, l3, l4, l5, l6, l7, l8, l9]) (zD_of zk_92 d_92_5 rfl rfl) rfl rfl rfl rfl
theorem q_92_5n : zRun 92 5 [l0, l1, l2, l3, l4, l5, l6, l7, l8, l9] (.null :: S) sh mi mj mr = zRun 92 6 [l0, zk2 l1, some (.null), l3, l4, l5, l6, l7, l8, l9] S sh mi mj mr := zr_s1 (i := 2) (v := .null) (L := [l0, l1, l2, l3, l4, l5, l6, l7, l8, l9]) (zD_of zk_92 d_92_5 rfl rfl) rfl rfl rfl rfl
theorem q_92_6r : zRun 92 6 [l0, l1, some (.ref o), l3, l4, l5, l6, l7, l8, l9] S sh mi mj mr = zRun 92 7 [l0, l1, some (.ref o), l3, l4, l5, l6, l7, l8, l9] (.ref o :: S) sh mi mj mr := zr_l (zD_of zk_92 d_92_6 rfl rfl) rfl rfl rfl
theorem q_92_6n : zRun 92 6 [l0, l1, some (.null), l3, l4, l5, l6, l7, l8, l9] S sh mi mj mr = zRun 92 7 [l0, l1, some (.null), l3, l4, l5, l6, l7, l8, l9] (.null :: S) sh mi mj mr := zr_l (zD_of zk_92 d_92_6 rfl rfl) rfl rfl rfl
theorem q_92_7n : zRun 92 7 L (.null :: S) sh mi mj mr = zRun 92 10 L S sh mi mj mr := zr_no (off := 5) (zD_of zk_92 d_92_7 rfl rfl) rfl rfl (by decide)
theorem q_92_7r : zRun 92 7 L (.ref o :: S) sh mi mj mr = zRun 92 12 L S sh mi mj mr := zr_go (off := 5) (zD_of zk_92 d_92_7 rfl rfl) rfl rfl (by decide)
theorem q_92_10  : zRun 92 10 L S sh mi mj mr = zRun 92 11 L (.int (-1) :: S) sh mi mj mr := zr_p (zD_of zk_92 d_92_10 rfl rfl) rfl
theorem q_92_11  : zRun 92 11 L ([.int x]) sh mi mj mr = some (some (.int x), sh, mi, mj, mr) := zr_ret (zD_of zk_92 d_92_11 rfl rfl) rfl rfl rfl rfl rfl (if_pos rfl)
theorem q_92_12r : zRun 92 12 [some (.ref o), l1, l2, l3, l4, l5, l6, l7, l8, l9] S sh mi mj mr = zRun 92 13 [some (.ref o), l1, l2, l3, l4, l5, l6, l7, l8, l9] (.ref o :: S) sh mi mj mr := zr_l (zD_of zk_92 d_92_12 rfl rfl) rfl rfl rfl
theorem q_92_12n : zRun 92 12 [some (.null), l1, l2, l3, l4, l5, l6, l7, l8, l9] S sh mi mj mr = zRun 92 13 [some (.null), l1, l2, l3, l4, l5, l6, l7, l8, l9] (.null :: S) sh mi mj mr := zr_l (zD_of zk_92 d_92_12 rfl rfl) rfl rfl rfl
theorem q_92_13 (h : zIs sh o 0 7) : zRun 92 13 L (.ref o :: S) sh mi mj mr = zRun 92 16 L (va_rf (mr o 6) :: S) sh mi mj mr := zr_getR (zD_of zk_92 d_92_13 rfl rfl) rfl rfl rfl h
theorem q_92_16r : zRun 92 16 [l0, l1, some (.ref o), l3, l4, l5, l6, l7, l8, l9] S sh mi mj mr = zRun 92 17 [l0, l1, some (.ref o), l3, l4, l5, l6, l7, l8, l9] (.ref o :: S) sh mi mj mr := zr_l (zD_of zk_92 d_92_16 rfl rfl) rfl rfl rfl
theorem q_92_16n : zRun 92 16 [l0, l1, some (.null), l3, l4, l5, l6, l7, l8, l9] S sh mi mj mr = zRun 92 17 [l0, l1, some (.null), l3, l4, l5, l6, l7, l8, l9] (.null :: S) sh mi mj mr := zr_l (zD_of zk_92 d_92_16 rfl rfl) rfl rfl rfl
theorem q_92_17r : zRun 92 17 [l0, l1, some (.ref o), l3, l4, l5, l6, l7, l8, l9] S sh mi mj mr = zRun 92 18 [l0, l1, some (.ref o), l3, l4, l5, l6, l7, l8, l9] (.ref o :: S) sh mi mj mr := zr_l (zD_of zk_92 d_92_17 rfl rfl) rfl rfl rfl
theorem q_92_17n : zRun 92 17 [l0, l1, some (.null), l3, l4, l5, l6, l7, l8, l9] S sh mi mj mr = zRun 92 18 [l0, l1, some (.null), l3, l4, l5, l6, l7, l8, l9] (.null :: S) sh mi mj mr := zr_l (zD_of zk_92 d_92_17 rfl rfl) rfl rfl rfl
theorem q_92_18 (h : zIs sh o 0 6) : zRun 92 18 L (.ref o :: S) sh mi mj mr = zRun 92 21 L (.int (mi o 2) :: S) sh mi mj mr := zr_getI (zD_of zk_92 d_92_18 rfl rfl) rfl rfl (Or.inl rfl) h
theorem q_92_21r : zRun 92 21 [some (.ref o), l1, l2, l3, l4, l5, l6, l7, l8, l9] S sh mi mj mr = zRun 92 22 [some (.ref o), l1, l2, l3, l4, l5, l6, l7, l8, l9] (.ref o :: S) sh mi mj mr := zr_l (zD_of zk_92 d_92_21 rfl rfl) rfl rfl rfl
theorem q_92_21n : zRun 92 21 [some (.null), l1, l2, l3, l4, l5, l6, l7, l8, l9] S sh mi mj mr = zRun 92 22 [some (.null), l1, l2, l3, l4, l5, l6, l7, l8, l9] (.null :: S) sh mi mj mr := zr_l (zD_of zk_92 d_92_21 rfl rfl) rfl rfl rfl
theorem q_92_22 (h : zIs sh o 0 7) : zRun 92 22 L (.ref o :: S) sh mi mj mr = zRun 92 25 L (va_rf (mr o 2) :: S) sh mi mj mr := zr_getR (zD_of zk_92 d_92_22 rfl rfl) rfl rfl rfl h
theorem q_92_25 (h : zIs sh o 0 5) : zRun 92 25 L (.ref o :: S) sh mi mj mr = zRun 92 28 L (va_rf (mr o 0) :: S) sh mi mj mr := zr_getR (zD_of zk_92 d_92_25 rfl rfl) rfl rfl rfl h
theorem q_92_28r : zRun 92 28 [some (.ref o), l1, l2, l3, l4, l5, l6, l7, l8, l9] S sh mi mj mr = zRun 92 29 [some (.ref o), l1, l2, l3, l4, l5, l6, l7, l8, l9] (.ref o :: S) sh mi mj mr := zr_l (zD_of zk_92 d_92_28 rfl rfl) rfl rfl rfl
theorem q_92_28n : zRun 92 28 [some (.null), l1, l2, l3, l4, l5, l6, l7, l8, l9] S sh mi mj mr = zRun 92 29 [some (.null), l1, l2, l3, l4, l5, l6, l7, l8, l9] (.null :: S) sh mi mj mr := zr_l (zD_of zk_92 d_92_28 rfl rfl) rfl rfl rfl
theorem q_92_29 (h : zIs sh o 0 7) : zRun 92 29 L (.ref o :: S) sh mi mj mr = zRun 92 32 L (va_rf (mr o 2) :: S) sh mi mj mr := zr_getR (zD_of zk_92 d_92_29 rfl rfl) rfl rfl rfl h
theorem q_92_32 (h : zIs sh o 0 5) : zRun 92 32 L (.ref o :: S) sh mi mj mr = zRun 92 35 L (.int (mi o 2) :: S) sh mi mj mr := zr_getI (zD_of zk_92 d_92_32 rfl rfl) rfl rfl (Or.inl rfl) h
theorem q_92_35  {x0 x1 : Int32} {o0 o1 : Nat} (hS : zcat S ≤ 8) (h : zIs sh o 0 3) : zRun 92 35 L (.int x1 :: .ref o1 :: .int x0 :: .ref o0 :: .ref o :: S) sh mi mj mr = (zCall 45 [.ref o, .ref o0, .int x0, .ref o1, .int x1] sh mi mj mr).bind fun r => zRun 92 38 L (r.1.toList ++ S) r.2.1 r.2.2.1 r.2.2.2.1 r.2.2.2.2 := zr_V (zD_of zk_92 d_92_35 rfl rfl) rfl zk_45 rfl rfl rfl hS h
theorem q_92_38r : zRun 92 38 [l0, l1, l2, l3, l4, l5, l6, l7, l8, l9] (.ref o :: S) sh mi mj mr = zRun 92 39 [l0, l1, zk2 l2, some (.ref o), l4, l5, l6, l7, l8, l9] S sh mi mj mr := zr_s1 (i := 3) (v := .ref o) (L := [l0, l1, l2, l3, l4, l5, l6, l7, l8, l9]) (zD_of zk_92 d_92_38 rfl rfl) rfl rfl rfl rfl
theorem q_92_38n : zRun 92 38 [l0, l1, l2, l3, l4, l5, l6, l7, l8, l9] (.null :: S) sh mi mj mr = zRun 92 39 [l0, l1, zk2 l2, some (.null), l4, l5, l6, l7, l8, l9] S sh mi mj mr := zr_s1 (i := 3) (v := .null) (L := [l0, l1, l2, l3, l4, l5, l6, l7, l8, l9]) (zD_of zk_92 d_92_38 rfl rfl) rfl rfl rfl rfl
theorem q_92_39r : zRun 92 39 [l0, l1, l2, some (.ref o), l4, l5, l6, l7, l8, l9] S sh mi mj mr = zRun 92 40 [l0, l1, l2, some (.ref o), l4, l5, l6, l7, l8, l9] (.ref o :: S) sh mi mj mr := zr_l (zD_of zk_92 d_92_39 rfl rfl) rfl rfl rfl
theorem q_92_39n : zRun 92 39 [l0, l1, l2, some (.null), l4, l5, l6, l7, l8, l9] S sh mi mj mr = zRun 92 40 [l0, l1, l2, some (.null), l4, l5, l6, l7, l8, l9] (.null :: S) sh mi mj mr := zr_l (zD_of zk_92 d_92_39 rfl rfl) rfl rfl rfl
theorem q_92_40 (h : zIs sh o 0 2) : zRun 92 40 L (.ref o :: S) sh mi mj mr = zRun 92 43 L (.int (mi o 0) :: S) sh mi mj mr := zr_getI (zD_of zk_92 d_92_40 rfl rfl) rfl rfl (Or.inl rfl) h
theorem q_92_43  : zRun 92 43 L (.int x :: S) sh mi mj mr = if x = 0 then zRun 92 49 L S sh mi mj mr else zRun 92 46 L S sh mi mj mr := zr_if (off := 6) (P := x = 0) (zD_of zk_92 d_92_43 rfl rfl) rfl rfl (by decide)
theorem q_92_46  : zRun 92 46 L S sh mi mj mr = zRun 92 48 L (.int (-5) :: S) sh mi mj mr := zr_p (zD_of zk_92 d_92_46 rfl rfl) rfl
theorem q_92_48  : zRun 92 48 L ([.int x]) sh mi mj mr = some (some (.int x), sh, mi, mj, mr) := zr_ret (zD_of zk_92 d_92_48 rfl rfl) rfl rfl rfl rfl rfl (if_pos rfl)
theorem q_92_49  : zRun 92 49 L S sh mi mj mr = zRun 92 51 L (.int (-6) :: S) sh mi mj mr := zr_p (zD_of zk_92 d_92_49 rfl rfl) rfl
theorem q_92_51 : zRun 92 51 [l0, l1, l2, l3, l4, l5, l6, l7, l8, l9] (.int x :: S) sh mi mj mr = zRun 92 53 [l0, l1, l2, zk2 l3, some (.int x), l5, l6, l7, l8, l9] S sh mi mj mr := zr_s1 (i := 4) (v := .int x) (L := [l0, l1, l2, l3, l4, l5, l6, l7, l8, l9]) (zD_of zk_92 d_92_51 rfl rfl) rfl rfl rfl rfl
theorem q_92_53  : zRun 92 53 L S sh mi mj mr = zRun 92 54 L (.long 0 :: S) sh mi mj mr := zr_p (zD_of zk_92 d_92_53 rfl rfl) rfl
theorem q_92_54 : zRun 92 54 [l0, l1, l2, l3, l4, l5, l6, l7, l8, l9] (.long u :: S) sh mi mj mr = zRun 92 56 [l0, l1, l2, l3, zk2 l4, some (.long u), none, l7, l8, l9] S sh mi mj mr := zr_s2 (i := 5) (v := .long u) (L := [l0, l1, l2, l3, l4, l5, l6, l7, l8, l9]) (zD_of zk_92 d_92_54 rfl rfl) rfl rfl rfl rfl
theorem q_92_56  : zRun 92 56 L S sh mi mj mr = zRun 92 57 L (.int 0 :: S) sh mi mj mr := zr_p (zD_of zk_92 d_92_56 rfl rfl) rfl
theorem q_92_57 : zRun 92 57 [l0, l1, l2, l3, l4, l5, l6, l7, l8, l9] (.int x :: S) sh mi mj mr = zRun 92 59 [l0, l1, l2, l3, l4, l5, zk2 l6, some (.int x), l8, l9] S sh mi mj mr := zr_s1 (i := 7) (v := .int x) (L := [l0, l1, l2, l3, l4, l5, l6, l7, l8, l9]) (zD_of zk_92 d_92_57 rfl rfl) rfl rfl rfl rfl
theorem q_92_59 : zRun 92 59 [l0, l1, l2, l3, l4, l5, l6, some (.int x), l8, l9] S sh mi mj mr = zRun 92 61 [l0, l1, l2, l3, l4, l5, l6, some (.int x), l8, l9] (.int x :: S) sh mi mj mr := zr_l (zD_of zk_92 d_92_59 rfl rfl) rfl rfl rfl
theorem q_92_61  : zRun 92 61 L S sh mi mj mr = zRun 92 62 L (.int 4 :: S) sh mi mj mr := zr_p (zD_of zk_92 d_92_61 rfl rfl) rfl
theorem q_92_62  : zRun 92 62 L (.int y :: .int x :: S) sh mi mj mr = if y ≤ x then zRun 92 95 L S sh mi mj mr else zRun 92 65 L S sh mi mj mr := zr_if (off := 33) (P := y ≤ x) (zD_of zk_92 d_92_62 rfl rfl) rfl rfl (by decide)
theorem q_92_65r : zRun 92 65 [l0, l1, l2, some (.ref o), l4, l5, l6, l7, l8, l9] S sh mi mj mr = zRun 92 66 [l0, l1, l2, some (.ref o), l4, l5, l6, l7, l8, l9] (.ref o :: S) sh mi mj mr := zr_l (zD_of zk_92 d_92_65 rfl rfl) rfl rfl rfl
theorem q_92_65n : zRun 92 65 [l0, l1, l2, some (.null), l4, l5, l6, l7, l8, l9] S sh mi mj mr = zRun 92 66 [l0, l1, l2, some (.null), l4, l5, l6, l7, l8, l9] (.null :: S) sh mi mj mr := zr_l (zD_of zk_92 d_92_65 rfl rfl) rfl rfl rfl
theorem q_92_66 : zRun 92 66 [l0, l1, l2, l3, l4, l5, l6, some (.int x), l8, l9] S sh mi mj mr = zRun 92 68 [l0, l1, l2, l3, l4, l5, l6, some (.int x), l8, l9] (.int x :: S) sh mi mj mr := zr_l (zD_of zk_92 d_92_66 rfl rfl) rfl rfl rfl
theorem q_92_68  {x0 : Int32} (hS : zcat S ≤ 8) (h : zIs sh o 0 2) : zRun 92 68 L (.int x0 :: .ref o :: S) sh mi mj mr = (zCall 23 [.ref o, .int x0] sh mi mj mr).bind fun r => zRun 92 71 L (r.1.toList ++ S) r.2.1 r.2.2.1 r.2.2.2.1 r.2.2.2.2 := zr_V (zD_of zk_92 d_92_68 rfl rfl) rfl zk_23 rfl rfl rfl hS h
theorem q_92_71 : zRun 92 71 [l0, l1, l2, l3, l4, l5, l6, l7, l8, l9] (.long u :: S) sh mi mj mr = zRun 92 73 [l0, l1, l2, l3, l4, l5, l6, zk2 l7, some (.long u), none] S sh mi mj mr := zr_s2 (i := 8) (v := .long u) (L := [l0, l1, l2, l3, l4, l5, l6, l7, l8, l9]) (zD_of zk_92 d_92_71 rfl rfl) rfl rfl rfl rfl
theorem q_92_73 : zRun 92 73 [l0, l1, l2, l3, l4, l5, l6, l7, some (.long u), l9] S sh mi mj mr = zRun 92 75 [l0, l1, l2, l3, l4, l5, l6, l7, some (.long u), l9] (.long u :: S) sh mi mj mr := zr_l (zD_of zk_92 d_92_73 rfl rfl) rfl rfl rfl
theorem q_92_75 : zRun 92 75 [l0, l1, l2, l3, l4, some (.long u), l6, l7, l8, l9] S sh mi mj mr = zRun 92 77 [l0, l1, l2, l3, l4, some (.long u), l6, l7, l8, l9] (.long u :: S) sh mi mj mr := zr_l (zD_of zk_92 d_92_75 rfl rfl) rfl rfl rfl
theorem q_92_77  : zRun 92 77 L (.long v :: .long u :: S) sh mi mj mr = if u ≤ v then zRun 92 89 L S sh mi mj mr else zRun 92 81 L S sh mi mj mr := zr_cmp (off := 11) (zD_of zk_92 d_92_77 rfl rfl) (zD_of zk_92 d_92_78 rfl rfl) rfl rfl (by decide) (lg_cmp_le u v)
theorem q_92_78  : zRun 92 78 L (.int x :: S) sh mi mj mr = if x ≤ 0 then zRun 92 89 L S sh mi mj mr else zRun 92 81 L S sh mi mj mr := zr_if (off := 11) (P := x ≤ 0) (zD_of zk_92 d_92_78 rfl rfl) rfl rfl (by decide)
theorem q_92_81 : zRun 92 81 [l0, l1, l2, l3, l4, l5, l6, l7, some (.long u), l9] S sh mi mj mr = zRun 92 83 [l0, l1, l2, l3, l4, l5, l6, l7, some (.long u), l9] (.long u :: S) sh mi mj mr := zr_l (zD_of zk_92 d_92_81 rfl rfl) rfl rfl rfl
theorem q_92_83 : zRun 92 83 [l0, l1, l2, l3, l4, l5, l6, l7, l8, l9] (.long u :: S) sh mi mj mr = zRun 92 85 [l0, l1, l2, l3, zk2 l4, some (.long u), none, l7, l8, l9] S sh mi mj mr := zr_s2 (i := 5) (v := .long u) (L := [l0, l1, l2, l3, l4, l5, l6, l7, l8, l9]) (zD_of zk_92 d_92_83 rfl rfl) rfl rfl rfl rfl
theorem q_92_85 : zRun 92 85 [l0, l1, l2, l3, l4, l5, l6, some (.int x), l8, l9] S sh mi mj mr = zRun 92 87 [l0, l1, l2, l3, l4, l5, l6, some (.int x), l8, l9] (.int x :: S) sh mi mj mr := zr_l (zD_of zk_92 d_92_85 rfl rfl) rfl rfl rfl
theorem q_92_87 : zRun 92 87 [l0, l1, l2, l3, l4, l5, l6, l7, l8, l9] (.int x :: S) sh mi mj mr = zRun 92 89 [l0, l1, l2, zk2 l3, some (.int x), l5, l6, l7, l8, l9] S sh mi mj mr := zr_s1 (i := 4) (v := .int x) (L := [l0, l1, l2, l3, l4, l5, l6, l7, l8, l9]) (zD_of zk_92 d_92_87 rfl rfl) rfl rfl rfl rfl
theorem q_92_89  : zRun 92 89 [l0, l1, l2, l3, l4, l5, l6, some (.int x), l8, l9] S sh mi mj mr = zRun 92 92 [l0, l1, l2, l3, l4, l5, zk2 l6, some (.int (x + 1)), l8, l9] S sh mi mj mr := zr_s1 (i := 7) (v := .int (x + 1)) (L := [l0, l1, l2, l3, l4, l5, l6, some (.int x), l8, l9]) (zD_of zk_92 d_92_89 rfl rfl) rfl rfl rfl rfl
theorem q_92_92  : zRun 92 92 L S sh mi mj mr = zRun 92 59 L S sh mi mj mr := zr_go (off := (-33)) (zD_of zk_92 d_92_92 rfl rfl) rfl rfl (by decide)
theorem q_92_95 : zRun 92 95 [l0, l1, l2, l3, some (.int x), l5, l6, l7, l8, l9] S sh mi mj mr = zRun 92 97 [l0, l1, l2, l3, some (.int x), l5, l6, l7, l8, l9] (.int x :: S) sh mi mj mr := zr_l (zD_of zk_92 d_92_95 rfl rfl) rfl rfl rfl
theorem q_92_97  : zRun 92 97 L ([.int x]) sh mi mj mr = some (some (.int x), sh, mi, mj, mr) := zr_ret (zD_of zk_92 d_92_97 rfl rfl) rfl rfl rfl rfl rfl (if_pos rfl)
theorem e_92 {x0 : Int32} : zCall 92 [.ref o, .int x0] sh mi mj mr = zRun 92 0 [some (.ref o), some (.int x0), none, none, none, none, none, none, none, none] [] sh mi mj mr := rfl
theorem d_93_0 : decode cX7_gain 0 = .ok (.aload_n 0, 1) := by decide +kernel
theorem d_93_1 : decode cX7_gain 1 = .ok (.iload_n 1, 1) := by decide +kernel
theorem d_93_2 : decode cX7_gain 2 = .ok (.invokevirtual 124, 3) := by decide +kernel
theorem d_93_5 : decode cX7_gain 5 = .ok (.astore_n 2, 1) := by decide +kernel
theorem d_93_6 : decode cX7_gain 6 = .ok (.aload_n 2, 1) := by decide +kernel
theorem d_93_7 : decode cX7_gain 7 = .ok (.ifnonnull 8, 3) := by decide +kernel
theorem d_93_10 : decode cX7_gain 10 = .ok (.iconst (-1), 1) := by decide +kernel
theorem d_93_11 : decode cX7_gain 11 = .ok (.invokestatic 143, 3) := by decide +kernel
theorem d_93_14 : decode cX7_gain 14 = .ok (.lreturn, 1) := by decide +kernel
theorem d_93_15 : decode cX7_gain 15 = .ok (.aload_n 0, 1) := by decide +kernel
theorem d_93_16 : decode cX7_gain 16 = .ok (.getfield 42, 3) := by decide +kernel
theorem d_93_19 : decode cX7_gain 19 = .ok (.aload_n 2, 1) := by decide +kernel
theorem d_93_20 : decode cX7_gain 20 = .ok (.aload_n 2, 1) := by decide +kernel
theorem d_93_21 : decode cX7_gain 21 = .ok (.getfield 121, 3) := by decide +kernel
theorem d_93_24 : decode cX7_gain 24 = .ok (.aload_n 0, 1) := by decide +kernel
theorem d_93_25 : decode cX7_gain 25 = .ok (.getfield 20, 3) := by decide +kernel
theorem d_93_28 : decode cX7_gain 28 = .ok (.getfield 78, 3) := by decide +kernel
theorem d_93_31 : decode cX7_gain 31 = .ok (.aload_n 0, 1) := by decide +kernel
theorem d_93_32 : decode cX7_gain 32 = .ok (.getfield 20, 3) := by decide +kernel
theorem d_93_35 : decode cX7_gain 35 = .ok (.getfield 100, 3) := by decide +kernel
theorem d_93_38 : decode cX7_gain 38 = .ok (.invokevirtual 134, 3) := by decide +kernel
theorem d_93_41 : decode cX7_gain 41 = .ok (.astore_n 3, 1) := by decide +kernel
theorem d_93_42 : decode cX7_gain 42 = .ok (.aload_n 3, 1) := by decide +kernel
theorem d_93_43 : decode cX7_gain 43 = .ok (.getfield 138, 3) := by decide +kernel
theorem d_93_46 : decode cX7_gain 46 = .ok (.ifCond .eq 9, 3) := by decide +kernel
theorem d_93_49 : decode cX7_gain 49 = .ok (.bipush (-5), 2) := by decide +kernel
theorem d_93_51 : decode cX7_gain 51 = .ok (.invokestatic 143, 3) := by decide +kernel
theorem d_93_54 : decode cX7_gain 54 = .ok (.lreturn, 1) := by decide +kernel
theorem d_93_55 : decode cX7_gain 55 = .ok (.aload_n 3, 1) := by decide +kernel
theorem d_93_56 : decode cX7_gain 56 = .ok (.getfield 156, 3) := by decide +kernel
theorem d_93_59 : decode cX7_gain 59 = .ok (.aload_n 3, 1) := by decide +kernel
theorem d_93_60 : decode cX7_gain 60 = .ok (.getfield 154, 3) := by decide +kernel
theorem d_93_63 : decode cX7_gain 63 = .ok (.lsub, 1) := by decide +kernel
theorem d_93_64 : decode cX7_gain 64 = .ok (.ldc2_w 175, 3) := by decide +kernel
theorem d_93_67 : decode cX7_gain 67 = .ok (.aload_n 3, 1) := by decide +kernel
theorem d_93_68 : decode cX7_gain 68 = .ok (.getfield 151, 3) := by decide +kernel
theorem d_93_71 : decode cX7_gain 71 = .ok (.lmul, 1) := by decide +kernel
theorem d_93_72 : decode cX7_gain 72 = .ok (.lsub, 1) := by decide +kernel
theorem d_93_73 : decode cX7_gain 73 = .ok (.lreturn, 1) := by decide +kernel
theorem q_93_0r : zRun 93 0 [some (.ref o), l1, l2, l3] S sh mi mj mr = zRun 93 1 [some (.ref o), l1, l2, l3] (.ref o :: S) sh mi mj mr := zr_l (zD_of zk_93 d_93_0 rfl rfl) rfl rfl rfl
theorem q_93_0n : zRun 93 0 [some (.null), l1, l2, l3] S sh mi mj mr = zRun 93 1 [some (.null), l1, l2, l3] (.null :: S) sh mi mj mr := zr_l (zD_of zk_93 d_93_0 rfl rfl) rfl rfl rfl
theorem q_93_1 : zRun 93 1 [l0, some (.int x), l2, l3] S sh mi mj mr = zRun 93 2 [l0, some (.int x), l2, l3] (.int x :: S) sh mi mj mr := zr_l (zD_of zk_93 d_93_1 rfl rfl) rfl rfl rfl
theorem q_93_2  {x0 : Int32} (hS : zcat S ≤ 8) (h : zIs sh o 0 7) : zRun 93 2 L (.int x0 :: .ref o :: S) sh mi mj mr = (zCall 103 [.ref o, .int x0] sh mi mj mr).bind fun r => zRun 93 5 L (r.1.toList ++ S) r.2.1 r.2.2.1 r.2.2.2.1 r.2.2.2.2 := zr_V (zD_of zk_93 d_93_2 rfl rfl) rfl zk_103 rfl rfl rfl hS h
theorem q_93_5r : zRun 93 5 [l0, l1, l2, l3] (.ref o :: S) sh mi mj mr = zRun 93 6 [l0, zk2 l1, some (.ref o), l3] S sh mi mj mr := zr_s1 (i := 2) (v := .ref o) (L := [l0, l1, l2, l3]) (zD_of zk_93 d_93_5 rfl rfl) rfl rfl rfl rfl
theorem q_93_5n : zRun 93 5 [l0, l1, l2, l3] (.null :: S) sh mi mj mr = zRun 93 6 [l0, zk2 l1, some (.null), l3] S sh mi mj mr := zr_s1 (i := 2) (v := .null) (L := [l0, l1, l2, l3]) (zD_of zk_93 d_93_5 rfl rfl) rfl rfl rfl rfl
theorem q_93_6r : zRun 93 6 [l0, l1, some (.ref o), l3] S sh mi mj mr = zRun 93 7 [l0, l1, some (.ref o), l3] (.ref o :: S) sh mi mj mr := zr_l (zD_of zk_93 d_93_6 rfl rfl) rfl rfl rfl
theorem q_93_6n : zRun 93 6 [l0, l1, some (.null), l3] S sh mi mj mr = zRun 93 7 [l0, l1, some (.null), l3] (.null :: S) sh mi mj mr := zr_l (zD_of zk_93 d_93_6 rfl rfl) rfl rfl rfl
theorem q_93_7n : zRun 93 7 L (.null :: S) sh mi mj mr = zRun 93 10 L S sh mi mj mr := zr_no (off := 8) (zD_of zk_93 d_93_7 rfl rfl) rfl rfl (by decide)
theorem q_93_7r : zRun 93 7 L (.ref o :: S) sh mi mj mr = zRun 93 15 L S sh mi mj mr := zr_go (off := 8) (zD_of zk_93 d_93_7 rfl rfl) rfl rfl (by decide)
theorem q_93_10  : zRun 93 10 L S sh mi mj mr = zRun 93 11 L (.int (-1) :: S) sh mi mj mr := zr_p (zD_of zk_93 d_93_10 rfl rfl) rfl
theorem q_93_11  {x0 : Int32} (hS : zcat S ≤ 8) : zRun 93 11 L (.int x0 :: S) sh mi mj mr = (zCall 107 [.int x0] sh mi mj mr).bind fun r => zRun 93 14 L (r.1.toList ++ S) r.2.1 r.2.2.1 r.2.2.2.1 r.2.2.2.2 := zr_S (zD_of zk_93 d_93_11 rfl rfl) rfl zk_107 rfl rfl rfl hS
theorem q_93_14  : zRun 93 14 L ([.long u]) sh mi mj mr = some (some (.long u), sh, mi, mj, mr) := zr_ret (zD_of zk_93 d_93_14 rfl rfl) rfl rfl rfl rfl rfl rfl
theorem q_93_15r : zRun 93 15 [some (.ref o), l1, l2, l3] S sh mi mj mr = zRun 93 16 [some (.ref o), l1, l2, l3] (.ref o :: S) sh mi mj mr := zr_l (zD_of zk_93 d_93_15 rfl rfl) rfl rfl rfl
theorem q_93_15n : zRun 93 15 [some (.null), l1, l2, l3] S sh mi mj mr = zRun 93 16 [some (.null), l1, l2, l3] (.null :: S) sh mi mj mr := zr_l (zD_of zk_93 d_93_15 rfl rfl) rfl rfl rfl
theorem q_93_16 (h : zIs sh o 0 7) : zRun 93 16 L (.ref o :: S) sh mi mj mr = zRun 93 19 L (va_rf (mr o 6) :: S) sh mi mj mr := zr_getR (zD_of zk_93 d_93_16 rfl rfl) rfl rfl rfl h
theorem q_93_19r : zRun 93 19 [l0, l1, some (.ref o), l3] S sh mi mj mr = zRun 93 20 [l0, l1, some (.ref o), l3] (.ref o :: S) sh mi mj mr := zr_l (zD_of zk_93 d_93_19 rfl rfl) rfl rfl rfl
theorem q_93_19n : zRun 93 19 [l0, l1, some (.null), l3] S sh mi mj mr = zRun 93 20 [l0, l1, some (.null), l3] (.null :: S) sh mi mj mr := zr_l (zD_of zk_93 d_93_19 rfl rfl) rfl rfl rfl
theorem q_93_20r : zRun 93 20 [l0, l1, some (.ref o), l3] S sh mi mj mr = zRun 93 21 [l0, l1, some (.ref o), l3] (.ref o :: S) sh mi mj mr := zr_l (zD_of zk_93 d_93_20 rfl rfl) rfl rfl rfl
theorem q_93_20n : zRun 93 20 [l0, l1, some (.null), l3] S sh mi mj mr = zRun 93 21 [l0, l1, some (.null), l3] (.null :: S) sh mi mj mr := zr_l (zD_of zk_93 d_93_20 rfl rfl) rfl rfl rfl
theorem q_93_21 (h : zIs sh o 0 6) : zRun 93 21 L (.ref o :: S) sh mi mj mr = zRun 93 24 L (.int (mi o 2) :: S) sh mi mj mr := zr_getI (zD_of zk_93 d_93_21 rfl rfl) rfl rfl (Or.inl rfl) h
theorem q_93_24r : zRun 93 24 [some (.ref o), l1, l2, l3] S sh mi mj mr = zRun 93 25 [some (.ref o), l1, l2, l3] (.ref o :: S) sh mi mj mr := zr_l (zD_of zk_93 d_93_24 rfl rfl) rfl rfl rfl
theorem q_93_24n : zRun 93 24 [some (.null), l1, l2, l3] S sh mi mj mr = zRun 93 25 [some (.null), l1, l2, l3] (.null :: S) sh mi mj mr := zr_l (zD_of zk_93 d_93_24 rfl rfl) rfl rfl rfl
theorem q_93_25 (h : zIs sh o 0 7) : zRun 93 25 L (.ref o :: S) sh mi mj mr = zRun 93 28 L (va_rf (mr o 2) :: S) sh mi mj mr := zr_getR (zD_of zk_93 d_93_25 rfl rfl) rfl rfl rfl h
theorem q_93_28 (h : zIs sh o 0 5) : zRun 93 28 L (.ref o :: S) sh mi mj mr = zRun 93 31 L (va_rf (mr o 0) :: S) sh mi mj mr := zr_getR (zD_of zk_93 d_93_28 rfl rfl) rfl rfl rfl h
theorem q_93_31r : zRun 93 31 [some (.ref o), l1, l2, l3] S sh mi mj mr = zRun 93 32 [some (.ref o), l1, l2, l3] (.ref o :: S) sh mi mj mr := zr_l (zD_of zk_93 d_93_31 rfl rfl) rfl rfl rfl
theorem q_93_31n : zRun 93 31 [some (.null), l1, l2, l3] S sh mi mj mr = zRun 93 32 [some (.null), l1, l2, l3] (.null :: S) sh mi mj mr := zr_l (zD_of zk_93 d_93_31 rfl rfl) rfl rfl rfl
theorem q_93_32 (h : zIs sh o 0 7) : zRun 93 32 L (.ref o :: S) sh mi mj mr = zRun 93 35 L (va_rf (mr o 2) :: S) sh mi mj mr := zr_getR (zD_of zk_93 d_93_32 rfl rfl) rfl rfl rfl h
theorem q_93_35 (h : zIs sh o 0 5) : zRun 93 35 L (.ref o :: S) sh mi mj mr = zRun 93 38 L (.int (mi o 2) :: S) sh mi mj mr := zr_getI (zD_of zk_93 d_93_35 rfl rfl) rfl rfl (Or.inl rfl) h
theorem q_93_38  {x0 x1 : Int32} {o0 o1 : Nat} (hS : zcat S ≤ 8) (h : zIs sh o 0 3) : zRun 93 38 L (.int x1 :: .ref o1 :: .int x0 :: .ref o0 :: .ref o :: S) sh mi mj mr = (zCall 45 [.ref o, .ref o0, .int x0, .ref o1, .int x1] sh mi mj mr).bind fun r => zRun 93 41 L (r.1.toList ++ S) r.2.1 r.2.2.1 r.2.2.2.1 r.2.2.2.2 := zr_V (zD_of zk_93 d_93_38 rfl rfl) rfl zk_45 rfl rfl rfl hS h
theorem q_93_41r : zRun 93 41 [l0, l1, l2, l3] (.ref o :: S) sh mi mj mr = zRun 93 42 [l0, l1, zk2 l2, some (.ref o)] S sh mi mj mr := zr_s1 (i := 3) (v := .ref o) (L := [l0, l1, l2, l3]) (zD_of zk_93 d_93_41 rfl rfl) rfl rfl rfl rfl
theorem q_93_41n : zRun 93 41 [l0, l1, l2, l3] (.null :: S) sh mi mj mr = zRun 93 42 [l0, l1, zk2 l2, some (.null)] S sh mi mj mr := zr_s1 (i := 3) (v := .null) (L := [l0, l1, l2, l3]) (zD_of zk_93 d_93_41 rfl rfl) rfl rfl rfl rfl
theorem q_93_42r : zRun 93 42 [l0, l1, l2, some (.ref o)] S sh mi mj mr = zRun 93 43 [l0, l1, l2, some (.ref o)] (.ref o :: S) sh mi mj mr := zr_l (zD_of zk_93 d_93_42 rfl rfl) rfl rfl rfl
theorem q_93_42n : zRun 93 42 [l0, l1, l2, some (.null)] S sh mi mj mr = zRun 93 43 [l0, l1, l2, some (.null)] (.null :: S) sh mi mj mr := zr_l (zD_of zk_93 d_93_42 rfl rfl) rfl rfl rfl
theorem q_93_43 (h : zIs sh o 0 2) : zRun 93 43 L (.ref o :: S) sh mi mj mr = zRun 93 46 L (.int (mi o 0) :: S) sh mi mj mr := zr_getI (zD_of zk_93 d_93_43 rfl rfl) rfl rfl (Or.inl rfl) h
theorem q_93_46  : zRun 93 46 L (.int x :: S) sh mi mj mr = if x = 0 then zRun 93 55 L S sh mi mj mr else zRun 93 49 L S sh mi mj mr := zr_if (off := 9) (P := x = 0) (zD_of zk_93 d_93_46 rfl rfl) rfl rfl (by decide)
theorem q_93_49  : zRun 93 49 L S sh mi mj mr = zRun 93 51 L (.int (-5) :: S) sh mi mj mr := zr_p (zD_of zk_93 d_93_49 rfl rfl) rfl
theorem q_93_51  {x0 : Int32} (hS : zcat S ≤ 8) : zRun 93 51 L (.int x0 :: S) sh mi mj mr = (zCall 107 [.int x0] sh mi mj mr).bind fun r => zRun 93 54 L (r.1.toList ++ S) r.2.1 r.2.2.1 r.2.2.2.1 r.2.2.2.2 := zr_S (zD_of zk_93 d_93_51 rfl rfl) rfl zk_107 rfl rfl rfl hS
theorem q_93_54  : zRun 93 54 L ([.long u]) sh mi mj mr = some (some (.long u), sh, mi, mj, mr) := zr_ret (zD_of zk_93 d_93_54 rfl rfl) rfl rfl rfl rfl rfl rfl
theorem q_93_55r : zRun 93 55 [l0, l1, l2, some (.ref o)] S sh mi mj mr = zRun 93 56 [l0, l1, l2, some (.ref o)] (.ref o :: S) sh mi mj mr := zr_l (zD_of zk_93 d_93_55 rfl rfl) rfl rfl rfl
theorem q_93_55n : zRun 93 55 [l0, l1, l2, some (.null)] S sh mi mj mr = zRun 93 56 [l0, l1, l2, some (.null)] (.null :: S) sh mi mj mr := zr_l (zD_of zk_93 d_93_55 rfl rfl) rfl rfl rfl
theorem q_93_56 (h : zIs sh o 0 2) : zRun 93 56 L (.ref o :: S) sh mi mj mr = zRun 93 59 L (.long (mj o 4) :: S) sh mi mj mr := zr_getJ (zD_of zk_93 d_93_56 rfl rfl) rfl rfl rfl h
theorem q_93_59r : zRun 93 59 [l0, l1, l2, some (.ref o)] S sh mi mj mr = zRun 93 60 [l0, l1, l2, some (.ref o)] (.ref o :: S) sh mi mj mr := zr_l (zD_of zk_93 d_93_59 rfl rfl) rfl rfl rfl
theorem q_93_59n : zRun 93 59 [l0, l1, l2, some (.null)] S sh mi mj mr = zRun 93 60 [l0, l1, l2, some (.null)] (.null :: S) sh mi mj mr := zr_l (zD_of zk_93 d_93_59 rfl rfl) rfl rfl rfl
theorem q_93_60 (h : zIs sh o 0 2) : zRun 93 60 L (.ref o :: S) sh mi mj mr = zRun 93 63 L (.long (mj o 3) :: S) sh mi mj mr := zr_getJ (zD_of zk_93 d_93_60 rfl rfl) rfl rfl rfl h
theorem q_93_63  : zRun 93 63 L (.long v :: .long u :: S) sh mi mj mr = zRun 93 64 L (.long (u - v) :: S) sh mi mj mr := zr_p (zD_of zk_93 d_93_63 rfl rfl) rfl
theorem q_93_64  : zRun 93 64 L S sh mi mj mr = zRun 93 67 L (.long 2 :: S) sh mi mj mr := zr_k64 (zD_of zk_93 d_93_64 rfl rfl) rfl
theorem q_93_67r : zRun 93 67 [l0, l1, l2, some (.ref o)] S sh mi mj mr = zRun 93 68 [l0, l1, l2, some (.ref o)] (.ref o :: S) sh mi mj mr := zr_l (zD_of zk_93 d_93_67 rfl rfl) rfl rfl rfl
theorem q_93_67n : zRun 93 67 [l0, l1, l2, some (.null)] S sh mi mj mr = zRun 93 68 [l0, l1, l2, some (.null)] (.null :: S) sh mi mj mr := zr_l (zD_of zk_93 d_93_67 rfl rfl) rfl rfl rfl
theorem q_93_68 (h : zIs sh o 0 2) : zRun 93 68 L (.ref o :: S) sh mi mj mr = zRun 93 71 L (.long (mj o 6) :: S) sh mi mj mr := zr_getJ (zD_of zk_93 d_93_68 rfl rfl) rfl rfl rfl h
theorem q_93_71  : zRun 93 71 L (.long v :: .long u :: S) sh mi mj mr = zRun 93 72 L (.long (u * v) :: S) sh mi mj mr := zr_p (zD_of zk_93 d_93_71 rfl rfl) rfl
theorem q_93_72  : zRun 93 72 L (.long v :: .long u :: S) sh mi mj mr = zRun 93 73 L (.long (u - v) :: S) sh mi mj mr := zr_p (zD_of zk_93 d_93_72 rfl rfl) rfl
theorem q_93_73  : zRun 93 73 L ([.long u]) sh mi mj mr = some (some (.long u), sh, mi, mj, mr) := zr_ret (zD_of zk_93 d_93_73 rfl rfl) rfl rfl rfl rfl rfl rfl
theorem e_93 {x0 : Int32} : zCall 93 [.ref o, .int x0] sh mi mj mr = zRun 93 0 [some (.ref o), some (.int x0), none, none] [] sh mi mj mr := rfl
theorem d_94_0 : decode cX7_sample 0 = .ok (.aload_n 0, 1) := by decide +kernel
theorem d_94_1 : decode cX7_sample 1 = .ok (.iload_n 1, 1) := by decide +kernel
theorem d_94_2 : decode cX7_sample 2 = .ok (.invokevirtual 124, 3) := by decide +kernel
theorem d_94_5 : decode cX7_sample 5 = .ok (.astore 4, 2) := by decide +kernel
theorem d_94_7 : decode cX7_sample 7 = .ok (.aload 4, 2) := by decide +kernel
theorem d_94_9 : decode cX7_sample 9 = .ok (.ifnonnull 8, 3) := by decide +kernel
theorem d_94_12 : decode cX7_sample 12 = .ok (.iconst (-1), 1) := by decide +kernel
theorem d_94_13 : decode cX7_sample 13 = .ok (.invokestatic 143, 3) := by decide +kernel
theorem d_94_16 : decode cX7_sample 16 = .ok (.lreturn, 1) := by decide +kernel
theorem d_94_17 : decode cX7_sample 17 = .ok (.iload_n 2, 1) := by decide +kernel
theorem d_94_18 : decode cX7_sample 18 = .ok (.ifCond .lt 17, 3) := by decide +kernel
theorem d_94_21 : decode cX7_sample 21 = .ok (.iload_n 2, 1) := by decide +kernel
theorem d_94_22 : decode cX7_sample 22 = .ok (.sipush 256, 3) := by decide +kernel
theorem d_94_25 : decode cX7_sample 25 = .ok (.if_icmp .ge 10, 3) := by decide +kernel
theorem d_94_28 : decode cX7_sample 28 = .ok (.iload_n 3, 1) := by decide +kernel
theorem d_94_29 : decode cX7_sample 29 = .ok (.invokestatic 89, 3) := by decide +kernel
theorem d_94_32 : decode cX7_sample 32 = .ok (.ifCond .ne 9, 3) := by decide +kernel
theorem d_94_35 : decode cX7_sample 35 = .ok (.bipush (-2), 2) := by decide +kernel
theorem d_94_37 : decode cX7_sample 37 = .ok (.invokestatic 143, 3) := by decide +kernel
theorem d_94_40 : decode cX7_sample 40 = .ok (.lreturn, 1) := by decide +kernel
theorem d_94_41 : decode cX7_sample 41 = .ok (.iconst 0, 1) := by decide +kernel
theorem d_94_42 : decode cX7_sample 42 = .ok (.istore 5, 2) := by decide +kernel
theorem d_94_44 : decode cX7_sample 44 = .ok (.iload 5, 2) := by decide +kernel
theorem d_94_46 : decode cX7_sample 46 = .ok (.iconst 4, 1) := by decide +kernel
theorem d_94_47 : decode cX7_sample 47 = .ok (.if_icmp .ge 44, 3) := by decide +kernel
theorem d_94_50 : decode cX7_sample 50 = .ok (.aload_n 0, 1) := by decide +kernel
theorem d_94_51 : decode cX7_sample 51 = .ok (.getfield 20, 3) := by decide +kernel
theorem d_94_54 : decode cX7_sample 54 = .ok (.getfield 78, 3) := by decide +kernel
theorem d_94_57 : decode cX7_sample 57 = .ok (.iload 5, 2) := by decide +kernel
theorem d_94_59 : decode cX7_sample 59 = .ok (.iload_n 2, 1) := by decide +kernel
theorem d_94_60 : decode cX7_sample 60 = .ok (.iconst 2, 1) := by decide +kernel
theorem d_94_61 : decode cX7_sample 61 = .ok (.iload 5, 2) := by decide +kernel
theorem d_94_63 : decode cX7_sample 63 = .ok (.imul, 1) := by decide +kernel
theorem d_94_64 : decode cX7_sample 64 = .ok (.ishr, 1) := by decide +kernel
theorem d_94_65 : decode cX7_sample 65 = .ok (.iconst 3, 1) := by decide +kernel
theorem d_94_66 : decode cX7_sample 66 = .ok (.iand, 1) := by decide +kernel
theorem d_94_67 : decode cX7_sample 67 = .ok (.invokevirtual 177, 3) := by decide +kernel
theorem d_94_70 : decode cX7_sample 70 = .ok (.istore 6, 2) := by decide +kernel
theorem d_94_72 : decode cX7_sample 72 = .ok (.aload_n 0, 1) := by decide +kernel
theorem d_94_73 : decode cX7_sample 73 = .ok (.getfield 63, 3) := by decide +kernel
theorem d_94_76 : decode cX7_sample 76 = .ok (.iload 5, 2) := by decide +kernel
theorem d_94_78 : decode cX7_sample 78 = .ok (.iload 6, 2) := by decide +kernel
theorem d_94_80 : decode cX7_sample 80 = .ok (.iload 6, 2) := by decide +kernel
theorem d_94_82 : decode cX7_sample 82 = .ok (.invokevirtual 85, 3) := by decide +kernel
theorem d_94_85 : decode cX7_sample 85 = .ok (.iinc 5 1, 3) := by decide +kernel
theorem d_94_88 : decode cX7_sample 88 = .ok (.goto (-44), 3) := by decide +kernel
theorem d_94_91 : decode cX7_sample 91 = .ok (.aload_n 0, 1) := by decide +kernel
theorem d_94_92 : decode cX7_sample 92 = .ok (.getfield 42, 3) := by decide +kernel
theorem d_94_95 : decode cX7_sample 95 = .ok (.aload 4, 2) := by decide +kernel
theorem d_94_97 : decode cX7_sample 97 = .ok (.aload 4, 2) := by decide +kernel
theorem d_94_99 : decode cX7_sample 99 = .ok (.getfield 121, 3) := by decide +kernel
theorem d_94_102 : decode cX7_sample 102 = .ok (.aload_n 0, 1) := by decide +kernel
theorem d_94_103 : decode cX7_sample 103 = .ok (.getfield 63, 3) := by decide +kernel
theorem d_94_106 : decode cX7_sample 106 = .ok (.aload_n 0, 1) := by decide +kernel
theorem d_94_107 : decode cX7_sample 107 = .ok (.getfield 20, 3) := by decide +kernel
theorem d_94_110 : decode cX7_sample 110 = .ok (.getfield 100, 3) := by decide +kernel
theorem d_94_113 : decode cX7_sample 113 = .ok (.invokevirtual 134, 3) := by decide +kernel
theorem d_94_116 : decode cX7_sample 116 = .ok (.iload_n 3, 1) := by decide +kernel
theorem d_94_117 : decode cX7_sample 117 = .ok (.invokestatic 168, 3) := by decide +kernel
theorem d_94_120 : decode cX7_sample 120 = .ok (.lreturn, 1) := by decide +kernel
theorem q_94_0r : zRun 94 0 [some (.ref o), l1, l2, l3, l4, l5, l6] S sh mi mj mr = zRun 94 1 [some (.ref o), l1, l2, l3, l4, l5, l6] (.ref o :: S) sh mi mj mr := zr_l (zD_of zk_94 d_94_0 rfl rfl) rfl rfl rfl
theorem q_94_0n : zRun 94 0 [some (.null), l1, l2, l3, l4, l5, l6] S sh mi mj mr = zRun 94 1 [some (.null), l1, l2, l3, l4, l5, l6] (.null :: S) sh mi mj mr := zr_l (zD_of zk_94 d_94_0 rfl rfl) rfl rfl rfl
theorem q_94_1 : zRun 94 1 [l0, some (.int x), l2, l3, l4, l5, l6] S sh mi mj mr = zRun 94 2 [l0, some (.int x), l2, l3, l4, l5, l6] (.int x :: S) sh mi mj mr := zr_l (zD_of zk_94 d_94_1 rfl rfl) rfl rfl rfl
theorem q_94_2  {x0 : Int32} (hS : zcat S ≤ 8) (h : zIs sh o 0 7) : zRun 94 2 L (.int x0 :: .ref o :: S) sh mi mj mr = (zCall 103 [.ref o, .int x0] sh mi mj mr).bind fun r => zRun 94 5 L (r.1.toList ++ S) r.2.1 r.2.2.1 r.2.2.2.1 r.2.2.2.2 := zr_V (zD_of zk_94 d_94_2 rfl rfl) rfl zk_103 rfl rfl rfl hS h
theorem q_94_5r : zRun 94 5 [l0, l1, l2, l3, l4, l5, l6] (.ref o :: S) sh mi mj mr = zRun 94 7 [l0, l1, l2, zk2 l3, some (.ref o), l5, l6] S sh mi mj mr := zr_s1 (i := 4) (v := .ref o) (L := [l0, l1, l2, l3, l4, l5, l6]) (zD_of zk_94 d_94_5 rfl rfl) rfl rfl rfl rfl
theorem q_94_5n : zRun 94 5 [l0, l1, l2, l3, l4, l5, l6] (.null :: S) sh mi mj mr = zRun 94 7 [l0, l1, l2, zk2 l3, some (.null), l5, l6] S sh mi mj mr := zr_s1 (i := 4) (v := .null) (L := [l0, l1, l2, l3, l4, l5, l6]) (zD_of zk_94 d_94_5 rfl rfl) rfl rfl rfl rfl
theorem q_94_7r : zRun 94 7 [l0, l1, l2, l3, some (.ref o), l5, l6] S sh mi mj mr = zRun 94 9 [l0, l1, l2, l3, some (.ref o), l5, l6] (.ref o :: S) sh mi mj mr := zr_l (zD_of zk_94 d_94_7 rfl rfl) rfl rfl rfl
theorem q_94_7n : zRun 94 7 [l0, l1, l2, l3, some (.null), l5, l6] S sh mi mj mr = zRun 94 9 [l0, l1, l2, l3, some (.null), l5, l6] (.null :: S) sh mi mj mr := zr_l (zD_of zk_94 d_94_7 rfl rfl) rfl rfl rfl
theorem q_94_9n : zRun 94 9 L (.null :: S) sh mi mj mr = zRun 94 12 L S sh mi mj mr := zr_no (off := 8) (zD_of zk_94 d_94_9 rfl rfl) rfl rfl (by decide)
theorem q_94_9r : zRun 94 9 L (.ref o :: S) sh mi mj mr = zRun 94 17 L S sh mi mj mr := zr_go (off := 8) (zD_of zk_94 d_94_9 rfl rfl) rfl rfl (by decide)
theorem q_94_12  : zRun 94 12 L S sh mi mj mr = zRun 94 13 L (.int (-1) :: S) sh mi mj mr := zr_p (zD_of zk_94 d_94_12 rfl rfl) rfl
theorem q_94_13  {x0 : Int32} (hS : zcat S ≤ 8) : zRun 94 13 L (.int x0 :: S) sh mi mj mr = (zCall 107 [.int x0] sh mi mj mr).bind fun r => zRun 94 16 L (r.1.toList ++ S) r.2.1 r.2.2.1 r.2.2.2.1 r.2.2.2.2 := zr_S (zD_of zk_94 d_94_13 rfl rfl) rfl zk_107 rfl rfl rfl hS
theorem q_94_16  : zRun 94 16 L ([.long u]) sh mi mj mr = some (some (.long u), sh, mi, mj, mr) := zr_ret (zD_of zk_94 d_94_16 rfl rfl) rfl rfl rfl rfl rfl rfl
theorem q_94_17 : zRun 94 17 [l0, l1, some (.int x), l3, l4, l5, l6] S sh mi mj mr = zRun 94 18 [l0, l1, some (.int x), l3, l4, l5, l6] (.int x :: S) sh mi mj mr := zr_l (zD_of zk_94 d_94_17 rfl rfl) rfl rfl rfl
theorem q_94_18  : zRun 94 18 L (.int x :: S) sh mi mj mr = if x < 0 then zRun 94 35 L S sh mi mj mr else zRun 94 21 L S sh mi mj mr := zr_if (off := 17) (P := x < 0) (zD_of zk_94 d_94_18 rfl rfl) rfl rfl (by decide)
theorem q_94_21 : zRun 94 21 [l0, l1, some (.int x), l3, l4, l5, l6] S sh mi mj mr = zRun 94 22 [l0, l1, some (.int x), l3, l4, l5, l6] (.int x :: S) sh mi mj mr := zr_l (zD_of zk_94 d_94_21 rfl rfl) rfl rfl rfl
theorem q_94_22  : zRun 94 22 L S sh mi mj mr = zRun 94 25 L (.int 256 :: S) sh mi mj mr := zr_p (zD_of zk_94 d_94_22 rfl rfl) rfl
theorem q_94_25  : zRun 94 25 L (.int y :: .int x :: S) sh mi mj mr = if y ≤ x then zRun 94 35 L S sh mi mj mr else zRun 94 28 L S sh mi mj mr := zr_if (off := 10) (P := y ≤ x) (zD_of zk_94 d_94_25 rfl rfl) rfl rfl (by decide)
theorem q_94_28 : zRun 94 28 [l0, l1, l2, some (.int x), l4, l5, l6] S sh mi mj mr = zRun 94 29 [l0, l1, l2, some (.int x), l4, l5, l6] (.int x :: S) sh mi mj mr := zr_l (zD_of zk_94 d_94_28 rfl rfl) rfl rfl rfl
theorem q_94_29  {x0 : Int32} (hS : zcat S ≤ 8) : zRun 94 29 L (.int x0 :: S) sh mi mj mr = (zCall 109 [.int x0] sh mi mj mr).bind fun r => zRun 94 32 L (r.1.toList ++ S) r.2.1 r.2.2.1 r.2.2.2.1 r.2.2.2.2 := zr_S (zD_of zk_94 d_94_29 rfl rfl) rfl zk_109 rfl rfl rfl hS
theorem q_94_32  : zRun 94 32 L (.int x :: S) sh mi mj mr = if ¬ x = 0 then zRun 94 41 L S sh mi mj mr else zRun 94 35 L S sh mi mj mr := zr_if (off := 9) (P := ¬ x = 0) (zD_of zk_94 d_94_32 rfl rfl) rfl rfl (by decide)
theorem q_94_35  : zRun 94 35 L S sh mi mj mr = zRun 94 37 L (.int (-2) :: S) sh mi mj mr := zr_p (zD_of zk_94 d_94_35 rfl rfl) rfl
theorem q_94_37  {x0 : Int32} (hS : zcat S ≤ 8) : zRun 94 37 L (.int x0 :: S) sh mi mj mr = (zCall 107 [.int x0] sh mi mj mr).bind fun r => zRun 94 40 L (r.1.toList ++ S) r.2.1 r.2.2.1 r.2.2.2.1 r.2.2.2.2 := zr_S (zD_of zk_94 d_94_37 rfl rfl) rfl zk_107 rfl rfl rfl hS
theorem q_94_40  : zRun 94 40 L ([.long u]) sh mi mj mr = some (some (.long u), sh, mi, mj, mr) := zr_ret (zD_of zk_94 d_94_40 rfl rfl) rfl rfl rfl rfl rfl rfl
theorem q_94_41  : zRun 94 41 L S sh mi mj mr = zRun 94 42 L (.int 0 :: S) sh mi mj mr := zr_p (zD_of zk_94 d_94_41 rfl rfl) rfl
theorem q_94_42 : zRun 94 42 [l0, l1, l2, l3, l4, l5, l6] (.int x :: S) sh mi mj mr = zRun 94 44 [l0, l1, l2, l3, zk2 l4, some (.int x), l6] S sh mi mj mr := zr_s1 (i := 5) (v := .int x) (L := [l0, l1, l2, l3, l4, l5, l6]) (zD_of zk_94 d_94_42 rfl rfl) rfl rfl rfl rfl
theorem q_94_44 : zRun 94 44 [l0, l1, l2, l3, l4, some (.int x), l6] S sh mi mj mr = zRun 94 46 [l0, l1, l2, l3, l4, some (.int x), l6] (.int x :: S) sh mi mj mr := zr_l (zD_of zk_94 d_94_44 rfl rfl) rfl rfl rfl
theorem q_94_46  : zRun 94 46 L S sh mi mj mr = zRun 94 47 L (.int 4 :: S) sh mi mj mr := zr_p (zD_of zk_94 d_94_46 rfl rfl) rfl
theorem q_94_47  : zRun 94 47 L (.int y :: .int x :: S) sh mi mj mr = if y ≤ x then zRun 94 91 L S sh mi mj mr else zRun 94 50 L S sh mi mj mr := zr_if (off := 44) (P := y ≤ x) (zD_of zk_94 d_94_47 rfl rfl) rfl rfl (by decide)
theorem q_94_50r : zRun 94 50 [some (.ref o), l1, l2, l3, l4, l5, l6] S sh mi mj mr = zRun 94 51 [some (.ref o), l1, l2, l3, l4, l5, l6] (.ref o :: S) sh mi mj mr := zr_l (zD_of zk_94 d_94_50 rfl rfl) rfl rfl rfl
theorem q_94_50n : zRun 94 50 [some (.null), l1, l2, l3, l4, l5, l6] S sh mi mj mr = zRun 94 51 [some (.null), l1, l2, l3, l4, l5, l6] (.null :: S) sh mi mj mr := zr_l (zD_of zk_94 d_94_50 rfl rfl) rfl rfl rfl
theorem q_94_51 (h : zIs sh o 0 7) : zRun 94 51 L (.ref o :: S) sh mi mj mr = zRun 94 54 L (va_rf (mr o 2) :: S) sh mi mj mr := zr_getR (zD_of zk_94 d_94_51 rfl rfl) rfl rfl rfl h
theorem q_94_54 (h : zIs sh o 0 5) : zRun 94 54 L (.ref o :: S) sh mi mj mr = zRun 94 57 L (va_rf (mr o 0) :: S) sh mi mj mr := zr_getR (zD_of zk_94 d_94_54 rfl rfl) rfl rfl rfl h
theorem q_94_57 : zRun 94 57 [l0, l1, l2, l3, l4, some (.int x), l6] S sh mi mj mr = zRun 94 59 [l0, l1, l2, l3, l4, some (.int x), l6] (.int x :: S) sh mi mj mr := zr_l (zD_of zk_94 d_94_57 rfl rfl) rfl rfl rfl
theorem q_94_59 : zRun 94 59 [l0, l1, some (.int x), l3, l4, l5, l6] S sh mi mj mr = zRun 94 60 [l0, l1, some (.int x), l3, l4, l5, l6] (.int x :: S) sh mi mj mr := zr_l (zD_of zk_94 d_94_59 rfl rfl) rfl rfl rfl
theorem q_94_60  : zRun 94 60 L S sh mi mj mr = zRun 94 61 L (.int 2 :: S) sh mi mj mr := zr_p (zD_of zk_94 d_94_60 rfl rfl) rfl
theorem q_94_61 : zRun 94 61 [l0, l1, l2, l3, l4, some (.int x), l6] S sh mi mj mr = zRun 94 63 [l0, l1, l2, l3, l4, some (.int x), l6] (.int x :: S) sh mi mj mr := zr_l (zD_of zk_94 d_94_61 rfl rfl) rfl rfl rfl
theorem q_94_63  : zRun 94 63 L (.int y :: .int x :: S) sh mi mj mr = zRun 94 64 L (.int (x * y) :: S) sh mi mj mr := zr_p (zD_of zk_94 d_94_63 rfl rfl) rfl
theorem q_94_64  : zRun 94 64 L (.int y :: .int x :: S) sh mi mj mr = zRun 94 65 L (.int (x >>> (y &&& 31)) :: S) sh mi mj mr := zr_p (zD_of zk_94 d_94_64 rfl rfl) rfl
theorem q_94_65  : zRun 94 65 L S sh mi mj mr = zRun 94 66 L (.int 3 :: S) sh mi mj mr := zr_p (zD_of zk_94 d_94_65 rfl rfl) rfl
theorem q_94_66  : zRun 94 66 L (.int y :: .int x :: S) sh mi mj mr = zRun 94 67 L (.int (x &&& y) :: S) sh mi mj mr := zr_p (zD_of zk_94 d_94_66 rfl rfl) rfl
theorem q_94_67  {x0 x1 : Int32} (hS : zcat S ≤ 8) (h : zIs sh o 0 0) : zRun 94 67 L (.int x1 :: .int x0 :: .ref o :: S) sh mi mj mr = (zCall 6 [.ref o, .int x0, .int x1] sh mi mj mr).bind fun r => zRun 94 70 L (r.1.toList ++ S) r.2.1 r.2.2.1 r.2.2.2.1 r.2.2.2.2 := zr_V (zD_of zk_94 d_94_67 rfl rfl) rfl zk_6 rfl rfl rfl hS h
theorem q_94_70 : zRun 94 70 [l0, l1, l2, l3, l4, l5, l6] (.int x :: S) sh mi mj mr = zRun 94 72 [l0, l1, l2, l3, l4, zk2 l5, some (.int x)] S sh mi mj mr := zr_s1 (i := 6) (v := .int x) (L := [l0, l1, l2, l3, l4, l5, l6]) (zD_of zk_94 d_94_70 rfl rfl) rfl rfl rfl rfl
theorem q_94_72r : zRun 94 72 [some (.ref o), l1, l2, l3, l4, l5, l6] S sh mi mj mr = zRun 94 73 [some (.ref o), l1, l2, l3, l4, l5, l6] (.ref o :: S) sh mi mj mr := zr_l (zD_of zk_94 d_94_72 rfl rfl) rfl rfl rfl
theorem q_94_72n : zRun 94 72 [some (.null), l1, l2, l3, l4, l5, l6] S sh mi mj mr = zRun 94 73 [some (.null), l1, l2, l3, l4, l5, l6] (.null :: S) sh mi mj mr := zr_l (zD_of zk_94 d_94_72 rfl rfl) rfl rfl rfl
theorem q_94_73 (h : zIs sh o 0 7) : zRun 94 73 L (.ref o :: S) sh mi mj mr = zRun 94 76 L (va_rf (mr o 10) :: S) sh mi mj mr := zr_getR (zD_of zk_94 d_94_73 rfl rfl) rfl rfl rfl h
theorem q_94_76 : zRun 94 76 [l0, l1, l2, l3, l4, some (.int x), l6] S sh mi mj mr = zRun 94 78 [l0, l1, l2, l3, l4, some (.int x), l6] (.int x :: S) sh mi mj mr := zr_l (zD_of zk_94 d_94_76 rfl rfl) rfl rfl rfl
theorem q_94_78 : zRun 94 78 [l0, l1, l2, l3, l4, l5, some (.int x)] S sh mi mj mr = zRun 94 80 [l0, l1, l2, l3, l4, l5, some (.int x)] (.int x :: S) sh mi mj mr := zr_l (zD_of zk_94 d_94_78 rfl rfl) rfl rfl rfl
theorem q_94_80 : zRun 94 80 [l0, l1, l2, l3, l4, l5, some (.int x)] S sh mi mj mr = zRun 94 82 [l0, l1, l2, l3, l4, l5, some (.int x)] (.int x :: S) sh mi mj mr := zr_l (zD_of zk_94 d_94_80 rfl rfl) rfl rfl rfl
theorem q_94_82  {x0 x1 x2 : Int32} (hS : zcat S ≤ 8) (h : zIs sh o 0 0) : zRun 94 82 L (.int x2 :: .int x1 :: .int x0 :: .ref o :: S) sh mi mj mr = (zCall 2 [.ref o, .int x0, .int x1, .int x2] sh mi mj mr).bind fun r => zRun 94 85 L (r.1.toList ++ S) r.2.1 r.2.2.1 r.2.2.2.1 r.2.2.2.2 := zr_V (zD_of zk_94 d_94_82 rfl rfl) rfl zk_2 rfl rfl rfl hS h
theorem q_94_85  : zRun 94 85 [l0, l1, l2, l3, l4, some (.int x), l6] S sh mi mj mr = zRun 94 88 [l0, l1, l2, l3, zk2 l4, some (.int (x + 1)), l6] S sh mi mj mr := zr_s1 (i := 5) (v := .int (x + 1)) (L := [l0, l1, l2, l3, l4, some (.int x), l6]) (zD_of zk_94 d_94_85 rfl rfl) rfl rfl rfl rfl
theorem q_94_88  : zRun 94 88 L S sh mi mj mr = zRun 94 44 L S sh mi mj mr := zr_go (off := (-44)) (zD_of zk_94 d_94_88 rfl rfl) rfl rfl (by decide)
theorem q_94_91r : zRun 94 91 [some (.ref o), l1, l2, l3, l4, l5, l6] S sh mi mj mr = zRun 94 92 [some (.ref o), l1, l2, l3, l4, l5, l6] (.ref o :: S) sh mi mj mr := zr_l (zD_of zk_94 d_94_91 rfl rfl) rfl rfl rfl
theorem q_94_91n : zRun 94 91 [some (.null), l1, l2, l3, l4, l5, l6] S sh mi mj mr = zRun 94 92 [some (.null), l1, l2, l3, l4, l5, l6] (.null :: S) sh mi mj mr := zr_l (zD_of zk_94 d_94_91 rfl rfl) rfl rfl rfl
theorem q_94_92 (h : zIs sh o 0 7) : zRun 94 92 L (.ref o :: S) sh mi mj mr = zRun 94 95 L (va_rf (mr o 6) :: S) sh mi mj mr := zr_getR (zD_of zk_94 d_94_92 rfl rfl) rfl rfl rfl h
theorem q_94_95r : zRun 94 95 [l0, l1, l2, l3, some (.ref o), l5, l6] S sh mi mj mr = zRun 94 97 [l0, l1, l2, l3, some (.ref o), l5, l6] (.ref o :: S) sh mi mj mr := zr_l (zD_of zk_94 d_94_95 rfl rfl) rfl rfl rfl
theorem q_94_95n : zRun 94 95 [l0, l1, l2, l3, some (.null), l5, l6] S sh mi mj mr = zRun 94 97 [l0, l1, l2, l3, some (.null), l5, l6] (.null :: S) sh mi mj mr := zr_l (zD_of zk_94 d_94_95 rfl rfl) rfl rfl rfl
theorem q_94_97r : zRun 94 97 [l0, l1, l2, l3, some (.ref o), l5, l6] S sh mi mj mr = zRun 94 99 [l0, l1, l2, l3, some (.ref o), l5, l6] (.ref o :: S) sh mi mj mr := zr_l (zD_of zk_94 d_94_97 rfl rfl) rfl rfl rfl
theorem q_94_97n : zRun 94 97 [l0, l1, l2, l3, some (.null), l5, l6] S sh mi mj mr = zRun 94 99 [l0, l1, l2, l3, some (.null), l5, l6] (.null :: S) sh mi mj mr := zr_l (zD_of zk_94 d_94_97 rfl rfl) rfl rfl rfl
theorem q_94_99 (h : zIs sh o 0 6) : zRun 94 99 L (.ref o :: S) sh mi mj mr = zRun 94 102 L (.int (mi o 2) :: S) sh mi mj mr := zr_getI (zD_of zk_94 d_94_99 rfl rfl) rfl rfl (Or.inl rfl) h
theorem q_94_102r : zRun 94 102 [some (.ref o), l1, l2, l3, l4, l5, l6] S sh mi mj mr = zRun 94 103 [some (.ref o), l1, l2, l3, l4, l5, l6] (.ref o :: S) sh mi mj mr := zr_l (zD_of zk_94 d_94_102 rfl rfl) rfl rfl rfl
theorem q_94_102n : zRun 94 102 [some (.null), l1, l2, l3, l4, l5, l6] S sh mi mj mr = zRun 94 103 [some (.null), l1, l2, l3, l4, l5, l6] (.null :: S) sh mi mj mr := zr_l (zD_of zk_94 d_94_102 rfl rfl) rfl rfl rfl
theorem q_94_103 (h : zIs sh o 0 7) : zRun 94 103 L (.ref o :: S) sh mi mj mr = zRun 94 106 L (va_rf (mr o 10) :: S) sh mi mj mr := zr_getR (zD_of zk_94 d_94_103 rfl rfl) rfl rfl rfl h
theorem q_94_106r : zRun 94 106 [some (.ref o), l1, l2, l3, l4, l5, l6] S sh mi mj mr = zRun 94 107 [some (.ref o), l1, l2, l3, l4, l5, l6] (.ref o :: S) sh mi mj mr := zr_l (zD_of zk_94 d_94_106 rfl rfl) rfl rfl rfl
theorem q_94_106n : zRun 94 106 [some (.null), l1, l2, l3, l4, l5, l6] S sh mi mj mr = zRun 94 107 [some (.null), l1, l2, l3, l4, l5, l6] (.null :: S) sh mi mj mr := zr_l (zD_of zk_94 d_94_106 rfl rfl) rfl rfl rfl
theorem q_94_107 (h : zIs sh o 0 7) : zRun 94 107 L (.ref o :: S) sh mi mj mr = zRun 94 110 L (va_rf (mr o 2) :: S) sh mi mj mr := zr_getR (zD_of zk_94 d_94_107 rfl rfl) rfl rfl rfl h
theorem q_94_110 (h : zIs sh o 0 5) : zRun 94 110 L (.ref o :: S) sh mi mj mr = zRun 94 113 L (.int (mi o 2) :: S) sh mi mj mr := zr_getI (zD_of zk_94 d_94_110 rfl rfl) rfl rfl (Or.inl rfl) h
theorem q_94_113  {x0 x1 : Int32} {o0 o1 : Nat} (hS : zcat S ≤ 8) (h : zIs sh o 0 3) : zRun 94 113 L (.int x1 :: .ref o1 :: .int x0 :: .ref o0 :: .ref o :: S) sh mi mj mr = (zCall 45 [.ref o, .ref o0, .int x0, .ref o1, .int x1] sh mi mj mr).bind fun r => zRun 94 116 L (r.1.toList ++ S) r.2.1 r.2.2.1 r.2.2.2.1 r.2.2.2.2 := zr_V (zD_of zk_94 d_94_113 rfl rfl) rfl zk_45 rfl rfl rfl hS h
theorem q_94_116 : zRun 94 116 [l0, l1, l2, some (.int x), l4, l5, l6] S sh mi mj mr = zRun 94 117 [l0, l1, l2, some (.int x), l4, l5, l6] (.int x :: S) sh mi mj mr := zr_l (zD_of zk_94 d_94_116 rfl rfl) rfl rfl rfl
theorem q_94_117  {x0 : Int32} {o0 : Nat} (hS : zcat S ≤ 8) : zRun 94 117 L (.int x0 :: .ref o0 :: S) sh mi mj mr = (zCall 106 [.ref o0, .int x0] sh mi mj mr).bind fun r => zRun 94 120 L (r.1.toList ++ S) r.2.1 r.2.2.1 r.2.2.2.1 r.2.2.2.2 := zr_S (zD_of zk_94 d_94_117 rfl rfl) rfl zk_106 rfl rfl rfl hS
theorem q_94_120  : zRun 94 120 L ([.long u]) sh mi mj mr = some (some (.long u), sh, mi, mj, mr) := zr_ret (zD_of zk_94 d_94_120 rfl rfl) rfl rfl rfl rfl rfl rfl
theorem e_94 {x0 x1 x2 : Int32} : zCall 94 [.ref o, .int x0, .int x1, .int x2] sh mi mj mr = zRun 94 0 [some (.ref o), some (.int x0), some (.int x1), some (.int x2), none, none, none] [] sh mi mj mr := rfl
theorem d_95_0 : decode cX7_compare 0 = .ok (.aload_n 0, 1) := by decide +kernel
theorem d_95_1 : decode cX7_compare 1 = .ok (.iload_n 1, 1) := by decide +kernel
theorem d_95_2 : decode cX7_compare 2 = .ok (.invokevirtual 124, 3) := by decide +kernel
theorem d_95_5 : decode cX7_compare 5 = .ok (.astore_n 3, 1) := by decide +kernel
theorem d_95_6 : decode cX7_compare 6 = .ok (.aload_n 0, 1) := by decide +kernel
theorem d_95_7 : decode cX7_compare 7 = .ok (.iload_n 2, 1) := by decide +kernel
theorem d_95_8 : decode cX7_compare 8 = .ok (.invokevirtual 124, 3) := by decide +kernel
theorem d_95_11 : decode cX7_compare 11 = .ok (.astore 4, 2) := by decide +kernel
theorem d_95_13 : decode cX7_compare 13 = .ok (.aload_n 3, 1) := by decide +kernel
theorem d_95_14 : decode cX7_compare 14 = .ok (.ifnull 8, 3) := by decide +kernel
theorem d_95_17 : decode cX7_compare 17 = .ok (.aload 4, 2) := by decide +kernel
theorem d_95_19 : decode cX7_compare 19 = .ok (.ifnonnull 5, 3) := by decide +kernel
theorem d_95_22 : decode cX7_compare 22 = .ok (.iconst (-1), 1) := by decide +kernel
theorem d_95_23 : decode cX7_compare 23 = .ok (.ireturn, 1) := by decide +kernel
theorem d_95_24 : decode cX7_compare 24 = .ok (.aload_n 0, 1) := by decide +kernel
theorem d_95_25 : decode cX7_compare 25 = .ok (.getfield 42, 3) := by decide +kernel
theorem d_95_28 : decode cX7_compare 28 = .ok (.aload_n 3, 1) := by decide +kernel
theorem d_95_29 : decode cX7_compare 29 = .ok (.aload 4, 2) := by decide +kernel
theorem d_95_31 : decode cX7_compare 31 = .ok (.aload_n 0, 1) := by decide +kernel
theorem d_95_32 : decode cX7_compare 32 = .ok (.getfield 20, 3) := by decide +kernel
theorem d_95_35 : decode cX7_compare 35 = .ok (.getfield 78, 3) := by decide +kernel
theorem d_95_38 : decode cX7_compare 38 = .ok (.aload_n 0, 1) := by decide +kernel
theorem d_95_39 : decode cX7_compare 39 = .ok (.getfield 20, 3) := by decide +kernel
theorem d_95_42 : decode cX7_compare 42 = .ok (.getfield 100, 3) := by decide +kernel
theorem d_95_45 : decode cX7_compare 45 = .ok (.invokevirtual 181, 3) := by decide +kernel
theorem d_95_48 : decode cX7_compare 48 = .ok (.astore 5, 2) := by decide +kernel
theorem d_95_50 : decode cX7_compare 50 = .ok (.aload 5, 2) := by decide +kernel
theorem d_95_52 : decode cX7_compare 52 = .ok (.getfield 138, 3) := by decide +kernel
theorem d_95_55 : decode cX7_compare 55 = .ok (.ifCond .eq 6, 3) := by decide +kernel
theorem d_95_58 : decode cX7_compare 58 = .ok (.bipush (-5), 2) := by decide +kernel
theorem d_95_60 : decode cX7_compare 60 = .ok (.ireturn, 1) := by decide +kernel
theorem d_95_61 : decode cX7_compare 61 = .ok (.aload 5, 2) := by decide +kernel
theorem d_95_63 : decode cX7_compare 63 = .ok (.getfield 185, 3) := by decide +kernel
theorem d_95_66 : decode cX7_compare 66 = .ok (.lconst 0, 1) := by decide +kernel
theorem d_95_67 : decode cX7_compare 67 = .ok (.lcmp, 1) := by decide +kernel
theorem d_95_68 : decode cX7_compare 68 = .ok (.ifCond .le 5, 3) := by decide +kernel
theorem d_95_71 : decode cX7_compare 71 = .ok (.iconst 1, 1) := by decide +kernel
theorem d_95_72 : decode cX7_compare 72 = .ok (.ireturn, 1) := by decide +kernel
theorem d_95_73 : decode cX7_compare 73 = .ok (.aload 5, 2) := by decide +kernel
theorem d_95_75 : decode cX7_compare 75 = .ok (.getfield 188, 3) := by decide +kernel
theorem d_95_78 : decode cX7_compare 78 = .ok (.lconst 0, 1) := by decide +kernel
theorem d_95_79 : decode cX7_compare 79 = .ok (.lcmp, 1) := by decide +kernel
theorem d_95_80 : decode cX7_compare 80 = .ok (.ifCond .ge 5, 3) := by decide +kernel
theorem d_95_83 : decode cX7_compare 83 = .ok (.iconst 2, 1) := by decide +kernel
theorem d_95_84 : decode cX7_compare 84 = .ok (.ireturn, 1) := by decide +kernel
theorem d_95_85 : decode cX7_compare 85 = .ok (.aload 5, 2) := by decide +kernel
theorem d_95_87 : decode cX7_compare 87 = .ok (.getfield 185, 3) := by decide +kernel
theorem d_95_90 : decode cX7_compare 90 = .ok (.lconst 0, 1) := by decide +kernel
theorem d_95_91 : decode cX7_compare 91 = .ok (.lcmp, 1) := by decide +kernel
theorem d_95_92 : decode cX7_compare 92 = .ok (.ifCond .ne 17, 3) := by decide +kernel
theorem d_95_95 : decode cX7_compare 95 = .ok (.aload 5, 2) := by decide +kernel
theorem d_95_97 : decode cX7_compare 97 = .ok (.getfield 188, 3) := by decide +kernel
theorem d_95_100 : decode cX7_compare 100 = .ok (.lconst 0, 1) := by decide +kernel
theorem d_95_101 : decode cX7_compare 101 = .ok (.lcmp, 1) := by decide +kernel
theorem d_95_102 : decode cX7_compare 102 = .ok (.ifCond .ne 7, 3) := by decide +kernel
theorem d_95_105 : decode cX7_compare 105 = .ok (.iconst 3, 1) := by decide +kernel
theorem d_95_106 : decode cX7_compare 106 = .ok (.goto 4, 3) := by decide +kernel
theorem d_95_109 : decode cX7_compare 109 = .ok (.iconst 0, 1) := by decide +kernel
theorem d_95_110 : decode cX7_compare 110 = .ok (.ireturn, 1) := by decide +kernel
theorem q_95_0r : zRun 95 0 [some (.ref o), l1, l2, l3, l4, l5] S sh mi mj mr = zRun 95 1 [some (.ref o), l1, l2, l3, l4, l5] (.ref o :: S) sh mi mj mr := zr_l (zD_of zk_95 d_95_0 rfl rfl) rfl rfl rfl
theorem q_95_0n : zRun 95 0 [some (.null), l1, l2, l3, l4, l5] S sh mi mj mr = zRun 95 1 [some (.null), l1, l2, l3, l4, l5] (.null :: S) sh mi mj mr := zr_l (zD_of zk_95 d_95_0 rfl rfl) rfl rfl rfl
theorem q_95_1 : zRun 95 1 [l0, some (.int x), l2, l3, l4, l5] S sh mi mj mr = zRun 95 2 [l0, some (.int x), l2, l3, l4, l5] (.int x :: S) sh mi mj mr := zr_l (zD_of zk_95 d_95_1 rfl rfl) rfl rfl rfl
theorem q_95_2  {x0 : Int32} (hS : zcat S ≤ 8) (h : zIs sh o 0 7) : zRun 95 2 L (.int x0 :: .ref o :: S) sh mi mj mr = (zCall 103 [.ref o, .int x0] sh mi mj mr).bind fun r => zRun 95 5 L (r.1.toList ++ S) r.2.1 r.2.2.1 r.2.2.2.1 r.2.2.2.2 := zr_V (zD_of zk_95 d_95_2 rfl rfl) rfl zk_103 rfl rfl rfl hS h
theorem q_95_5r : zRun 95 5 [l0, l1, l2, l3, l4, l5] (.ref o :: S) sh mi mj mr = zRun 95 6 [l0, l1, zk2 l2, some (.ref o), l4, l5] S sh mi mj mr := zr_s1 (i := 3) (v := .ref o) (L := [l0, l1, l2, l3, l4, l5]) (zD_of zk_95 d_95_5 rfl rfl) rfl rfl rfl rfl
theorem q_95_5n : zRun 95 5 [l0, l1, l2, l3, l4, l5] (.null :: S) sh mi mj mr = zRun 95 6 [l0, l1, zk2 l2, some (.null), l4, l5] S sh mi mj mr := zr_s1 (i := 3) (v := .null) (L := [l0, l1, l2, l3, l4, l5]) (zD_of zk_95 d_95_5 rfl rfl) rfl rfl rfl rfl
theorem q_95_6r : zRun 95 6 [some (.ref o), l1, l2, l3, l4, l5] S sh mi mj mr = zRun 95 7 [some (.ref o), l1, l2, l3, l4, l5] (.ref o :: S) sh mi mj mr := zr_l (zD_of zk_95 d_95_6 rfl rfl) rfl rfl rfl
theorem q_95_6n : zRun 95 6 [some (.null), l1, l2, l3, l4, l5] S sh mi mj mr = zRun 95 7 [some (.null), l1, l2, l3, l4, l5] (.null :: S) sh mi mj mr := zr_l (zD_of zk_95 d_95_6 rfl rfl) rfl rfl rfl
theorem q_95_7 : zRun 95 7 [l0, l1, some (.int x), l3, l4, l5] S sh mi mj mr = zRun 95 8 [l0, l1, some (.int x), l3, l4, l5] (.int x :: S) sh mi mj mr := zr_l (zD_of zk_95 d_95_7 rfl rfl) rfl rfl rfl
theorem q_95_8  {x0 : Int32} (hS : zcat S ≤ 8) (h : zIs sh o 0 7) : zRun 95 8 L (.int x0 :: .ref o :: S) sh mi mj mr = (zCall 103 [.ref o, .int x0] sh mi mj mr).bind fun r => zRun 95 11 L (r.1.toList ++ S) r.2.1 r.2.2.1 r.2.2.2.1 r.2.2.2.2 := zr_V (zD_of zk_95 d_95_8 rfl rfl) rfl zk_103 rfl rfl rfl hS h
theorem q_95_11r : zRun 95 11 [l0, l1, l2, l3, l4, l5] (.ref o :: S) sh mi mj mr = zRun 95 13 [l0, l1, l2, zk2 l3, some (.ref o), l5] S sh mi mj mr := zr_s1 (i := 4) (v := .ref o) (L := [l0, l1, l2, l3, l4, l5]) (zD_of zk_95 d_95_11 rfl rfl) rfl rfl rfl rfl
theorem q_95_11n : zRun 95 11 [l0, l1, l2, l3, l4, l5] (.null :: S) sh mi mj mr = zRun 95 13 [l0, l1, l2, zk2 l3, some (.null), l5] S sh mi mj mr := zr_s1 (i := 4) (v := .null) (L := [l0, l1, l2, l3, l4, l5]) (zD_of zk_95 d_95_11 rfl rfl) rfl rfl rfl rfl
theorem q_95_13r : zRun 95 13 [l0, l1, l2, some (.ref o), l4, l5] S sh mi mj mr = zRun 95 14 [l0, l1, l2, some (.ref o), l4, l5] (.ref o :: S) sh mi mj mr := zr_l (zD_of zk_95 d_95_13 rfl rfl) rfl rfl rfl
theorem q_95_13n : zRun 95 13 [l0, l1, l2, some (.null), l4, l5] S sh mi mj mr = zRun 95 14 [l0, l1, l2, some (.null), l4, l5] (.null :: S) sh mi mj mr := zr_l (zD_of zk_95 d_95_13 rfl rfl) rfl rfl rfl
theorem q_95_14n : zRun 95 14 L (.null :: S) sh mi mj mr = zRun 95 22 L S sh mi mj mr := zr_go (off := 8) (zD_of zk_95 d_95_14 rfl rfl) rfl rfl (by decide)
theorem q_95_14r : zRun 95 14 L (.ref o :: S) sh mi mj mr = zRun 95 17 L S sh mi mj mr := zr_no (off := 8) (zD_of zk_95 d_95_14 rfl rfl) rfl rfl (by decide)
theorem q_95_17r : zRun 95 17 [l0, l1, l2, l3, some (.ref o), l5] S sh mi mj mr = zRun 95 19 [l0, l1, l2, l3, some (.ref o), l5] (.ref o :: S) sh mi mj mr := zr_l (zD_of zk_95 d_95_17 rfl rfl) rfl rfl rfl
theorem q_95_17n : zRun 95 17 [l0, l1, l2, l3, some (.null), l5] S sh mi mj mr = zRun 95 19 [l0, l1, l2, l3, some (.null), l5] (.null :: S) sh mi mj mr := zr_l (zD_of zk_95 d_95_17 rfl rfl) rfl rfl rfl
theorem q_95_19n : zRun 95 19 L (.null :: S) sh mi mj mr = zRun 95 22 L S sh mi mj mr := zr_no (off := 5) (zD_of zk_95 d_95_19 rfl rfl) rfl rfl (by decide)
theorem q_95_19r : zRun 95 19 L (.ref o :: S) sh mi mj mr = zRun 95 24 L S sh mi mj mr := zr_go (off := 5) (zD_of zk_95 d_95_19 rfl rfl) rfl rfl (by decide)
theorem q_95_22  : zRun 95 22 L S sh mi mj mr = zRun 95 23 L (.int (-1) :: S) sh mi mj mr := zr_p (zD_of zk_95 d_95_22 rfl rfl) rfl
theorem q_95_23  : zRun 95 23 L ([.int x]) sh mi mj mr = some (some (.int x), sh, mi, mj, mr) := zr_ret (zD_of zk_95 d_95_23 rfl rfl) rfl rfl rfl rfl rfl (if_pos rfl)
theorem q_95_24r : zRun 95 24 [some (.ref o), l1, l2, l3, l4, l5] S sh mi mj mr = zRun 95 25 [some (.ref o), l1, l2, l3, l4, l5] (.ref o :: S) sh mi mj mr := zr_l (zD_of zk_95 d_95_24 rfl rfl) rfl rfl rfl
theorem q_95_24n : zRun 95 24 [some (.null), l1, l2, l3, l4, l5] S sh mi mj mr = zRun 95 25 [some (.null), l1, l2, l3, l4, l5] (.null :: S) sh mi mj mr := zr_l (zD_of zk_95 d_95_24 rfl rfl) rfl rfl rfl
theorem q_95_25 (h : zIs sh o 0 7) : zRun 95 25 L (.ref o :: S) sh mi mj mr = zRun 95 28 L (va_rf (mr o 6) :: S) sh mi mj mr := zr_getR (zD_of zk_95 d_95_25 rfl rfl) rfl rfl rfl h
theorem q_95_28r : zRun 95 28 [l0, l1, l2, some (.ref o), l4, l5] S sh mi mj mr = zRun 95 29 [l0, l1, l2, some (.ref o), l4, l5] (.ref o :: S) sh mi mj mr := zr_l (zD_of zk_95 d_95_28 rfl rfl) rfl rfl rfl
theorem q_95_28n : zRun 95 28 [l0, l1, l2, some (.null), l4, l5] S sh mi mj mr = zRun 95 29 [l0, l1, l2, some (.null), l4, l5] (.null :: S) sh mi mj mr := zr_l (zD_of zk_95 d_95_28 rfl rfl) rfl rfl rfl
theorem q_95_29r : zRun 95 29 [l0, l1, l2, l3, some (.ref o), l5] S sh mi mj mr = zRun 95 31 [l0, l1, l2, l3, some (.ref o), l5] (.ref o :: S) sh mi mj mr := zr_l (zD_of zk_95 d_95_29 rfl rfl) rfl rfl rfl
theorem q_95_29n : zRun 95 29 [l0, l1, l2, l3, some (.null), l5] S sh mi mj mr = zRun 95 31 [l0, l1, l2, l3, some (.null), l5] (.null :: S) sh mi mj mr := zr_l (zD_of zk_95 d_95_29 rfl rfl) rfl rfl rfl
theorem q_95_31r : zRun 95 31 [some (.ref o), l1, l2, l3, l4, l5] S sh mi mj mr = zRun 95 32 [some (.ref o), l1, l2, l3, l4, l5] (.ref o :: S) sh mi mj mr := zr_l (zD_of zk_95 d_95_31 rfl rfl) rfl rfl rfl
theorem q_95_31n : zRun 95 31 [some (.null), l1, l2, l3, l4, l5] S sh mi mj mr = zRun 95 32 [some (.null), l1, l2, l3, l4, l5] (.null :: S) sh mi mj mr := zr_l (zD_of zk_95 d_95_31 rfl rfl) rfl rfl rfl
theorem q_95_32 (h : zIs sh o 0 7) : zRun 95 32 L (.ref o :: S) sh mi mj mr = zRun 95 35 L (va_rf (mr o 2) :: S) sh mi mj mr := zr_getR (zD_of zk_95 d_95_32 rfl rfl) rfl rfl rfl h
theorem q_95_35 (h : zIs sh o 0 5) : zRun 95 35 L (.ref o :: S) sh mi mj mr = zRun 95 38 L (va_rf (mr o 0) :: S) sh mi mj mr := zr_getR (zD_of zk_95 d_95_35 rfl rfl) rfl rfl rfl h
theorem q_95_38r : zRun 95 38 [some (.ref o), l1, l2, l3, l4, l5] S sh mi mj mr = zRun 95 39 [some (.ref o), l1, l2, l3, l4, l5] (.ref o :: S) sh mi mj mr := zr_l (zD_of zk_95 d_95_38 rfl rfl) rfl rfl rfl
theorem q_95_38n : zRun 95 38 [some (.null), l1, l2, l3, l4, l5] S sh mi mj mr = zRun 95 39 [some (.null), l1, l2, l3, l4, l5] (.null :: S) sh mi mj mr := zr_l (zD_of zk_95 d_95_38 rfl rfl) rfl rfl rfl
theorem q_95_39 (h : zIs sh o 0 7) : zRun 95 39 L (.ref o :: S) sh mi mj mr = zRun 95 42 L (va_rf (mr o 2) :: S) sh mi mj mr := zr_getR (zD_of zk_95 d_95_39 rfl rfl) rfl rfl rfl h
theorem q_95_42 (h : zIs sh o 0 5) : zRun 95 42 L (.ref o :: S) sh mi mj mr = zRun 95 45 L (.int (mi o 2) :: S) sh mi mj mr := zr_getI (zD_of zk_95 d_95_42 rfl rfl) rfl rfl (Or.inl rfl) h
theorem q_95_45  {x0 : Int32} {o0 o1 o2 : Nat} (hS : zcat S ≤ 8) (h : zIs sh o 0 3) : zRun 95 45 L (.int x0 :: .ref o2 :: .ref o1 :: .ref o0 :: .ref o :: S) sh mi mj mr = (zCall 46 [.ref o, .ref o0, .ref o1, .ref o2, .int x0] sh mi mj mr).bind fun r => zRun 95 48 L (r.1.toList ++ S) r.2.1 r.2.2.1 r.2.2.2.1 r.2.2.2.2 := zr_V (zD_of zk_95 d_95_45 rfl rfl) rfl zk_46 rfl rfl rfl hS h
theorem q_95_48r : zRun 95 48 [l0, l1, l2, l3, l4, l5] (.ref o :: S) sh mi mj mr = zRun 95 50 [l0, l1, l2, l3, zk2 l4, some (.ref o)] S sh mi mj mr := zr_s1 (i := 5) (v := .ref o) (L := [l0, l1, l2, l3, l4, l5]) (zD_of zk_95 d_95_48 rfl rfl) rfl rfl rfl rfl
theorem q_95_48n : zRun 95 48 [l0, l1, l2, l3, l4, l5] (.null :: S) sh mi mj mr = zRun 95 50 [l0, l1, l2, l3, zk2 l4, some (.null)] S sh mi mj mr := zr_s1 (i := 5) (v := .null) (L := [l0, l1, l2, l3, l4, l5]) (zD_of zk_95 d_95_48 rfl rfl) rfl rfl rfl rfl
theorem q_95_50r : zRun 95 50 [l0, l1, l2, l3, l4, some (.ref o)] S sh mi mj mr = zRun 95 52 [l0, l1, l2, l3, l4, some (.ref o)] (.ref o :: S) sh mi mj mr := zr_l (zD_of zk_95 d_95_50 rfl rfl) rfl rfl rfl
theorem q_95_50n : zRun 95 50 [l0, l1, l2, l3, l4, some (.null)] S sh mi mj mr = zRun 95 52 [l0, l1, l2, l3, l4, some (.null)] (.null :: S) sh mi mj mr := zr_l (zD_of zk_95 d_95_50 rfl rfl) rfl rfl rfl
theorem q_95_52 (h : zIs sh o 0 2) : zRun 95 52 L (.ref o :: S) sh mi mj mr = zRun 95 55 L (.int (mi o 0) :: S) sh mi mj mr := zr_getI (zD_of zk_95 d_95_52 rfl rfl) rfl rfl (Or.inl rfl) h
theorem q_95_55  : zRun 95 55 L (.int x :: S) sh mi mj mr = if x = 0 then zRun 95 61 L S sh mi mj mr else zRun 95 58 L S sh mi mj mr := zr_if (off := 6) (P := x = 0) (zD_of zk_95 d_95_55 rfl rfl) rfl rfl (by decide)
theorem q_95_58  : zRun 95 58 L S sh mi mj mr = zRun 95 60 L (.int (-5) :: S) sh mi mj mr := zr_p (zD_of zk_95 d_95_58 rfl rfl) rfl
theorem q_95_60  : zRun 95 60 L ([.int x]) sh mi mj mr = some (some (.int x), sh, mi, mj, mr) := zr_ret (zD_of zk_95 d_95_60 rfl rfl) rfl rfl rfl rfl rfl (if_pos rfl)
theorem q_95_61r : zRun 95 61 [l0, l1, l2, l3, l4, some (.ref o)] S sh mi mj mr = zRun 95 63 [l0, l1, l2, l3, l4, some (.ref o)] (.ref o :: S) sh mi mj mr := zr_l (zD_of zk_95 d_95_61 rfl rfl) rfl rfl rfl
theorem q_95_61n : zRun 95 61 [l0, l1, l2, l3, l4, some (.null)] S sh mi mj mr = zRun 95 63 [l0, l1, l2, l3, l4, some (.null)] (.null :: S) sh mi mj mr := zr_l (zD_of zk_95 d_95_61 rfl rfl) rfl rfl rfl
theorem q_95_63 (h : zIs sh o 0 2) : zRun 95 63 L (.ref o :: S) sh mi mj mr = zRun 95 66 L (.long (mj o 7) :: S) sh mi mj mr := zr_getJ (zD_of zk_95 d_95_63 rfl rfl) rfl rfl rfl h
theorem q_95_66  : zRun 95 66 L S sh mi mj mr = zRun 95 67 L (.long 0 :: S) sh mi mj mr := zr_p (zD_of zk_95 d_95_66 rfl rfl) rfl
theorem q_95_67  : zRun 95 67 L (.long v :: .long u :: S) sh mi mj mr = if u ≤ v then zRun 95 73 L S sh mi mj mr else zRun 95 71 L S sh mi mj mr := zr_cmp (off := 5) (zD_of zk_95 d_95_67 rfl rfl) (zD_of zk_95 d_95_68 rfl rfl) rfl rfl (by decide) (lg_cmp_le u v)
theorem q_95_68  : zRun 95 68 L (.int x :: S) sh mi mj mr = if x ≤ 0 then zRun 95 73 L S sh mi mj mr else zRun 95 71 L S sh mi mj mr := zr_if (off := 5) (P := x ≤ 0) (zD_of zk_95 d_95_68 rfl rfl) rfl rfl (by decide)
theorem q_95_71  : zRun 95 71 L S sh mi mj mr = zRun 95 72 L (.int 1 :: S) sh mi mj mr := zr_p (zD_of zk_95 d_95_71 rfl rfl) rfl
theorem q_95_72  : zRun 95 72 L ([.int x]) sh mi mj mr = some (some (.int x), sh, mi, mj, mr) := zr_ret (zD_of zk_95 d_95_72 rfl rfl) rfl rfl rfl rfl rfl (if_pos rfl)
theorem q_95_73r : zRun 95 73 [l0, l1, l2, l3, l4, some (.ref o)] S sh mi mj mr = zRun 95 75 [l0, l1, l2, l3, l4, some (.ref o)] (.ref o :: S) sh mi mj mr := zr_l (zD_of zk_95 d_95_73 rfl rfl) rfl rfl rfl
theorem q_95_73n : zRun 95 73 [l0, l1, l2, l3, l4, some (.null)] S sh mi mj mr = zRun 95 75 [l0, l1, l2, l3, l4, some (.null)] (.null :: S) sh mi mj mr := zr_l (zD_of zk_95 d_95_73 rfl rfl) rfl rfl rfl
theorem q_95_75 (h : zIs sh o 0 2) : zRun 95 75 L (.ref o :: S) sh mi mj mr = zRun 95 78 L (.long (mj o 8) :: S) sh mi mj mr := zr_getJ (zD_of zk_95 d_95_75 rfl rfl) rfl rfl rfl h
theorem q_95_78  : zRun 95 78 L S sh mi mj mr = zRun 95 79 L (.long 0 :: S) sh mi mj mr := zr_p (zD_of zk_95 d_95_78 rfl rfl) rfl
theorem q_95_79  : zRun 95 79 L (.long v :: .long u :: S) sh mi mj mr = if v ≤ u then zRun 95 85 L S sh mi mj mr else zRun 95 83 L S sh mi mj mr := zr_cmp (off := 5) (zD_of zk_95 d_95_79 rfl rfl) (zD_of zk_95 d_95_80 rfl rfl) rfl rfl (by decide) (lg_cmp_ge u v)
theorem q_95_80  : zRun 95 80 L (.int x :: S) sh mi mj mr = if 0 ≤ x then zRun 95 85 L S sh mi mj mr else zRun 95 83 L S sh mi mj mr := zr_if (off := 5) (P := 0 ≤ x) (zD_of zk_95 d_95_80 rfl rfl) rfl rfl (by decide)
theorem q_95_83  : zRun 95 83 L S sh mi mj mr = zRun 95 84 L (.int 2 :: S) sh mi mj mr := zr_p (zD_of zk_95 d_95_83 rfl rfl) rfl
theorem q_95_84  : zRun 95 84 L ([.int x]) sh mi mj mr = some (some (.int x), sh, mi, mj, mr) := zr_ret (zD_of zk_95 d_95_84 rfl rfl) rfl rfl rfl rfl rfl (if_pos rfl)
theorem q_95_85r : zRun 95 85 [l0, l1, l2, l3, l4, some (.ref o)] S sh mi mj mr = zRun 95 87 [l0, l1, l2, l3, l4, some (.ref o)] (.ref o :: S) sh mi mj mr := zr_l (zD_of zk_95 d_95_85 rfl rfl) rfl rfl rfl
theorem q_95_85n : zRun 95 85 [l0, l1, l2, l3, l4, some (.null)] S sh mi mj mr = zRun 95 87 [l0, l1, l2, l3, l4, some (.null)] (.null :: S) sh mi mj mr := zr_l (zD_of zk_95 d_95_85 rfl rfl) rfl rfl rfl
theorem q_95_87 (h : zIs sh o 0 2) : zRun 95 87 L (.ref o :: S) sh mi mj mr = zRun 95 90 L (.long (mj o 7) :: S) sh mi mj mr := zr_getJ (zD_of zk_95 d_95_87 rfl rfl) rfl rfl rfl h
theorem q_95_90  : zRun 95 90 L S sh mi mj mr = zRun 95 91 L (.long 0 :: S) sh mi mj mr := zr_p (zD_of zk_95 d_95_90 rfl rfl) rfl
theorem q_95_91  : zRun 95 91 L (.long v :: .long u :: S) sh mi mj mr = if ¬ u = v then zRun 95 109 L S sh mi mj mr else zRun 95 95 L S sh mi mj mr := zr_cmp (off := 17) (zD_of zk_95 d_95_91 rfl rfl) (zD_of zk_95 d_95_92 rfl rfl) rfl rfl (by decide) (not_congr (lg_cmp_eq u v))
theorem q_95_92  : zRun 95 92 L (.int x :: S) sh mi mj mr = if ¬ x = 0 then zRun 95 109 L S sh mi mj mr else zRun 95 95 L S sh mi mj mr := zr_if (off := 17) (P := ¬ x = 0) (zD_of zk_95 d_95_92 rfl rfl) rfl rfl (by decide)
theorem q_95_95r : zRun 95 95 [l0, l1, l2, l3, l4, some (.ref o)] S sh mi mj mr = zRun 95 97 [l0, l1, l2, l3, l4, some (.ref o)] (.ref o :: S) sh mi mj mr := zr_l (zD_of zk_95 d_95_95 rfl rfl) rfl rfl rfl
theorem q_95_95n : zRun 95 95 [l0, l1, l2, l3, l4, some (.null)] S sh mi mj mr = zRun 95 97 [l0, l1, l2, l3, l4, some (.null)] (.null :: S) sh mi mj mr := zr_l (zD_of zk_95 d_95_95 rfl rfl) rfl rfl rfl
theorem q_95_97 (h : zIs sh o 0 2) : zRun 95 97 L (.ref o :: S) sh mi mj mr = zRun 95 100 L (.long (mj o 8) :: S) sh mi mj mr := zr_getJ (zD_of zk_95 d_95_97 rfl rfl) rfl rfl rfl h
theorem q_95_100  : zRun 95 100 L S sh mi mj mr = zRun 95 101 L (.long 0 :: S) sh mi mj mr := zr_p (zD_of zk_95 d_95_100 rfl rfl) rfl
theorem q_95_101  : zRun 95 101 L (.long v :: .long u :: S) sh mi mj mr = if ¬ u = v then zRun 95 109 L S sh mi mj mr else zRun 95 105 L S sh mi mj mr := zr_cmp (off := 7) (zD_of zk_95 d_95_101 rfl rfl) (zD_of zk_95 d_95_102 rfl rfl) rfl rfl (by decide) (not_congr (lg_cmp_eq u v))
theorem q_95_102  : zRun 95 102 L (.int x :: S) sh mi mj mr = if ¬ x = 0 then zRun 95 109 L S sh mi mj mr else zRun 95 105 L S sh mi mj mr := zr_if (off := 7) (P := ¬ x = 0) (zD_of zk_95 d_95_102 rfl rfl) rfl rfl (by decide)
theorem q_95_105  : zRun 95 105 L S sh mi mj mr = zRun 95 106 L (.int 3 :: S) sh mi mj mr := zr_p (zD_of zk_95 d_95_105 rfl rfl) rfl
theorem q_95_106  : zRun 95 106 L S sh mi mj mr = zRun 95 110 L S sh mi mj mr := zr_go (off := 4) (zD_of zk_95 d_95_106 rfl rfl) rfl rfl (by decide)
theorem q_95_109  : zRun 95 109 L S sh mi mj mr = zRun 95 110 L (.int 0 :: S) sh mi mj mr := zr_p (zD_of zk_95 d_95_109 rfl rfl) rfl
theorem q_95_110  : zRun 95 110 L ([.int x]) sh mi mj mr = some (some (.int x), sh, mi, mj, mr) := zr_ret (zD_of zk_95 d_95_110 rfl rfl) rfl rfl rfl rfl rfl (if_pos rfl)
theorem e_95 {x0 x1 : Int32} : zCall 95 [.ref o, .int x0, .int x1] sh mi mj mr = zRun 95 0 [some (.ref o), some (.int x0), some (.int x1), none, none, none] [] sh mi mj mr := rfl
theorem d_96_0 : decode cX7_prove 0 = .ok (.aload_n 0, 1) := by decide +kernel
theorem d_96_1 : decode cX7_prove 1 = .ok (.iload_n 1, 1) := by decide +kernel
theorem d_96_2 : decode cX7_prove 2 = .ok (.invokevirtual 124, 3) := by decide +kernel
theorem d_96_5 : decode cX7_prove 5 = .ok (.astore 4, 2) := by decide +kernel
theorem d_96_7 : decode cX7_prove 7 = .ok (.aload 4, 2) := by decide +kernel
theorem d_96_9 : decode cX7_prove 9 = .ok (.ifnonnull 5, 3) := by decide +kernel
theorem d_96_12 : decode cX7_prove 12 = .ok (.iconst (-1), 1) := by decide +kernel
theorem d_96_13 : decode cX7_prove 13 = .ok (.ireturn, 1) := by decide +kernel
theorem d_96_14 : decode cX7_prove 14 = .ok (.iload_n 2, 1) := by decide +kernel
theorem d_96_15 : decode cX7_prove 15 = .ok (.ldc 191, 2) := by decide +kernel
theorem d_96_17 : decode cX7_prove 17 = .ok (.if_icmp .lt 9, 3) := by decide +kernel
theorem d_96_20 : decode cX7_prove 20 = .ok (.iload_n 2, 1) := by decide +kernel
theorem d_96_21 : decode cX7_prove 21 = .ok (.ldc 92, 2) := by decide +kernel
theorem d_96_23 : decode cX7_prove 23 = .ok (.if_icmp .le 6, 3) := by decide +kernel
theorem d_96_26 : decode cX7_prove 26 = .ok (.bipush (-2), 2) := by decide +kernel
theorem d_96_28 : decode cX7_prove 28 = .ok (.ireturn, 1) := by decide +kernel
theorem d_96_29 : decode cX7_prove 29 = .ok (.iload_n 3, 1) := by decide +kernel
theorem d_96_30 : decode cX7_prove 30 = .ok (.iconst 1, 1) := by decide +kernel
theorem d_96_31 : decode cX7_prove 31 = .ok (.if_icmp .lt 10, 3) := by decide +kernel
theorem d_96_34 : decode cX7_prove 34 = .ok (.iload_n 3, 1) := by decide +kernel
theorem d_96_35 : decode cX7_prove 35 = .ok (.sipush 200, 3) := by decide +kernel
theorem d_96_38 : decode cX7_prove 38 = .ok (.if_icmp .le 6, 3) := by decide +kernel
theorem d_96_41 : decode cX7_prove 41 = .ok (.bipush (-2), 2) := by decide +kernel
theorem d_96_43 : decode cX7_prove 43 = .ok (.ireturn, 1) := by decide +kernel
theorem d_96_44 : decode cX7_prove 44 = .ok (.aload_n 0, 1) := by decide +kernel
theorem d_96_45 : decode cX7_prove 45 = .ok (.getfield 49, 3) := by decide +kernel
theorem d_96_48 : decode cX7_prove 48 = .ok (.invokevirtual 192, 3) := by decide +kernel
theorem d_96_51 : decode cX7_prove 51 = .ok (.aload_n 0, 1) := by decide +kernel
theorem d_96_52 : decode cX7_prove 52 = .ok (.getfield 49, 3) := by decide +kernel
theorem d_96_55 : decode cX7_prove 55 = .ok (.aload_n 0, 1) := by decide +kernel
theorem d_96_56 : decode cX7_prove 56 = .ok (.getfield 20, 3) := by decide +kernel
theorem d_96_59 : decode cX7_prove 59 = .ok (.getfield 78, 3) := by decide +kernel
theorem d_96_62 : decode cX7_prove 62 = .ok (.invokevirtual 195, 3) := by decide +kernel
theorem d_96_65 : decode cX7_prove 65 = .ok (.iconst 1, 1) := by decide +kernel
theorem d_96_66 : decode cX7_prove 66 = .ok (.istore 5, 2) := by decide +kernel
theorem d_96_68 : decode cX7_prove 68 = .ok (.iload 5, 2) := by decide +kernel
theorem d_96_70 : decode cX7_prove 70 = .ok (.sipush 400, 3) := by decide +kernel
theorem d_96_73 : decode cX7_prove 73 = .ok (.if_icmp .gt 157, 3) := by decide +kernel
theorem d_96_76 : decode cX7_prove 76 = .ok (.aload_n 0, 1) := by decide +kernel
theorem d_96_77 : decode cX7_prove 77 = .ok (.getfield 49, 3) := by decide +kernel
theorem d_96_80 : decode cX7_prove 80 = .ok (.aload_n 0, 1) := by decide +kernel
theorem d_96_81 : decode cX7_prove 81 = .ok (.getfield 56, 3) := by decide +kernel
theorem d_96_84 : decode cX7_prove 84 = .ok (.invokevirtual 199, 3) := by decide +kernel
theorem d_96_87 : decode cX7_prove 87 = .ok (.ifCond .eq 143, 3) := by decide +kernel
theorem d_96_90 : decode cX7_prove 90 = .ok (.aload_n 0, 1) := by decide +kernel
theorem d_96_91 : decode cX7_prove 91 = .ok (.iload 5, 2) := by decide +kernel
theorem d_96_93 : decode cX7_prove 93 = .ok (.putfield 60, 3) := by decide +kernel
theorem d_96_96 : decode cX7_prove 96 = .ok (.aload_n 0, 1) := by decide +kernel
theorem d_96_97 : decode cX7_prove 97 = .ok (.getfield 42, 3) := by decide +kernel
theorem d_96_100 : decode cX7_prove 100 = .ok (.aload 4, 2) := by decide +kernel
theorem d_96_102 : decode cX7_prove 102 = .ok (.aload 4, 2) := by decide +kernel
theorem d_96_104 : decode cX7_prove 104 = .ok (.getfield 121, 3) := by decide +kernel
theorem d_96_107 : decode cX7_prove 107 = .ok (.aload_n 0, 1) := by decide +kernel
theorem d_96_108 : decode cX7_prove 108 = .ok (.getfield 56, 3) := by decide +kernel
theorem d_96_111 : decode cX7_prove 111 = .ok (.aload_n 0, 1) := by decide +kernel
theorem d_96_112 : decode cX7_prove 112 = .ok (.getfield 20, 3) := by decide +kernel
theorem d_96_115 : decode cX7_prove 115 = .ok (.getfield 100, 3) := by decide +kernel
theorem d_96_118 : decode cX7_prove 118 = .ok (.invokevirtual 134, 3) := by decide +kernel
theorem d_96_121 : decode cX7_prove 121 = .ok (.astore 6, 2) := by decide +kernel
theorem d_96_123 : decode cX7_prove 123 = .ok (.aload 6, 2) := by decide +kernel
theorem d_96_125 : decode cX7_prove 125 = .ok (.getfield 138, 3) := by decide +kernel
theorem d_96_128 : decode cX7_prove 128 = .ok (.ifCond .ne 17, 3) := by decide +kernel
theorem d_96_131 : decode cX7_prove 131 = .ok (.aload 6, 2) := by decide +kernel
theorem d_96_133 : decode cX7_prove 133 = .ok (.getfield 185, 3) := by decide +kernel
theorem d_96_136 : decode cX7_prove 136 = .ok (.iload_n 2, 1) := by decide +kernel
theorem d_96_137 : decode cX7_prove 137 = .ok (.i2l, 1) := by decide +kernel
theorem d_96_138 : decode cX7_prove 138 = .ok (.lcmp, 1) := by decide +kernel
theorem d_96_139 : decode cX7_prove 139 = .ok (.ifCond .le 6, 3) := by decide +kernel
theorem d_96_142 : decode cX7_prove 142 = .ok (.goto 82, 3) := by decide +kernel
theorem d_96_145 : decode cX7_prove 145 = .ok (.aload_n 0, 1) := by decide +kernel
theorem d_96_146 : decode cX7_prove 146 = .ok (.getfield 56, 3) := by decide +kernel
theorem d_96_149 : decode cX7_prove 149 = .ok (.aload 6, 2) := by decide +kernel
theorem d_96_151 : decode cX7_prove 151 = .ok (.invokevirtual 203, 3) := by decide +kernel
theorem d_96_154 : decode cX7_prove 154 = .ok (.istore 7, 2) := by decide +kernel
theorem d_96_156 : decode cX7_prove 156 = .ok (.aload_n 0, 1) := by decide +kernel
theorem d_96_157 : decode cX7_prove 157 = .ok (.aload 4, 2) := by decide +kernel
theorem d_96_159 : decode cX7_prove 159 = .ok (.aload_n 0, 1) := by decide +kernel
theorem d_96_160 : decode cX7_prove 160 = .ok (.getfield 56, 3) := by decide +kernel
theorem d_96_163 : decode cX7_prove 163 = .ok (.iload_n 2, 1) := by decide +kernel
theorem d_96_164 : decode cX7_prove 164 = .ok (.invokevirtual 207, 3) := by decide +kernel
theorem d_96_167 : decode cX7_prove 167 = .ok (.ifCond .eq 5, 3) := by decide +kernel
theorem d_96_170 : decode cX7_prove 170 = .ok (.iconst 2, 1) := by decide +kernel
theorem d_96_171 : decode cX7_prove 171 = .ok (.ireturn, 1) := by decide +kernel
theorem d_96_172 : decode cX7_prove 172 = .ok (.iload 5, 2) := by decide +kernel
theorem d_96_174 : decode cX7_prove 174 = .ok (.iload_n 3, 1) := by decide +kernel
theorem d_96_175 : decode cX7_prove 175 = .ok (.if_icmp .ge 8, 3) := by decide +kernel
theorem d_96_178 : decode cX7_prove 178 = .ok (.iload 7, 2) := by decide +kernel
theorem d_96_180 : decode cX7_prove 180 = .ok (.ifCond .ge 5, 3) := by decide +kernel
theorem d_96_183 : decode cX7_prove 183 = .ok (.iconst 3, 1) := by decide +kernel
theorem d_96_184 : decode cX7_prove 184 = .ok (.ireturn, 1) := by decide +kernel
theorem d_96_185 : decode cX7_prove 185 = .ok (.aload_n 0, 1) := by decide +kernel
theorem d_96_186 : decode cX7_prove 186 = .ok (.getfield 56, 3) := by decide +kernel
theorem d_96_189 : decode cX7_prove 189 = .ok (.iload 7, 2) := by decide +kernel
theorem d_96_191 : decode cX7_prove 191 = .ok (.aload_n 0, 1) := by decide +kernel
theorem d_96_192 : decode cX7_prove 192 = .ok (.getfield 66, 3) := by decide +kernel
theorem d_96_195 : decode cX7_prove 195 = .ok (.aload_n 0, 1) := by decide +kernel
theorem d_96_196 : decode cX7_prove 196 = .ok (.getfield 69, 3) := by decide +kernel
theorem d_96_199 : decode cX7_prove 199 = .ok (.invokevirtual 211, 3) := by decide +kernel
theorem d_96_202 : decode cX7_prove 202 = .ok (.aload_n 0, 1) := by decide +kernel
theorem d_96_203 : decode cX7_prove 203 = .ok (.getfield 49, 3) := by decide +kernel
theorem d_96_206 : decode cX7_prove 206 = .ok (.aload_n 0, 1) := by decide +kernel
theorem d_96_207 : decode cX7_prove 207 = .ok (.getfield 69, 3) := by decide +kernel
theorem d_96_210 : decode cX7_prove 210 = .ok (.invokevirtual 195, 3) := by decide +kernel
theorem d_96_213 : decode cX7_prove 213 = .ok (.aload_n 0, 1) := by decide +kernel
theorem d_96_214 : decode cX7_prove 214 = .ok (.getfield 49, 3) := by decide +kernel
theorem d_96_217 : decode cX7_prove 217 = .ok (.aload_n 0, 1) := by decide +kernel
theorem d_96_218 : decode cX7_prove 218 = .ok (.getfield 66, 3) := by decide +kernel
theorem d_96_221 : decode cX7_prove 221 = .ok (.invokevirtual 195, 3) := by decide +kernel
theorem d_96_224 : decode cX7_prove 224 = .ok (.iinc 5 1, 3) := by decide +kernel
theorem d_96_227 : decode cX7_prove 227 = .ok (.goto (-159), 3) := by decide +kernel
theorem d_96_230 : decode cX7_prove 230 = .ok (.iconst 1, 1) := by decide +kernel
theorem d_96_231 : decode cX7_prove 231 = .ok (.ireturn, 1) := by decide +kernel
theorem q_96_0r : zRun 96 0 [some (.ref o), l1, l2, l3, l4, l5, l6, l7] S sh mi mj mr = zRun 96 1 [some (.ref o), l1, l2, l3, l4, l5, l6, l7] (.ref o :: S) sh mi mj mr := zr_l (zD_of zk_96 d_96_0 rfl rfl) rfl rfl rfl
theorem q_96_0n : zRun 96 0 [some (.null), l1, l2, l3, l4, l5, l6, l7] S sh mi mj mr = zRun 96 1 [some (.null), l1, l2, l3, l4, l5, l6, l7] (.null :: S) sh mi mj mr := zr_l (zD_of zk_96 d_96_0 rfl rfl) rfl rfl rfl
theorem q_96_1 : zRun 96 1 [l0, some (.int x), l2, l3, l4, l5, l6, l7] S sh mi mj mr = zRun 96 2 [l0, some (.int x), l2, l3, l4, l5, l6, l7] (.int x :: S) sh mi mj mr := zr_l (zD_of zk_96 d_96_1 rfl rfl) rfl rfl rfl
theorem q_96_2  {x0 : Int32} (hS : zcat S ≤ 8) (h : zIs sh o 0 7) : zRun 96 2 L (.int x0 :: .ref o :: S) sh mi mj mr = (zCall 103 [.ref o, .int x0] sh mi mj mr).bind fun r => zRun 96 5 L (r.1.toList ++ S) r.2.1 r.2.2.1 r.2.2.2.1 r.2.2.2.2 := zr_V (zD_of zk_96 d_96_2 rfl rfl) rfl zk_103 rfl rfl rfl hS h
theorem q_96_5r : zRun 96 5 [l0, l1, l2, l3, l4, l5, l6, l7] (.ref o :: S) sh mi mj mr = zRun 96 7 [l0, l1, l2, zk2 l3, some (.ref o), l5, l6, l7] S sh mi mj mr := zr_s1 (i := 4) (v := .ref o) (L := [l0, l1, l2, l3, l4, l5, l6, l7]) (zD_of zk_96 d_96_5 rfl rfl) rfl rfl rfl rfl
theorem q_96_5n : zRun 96 5 [l0, l1, l2, l3, l4, l5, l6, l7] (.null :: S) sh mi mj mr = zRun 96 7 [l0, l1, l2, zk2 l3, some (.null), l5, l6, l7] S sh mi mj mr := zr_s1 (i := 4) (v := .null) (L := [l0, l1, l2, l3, l4, l5, l6, l7]) (zD_of zk_96 d_96_5 rfl rfl) rfl rfl rfl rfl
theorem q_96_7r : zRun 96 7 [l0, l1, l2, l3, some (.ref o), l5, l6, l7] S sh mi mj mr = zRun 96 9 [l0, l1, l2, l3, some (.ref o), l5, l6, l7] (.ref o :: S) sh mi mj mr := zr_l (zD_of zk_96 d_96_7 rfl rfl) rfl rfl rfl
theorem q_96_7n : zRun 96 7 [l0, l1, l2, l3, some (.null), l5, l6, l7] S sh mi mj mr = zRun 96 9 [l0, l1, l2, l3, some (.null), l5, l6, l7] (.null :: S) sh mi mj mr := zr_l (zD_of zk_96 d_96_7 rfl rfl) rfl rfl rfl
theorem q_96_9n : zRun 96 9 L (.null :: S) sh mi mj mr = zRun 96 12 L S sh mi mj mr := zr_no (off := 5) (zD_of zk_96 d_96_9 rfl rfl) rfl rfl (by decide)
theorem q_96_9r : zRun 96 9 L (.ref o :: S) sh mi mj mr = zRun 96 14 L S sh mi mj mr := zr_go (off := 5) (zD_of zk_96 d_96_9 rfl rfl) rfl rfl (by decide)
theorem q_96_12  : zRun 96 12 L S sh mi mj mr = zRun 96 13 L (.int (-1) :: S) sh mi mj mr := zr_p (zD_of zk_96 d_96_12 rfl rfl) rfl
theorem q_96_13  : zRun 96 13 L ([.int x]) sh mi mj mr = some (some (.int x), sh, mi, mj, mr) := zr_ret (zD_of zk_96 d_96_13 rfl rfl) rfl rfl rfl rfl rfl (if_pos rfl)
theorem q_96_14 : zRun 96 14 [l0, l1, some (.int x), l3, l4, l5, l6, l7] S sh mi mj mr = zRun 96 15 [l0, l1, some (.int x), l3, l4, l5, l6, l7] (.int x :: S) sh mi mj mr := zr_l (zD_of zk_96 d_96_14 rfl rfl) rfl rfl rfl
theorem q_96_15  : zRun 96 15 L S sh mi mj mr = zRun 96 17 L (.int (-1000000) :: S) sh mi mj mr := zr_k32 (zD_of zk_96 d_96_15 rfl rfl) (by first | exact Or.inl rfl | exact Or.inr rfl) rfl
theorem q_96_17  : zRun 96 17 L (.int y :: .int x :: S) sh mi mj mr = if x < y then zRun 96 26 L S sh mi mj mr else zRun 96 20 L S sh mi mj mr := zr_if (off := 9) (P := x < y) (zD_of zk_96 d_96_17 rfl rfl) rfl rfl (by decide)
theorem q_96_20 : zRun 96 20 [l0, l1, some (.int x), l3, l4, l5, l6, l7] S sh mi mj mr = zRun 96 21 [l0, l1, some (.int x), l3, l4, l5, l6, l7] (.int x :: S) sh mi mj mr := zr_l (zD_of zk_96 d_96_20 rfl rfl) rfl rfl rfl
theorem q_96_21  : zRun 96 21 L S sh mi mj mr = zRun 96 23 L (.int 1000000 :: S) sh mi mj mr := zr_k32 (zD_of zk_96 d_96_21 rfl rfl) (by first | exact Or.inl rfl | exact Or.inr rfl) rfl
theorem q_96_23  : zRun 96 23 L (.int y :: .int x :: S) sh mi mj mr = if x ≤ y then zRun 96 29 L S sh mi mj mr else zRun 96 26 L S sh mi mj mr := zr_if (off := 6) (P := x ≤ y) (zD_of zk_96 d_96_23 rfl rfl) rfl rfl (by decide)
theorem q_96_26  : zRun 96 26 L S sh mi mj mr = zRun 96 28 L (.int (-2) :: S) sh mi mj mr := zr_p (zD_of zk_96 d_96_26 rfl rfl) rfl
theorem q_96_28  : zRun 96 28 L ([.int x]) sh mi mj mr = some (some (.int x), sh, mi, mj, mr) := zr_ret (zD_of zk_96 d_96_28 rfl rfl) rfl rfl rfl rfl rfl (if_pos rfl)
theorem q_96_29 : zRun 96 29 [l0, l1, l2, some (.int x), l4, l5, l6, l7] S sh mi mj mr = zRun 96 30 [l0, l1, l2, some (.int x), l4, l5, l6, l7] (.int x :: S) sh mi mj mr := zr_l (zD_of zk_96 d_96_29 rfl rfl) rfl rfl rfl
theorem q_96_30  : zRun 96 30 L S sh mi mj mr = zRun 96 31 L (.int 1 :: S) sh mi mj mr := zr_p (zD_of zk_96 d_96_30 rfl rfl) rfl
theorem q_96_31  : zRun 96 31 L (.int y :: .int x :: S) sh mi mj mr = if x < y then zRun 96 41 L S sh mi mj mr else zRun 96 34 L S sh mi mj mr := zr_if (off := 10) (P := x < y) (zD_of zk_96 d_96_31 rfl rfl) rfl rfl (by decide)
theorem q_96_34 : zRun 96 34 [l0, l1, l2, some (.int x), l4, l5, l6, l7] S sh mi mj mr = zRun 96 35 [l0, l1, l2, some (.int x), l4, l5, l6, l7] (.int x :: S) sh mi mj mr := zr_l (zD_of zk_96 d_96_34 rfl rfl) rfl rfl rfl
theorem q_96_35  : zRun 96 35 L S sh mi mj mr = zRun 96 38 L (.int 200 :: S) sh mi mj mr := zr_p (zD_of zk_96 d_96_35 rfl rfl) rfl
theorem q_96_38  : zRun 96 38 L (.int y :: .int x :: S) sh mi mj mr = if x ≤ y then zRun 96 44 L S sh mi mj mr else zRun 96 41 L S sh mi mj mr := zr_if (off := 6) (P := x ≤ y) (zD_of zk_96 d_96_38 rfl rfl) rfl rfl (by decide)
theorem q_96_41  : zRun 96 41 L S sh mi mj mr = zRun 96 43 L (.int (-2) :: S) sh mi mj mr := zr_p (zD_of zk_96 d_96_41 rfl rfl) rfl
theorem q_96_43  : zRun 96 43 L ([.int x]) sh mi mj mr = some (some (.int x), sh, mi, mj, mr) := zr_ret (zD_of zk_96 d_96_43 rfl rfl) rfl rfl rfl rfl rfl (if_pos rfl)
theorem q_96_44r : zRun 96 44 [some (.ref o), l1, l2, l3, l4, l5, l6, l7] S sh mi mj mr = zRun 96 45 [some (.ref o), l1, l2, l3, l4, l5, l6, l7] (.ref o :: S) sh mi mj mr := zr_l (zD_of zk_96 d_96_44 rfl rfl) rfl rfl rfl
theorem q_96_44n : zRun 96 44 [some (.null), l1, l2, l3, l4, l5, l6, l7] S sh mi mj mr = zRun 96 45 [some (.null), l1, l2, l3, l4, l5, l6, l7] (.null :: S) sh mi mj mr := zr_l (zD_of zk_96 d_96_44 rfl rfl) rfl rfl rfl
theorem q_96_45 (h : zIs sh o 0 7) : zRun 96 45 L (.ref o :: S) sh mi mj mr = zRun 96 48 L (va_rf (mr o 7) :: S) sh mi mj mr := zr_getR (zD_of zk_96 d_96_45 rfl rfl) rfl rfl rfl h
theorem q_96_48  (hS : zcat S ≤ 8) (h : zIs sh o 0 1) : zRun 96 48 L (.ref o :: S) sh mi mj mr = (zCall 11 [.ref o] sh mi mj mr).bind fun r => zRun 96 51 L (r.1.toList ++ S) r.2.1 r.2.2.1 r.2.2.2.1 r.2.2.2.2 := zr_V (zD_of zk_96 d_96_48 rfl rfl) rfl zk_11 rfl rfl rfl hS h
theorem q_96_51r : zRun 96 51 [some (.ref o), l1, l2, l3, l4, l5, l6, l7] S sh mi mj mr = zRun 96 52 [some (.ref o), l1, l2, l3, l4, l5, l6, l7] (.ref o :: S) sh mi mj mr := zr_l (zD_of zk_96 d_96_51 rfl rfl) rfl rfl rfl
theorem q_96_51n : zRun 96 51 [some (.null), l1, l2, l3, l4, l5, l6, l7] S sh mi mj mr = zRun 96 52 [some (.null), l1, l2, l3, l4, l5, l6, l7] (.null :: S) sh mi mj mr := zr_l (zD_of zk_96 d_96_51 rfl rfl) rfl rfl rfl
theorem q_96_52 (h : zIs sh o 0 7) : zRun 96 52 L (.ref o :: S) sh mi mj mr = zRun 96 55 L (va_rf (mr o 7) :: S) sh mi mj mr := zr_getR (zD_of zk_96 d_96_52 rfl rfl) rfl rfl rfl h
theorem q_96_55r : zRun 96 55 [some (.ref o), l1, l2, l3, l4, l5, l6, l7] S sh mi mj mr = zRun 96 56 [some (.ref o), l1, l2, l3, l4, l5, l6, l7] (.ref o :: S) sh mi mj mr := zr_l (zD_of zk_96 d_96_55 rfl rfl) rfl rfl rfl
theorem q_96_55n : zRun 96 55 [some (.null), l1, l2, l3, l4, l5, l6, l7] S sh mi mj mr = zRun 96 56 [some (.null), l1, l2, l3, l4, l5, l6, l7] (.null :: S) sh mi mj mr := zr_l (zD_of zk_96 d_96_55 rfl rfl) rfl rfl rfl
theorem q_96_56 (h : zIs sh o 0 7) : zRun 96 56 L (.ref o :: S) sh mi mj mr = zRun 96 59 L (va_rf (mr o 2) :: S) sh mi mj mr := zr_getR (zD_of zk_96 d_96_56 rfl rfl) rfl rfl rfl h
theorem q_96_59 (h : zIs sh o 0 5) : zRun 96 59 L (.ref o :: S) sh mi mj mr = zRun 96 62 L (va_rf (mr o 0) :: S) sh mi mj mr := zr_getR (zD_of zk_96 d_96_59 rfl rfl) rfl rfl rfl h
theorem q_96_62  {o0 : Nat} (hS : zcat S ≤ 8) (h : zIs sh o 0 1) : zRun 96 62 L (.ref o0 :: .ref o :: S) sh mi mj mr = (zCall 12 [.ref o, .ref o0] sh mi mj mr).bind fun r => zRun 96 65 L (r.1.toList ++ S) r.2.1 r.2.2.1 r.2.2.2.1 r.2.2.2.2 := zr_V (zD_of zk_96 d_96_62 rfl rfl) rfl zk_12 rfl rfl rfl hS h
theorem q_96_65  : zRun 96 65 L S sh mi mj mr = zRun 96 66 L (.int 1 :: S) sh mi mj mr := zr_p (zD_of zk_96 d_96_65 rfl rfl) rfl
theorem q_96_66 : zRun 96 66 [l0, l1, l2, l3, l4, l5, l6, l7] (.int x :: S) sh mi mj mr = zRun 96 68 [l0, l1, l2, l3, zk2 l4, some (.int x), l6, l7] S sh mi mj mr := zr_s1 (i := 5) (v := .int x) (L := [l0, l1, l2, l3, l4, l5, l6, l7]) (zD_of zk_96 d_96_66 rfl rfl) rfl rfl rfl rfl
theorem q_96_68 : zRun 96 68 [l0, l1, l2, l3, l4, some (.int x), l6, l7] S sh mi mj mr = zRun 96 70 [l0, l1, l2, l3, l4, some (.int x), l6, l7] (.int x :: S) sh mi mj mr := zr_l (zD_of zk_96 d_96_68 rfl rfl) rfl rfl rfl
theorem q_96_70  : zRun 96 70 L S sh mi mj mr = zRun 96 73 L (.int 400 :: S) sh mi mj mr := zr_p (zD_of zk_96 d_96_70 rfl rfl) rfl
theorem q_96_73  : zRun 96 73 L (.int y :: .int x :: S) sh mi mj mr = if y < x then zRun 96 230 L S sh mi mj mr else zRun 96 76 L S sh mi mj mr := zr_if (off := 157) (P := y < x) (zD_of zk_96 d_96_73 rfl rfl) rfl rfl (by decide)
theorem q_96_76r : zRun 96 76 [some (.ref o), l1, l2, l3, l4, l5, l6, l7] S sh mi mj mr = zRun 96 77 [some (.ref o), l1, l2, l3, l4, l5, l6, l7] (.ref o :: S) sh mi mj mr := zr_l (zD_of zk_96 d_96_76 rfl rfl) rfl rfl rfl
theorem q_96_76n : zRun 96 76 [some (.null), l1, l2, l3, l4, l5, l6, l7] S sh mi mj mr = zRun 96 77 [some (.null), l1, l2, l3, l4, l5, l6, l7] (.null :: S) sh mi mj mr := zr_l (zD_of zk_96 d_96_76 rfl rfl) rfl rfl rfl
theorem q_96_77 (h : zIs sh o 0 7) : zRun 96 77 L (.ref o :: S) sh mi mj mr = zRun 96 80 L (va_rf (mr o 7) :: S) sh mi mj mr := zr_getR (zD_of zk_96 d_96_77 rfl rfl) rfl rfl rfl h
theorem q_96_80r : zRun 96 80 [some (.ref o), l1, l2, l3, l4, l5, l6, l7] S sh mi mj mr = zRun 96 81 [some (.ref o), l1, l2, l3, l4, l5, l6, l7] (.ref o :: S) sh mi mj mr := zr_l (zD_of zk_96 d_96_80 rfl rfl) rfl rfl rfl
theorem q_96_80n : zRun 96 80 [some (.null), l1, l2, l3, l4, l5, l6, l7] S sh mi mj mr = zRun 96 81 [some (.null), l1, l2, l3, l4, l5, l6, l7] (.null :: S) sh mi mj mr := zr_l (zD_of zk_96 d_96_80 rfl rfl) rfl rfl rfl
theorem q_96_81 (h : zIs sh o 0 7) : zRun 96 81 L (.ref o :: S) sh mi mj mr = zRun 96 84 L (va_rf (mr o 8) :: S) sh mi mj mr := zr_getR (zD_of zk_96 d_96_81 rfl rfl) rfl rfl rfl h
theorem q_96_84  {o0 : Nat} (hS : zcat S ≤ 8) (h : zIs sh o 0 1) : zRun 96 84 L (.ref o0 :: .ref o :: S) sh mi mj mr = (zCall 15 [.ref o, .ref o0] sh mi mj mr).bind fun r => zRun 96 87 L (r.1.toList ++ S) r.2.1 r.2.2.1 r.2.2.2.1 r.2.2.2.2 := zr_V (zD_of zk_96 d_96_84 rfl rfl) rfl zk_15 rfl rfl rfl hS h
theorem q_96_87  : zRun 96 87 L (.int x :: S) sh mi mj mr = if x = 0 then zRun 96 230 L S sh mi mj mr else zRun 96 90 L S sh mi mj mr := zr_if (off := 143) (P := x = 0) (zD_of zk_96 d_96_87 rfl rfl) rfl rfl (by decide)
theorem q_96_90r : zRun 96 90 [some (.ref o), l1, l2, l3, l4, l5, l6, l7] S sh mi mj mr = zRun 96 91 [some (.ref o), l1, l2, l3, l4, l5, l6, l7] (.ref o :: S) sh mi mj mr := zr_l (zD_of zk_96 d_96_90 rfl rfl) rfl rfl rfl
theorem q_96_90n : zRun 96 90 [some (.null), l1, l2, l3, l4, l5, l6, l7] S sh mi mj mr = zRun 96 91 [some (.null), l1, l2, l3, l4, l5, l6, l7] (.null :: S) sh mi mj mr := zr_l (zD_of zk_96 d_96_90 rfl rfl) rfl rfl rfl
theorem q_96_91 : zRun 96 91 [l0, l1, l2, l3, l4, some (.int x), l6, l7] S sh mi mj mr = zRun 96 93 [l0, l1, l2, l3, l4, some (.int x), l6, l7] (.int x :: S) sh mi mj mr := zr_l (zD_of zk_96 d_96_91 rfl rfl) rfl rfl rfl
theorem q_96_93 (h : zIs sh o 0 7) : zRun 96 93 L (.int x :: .ref o :: S) sh mi mj mr = zRun 96 96 L S sh (zup mi o 9 x) mj mr := zr_putI (zD_of zk_96 d_96_93 rfl rfl) rfl rfl rfl (Or.inl rfl) h
theorem q_96_96r : zRun 96 96 [some (.ref o), l1, l2, l3, l4, l5, l6, l7] S sh mi mj mr = zRun 96 97 [some (.ref o), l1, l2, l3, l4, l5, l6, l7] (.ref o :: S) sh mi mj mr := zr_l (zD_of zk_96 d_96_96 rfl rfl) rfl rfl rfl
theorem q_96_96n : zRun 96 96 [some (.null), l1, l2, l3, l4, l5, l6, l7] S sh mi mj mr = zRun 96 97 [some (.null), l1, l2, l3, l4, l5, l6, l7] (.null :: S) sh mi mj mr := zr_l (zD_of zk_96 d_96_96 rfl rfl) rfl rfl rfl
theorem q_96_97 (h : zIs sh o 0 7) : zRun 96 97 L (.ref o :: S) sh mi mj mr = zRun 96 100 L (va_rf (mr o 6) :: S) sh mi mj mr := zr_getR (zD_of zk_96 d_96_97 rfl rfl) rfl rfl rfl h
theorem q_96_100r : zRun 96 100 [l0, l1, l2, l3, some (.ref o), l5, l6, l7] S sh mi mj mr = zRun 96 102 [l0, l1, l2, l3, some (.ref o), l5, l6, l7] (.ref o :: S) sh mi mj mr := zr_l (zD_of zk_96 d_96_100 rfl rfl) rfl rfl rfl
theorem q_96_100n : zRun 96 100 [l0, l1, l2, l3, some (.null), l5, l6, l7] S sh mi mj mr = zRun 96 102 [l0, l1, l2, l3, some (.null), l5, l6, l7] (.null :: S) sh mi mj mr := zr_l (zD_of zk_96 d_96_100 rfl rfl) rfl rfl rfl
theorem q_96_102r : zRun 96 102 [l0, l1, l2, l3, some (.ref o), l5, l6, l7] S sh mi mj mr = zRun 96 104 [l0, l1, l2, l3, some (.ref o), l5, l6, l7] (.ref o :: S) sh mi mj mr := zr_l (zD_of zk_96 d_96_102 rfl rfl) rfl rfl rfl
theorem q_96_102n : zRun 96 102 [l0, l1, l2, l3, some (.null), l5, l6, l7] S sh mi mj mr = zRun 96 104 [l0, l1, l2, l3, some (.null), l5, l6, l7] (.null :: S) sh mi mj mr := zr_l (zD_of zk_96 d_96_102 rfl rfl) rfl rfl rfl
theorem q_96_104 (h : zIs sh o 0 6) : zRun 96 104 L (.ref o :: S) sh mi mj mr = zRun 96 107 L (.int (mi o 2) :: S) sh mi mj mr := zr_getI (zD_of zk_96 d_96_104 rfl rfl) rfl rfl (Or.inl rfl) h
theorem q_96_107r : zRun 96 107 [some (.ref o), l1, l2, l3, l4, l5, l6, l7] S sh mi mj mr = zRun 96 108 [some (.ref o), l1, l2, l3, l4, l5, l6, l7] (.ref o :: S) sh mi mj mr := zr_l (zD_of zk_96 d_96_107 rfl rfl) rfl rfl rfl
theorem q_96_107n : zRun 96 107 [some (.null), l1, l2, l3, l4, l5, l6, l7] S sh mi mj mr = zRun 96 108 [some (.null), l1, l2, l3, l4, l5, l6, l7] (.null :: S) sh mi mj mr := zr_l (zD_of zk_96 d_96_107 rfl rfl) rfl rfl rfl
theorem q_96_108 (h : zIs sh o 0 7) : zRun 96 108 L (.ref o :: S) sh mi mj mr = zRun 96 111 L (va_rf (mr o 8) :: S) sh mi mj mr := zr_getR (zD_of zk_96 d_96_108 rfl rfl) rfl rfl rfl h
theorem q_96_111r : zRun 96 111 [some (.ref o), l1, l2, l3, l4, l5, l6, l7] S sh mi mj mr = zRun 96 112 [some (.ref o), l1, l2, l3, l4, l5, l6, l7] (.ref o :: S) sh mi mj mr := zr_l (zD_of zk_96 d_96_111 rfl rfl) rfl rfl rfl
theorem q_96_111n : zRun 96 111 [some (.null), l1, l2, l3, l4, l5, l6, l7] S sh mi mj mr = zRun 96 112 [some (.null), l1, l2, l3, l4, l5, l6, l7] (.null :: S) sh mi mj mr := zr_l (zD_of zk_96 d_96_111 rfl rfl) rfl rfl rfl
theorem q_96_112 (h : zIs sh o 0 7) : zRun 96 112 L (.ref o :: S) sh mi mj mr = zRun 96 115 L (va_rf (mr o 2) :: S) sh mi mj mr := zr_getR (zD_of zk_96 d_96_112 rfl rfl) rfl rfl rfl h
theorem q_96_115 (h : zIs sh o 0 5) : zRun 96 115 L (.ref o :: S) sh mi mj mr = zRun 96 118 L (.int (mi o 2) :: S) sh mi mj mr := zr_getI (zD_of zk_96 d_96_115 rfl rfl) rfl rfl (Or.inl rfl) h
theorem q_96_118  {x0 x1 : Int32} {o0 o1 : Nat} (hS : zcat S ≤ 8) (h : zIs sh o 0 3) : zRun 96 118 L (.int x1 :: .ref o1 :: .int x0 :: .ref o0 :: .ref o :: S) sh mi mj mr = (zCall 45 [.ref o, .ref o0, .int x0, .ref o1, .int x1] sh mi mj mr).bind fun r => zRun 96 121 L (r.1.toList ++ S) r.2.1 r.2.2.1 r.2.2.2.1 r.2.2.2.2 := zr_V (zD_of zk_96 d_96_118 rfl rfl) rfl zk_45 rfl rfl rfl hS h
theorem q_96_121r : zRun 96 121 [l0, l1, l2, l3, l4, l5, l6, l7] (.ref o :: S) sh mi mj mr = zRun 96 123 [l0, l1, l2, l3, l4, zk2 l5, some (.ref o), l7] S sh mi mj mr := zr_s1 (i := 6) (v := .ref o) (L := [l0, l1, l2, l3, l4, l5, l6, l7]) (zD_of zk_96 d_96_121 rfl rfl) rfl rfl rfl rfl
theorem q_96_121n : zRun 96 121 [l0, l1, l2, l3, l4, l5, l6, l7] (.null :: S) sh mi mj mr = zRun 96 123 [l0, l1, l2, l3, l4, zk2 l5, some (.null), l7] S sh mi mj mr := zr_s1 (i := 6) (v := .null) (L := [l0, l1, l2, l3, l4, l5, l6, l7]) (zD_of zk_96 d_96_121 rfl rfl) rfl rfl rfl rfl
theorem q_96_123r : zRun 96 123 [l0, l1, l2, l3, l4, l5, some (.ref o), l7] S sh mi mj mr = zRun 96 125 [l0, l1, l2, l3, l4, l5, some (.ref o), l7] (.ref o :: S) sh mi mj mr := zr_l (zD_of zk_96 d_96_123 rfl rfl) rfl rfl rfl
theorem q_96_123n : zRun 96 123 [l0, l1, l2, l3, l4, l5, some (.null), l7] S sh mi mj mr = zRun 96 125 [l0, l1, l2, l3, l4, l5, some (.null), l7] (.null :: S) sh mi mj mr := zr_l (zD_of zk_96 d_96_123 rfl rfl) rfl rfl rfl
theorem q_96_125 (h : zIs sh o 0 2) : zRun 96 125 L (.ref o :: S) sh mi mj mr = zRun 96 128 L (.int (mi o 0) :: S) sh mi mj mr := zr_getI (zD_of zk_96 d_96_125 rfl rfl) rfl rfl (Or.inl rfl) h
theorem q_96_128  : zRun 96 128 L (.int x :: S) sh mi mj mr = if ¬ x = 0 then zRun 96 145 L S sh mi mj mr else zRun 96 131 L S sh mi mj mr := zr_if (off := 17) (P := ¬ x = 0) (zD_of zk_96 d_96_128 rfl rfl) rfl rfl (by decide)
theorem q_96_131r : zRun 96 131 [l0, l1, l2, l3, l4, l5, some (.ref o), l7] S sh mi mj mr = zRun 96 133 [l0, l1, l2, l3, l4, l5, some (.ref o), l7] (.ref o :: S) sh mi mj mr := zr_l (zD_of zk_96 d_96_131 rfl rfl) rfl rfl rfl
theorem q_96_131n : zRun 96 131 [l0, l1, l2, l3, l4, l5, some (.null), l7] S sh mi mj mr = zRun 96 133 [l0, l1, l2, l3, l4, l5, some (.null), l7] (.null :: S) sh mi mj mr := zr_l (zD_of zk_96 d_96_131 rfl rfl) rfl rfl rfl
theorem q_96_133 (h : zIs sh o 0 2) : zRun 96 133 L (.ref o :: S) sh mi mj mr = zRun 96 136 L (.long (mj o 7) :: S) sh mi mj mr := zr_getJ (zD_of zk_96 d_96_133 rfl rfl) rfl rfl rfl h
theorem q_96_136 : zRun 96 136 [l0, l1, some (.int x), l3, l4, l5, l6, l7] S sh mi mj mr = zRun 96 137 [l0, l1, some (.int x), l3, l4, l5, l6, l7] (.int x :: S) sh mi mj mr := zr_l (zD_of zk_96 d_96_136 rfl rfl) rfl rfl rfl
theorem q_96_137  : zRun 96 137 L (.int x :: S) sh mi mj mr = zRun 96 138 L (.long x.toInt64 :: S) sh mi mj mr := zr_p (zD_of zk_96 d_96_137 rfl rfl) rfl
theorem q_96_138  : zRun 96 138 L (.long v :: .long u :: S) sh mi mj mr = if u ≤ v then zRun 96 145 L S sh mi mj mr else zRun 96 142 L S sh mi mj mr := zr_cmp (off := 6) (zD_of zk_96 d_96_138 rfl rfl) (zD_of zk_96 d_96_139 rfl rfl) rfl rfl (by decide) (lg_cmp_le u v)
theorem q_96_139  : zRun 96 139 L (.int x :: S) sh mi mj mr = if x ≤ 0 then zRun 96 145 L S sh mi mj mr else zRun 96 142 L S sh mi mj mr := zr_if (off := 6) (P := x ≤ 0) (zD_of zk_96 d_96_139 rfl rfl) rfl rfl (by decide)
theorem q_96_142  : zRun 96 142 L S sh mi mj mr = zRun 96 224 L S sh mi mj mr := zr_go (off := 82) (zD_of zk_96 d_96_142 rfl rfl) rfl rfl (by decide)
theorem q_96_145r : zRun 96 145 [some (.ref o), l1, l2, l3, l4, l5, l6, l7] S sh mi mj mr = zRun 96 146 [some (.ref o), l1, l2, l3, l4, l5, l6, l7] (.ref o :: S) sh mi mj mr := zr_l (zD_of zk_96 d_96_145 rfl rfl) rfl rfl rfl
theorem q_96_145n : zRun 96 145 [some (.null), l1, l2, l3, l4, l5, l6, l7] S sh mi mj mr = zRun 96 146 [some (.null), l1, l2, l3, l4, l5, l6, l7] (.null :: S) sh mi mj mr := zr_l (zD_of zk_96 d_96_145 rfl rfl) rfl rfl rfl
theorem q_96_146 (h : zIs sh o 0 7) : zRun 96 146 L (.ref o :: S) sh mi mj mr = zRun 96 149 L (va_rf (mr o 8) :: S) sh mi mj mr := zr_getR (zD_of zk_96 d_96_146 rfl rfl) rfl rfl rfl h
theorem q_96_149r : zRun 96 149 [l0, l1, l2, l3, l4, l5, some (.ref o), l7] S sh mi mj mr = zRun 96 151 [l0, l1, l2, l3, l4, l5, some (.ref o), l7] (.ref o :: S) sh mi mj mr := zr_l (zD_of zk_96 d_96_149 rfl rfl) rfl rfl rfl
theorem q_96_149n : zRun 96 149 [l0, l1, l2, l3, l4, l5, some (.null), l7] S sh mi mj mr = zRun 96 151 [l0, l1, l2, l3, l4, l5, some (.null), l7] (.null :: S) sh mi mj mr := zr_l (zD_of zk_96 d_96_149 rfl rfl) rfl rfl rfl
theorem q_96_151  {o0 : Nat} (hS : zcat S ≤ 8) (h : zIs sh o 0 0) : zRun 96 151 L (.ref o0 :: .ref o :: S) sh mi mj mr = (zCall 8 [.ref o, .ref o0] sh mi mj mr).bind fun r => zRun 96 154 L (r.1.toList ++ S) r.2.1 r.2.2.1 r.2.2.2.1 r.2.2.2.2 := zr_V (zD_of zk_96 d_96_151 rfl rfl) rfl zk_8 rfl rfl rfl hS h
theorem q_96_154 : zRun 96 154 [l0, l1, l2, l3, l4, l5, l6, l7] (.int x :: S) sh mi mj mr = zRun 96 156 [l0, l1, l2, l3, l4, l5, zk2 l6, some (.int x)] S sh mi mj mr := zr_s1 (i := 7) (v := .int x) (L := [l0, l1, l2, l3, l4, l5, l6, l7]) (zD_of zk_96 d_96_154 rfl rfl) rfl rfl rfl rfl
theorem q_96_156r : zRun 96 156 [some (.ref o), l1, l2, l3, l4, l5, l6, l7] S sh mi mj mr = zRun 96 157 [some (.ref o), l1, l2, l3, l4, l5, l6, l7] (.ref o :: S) sh mi mj mr := zr_l (zD_of zk_96 d_96_156 rfl rfl) rfl rfl rfl
theorem q_96_156n : zRun 96 156 [some (.null), l1, l2, l3, l4, l5, l6, l7] S sh mi mj mr = zRun 96 157 [some (.null), l1, l2, l3, l4, l5, l6, l7] (.null :: S) sh mi mj mr := zr_l (zD_of zk_96 d_96_156 rfl rfl) rfl rfl rfl
theorem q_96_157r : zRun 96 157 [l0, l1, l2, l3, some (.ref o), l5, l6, l7] S sh mi mj mr = zRun 96 159 [l0, l1, l2, l3, some (.ref o), l5, l6, l7] (.ref o :: S) sh mi mj mr := zr_l (zD_of zk_96 d_96_157 rfl rfl) rfl rfl rfl
theorem q_96_157n : zRun 96 157 [l0, l1, l2, l3, some (.null), l5, l6, l7] S sh mi mj mr = zRun 96 159 [l0, l1, l2, l3, some (.null), l5, l6, l7] (.null :: S) sh mi mj mr := zr_l (zD_of zk_96 d_96_157 rfl rfl) rfl rfl rfl
theorem q_96_159r : zRun 96 159 [some (.ref o), l1, l2, l3, l4, l5, l6, l7] S sh mi mj mr = zRun 96 160 [some (.ref o), l1, l2, l3, l4, l5, l6, l7] (.ref o :: S) sh mi mj mr := zr_l (zD_of zk_96 d_96_159 rfl rfl) rfl rfl rfl
theorem q_96_159n : zRun 96 159 [some (.null), l1, l2, l3, l4, l5, l6, l7] S sh mi mj mr = zRun 96 160 [some (.null), l1, l2, l3, l4, l5, l6, l7] (.null :: S) sh mi mj mr := zr_l (zD_of zk_96 d_96_159 rfl rfl) rfl rfl rfl
theorem q_96_160 (h : zIs sh o 0 7) : zRun 96 160 L (.ref o :: S) sh mi mj mr = zRun 96 163 L (va_rf (mr o 8) :: S) sh mi mj mr := zr_getR (zD_of zk_96 d_96_160 rfl rfl) rfl rfl rfl h
theorem q_96_163 : zRun 96 163 [l0, l1, some (.int x), l3, l4, l5, l6, l7] S sh mi mj mr = zRun 96 164 [l0, l1, some (.int x), l3, l4, l5, l6, l7] (.int x :: S) sh mi mj mr := zr_l (zD_of zk_96 d_96_163 rfl rfl) rfl rfl rfl
theorem q_96_164  {x0 : Int32} {o0 o1 : Nat} (hS : zcat S ≤ 8) (h : zIs sh o 0 7) : zRun 96 164 L (.int x0 :: .ref o1 :: .ref o0 :: .ref o :: S) sh mi mj mr = (zCall 104 [.ref o, .ref o0, .ref o1, .int x0] sh mi mj mr).bind fun r => zRun 96 167 L (r.1.toList ++ S) r.2.1 r.2.2.1 r.2.2.2.1 r.2.2.2.2 := zr_V (zD_of zk_96 d_96_164 rfl rfl) rfl zk_104 rfl rfl rfl hS h
theorem q_96_167  : zRun 96 167 L (.int x :: S) sh mi mj mr = if x = 0 then zRun 96 172 L S sh mi mj mr else zRun 96 170 L S sh mi mj mr := zr_if (off := 5) (P := x = 0) (zD_of zk_96 d_96_167 rfl rfl) rfl rfl (by decide)
theorem q_96_170  : zRun 96 170 L S sh mi mj mr = zRun 96 171 L (.int 2 :: S) sh mi mj mr := zr_p (zD_of zk_96 d_96_170 rfl rfl) rfl
theorem q_96_171  : zRun 96 171 L ([.int x]) sh mi mj mr = some (some (.int x), sh, mi, mj, mr) := zr_ret (zD_of zk_96 d_96_171 rfl rfl) rfl rfl rfl rfl rfl (if_pos rfl)
theorem q_96_172 : zRun 96 172 [l0, l1, l2, l3, l4, some (.int x), l6, l7] S sh mi mj mr = zRun 96 174 [l0, l1, l2, l3, l4, some (.int x), l6, l7] (.int x :: S) sh mi mj mr := zr_l (zD_of zk_96 d_96_172 rfl rfl) rfl rfl rfl
theorem q_96_174 : zRun 96 174 [l0, l1, l2, some (.int x), l4, l5, l6, l7] S sh mi mj mr = zRun 96 175 [l0, l1, l2, some (.int x), l4, l5, l6, l7] (.int x :: S) sh mi mj mr := zr_l (zD_of zk_96 d_96_174 rfl rfl) rfl rfl rfl
theorem q_96_175  : zRun 96 175 L (.int y :: .int x :: S) sh mi mj mr = if y ≤ x then zRun 96 183 L S sh mi mj mr else zRun 96 178 L S sh mi mj mr := zr_if (off := 8) (P := y ≤ x) (zD_of zk_96 d_96_175 rfl rfl) rfl rfl (by decide)
theorem q_96_178 : zRun 96 178 [l0, l1, l2, l3, l4, l5, l6, some (.int x)] S sh mi mj mr = zRun 96 180 [l0, l1, l2, l3, l4, l5, l6, some (.int x)] (.int x :: S) sh mi mj mr := zr_l (zD_of zk_96 d_96_178 rfl rfl) rfl rfl rfl
theorem q_96_180  : zRun 96 180 L (.int x :: S) sh mi mj mr = if 0 ≤ x then zRun 96 185 L S sh mi mj mr else zRun 96 183 L S sh mi mj mr := zr_if (off := 5) (P := 0 ≤ x) (zD_of zk_96 d_96_180 rfl rfl) rfl rfl (by decide)
theorem q_96_183  : zRun 96 183 L S sh mi mj mr = zRun 96 184 L (.int 3 :: S) sh mi mj mr := zr_p (zD_of zk_96 d_96_183 rfl rfl) rfl
theorem q_96_184  : zRun 96 184 L ([.int x]) sh mi mj mr = some (some (.int x), sh, mi, mj, mr) := zr_ret (zD_of zk_96 d_96_184 rfl rfl) rfl rfl rfl rfl rfl (if_pos rfl)
theorem q_96_185r : zRun 96 185 [some (.ref o), l1, l2, l3, l4, l5, l6, l7] S sh mi mj mr = zRun 96 186 [some (.ref o), l1, l2, l3, l4, l5, l6, l7] (.ref o :: S) sh mi mj mr := zr_l (zD_of zk_96 d_96_185 rfl rfl) rfl rfl rfl
theorem q_96_185n : zRun 96 185 [some (.null), l1, l2, l3, l4, l5, l6, l7] S sh mi mj mr = zRun 96 186 [some (.null), l1, l2, l3, l4, l5, l6, l7] (.null :: S) sh mi mj mr := zr_l (zD_of zk_96 d_96_185 rfl rfl) rfl rfl rfl
theorem q_96_186 (h : zIs sh o 0 7) : zRun 96 186 L (.ref o :: S) sh mi mj mr = zRun 96 189 L (va_rf (mr o 8) :: S) sh mi mj mr := zr_getR (zD_of zk_96 d_96_186 rfl rfl) rfl rfl rfl h
theorem q_96_189 : zRun 96 189 [l0, l1, l2, l3, l4, l5, l6, some (.int x)] S sh mi mj mr = zRun 96 191 [l0, l1, l2, l3, l4, l5, l6, some (.int x)] (.int x :: S) sh mi mj mr := zr_l (zD_of zk_96 d_96_189 rfl rfl) rfl rfl rfl
theorem q_96_191r : zRun 96 191 [some (.ref o), l1, l2, l3, l4, l5, l6, l7] S sh mi mj mr = zRun 96 192 [some (.ref o), l1, l2, l3, l4, l5, l6, l7] (.ref o :: S) sh mi mj mr := zr_l (zD_of zk_96 d_96_191 rfl rfl) rfl rfl rfl
theorem q_96_191n : zRun 96 191 [some (.null), l1, l2, l3, l4, l5, l6, l7] S sh mi mj mr = zRun 96 192 [some (.null), l1, l2, l3, l4, l5, l6, l7] (.null :: S) sh mi mj mr := zr_l (zD_of zk_96 d_96_191 rfl rfl) rfl rfl rfl
theorem q_96_192 (h : zIs sh o 0 7) : zRun 96 192 L (.ref o :: S) sh mi mj mr = zRun 96 195 L (va_rf (mr o 11) :: S) sh mi mj mr := zr_getR (zD_of zk_96 d_96_192 rfl rfl) rfl rfl rfl h
theorem q_96_195r : zRun 96 195 [some (.ref o), l1, l2, l3, l4, l5, l6, l7] S sh mi mj mr = zRun 96 196 [some (.ref o), l1, l2, l3, l4, l5, l6, l7] (.ref o :: S) sh mi mj mr := zr_l (zD_of zk_96 d_96_195 rfl rfl) rfl rfl rfl
theorem q_96_195n : zRun 96 195 [some (.null), l1, l2, l3, l4, l5, l6, l7] S sh mi mj mr = zRun 96 196 [some (.null), l1, l2, l3, l4, l5, l6, l7] (.null :: S) sh mi mj mr := zr_l (zD_of zk_96 d_96_195 rfl rfl) rfl rfl rfl
theorem q_96_196 (h : zIs sh o 0 7) : zRun 96 196 L (.ref o :: S) sh mi mj mr = zRun 96 199 L (va_rf (mr o 12) :: S) sh mi mj mr := zr_getR (zD_of zk_96 d_96_196 rfl rfl) rfl rfl rfl h
theorem q_96_199  {x0 : Int32} {o0 o1 : Nat} (hS : zcat S ≤ 8) (h : zIs sh o 0 0) : zRun 96 199 L (.ref o1 :: .ref o0 :: .int x0 :: .ref o :: S) sh mi mj mr = (zCall 9 [.ref o, .int x0, .ref o0, .ref o1] sh mi mj mr).bind fun r => zRun 96 202 L (r.1.toList ++ S) r.2.1 r.2.2.1 r.2.2.2.1 r.2.2.2.2 := zr_V (zD_of zk_96 d_96_199 rfl rfl) rfl zk_9 rfl rfl rfl hS h
theorem q_96_202r : zRun 96 202 [some (.ref o), l1, l2, l3, l4, l5, l6, l7] S sh mi mj mr = zRun 96 203 [some (.ref o), l1, l2, l3, l4, l5, l6, l7] (.ref o :: S) sh mi mj mr := zr_l (zD_of zk_96 d_96_202 rfl rfl) rfl rfl rfl
theorem q_96_202n : zRun 96 202 [some (.null), l1, l2, l3, l4, l5, l6, l7] S sh mi mj mr = zRun 96 203 [some (.null), l1, l2, l3, l4, l5, l6, l7] (.null :: S) sh mi mj mr := zr_l (zD_of zk_96 d_96_202 rfl rfl) rfl rfl rfl
theorem q_96_203 (h : zIs sh o 0 7) : zRun 96 203 L (.ref o :: S) sh mi mj mr = zRun 96 206 L (va_rf (mr o 7) :: S) sh mi mj mr := zr_getR (zD_of zk_96 d_96_203 rfl rfl) rfl rfl rfl h
theorem q_96_206r : zRun 96 206 [some (.ref o), l1, l2, l3, l4, l5, l6, l7] S sh mi mj mr = zRun 96 207 [some (.ref o), l1, l2, l3, l4, l5, l6, l7] (.ref o :: S) sh mi mj mr := zr_l (zD_of zk_96 d_96_206 rfl rfl) rfl rfl rfl
theorem q_96_206n : zRun 96 206 [some (.null), l1, l2, l3, l4, l5, l6, l7] S sh mi mj mr = zRun 96 207 [some (.null), l1, l2, l3, l4, l5, l6, l7] (.null :: S) sh mi mj mr := zr_l (zD_of zk_96 d_96_206 rfl rfl) rfl rfl rfl
theorem q_96_207 (h : zIs sh o 0 7) : zRun 96 207 L (.ref o :: S) sh mi mj mr = zRun 96 210 L (va_rf (mr o 12) :: S) sh mi mj mr := zr_getR (zD_of zk_96 d_96_207 rfl rfl) rfl rfl rfl h
theorem q_96_210  {o0 : Nat} (hS : zcat S ≤ 8) (h : zIs sh o 0 1) : zRun 96 210 L (.ref o0 :: .ref o :: S) sh mi mj mr = (zCall 12 [.ref o, .ref o0] sh mi mj mr).bind fun r => zRun 96 213 L (r.1.toList ++ S) r.2.1 r.2.2.1 r.2.2.2.1 r.2.2.2.2 := zr_V (zD_of zk_96 d_96_210 rfl rfl) rfl zk_12 rfl rfl rfl hS h
theorem q_96_213r : zRun 96 213 [some (.ref o), l1, l2, l3, l4, l5, l6, l7] S sh mi mj mr = zRun 96 214 [some (.ref o), l1, l2, l3, l4, l5, l6, l7] (.ref o :: S) sh mi mj mr := zr_l (zD_of zk_96 d_96_213 rfl rfl) rfl rfl rfl
theorem q_96_213n : zRun 96 213 [some (.null), l1, l2, l3, l4, l5, l6, l7] S sh mi mj mr = zRun 96 214 [some (.null), l1, l2, l3, l4, l5, l6, l7] (.null :: S) sh mi mj mr := zr_l (zD_of zk_96 d_96_213 rfl rfl) rfl rfl rfl
theorem q_96_214 (h : zIs sh o 0 7) : zRun 96 214 L (.ref o :: S) sh mi mj mr = zRun 96 217 L (va_rf (mr o 7) :: S) sh mi mj mr := zr_getR (zD_of zk_96 d_96_214 rfl rfl) rfl rfl rfl h
theorem q_96_217r : zRun 96 217 [some (.ref o), l1, l2, l3, l4, l5, l6, l7] S sh mi mj mr = zRun 96 218 [some (.ref o), l1, l2, l3, l4, l5, l6, l7] (.ref o :: S) sh mi mj mr := zr_l (zD_of zk_96 d_96_217 rfl rfl) rfl rfl rfl
theorem q_96_217n : zRun 96 217 [some (.null), l1, l2, l3, l4, l5, l6, l7] S sh mi mj mr = zRun 96 218 [some (.null), l1, l2, l3, l4, l5, l6, l7] (.null :: S) sh mi mj mr := zr_l (zD_of zk_96 d_96_217 rfl rfl) rfl rfl rfl
theorem q_96_218 (h : zIs sh o 0 7) : zRun 96 218 L (.ref o :: S) sh mi mj mr = zRun 96 221 L (va_rf (mr o 11) :: S) sh mi mj mr := zr_getR (zD_of zk_96 d_96_218 rfl rfl) rfl rfl rfl h
theorem q_96_221  {o0 : Nat} (hS : zcat S ≤ 8) (h : zIs sh o 0 1) : zRun 96 221 L (.ref o0 :: .ref o :: S) sh mi mj mr = (zCall 12 [.ref o, .ref o0] sh mi mj mr).bind fun r => zRun 96 224 L (r.1.toList ++ S) r.2.1 r.2.2.1 r.2.2.2.1 r.2.2.2.2 := zr_V (zD_of zk_96 d_96_221 rfl rfl) rfl zk_12 rfl rfl rfl hS h
theorem q_96_224  : zRun 96 224 [l0, l1, l2, l3, l4, some (.int x), l6, l7] S sh mi mj mr = zRun 96 227 [l0, l1, l2, l3, zk2 l4, some (.int (x + 1)), l6, l7] S sh mi mj mr := zr_s1 (i := 5) (v := .int (x + 1)) (L := [l0, l1, l2, l3, l4, some (.int x), l6, l7]) (zD_of zk_96 d_96_224 rfl rfl) rfl rfl rfl rfl
theorem q_96_227  : zRun 96 227 L S sh mi mj mr = zRun 96 68 L S sh mi mj mr := zr_go (off := (-159)) (zD_of zk_96 d_96_227 rfl rfl) rfl rfl (by decide)
theorem q_96_230  : zRun 96 230 L S sh mi mj mr = zRun 96 231 L (.int 1 :: S) sh mi mj mr := zr_p (zD_of zk_96 d_96_230 rfl rfl) rfl
theorem q_96_231  : zRun 96 231 L ([.int x]) sh mi mj mr = some (some (.int x), sh, mi, mj, mr) := zr_ret (zD_of zk_96 d_96_231 rfl rfl) rfl rfl rfl rfl rfl (if_pos rfl)
theorem e_96 {x0 x1 x2 : Int32} : zCall 96 [.ref o, .int x0, .int x1, .int x2] sh mi mj mr = zRun 96 0 [some (.ref o), some (.int x0), some (.int x1), some (.int x2), none, none, none, none] [] sh mi mj mr := rfl
theorem d_97_0 : decode cX7_proof 0 = .ok (.iload_n 1, 1) := by decide +kernel
theorem d_97_1 : decode cX7_proof 1 = .ok (.ifCond .lt 9, 3) := by decide +kernel
theorem d_97_4 : decode cX7_proof 4 = .ok (.iload_n 1, 1) := by decide +kernel
theorem d_97_5 : decode cX7_proof 5 = .ok (.bipush 8, 2) := by decide +kernel
theorem d_97_7 : decode cX7_proof 7 = .ok (.if_icmp .le 9, 3) := by decide +kernel
theorem d_97_10 : decode cX7_proof 10 = .ok (.bipush (-2), 2) := by decide +kernel
theorem d_97_12 : decode cX7_proof 12 = .ok (.invokestatic 143, 3) := by decide +kernel
theorem d_97_15 : decode cX7_proof 15 = .ok (.lreturn, 1) := by decide +kernel
theorem d_97_16 : decode cX7_proof 16 = .ok (.aload_n 0, 1) := by decide +kernel
theorem d_97_17 : decode cX7_proof 17 = .ok (.getfield 60, 3) := by decide +kernel
theorem d_97_20 : decode cX7_proof 20 = .ok (.ifCond .ne 9, 3) := by decide +kernel
theorem d_97_23 : decode cX7_proof 23 = .ok (.bipush (-6), 2) := by decide +kernel
theorem d_97_25 : decode cX7_proof 25 = .ok (.invokestatic 143, 3) := by decide +kernel
theorem d_97_28 : decode cX7_proof 28 = .ok (.lreturn, 1) := by decide +kernel
theorem d_97_29 : decode cX7_proof 29 = .ok (.iload_n 1, 1) := by decide +kernel
theorem d_97_30 : decode cX7_proof 30 = .ok (.ifCond .ne 9, 3) := by decide +kernel
theorem d_97_33 : decode cX7_proof 33 = .ok (.aload_n 0, 1) := by decide +kernel
theorem d_97_34 : decode cX7_proof 34 = .ok (.getfield 60, 3) := by decide +kernel
theorem d_97_37 : decode cX7_proof 37 = .ok (.i2l, 1) := by decide +kernel
theorem d_97_38 : decode cX7_proof 38 = .ok (.lreturn, 1) := by decide +kernel
theorem d_97_39 : decode cX7_proof 39 = .ok (.iload_n 1, 1) := by decide +kernel
theorem d_97_40 : decode cX7_proof 40 = .ok (.iconst 4, 1) := by decide +kernel
theorem d_97_41 : decode cX7_proof 41 = .ok (.if_icmp .gt 18, 3) := by decide +kernel
theorem d_97_44 : decode cX7_proof 44 = .ok (.aload_n 0, 1) := by decide +kernel
theorem d_97_45 : decode cX7_proof 45 = .ok (.getfield 56, 3) := by decide +kernel
theorem d_97_48 : decode cX7_proof 48 = .ok (.getfield 93, 3) := by decide +kernel
theorem d_97_51 : decode cX7_proof 51 = .ok (.iload_n 1, 1) := by decide +kernel
theorem d_97_52 : decode cX7_proof 52 = .ok (.iconst 1, 1) := by decide +kernel
theorem d_97_53 : decode cX7_proof 53 = .ok (.isub, 1) := by decide +kernel
theorem d_97_54 : decode cX7_proof 54 = .ok (.iaload, 1) := by decide +kernel
theorem d_97_55 : decode cX7_proof 55 = .ok (.i2l, 1) := by decide +kernel
theorem d_97_56 : decode cX7_proof 56 = .ok (.goto 17, 3) := by decide +kernel
theorem d_97_59 : decode cX7_proof 59 = .ok (.aload_n 0, 1) := by decide +kernel
theorem d_97_60 : decode cX7_proof 60 = .ok (.getfield 56, 3) := by decide +kernel
theorem d_97_63 : decode cX7_proof 63 = .ok (.getfield 97, 3) := by decide +kernel
theorem d_97_66 : decode cX7_proof 66 = .ok (.iload_n 1, 1) := by decide +kernel
theorem d_97_67 : decode cX7_proof 67 = .ok (.iconst 1, 1) := by decide +kernel
theorem d_97_68 : decode cX7_proof 68 = .ok (.isub, 1) := by decide +kernel
theorem d_97_69 : decode cX7_proof 69 = .ok (.iconst 4, 1) := by decide +kernel
theorem d_97_70 : decode cX7_proof 70 = .ok (.isub, 1) := by decide +kernel
theorem d_97_71 : decode cX7_proof 71 = .ok (.iaload, 1) := by decide +kernel
theorem d_97_72 : decode cX7_proof 72 = .ok (.i2l, 1) := by decide +kernel
theorem d_97_73 : decode cX7_proof 73 = .ok (.lreturn, 1) := by decide +kernel
theorem q_97_0 : zRun 97 0 [l0, some (.int x)] S sh mi mj mr = zRun 97 1 [l0, some (.int x)] (.int x :: S) sh mi mj mr := zr_l (zD_of zk_97 d_97_0 rfl rfl) rfl rfl rfl
theorem q_97_1  : zRun 97 1 L (.int x :: S) sh mi mj mr = if x < 0 then zRun 97 10 L S sh mi mj mr else zRun 97 4 L S sh mi mj mr := zr_if (off := 9) (P := x < 0) (zD_of zk_97 d_97_1 rfl rfl) rfl rfl (by decide)
theorem q_97_4 : zRun 97 4 [l0, some (.int x)] S sh mi mj mr = zRun 97 5 [l0, some (.int x)] (.int x :: S) sh mi mj mr := zr_l (zD_of zk_97 d_97_4 rfl rfl) rfl rfl rfl
theorem q_97_5  : zRun 97 5 L S sh mi mj mr = zRun 97 7 L (.int 8 :: S) sh mi mj mr := zr_p (zD_of zk_97 d_97_5 rfl rfl) rfl
theorem q_97_7  : zRun 97 7 L (.int y :: .int x :: S) sh mi mj mr = if x ≤ y then zRun 97 16 L S sh mi mj mr else zRun 97 10 L S sh mi mj mr := zr_if (off := 9) (P := x ≤ y) (zD_of zk_97 d_97_7 rfl rfl) rfl rfl (by decide)
theorem q_97_10  : zRun 97 10 L S sh mi mj mr = zRun 97 12 L (.int (-2) :: S) sh mi mj mr := zr_p (zD_of zk_97 d_97_10 rfl rfl) rfl
theorem q_97_12  {x0 : Int32} (hS : zcat S ≤ 8) : zRun 97 12 L (.int x0 :: S) sh mi mj mr = (zCall 107 [.int x0] sh mi mj mr).bind fun r => zRun 97 15 L (r.1.toList ++ S) r.2.1 r.2.2.1 r.2.2.2.1 r.2.2.2.2 := zr_S (zD_of zk_97 d_97_12 rfl rfl) rfl zk_107 rfl rfl rfl hS
theorem q_97_15  : zRun 97 15 L ([.long u]) sh mi mj mr = some (some (.long u), sh, mi, mj, mr) := zr_ret (zD_of zk_97 d_97_15 rfl rfl) rfl rfl rfl rfl rfl rfl
theorem q_97_16r : zRun 97 16 [some (.ref o), l1] S sh mi mj mr = zRun 97 17 [some (.ref o), l1] (.ref o :: S) sh mi mj mr := zr_l (zD_of zk_97 d_97_16 rfl rfl) rfl rfl rfl
theorem q_97_16n : zRun 97 16 [some (.null), l1] S sh mi mj mr = zRun 97 17 [some (.null), l1] (.null :: S) sh mi mj mr := zr_l (zD_of zk_97 d_97_16 rfl rfl) rfl rfl rfl
theorem q_97_17 (h : zIs sh o 0 7) : zRun 97 17 L (.ref o :: S) sh mi mj mr = zRun 97 20 L (.int (mi o 9) :: S) sh mi mj mr := zr_getI (zD_of zk_97 d_97_17 rfl rfl) rfl rfl (Or.inl rfl) h
theorem q_97_20  : zRun 97 20 L (.int x :: S) sh mi mj mr = if ¬ x = 0 then zRun 97 29 L S sh mi mj mr else zRun 97 23 L S sh mi mj mr := zr_if (off := 9) (P := ¬ x = 0) (zD_of zk_97 d_97_20 rfl rfl) rfl rfl (by decide)
theorem q_97_23  : zRun 97 23 L S sh mi mj mr = zRun 97 25 L (.int (-6) :: S) sh mi mj mr := zr_p (zD_of zk_97 d_97_23 rfl rfl) rfl
theorem q_97_25  {x0 : Int32} (hS : zcat S ≤ 8) : zRun 97 25 L (.int x0 :: S) sh mi mj mr = (zCall 107 [.int x0] sh mi mj mr).bind fun r => zRun 97 28 L (r.1.toList ++ S) r.2.1 r.2.2.1 r.2.2.2.1 r.2.2.2.2 := zr_S (zD_of zk_97 d_97_25 rfl rfl) rfl zk_107 rfl rfl rfl hS
theorem q_97_28  : zRun 97 28 L ([.long u]) sh mi mj mr = some (some (.long u), sh, mi, mj, mr) := zr_ret (zD_of zk_97 d_97_28 rfl rfl) rfl rfl rfl rfl rfl rfl
theorem q_97_29 : zRun 97 29 [l0, some (.int x)] S sh mi mj mr = zRun 97 30 [l0, some (.int x)] (.int x :: S) sh mi mj mr := zr_l (zD_of zk_97 d_97_29 rfl rfl) rfl rfl rfl
theorem q_97_30  : zRun 97 30 L (.int x :: S) sh mi mj mr = if ¬ x = 0 then zRun 97 39 L S sh mi mj mr else zRun 97 33 L S sh mi mj mr := zr_if (off := 9) (P := ¬ x = 0) (zD_of zk_97 d_97_30 rfl rfl) rfl rfl (by decide)
theorem q_97_33r : zRun 97 33 [some (.ref o), l1] S sh mi mj mr = zRun 97 34 [some (.ref o), l1] (.ref o :: S) sh mi mj mr := zr_l (zD_of zk_97 d_97_33 rfl rfl) rfl rfl rfl
theorem q_97_33n : zRun 97 33 [some (.null), l1] S sh mi mj mr = zRun 97 34 [some (.null), l1] (.null :: S) sh mi mj mr := zr_l (zD_of zk_97 d_97_33 rfl rfl) rfl rfl rfl
theorem q_97_34 (h : zIs sh o 0 7) : zRun 97 34 L (.ref o :: S) sh mi mj mr = zRun 97 37 L (.int (mi o 9) :: S) sh mi mj mr := zr_getI (zD_of zk_97 d_97_34 rfl rfl) rfl rfl (Or.inl rfl) h
theorem q_97_37  : zRun 97 37 L (.int x :: S) sh mi mj mr = zRun 97 38 L (.long x.toInt64 :: S) sh mi mj mr := zr_p (zD_of zk_97 d_97_37 rfl rfl) rfl
theorem q_97_38  : zRun 97 38 L ([.long u]) sh mi mj mr = some (some (.long u), sh, mi, mj, mr) := zr_ret (zD_of zk_97 d_97_38 rfl rfl) rfl rfl rfl rfl rfl rfl
theorem q_97_39 : zRun 97 39 [l0, some (.int x)] S sh mi mj mr = zRun 97 40 [l0, some (.int x)] (.int x :: S) sh mi mj mr := zr_l (zD_of zk_97 d_97_39 rfl rfl) rfl rfl rfl
theorem q_97_40  : zRun 97 40 L S sh mi mj mr = zRun 97 41 L (.int 4 :: S) sh mi mj mr := zr_p (zD_of zk_97 d_97_40 rfl rfl) rfl
theorem q_97_41  : zRun 97 41 L (.int y :: .int x :: S) sh mi mj mr = if y < x then zRun 97 59 L S sh mi mj mr else zRun 97 44 L S sh mi mj mr := zr_if (off := 18) (P := y < x) (zD_of zk_97 d_97_41 rfl rfl) rfl rfl (by decide)
theorem q_97_44r : zRun 97 44 [some (.ref o), l1] S sh mi mj mr = zRun 97 45 [some (.ref o), l1] (.ref o :: S) sh mi mj mr := zr_l (zD_of zk_97 d_97_44 rfl rfl) rfl rfl rfl
theorem q_97_44n : zRun 97 44 [some (.null), l1] S sh mi mj mr = zRun 97 45 [some (.null), l1] (.null :: S) sh mi mj mr := zr_l (zD_of zk_97 d_97_44 rfl rfl) rfl rfl rfl
theorem q_97_45 (h : zIs sh o 0 7) : zRun 97 45 L (.ref o :: S) sh mi mj mr = zRun 97 48 L (va_rf (mr o 8) :: S) sh mi mj mr := zr_getR (zD_of zk_97 d_97_45 rfl rfl) rfl rfl rfl h
theorem q_97_48 (h : zIs sh o 0 0) : zRun 97 48 L (.ref o :: S) sh mi mj mr = zRun 97 51 L (va_rf (mr o 0) :: S) sh mi mj mr := zr_getR (zD_of zk_97 d_97_48 rfl rfl) rfl rfl rfl h
theorem q_97_51 : zRun 97 51 [l0, some (.int x)] S sh mi mj mr = zRun 97 52 [l0, some (.int x)] (.int x :: S) sh mi mj mr := zr_l (zD_of zk_97 d_97_51 rfl rfl) rfl rfl rfl
theorem q_97_52  : zRun 97 52 L S sh mi mj mr = zRun 97 53 L (.int 1 :: S) sh mi mj mr := zr_p (zD_of zk_97 d_97_52 rfl rfl) rfl
theorem q_97_53  : zRun 97 53 L (.int y :: .int x :: S) sh mi mj mr = zRun 97 54 L (.int (x - y) :: S) sh mi mj mr := zr_p (zD_of zk_97 d_97_53 rfl rfl) rfl
theorem q_97_54 (h : zAt sh o 1 x) : zRun 97 54 L (.int x :: .ref o :: S) sh mi mj mr = zRun 97 55 L (.int (mi o x.toNatClampNeg) :: S) sh mi mj mr := zr_iald (zD_of zk_97 d_97_54 rfl rfl) h
theorem q_97_55  : zRun 97 55 L (.int x :: S) sh mi mj mr = zRun 97 56 L (.long x.toInt64 :: S) sh mi mj mr := zr_p (zD_of zk_97 d_97_55 rfl rfl) rfl
theorem q_97_56  : zRun 97 56 L S sh mi mj mr = zRun 97 73 L S sh mi mj mr := zr_go (off := 17) (zD_of zk_97 d_97_56 rfl rfl) rfl rfl (by decide)
theorem q_97_59r : zRun 97 59 [some (.ref o), l1] S sh mi mj mr = zRun 97 60 [some (.ref o), l1] (.ref o :: S) sh mi mj mr := zr_l (zD_of zk_97 d_97_59 rfl rfl) rfl rfl rfl
theorem q_97_59n : zRun 97 59 [some (.null), l1] S sh mi mj mr = zRun 97 60 [some (.null), l1] (.null :: S) sh mi mj mr := zr_l (zD_of zk_97 d_97_59 rfl rfl) rfl rfl rfl
theorem q_97_60 (h : zIs sh o 0 7) : zRun 97 60 L (.ref o :: S) sh mi mj mr = zRun 97 63 L (va_rf (mr o 8) :: S) sh mi mj mr := zr_getR (zD_of zk_97 d_97_60 rfl rfl) rfl rfl rfl h
theorem q_97_63 (h : zIs sh o 0 0) : zRun 97 63 L (.ref o :: S) sh mi mj mr = zRun 97 66 L (va_rf (mr o 1) :: S) sh mi mj mr := zr_getR (zD_of zk_97 d_97_63 rfl rfl) rfl rfl rfl h
theorem q_97_66 : zRun 97 66 [l0, some (.int x)] S sh mi mj mr = zRun 97 67 [l0, some (.int x)] (.int x :: S) sh mi mj mr := zr_l (zD_of zk_97 d_97_66 rfl rfl) rfl rfl rfl
theorem q_97_67  : zRun 97 67 L S sh mi mj mr = zRun 97 68 L (.int 1 :: S) sh mi mj mr := zr_p (zD_of zk_97 d_97_67 rfl rfl) rfl
theorem q_97_68  : zRun 97 68 L (.int y :: .int x :: S) sh mi mj mr = zRun 97 69 L (.int (x - y) :: S) sh mi mj mr := zr_p (zD_of zk_97 d_97_68 rfl rfl) rfl
theorem q_97_69  : zRun 97 69 L S sh mi mj mr = zRun 97 70 L (.int 4 :: S) sh mi mj mr := zr_p (zD_of zk_97 d_97_69 rfl rfl) rfl
theorem q_97_70  : zRun 97 70 L (.int y :: .int x :: S) sh mi mj mr = zRun 97 71 L (.int (x - y) :: S) sh mi mj mr := zr_p (zD_of zk_97 d_97_70 rfl rfl) rfl
theorem q_97_71 (h : zAt sh o 1 x) : zRun 97 71 L (.int x :: .ref o :: S) sh mi mj mr = zRun 97 72 L (.int (mi o x.toNatClampNeg) :: S) sh mi mj mr := zr_iald (zD_of zk_97 d_97_71 rfl rfl) h
theorem q_97_72  : zRun 97 72 L (.int x :: S) sh mi mj mr = zRun 97 73 L (.long x.toInt64 :: S) sh mi mj mr := zr_p (zD_of zk_97 d_97_72 rfl rfl) rfl
theorem q_97_73  : zRun 97 73 L ([.long u]) sh mi mj mr = some (some (.long u), sh, mi, mj, mr) := zr_ret (zD_of zk_97 d_97_73 rfl rfl) rfl rfl rfl rfl rfl rfl
theorem e_97 {x0 : Int32} : zCall 97 [.ref o, .int x0] sh mi mj mr = zRun 97 0 [some (.ref o), some (.int x0)] [] sh mi mj mr := rfl
theorem d_98_0 : decode cX7_tighten 0 = .ok (.aload_n 0, 1) := by decide +kernel
theorem d_98_1 : decode cX7_tighten 1 = .ok (.iload_n 1, 1) := by decide +kernel
theorem d_98_2 : decode cX7_tighten 2 = .ok (.invokevirtual 124, 3) := by decide +kernel
theorem d_98_5 : decode cX7_tighten 5 = .ok (.astore 4, 2) := by decide +kernel
theorem d_98_7 : decode cX7_tighten 7 = .ok (.aload 4, 2) := by decide +kernel
theorem d_98_9 : decode cX7_tighten 9 = .ok (.ifnonnull 8, 3) := by decide +kernel
theorem d_98_12 : decode cX7_tighten 12 = .ok (.iconst (-1), 1) := by decide +kernel
theorem d_98_13 : decode cX7_tighten 13 = .ok (.invokestatic 143, 3) := by decide +kernel
theorem d_98_16 : decode cX7_tighten 16 = .ok (.lreturn, 1) := by decide +kernel
theorem d_98_17 : decode cX7_tighten 17 = .ok (.iload_n 2, 1) := by decide +kernel
theorem d_98_18 : decode cX7_tighten 18 = .ok (.ifCond .lt 16, 3) := by decide +kernel
theorem d_98_21 : decode cX7_tighten 21 = .ok (.iload_n 2, 1) := by decide +kernel
theorem d_98_22 : decode cX7_tighten 22 = .ok (.bipush 100, 2) := by decide +kernel
theorem d_98_24 : decode cX7_tighten 24 = .ok (.if_icmp .gt 10, 3) := by decide +kernel
theorem d_98_27 : decode cX7_tighten 27 = .ok (.iload_n 3, 1) := by decide +kernel
theorem d_98_28 : decode cX7_tighten 28 = .ok (.invokestatic 89, 3) := by decide +kernel
theorem d_98_31 : decode cX7_tighten 31 = .ok (.ifCond .ne 9, 3) := by decide +kernel
theorem d_98_34 : decode cX7_tighten 34 = .ok (.bipush (-2), 2) := by decide +kernel
theorem d_98_36 : decode cX7_tighten 36 = .ok (.invokestatic 143, 3) := by decide +kernel
theorem d_98_39 : decode cX7_tighten 39 = .ok (.lreturn, 1) := by decide +kernel
theorem d_98_40 : decode cX7_tighten 40 = .ok (.aload_n 0, 1) := by decide +kernel
theorem d_98_41 : decode cX7_tighten 41 = .ok (.getfield 49, 3) := by decide +kernel
theorem d_98_44 : decode cX7_tighten 44 = .ok (.invokevirtual 192, 3) := by decide +kernel
theorem d_98_47 : decode cX7_tighten 47 = .ok (.aload_n 0, 1) := by decide +kernel
theorem d_98_48 : decode cX7_tighten 48 = .ok (.getfield 49, 3) := by decide +kernel
theorem d_98_51 : decode cX7_tighten 51 = .ok (.aload_n 0, 1) := by decide +kernel
theorem d_98_52 : decode cX7_tighten 52 = .ok (.getfield 20, 3) := by decide +kernel
theorem d_98_55 : decode cX7_tighten 55 = .ok (.getfield 78, 3) := by decide +kernel
theorem d_98_58 : decode cX7_tighten 58 = .ok (.invokevirtual 195, 3) := by decide +kernel
theorem d_98_61 : decode cX7_tighten 61 = .ok (.aload_n 0, 1) := by decide +kernel
theorem d_98_62 : decode cX7_tighten 62 = .ok (.iconst 0, 1) := by decide +kernel
theorem d_98_63 : decode cX7_tighten 63 = .ok (.aload_n 0, 1) := by decide +kernel
theorem d_98_64 : decode cX7_tighten 64 = .ok (.getfield 20, 3) := by decide +kernel
theorem d_98_67 : decode cX7_tighten 67 = .ok (.getfield 78, 3) := by decide +kernel
theorem d_98_70 : decode cX7_tighten 70 = .ok (.aload 4, 2) := by decide +kernel
theorem d_98_72 : decode cX7_tighten 72 = .ok (.iload_n 3, 1) := by decide +kernel
theorem d_98_73 : decode cX7_tighten 73 = .ok (.invokevirtual 215, 3) := by decide +kernel
theorem d_98_76 : decode cX7_tighten 76 = .ok (.iconst 0, 1) := by decide +kernel
theorem d_98_77 : decode cX7_tighten 77 = .ok (.istore 5, 2) := by decide +kernel
theorem d_98_79 : decode cX7_tighten 79 = .ok (.iload 5, 2) := by decide +kernel
theorem d_98_81 : decode cX7_tighten 81 = .ok (.iload_n 2, 1) := by decide +kernel
theorem d_98_82 : decode cX7_tighten 82 = .ok (.if_icmp .ge 125, 3) := by decide +kernel
theorem d_98_85 : decode cX7_tighten 85 = .ok (.aload_n 0, 1) := by decide +kernel
theorem d_98_86 : decode cX7_tighten 86 = .ok (.getfield 49, 3) := by decide +kernel
theorem d_98_89 : decode cX7_tighten 89 = .ok (.invokevirtual 219, 3) := by decide +kernel
theorem d_98_92 : decode cX7_tighten 92 = .ok (.istore 6, 2) := by decide +kernel
theorem d_98_94 : decode cX7_tighten 94 = .ok (.aload_n 0, 1) := by decide +kernel
theorem d_98_95 : decode cX7_tighten 95 = .ok (.getfield 49, 3) := by decide +kernel
theorem d_98_98 : decode cX7_tighten 98 = .ok (.getfield 223, 3) := by decide +kernel
theorem d_98_101 : decode cX7_tighten 101 = .ok (.iload 6, 2) := by decide +kernel
theorem d_98_103 : decode cX7_tighten 103 = .ok (.iaload, 1) := by decide +kernel
theorem d_98_104 : decode cX7_tighten 104 = .ok (.istore 7, 2) := by decide +kernel
theorem d_98_106 : decode cX7_tighten 106 = .ok (.iload 7, 2) := by decide +kernel
theorem d_98_108 : decode cX7_tighten 108 = .ok (.ifCond .ge 6, 3) := by decide +kernel
theorem d_98_111 : decode cX7_tighten 111 = .ok (.goto 96, 3) := by decide +kernel
theorem d_98_114 : decode cX7_tighten 114 = .ok (.aload_n 0, 1) := by decide +kernel
theorem d_98_115 : decode cX7_tighten 115 = .ok (.getfield 49, 3) := by decide +kernel
theorem d_98_118 : decode cX7_tighten 118 = .ok (.iload 6, 2) := by decide +kernel
theorem d_98_120 : decode cX7_tighten 120 = .ok (.aload_n 0, 1) := by decide +kernel
theorem d_98_121 : decode cX7_tighten 121 = .ok (.getfield 63, 3) := by decide +kernel
theorem d_98_124 : decode cX7_tighten 124 = .ok (.invokevirtual 226, 3) := by decide +kernel
theorem d_98_127 : decode cX7_tighten 127 = .ok (.aload_n 0, 1) := by decide +kernel
theorem d_98_128 : decode cX7_tighten 128 = .ok (.getfield 63, 3) := by decide +kernel
theorem d_98_131 : decode cX7_tighten 131 = .ok (.iload 7, 2) := by decide +kernel
theorem d_98_133 : decode cX7_tighten 133 = .ok (.aload_n 0, 1) := by decide +kernel
theorem d_98_134 : decode cX7_tighten 134 = .ok (.getfield 66, 3) := by decide +kernel
theorem d_98_137 : decode cX7_tighten 137 = .ok (.aload_n 0, 1) := by decide +kernel
theorem d_98_138 : decode cX7_tighten 138 = .ok (.getfield 69, 3) := by decide +kernel
theorem d_98_141 : decode cX7_tighten 141 = .ok (.invokevirtual 211, 3) := by decide +kernel
theorem d_98_144 : decode cX7_tighten 144 = .ok (.aload_n 0, 1) := by decide +kernel
theorem d_98_145 : decode cX7_tighten 145 = .ok (.getfield 49, 3) := by decide +kernel
theorem d_98_148 : decode cX7_tighten 148 = .ok (.iload 6, 2) := by decide +kernel
theorem d_98_150 : decode cX7_tighten 150 = .ok (.aload_n 0, 1) := by decide +kernel
theorem d_98_151 : decode cX7_tighten 151 = .ok (.getfield 66, 3) := by decide +kernel
theorem d_98_154 : decode cX7_tighten 154 = .ok (.invokevirtual 230, 3) := by decide +kernel
theorem d_98_157 : decode cX7_tighten 157 = .ok (.aload_n 0, 1) := by decide +kernel
theorem d_98_158 : decode cX7_tighten 158 = .ok (.iload 6, 2) := by decide +kernel
theorem d_98_160 : decode cX7_tighten 160 = .ok (.aload_n 0, 1) := by decide +kernel
theorem d_98_161 : decode cX7_tighten 161 = .ok (.getfield 66, 3) := by decide +kernel
theorem d_98_164 : decode cX7_tighten 164 = .ok (.aload 4, 2) := by decide +kernel
theorem d_98_166 : decode cX7_tighten 166 = .ok (.iload_n 3, 1) := by decide +kernel
theorem d_98_167 : decode cX7_tighten 167 = .ok (.invokevirtual 215, 3) := by decide +kernel
theorem d_98_170 : decode cX7_tighten 170 = .ok (.aload_n 0, 1) := by decide +kernel
theorem d_98_171 : decode cX7_tighten 171 = .ok (.getfield 49, 3) := by decide +kernel
theorem d_98_174 : decode cX7_tighten 174 = .ok (.aload_n 0, 1) := by decide +kernel
theorem d_98_175 : decode cX7_tighten 175 = .ok (.getfield 69, 3) := by decide +kernel
theorem d_98_178 : decode cX7_tighten 178 = .ok (.invokevirtual 195, 3) := by decide +kernel
theorem d_98_181 : decode cX7_tighten 181 = .ok (.aload_n 0, 1) := by decide +kernel
theorem d_98_182 : decode cX7_tighten 182 = .ok (.aload_n 0, 1) := by decide +kernel
theorem d_98_183 : decode cX7_tighten 183 = .ok (.getfield 49, 3) := by decide +kernel
theorem d_98_186 : decode cX7_tighten 186 = .ok (.getfield 233, 3) := by decide +kernel
theorem d_98_189 : decode cX7_tighten 189 = .ok (.iconst 1, 1) := by decide +kernel
theorem d_98_190 : decode cX7_tighten 190 = .ok (.isub, 1) := by decide +kernel
theorem d_98_191 : decode cX7_tighten 191 = .ok (.aload_n 0, 1) := by decide +kernel
theorem d_98_192 : decode cX7_tighten 192 = .ok (.getfield 69, 3) := by decide +kernel
theorem d_98_195 : decode cX7_tighten 195 = .ok (.aload 4, 2) := by decide +kernel
theorem d_98_197 : decode cX7_tighten 197 = .ok (.iload_n 3, 1) := by decide +kernel
theorem d_98_198 : decode cX7_tighten 198 = .ok (.invokevirtual 215, 3) := by decide +kernel
theorem d_98_201 : decode cX7_tighten 201 = .ok (.iinc 5 1, 3) := by decide +kernel
theorem d_98_204 : decode cX7_tighten 204 = .ok (.goto (-125), 3) := by decide +kernel
theorem d_98_207 : decode cX7_tighten 207 = .ok (.aload_n 0, 1) := by decide +kernel
theorem d_98_208 : decode cX7_tighten 208 = .ok (.getfield 49, 3) := by decide +kernel
theorem d_98_211 : decode cX7_tighten 211 = .ok (.getfield 234, 3) := by decide +kernel
theorem d_98_214 : decode cX7_tighten 214 = .ok (.aload_n 0, 1) := by decide +kernel
theorem d_98_215 : decode cX7_tighten 215 = .ok (.getfield 49, 3) := by decide +kernel
theorem d_98_218 : decode cX7_tighten 218 = .ok (.invokevirtual 219, 3) := by decide +kernel
theorem d_98_221 : decode cX7_tighten 221 = .ok (.laload, 1) := by decide +kernel
theorem d_98_222 : decode cX7_tighten 222 = .ok (.lstore 5, 2) := by decide +kernel
theorem d_98_224 : decode cX7_tighten 224 = .ok (.lload 5, 2) := by decide +kernel
theorem d_98_226 : decode cX7_tighten 226 = .ok (.ldc2_w 237, 3) := by decide +kernel
theorem d_98_229 : decode cX7_tighten 229 = .ok (.lcmp, 1) := by decide +kernel
theorem d_98_230 : decode cX7_tighten 230 = .ok (.ifCond .ne 9, 3) := by decide +kernel
theorem d_98_233 : decode cX7_tighten 233 = .ok (.bipush (-5), 2) := by decide +kernel
theorem d_98_235 : decode cX7_tighten 235 = .ok (.invokestatic 143, 3) := by decide +kernel
theorem d_98_238 : decode cX7_tighten 238 = .ok (.lreturn, 1) := by decide +kernel
theorem d_98_239 : decode cX7_tighten 239 = .ok (.iload_n 3, 1) := by decide +kernel
theorem d_98_240 : decode cX7_tighten 240 = .ok (.ifCond .ne 8, 3) := by decide +kernel
theorem d_98_243 : decode cX7_tighten 243 = .ok (.lload 5, 2) := by decide +kernel
theorem d_98_245 : decode cX7_tighten 245 = .ok (.goto 6, 3) := by decide +kernel
theorem d_98_248 : decode cX7_tighten 248 = .ok (.lload 5, 2) := by decide +kernel
theorem d_98_250 : decode cX7_tighten 250 = .ok (.lneg, 1) := by decide +kernel
theorem d_98_251 : decode cX7_tighten 251 = .ok (.lreturn, 1) := by decide +kernel
theorem q_98_0r : zRun 98 0 [some (.ref o), l1, l2, l3, l4, l5, l6, l7] S sh mi mj mr = zRun 98 1 [some (.ref o), l1, l2, l3, l4, l5, l6, l7] (.ref o :: S) sh mi mj mr := zr_l (zD_of zk_98 d_98_0 rfl rfl) rfl rfl rfl
theorem q_98_0n : zRun 98 0 [some (.null), l1, l2, l3, l4, l5, l6, l7] S sh mi mj mr = zRun 98 1 [some (.null), l1, l2, l3, l4, l5, l6, l7] (.null :: S) sh mi mj mr := zr_l (zD_of zk_98 d_98_0 rfl rfl) rfl rfl rfl
theorem q_98_1 : zRun 98 1 [l0, some (.int x), l2, l3, l4, l5, l6, l7] S sh mi mj mr = zRun 98 2 [l0, some (.int x), l2, l3, l4, l5, l6, l7] (.int x :: S) sh mi mj mr := zr_l (zD_of zk_98 d_98_1 rfl rfl) rfl rfl rfl
theorem q_98_2  {x0 : Int32} (hS : zcat S ≤ 8) (h : zIs sh o 0 7) : zRun 98 2 L (.int x0 :: .ref o :: S) sh mi mj mr = (zCall 103 [.ref o, .int x0] sh mi mj mr).bind fun r => zRun 98 5 L (r.1.toList ++ S) r.2.1 r.2.2.1 r.2.2.2.1 r.2.2.2.2 := zr_V (zD_of zk_98 d_98_2 rfl rfl) rfl zk_103 rfl rfl rfl hS h
theorem q_98_5r : zRun 98 5 [l0, l1, l2, l3, l4, l5, l6, l7] (.ref o :: S) sh mi mj mr = zRun 98 7 [l0, l1, l2, zk2 l3, some (.ref o), l5, l6, l7] S sh mi mj mr := zr_s1 (i := 4) (v := .ref o) (L := [l0, l1, l2, l3, l4, l5, l6, l7]) (zD_of zk_98 d_98_5 rfl rfl) rfl rfl rfl rfl
theorem q_98_5n : zRun 98 5 [l0, l1, l2, l3, l4, l5, l6, l7] (.null :: S) sh mi mj mr = zRun 98 7 [l0, l1, l2, zk2 l3, some (.null), l5, l6, l7] S sh mi mj mr := zr_s1 (i := 4) (v := .null) (L := [l0, l1, l2, l3, l4, l5, l6, l7]) (zD_of zk_98 d_98_5 rfl rfl) rfl rfl rfl rfl
theorem q_98_7r : zRun 98 7 [l0, l1, l2, l3, some (.ref o), l5, l6, l7] S sh mi mj mr = zRun 98 9 [l0, l1, l2, l3, some (.ref o), l5, l6, l7] (.ref o :: S) sh mi mj mr := zr_l (zD_of zk_98 d_98_7 rfl rfl) rfl rfl rfl
theorem q_98_7n : zRun 98 7 [l0, l1, l2, l3, some (.null), l5, l6, l7] S sh mi mj mr = zRun 98 9 [l0, l1, l2, l3, some (.null), l5, l6, l7] (.null :: S) sh mi mj mr := zr_l (zD_of zk_98 d_98_7 rfl rfl) rfl rfl rfl
theorem q_98_9n : zRun 98 9 L (.null :: S) sh mi mj mr = zRun 98 12 L S sh mi mj mr := zr_no (off := 8) (zD_of zk_98 d_98_9 rfl rfl) rfl rfl (by decide)
theorem q_98_9r : zRun 98 9 L (.ref o :: S) sh mi mj mr = zRun 98 17 L S sh mi mj mr := zr_go (off := 8) (zD_of zk_98 d_98_9 rfl rfl) rfl rfl (by decide)
theorem q_98_12  : zRun 98 12 L S sh mi mj mr = zRun 98 13 L (.int (-1) :: S) sh mi mj mr := zr_p (zD_of zk_98 d_98_12 rfl rfl) rfl
theorem q_98_13  {x0 : Int32} (hS : zcat S ≤ 8) : zRun 98 13 L (.int x0 :: S) sh mi mj mr = (zCall 107 [.int x0] sh mi mj mr).bind fun r => zRun 98 16 L (r.1.toList ++ S) r.2.1 r.2.2.1 r.2.2.2.1 r.2.2.2.2 := zr_S (zD_of zk_98 d_98_13 rfl rfl) rfl zk_107 rfl rfl rfl hS
theorem q_98_16  : zRun 98 16 L ([.long u]) sh mi mj mr = some (some (.long u), sh, mi, mj, mr) := zr_ret (zD_of zk_98 d_98_16 rfl rfl) rfl rfl rfl rfl rfl rfl
theorem q_98_17 : zRun 98 17 [l0, l1, some (.int x), l3, l4, l5, l6, l7] S sh mi mj mr = zRun 98 18 [l0, l1, some (.int x), l3, l4, l5, l6, l7] (.int x :: S) sh mi mj mr := zr_l (zD_of zk_98 d_98_17 rfl rfl) rfl rfl rfl
theorem q_98_18  : zRun 98 18 L (.int x :: S) sh mi mj mr = if x < 0 then zRun 98 34 L S sh mi mj mr else zRun 98 21 L S sh mi mj mr := zr_if (off := 16) (P := x < 0) (zD_of zk_98 d_98_18 rfl rfl) rfl rfl (by decide)
theorem q_98_21 : zRun 98 21 [l0, l1, some (.int x), l3, l4, l5, l6, l7] S sh mi mj mr = zRun 98 22 [l0, l1, some (.int x), l3, l4, l5, l6, l7] (.int x :: S) sh mi mj mr := zr_l (zD_of zk_98 d_98_21 rfl rfl) rfl rfl rfl
theorem q_98_22  : zRun 98 22 L S sh mi mj mr = zRun 98 24 L (.int 100 :: S) sh mi mj mr := zr_p (zD_of zk_98 d_98_22 rfl rfl) rfl
theorem q_98_24  : zRun 98 24 L (.int y :: .int x :: S) sh mi mj mr = if y < x then zRun 98 34 L S sh mi mj mr else zRun 98 27 L S sh mi mj mr := zr_if (off := 10) (P := y < x) (zD_of zk_98 d_98_24 rfl rfl) rfl rfl (by decide)
theorem q_98_27 : zRun 98 27 [l0, l1, l2, some (.int x), l4, l5, l6, l7] S sh mi mj mr = zRun 98 28 [l0, l1, l2, some (.int x), l4, l5, l6, l7] (.int x :: S) sh mi mj mr := zr_l (zD_of zk_98 d_98_27 rfl rfl) rfl rfl rfl
theorem q_98_28  {x0 : Int32} (hS : zcat S ≤ 8) : zRun 98 28 L (.int x0 :: S) sh mi mj mr = (zCall 109 [.int x0] sh mi mj mr).bind fun r => zRun 98 31 L (r.1.toList ++ S) r.2.1 r.2.2.1 r.2.2.2.1 r.2.2.2.2 := zr_S (zD_of zk_98 d_98_28 rfl rfl) rfl zk_109 rfl rfl rfl hS
theorem q_98_31  : zRun 98 31 L (.int x :: S) sh mi mj mr = if ¬ x = 0 then zRun 98 40 L S sh mi mj mr else zRun 98 34 L S sh mi mj mr := zr_if (off := 9) (P := ¬ x = 0) (zD_of zk_98 d_98_31 rfl rfl) rfl rfl (by decide)
theorem q_98_34  : zRun 98 34 L S sh mi mj mr = zRun 98 36 L (.int (-2) :: S) sh mi mj mr := zr_p (zD_of zk_98 d_98_34 rfl rfl) rfl
theorem q_98_36  {x0 : Int32} (hS : zcat S ≤ 8) : zRun 98 36 L (.int x0 :: S) sh mi mj mr = (zCall 107 [.int x0] sh mi mj mr).bind fun r => zRun 98 39 L (r.1.toList ++ S) r.2.1 r.2.2.1 r.2.2.2.1 r.2.2.2.2 := zr_S (zD_of zk_98 d_98_36 rfl rfl) rfl zk_107 rfl rfl rfl hS
theorem q_98_39  : zRun 98 39 L ([.long u]) sh mi mj mr = some (some (.long u), sh, mi, mj, mr) := zr_ret (zD_of zk_98 d_98_39 rfl rfl) rfl rfl rfl rfl rfl rfl
theorem q_98_40r : zRun 98 40 [some (.ref o), l1, l2, l3, l4, l5, l6, l7] S sh mi mj mr = zRun 98 41 [some (.ref o), l1, l2, l3, l4, l5, l6, l7] (.ref o :: S) sh mi mj mr := zr_l (zD_of zk_98 d_98_40 rfl rfl) rfl rfl rfl
theorem q_98_40n : zRun 98 40 [some (.null), l1, l2, l3, l4, l5, l6, l7] S sh mi mj mr = zRun 98 41 [some (.null), l1, l2, l3, l4, l5, l6, l7] (.null :: S) sh mi mj mr := zr_l (zD_of zk_98 d_98_40 rfl rfl) rfl rfl rfl
theorem q_98_41 (h : zIs sh o 0 7) : zRun 98 41 L (.ref o :: S) sh mi mj mr = zRun 98 44 L (va_rf (mr o 7) :: S) sh mi mj mr := zr_getR (zD_of zk_98 d_98_41 rfl rfl) rfl rfl rfl h
theorem q_98_44  (hS : zcat S ≤ 8) (h : zIs sh o 0 1) : zRun 98 44 L (.ref o :: S) sh mi mj mr = (zCall 11 [.ref o] sh mi mj mr).bind fun r => zRun 98 47 L (r.1.toList ++ S) r.2.1 r.2.2.1 r.2.2.2.1 r.2.2.2.2 := zr_V (zD_of zk_98 d_98_44 rfl rfl) rfl zk_11 rfl rfl rfl hS h
theorem q_98_47r : zRun 98 47 [some (.ref o), l1, l2, l3, l4, l5, l6, l7] S sh mi mj mr = zRun 98 48 [some (.ref o), l1, l2, l3, l4, l5, l6, l7] (.ref o :: S) sh mi mj mr := zr_l (zD_of zk_98 d_98_47 rfl rfl) rfl rfl rfl
theorem q_98_47n : zRun 98 47 [some (.null), l1, l2, l3, l4, l5, l6, l7] S sh mi mj mr = zRun 98 48 [some (.null), l1, l2, l3, l4, l5, l6, l7] (.null :: S) sh mi mj mr := zr_l (zD_of zk_98 d_98_47 rfl rfl) rfl rfl rfl
theorem q_98_48 (h : zIs sh o 0 7) : zRun 98 48 L (.ref o :: S) sh mi mj mr = zRun 98 51 L (va_rf (mr o 7) :: S) sh mi mj mr := zr_getR (zD_of zk_98 d_98_48 rfl rfl) rfl rfl rfl h
theorem q_98_51r : zRun 98 51 [some (.ref o), l1, l2, l3, l4, l5, l6, l7] S sh mi mj mr = zRun 98 52 [some (.ref o), l1, l2, l3, l4, l5, l6, l7] (.ref o :: S) sh mi mj mr := zr_l (zD_of zk_98 d_98_51 rfl rfl) rfl rfl rfl
theorem q_98_51n : zRun 98 51 [some (.null), l1, l2, l3, l4, l5, l6, l7] S sh mi mj mr = zRun 98 52 [some (.null), l1, l2, l3, l4, l5, l6, l7] (.null :: S) sh mi mj mr := zr_l (zD_of zk_98 d_98_51 rfl rfl) rfl rfl rfl
theorem q_98_52 (h : zIs sh o 0 7) : zRun 98 52 L (.ref o :: S) sh mi mj mr = zRun 98 55 L (va_rf (mr o 2) :: S) sh mi mj mr := zr_getR (zD_of zk_98 d_98_52 rfl rfl) rfl rfl rfl h
theorem q_98_55 (h : zIs sh o 0 5) : zRun 98 55 L (.ref o :: S) sh mi mj mr = zRun 98 58 L (va_rf (mr o 0) :: S) sh mi mj mr := zr_getR (zD_of zk_98 d_98_55 rfl rfl) rfl rfl rfl h
theorem q_98_58  {o0 : Nat} (hS : zcat S ≤ 8) (h : zIs sh o 0 1) : zRun 98 58 L (.ref o0 :: .ref o :: S) sh mi mj mr = (zCall 12 [.ref o, .ref o0] sh mi mj mr).bind fun r => zRun 98 61 L (r.1.toList ++ S) r.2.1 r.2.2.1 r.2.2.2.1 r.2.2.2.2 := zr_V (zD_of zk_98 d_98_58 rfl rfl) rfl zk_12 rfl rfl rfl hS h
theorem q_98_61r : zRun 98 61 [some (.ref o), l1, l2, l3, l4, l5, l6, l7] S sh mi mj mr = zRun 98 62 [some (.ref o), l1, l2, l3, l4, l5, l6, l7] (.ref o :: S) sh mi mj mr := zr_l (zD_of zk_98 d_98_61 rfl rfl) rfl rfl rfl
theorem q_98_61n : zRun 98 61 [some (.null), l1, l2, l3, l4, l5, l6, l7] S sh mi mj mr = zRun 98 62 [some (.null), l1, l2, l3, l4, l5, l6, l7] (.null :: S) sh mi mj mr := zr_l (zD_of zk_98 d_98_61 rfl rfl) rfl rfl rfl
theorem q_98_62  : zRun 98 62 L S sh mi mj mr = zRun 98 63 L (.int 0 :: S) sh mi mj mr := zr_p (zD_of zk_98 d_98_62 rfl rfl) rfl
theorem q_98_63r : zRun 98 63 [some (.ref o), l1, l2, l3, l4, l5, l6, l7] S sh mi mj mr = zRun 98 64 [some (.ref o), l1, l2, l3, l4, l5, l6, l7] (.ref o :: S) sh mi mj mr := zr_l (zD_of zk_98 d_98_63 rfl rfl) rfl rfl rfl
theorem q_98_63n : zRun 98 63 [some (.null), l1, l2, l3, l4, l5, l6, l7] S sh mi mj mr = zRun 98 64 [some (.null), l1, l2, l3, l4, l5, l6, l7] (.null :: S) sh mi mj mr := zr_l (zD_of zk_98 d_98_63 rfl rfl) rfl rfl rfl
theorem q_98_64 (h : zIs sh o 0 7) : zRun 98 64 L (.ref o :: S) sh mi mj mr = zRun 98 67 L (va_rf (mr o 2) :: S) sh mi mj mr := zr_getR (zD_of zk_98 d_98_64 rfl rfl) rfl rfl rfl h
theorem q_98_67 (h : zIs sh o 0 5) : zRun 98 67 L (.ref o :: S) sh mi mj mr = zRun 98 70 L (va_rf (mr o 0) :: S) sh mi mj mr := zr_getR (zD_of zk_98 d_98_67 rfl rfl) rfl rfl rfl h
theorem q_98_70r : zRun 98 70 [l0, l1, l2, l3, some (.ref o), l5, l6, l7] S sh mi mj mr = zRun 98 72 [l0, l1, l2, l3, some (.ref o), l5, l6, l7] (.ref o :: S) sh mi mj mr := zr_l (zD_of zk_98 d_98_70 rfl rfl) rfl rfl rfl
theorem q_98_70n : zRun 98 70 [l0, l1, l2, l3, some (.null), l5, l6, l7] S sh mi mj mr = zRun 98 72 [l0, l1, l2, l3, some (.null), l5, l6, l7] (.null :: S) sh mi mj mr := zr_l (zD_of zk_98 d_98_70 rfl rfl) rfl rfl rfl
theorem q_98_72 : zRun 98 72 [l0, l1, l2, some (.int x), l4, l5, l6, l7] S sh mi mj mr = zRun 98 73 [l0, l1, l2, some (.int x), l4, l5, l6, l7] (.int x :: S) sh mi mj mr := zr_l (zD_of zk_98 d_98_72 rfl rfl) rfl rfl rfl
theorem q_98_73  {x0 x1 : Int32} {o0 o1 : Nat} (hS : zcat S ≤ 8) (h : zIs sh o 0 7) : zRun 98 73 L (.int x1 :: .ref o1 :: .ref o0 :: .int x0 :: .ref o :: S) sh mi mj mr = (zCall 105 [.ref o, .int x0, .ref o0, .ref o1, .int x1] sh mi mj mr).bind fun r => zRun 98 76 L (r.1.toList ++ S) r.2.1 r.2.2.1 r.2.2.2.1 r.2.2.2.2 := zr_V (zD_of zk_98 d_98_73 rfl rfl) rfl zk_105 rfl rfl rfl hS h
theorem q_98_76  : zRun 98 76 L S sh mi mj mr = zRun 98 77 L (.int 0 :: S) sh mi mj mr := zr_p (zD_of zk_98 d_98_76 rfl rfl) rfl
theorem q_98_77 : zRun 98 77 [l0, l1, l2, l3, l4, l5, l6, l7] (.int x :: S) sh mi mj mr = zRun 98 79 [l0, l1, l2, l3, zk2 l4, some (.int x), l6, l7] S sh mi mj mr := zr_s1 (i := 5) (v := .int x) (L := [l0, l1, l2, l3, l4, l5, l6, l7]) (zD_of zk_98 d_98_77 rfl rfl) rfl rfl rfl rfl
theorem q_98_79 : zRun 98 79 [l0, l1, l2, l3, l4, some (.int x), l6, l7] S sh mi mj mr = zRun 98 81 [l0, l1, l2, l3, l4, some (.int x), l6, l7] (.int x :: S) sh mi mj mr := zr_l (zD_of zk_98 d_98_79 rfl rfl) rfl rfl rfl
theorem q_98_81 : zRun 98 81 [l0, l1, some (.int x), l3, l4, l5, l6, l7] S sh mi mj mr = zRun 98 82 [l0, l1, some (.int x), l3, l4, l5, l6, l7] (.int x :: S) sh mi mj mr := zr_l (zD_of zk_98 d_98_81 rfl rfl) rfl rfl rfl
theorem q_98_82  : zRun 98 82 L (.int y :: .int x :: S) sh mi mj mr = if y ≤ x then zRun 98 207 L S sh mi mj mr else zRun 98 85 L S sh mi mj mr := zr_if (off := 125) (P := y ≤ x) (zD_of zk_98 d_98_82 rfl rfl) rfl rfl (by decide)
theorem q_98_85r : zRun 98 85 [some (.ref o), l1, l2, l3, l4, l5, l6, l7] S sh mi mj mr = zRun 98 86 [some (.ref o), l1, l2, l3, l4, l5, l6, l7] (.ref o :: S) sh mi mj mr := zr_l (zD_of zk_98 d_98_85 rfl rfl) rfl rfl rfl
theorem q_98_85n : zRun 98 85 [some (.null), l1, l2, l3, l4, l5, l6, l7] S sh mi mj mr = zRun 98 86 [some (.null), l1, l2, l3, l4, l5, l6, l7] (.null :: S) sh mi mj mr := zr_l (zD_of zk_98 d_98_85 rfl rfl) rfl rfl rfl
theorem q_98_86 (h : zIs sh o 0 7) : zRun 98 86 L (.ref o :: S) sh mi mj mr = zRun 98 89 L (va_rf (mr o 7) :: S) sh mi mj mr := zr_getR (zD_of zk_98 d_98_86 rfl rfl) rfl rfl rfl h
theorem q_98_89  (hS : zcat S ≤ 8) (h : zIs sh o 0 1) : zRun 98 89 L (.ref o :: S) sh mi mj mr = (zCall 17 [.ref o] sh mi mj mr).bind fun r => zRun 98 92 L (r.1.toList ++ S) r.2.1 r.2.2.1 r.2.2.2.1 r.2.2.2.2 := zr_V (zD_of zk_98 d_98_89 rfl rfl) rfl zk_17 rfl rfl rfl hS h
theorem q_98_92 : zRun 98 92 [l0, l1, l2, l3, l4, l5, l6, l7] (.int x :: S) sh mi mj mr = zRun 98 94 [l0, l1, l2, l3, l4, zk2 l5, some (.int x), l7] S sh mi mj mr := zr_s1 (i := 6) (v := .int x) (L := [l0, l1, l2, l3, l4, l5, l6, l7]) (zD_of zk_98 d_98_92 rfl rfl) rfl rfl rfl rfl
theorem q_98_94r : zRun 98 94 [some (.ref o), l1, l2, l3, l4, l5, l6, l7] S sh mi mj mr = zRun 98 95 [some (.ref o), l1, l2, l3, l4, l5, l6, l7] (.ref o :: S) sh mi mj mr := zr_l (zD_of zk_98 d_98_94 rfl rfl) rfl rfl rfl
theorem q_98_94n : zRun 98 94 [some (.null), l1, l2, l3, l4, l5, l6, l7] S sh mi mj mr = zRun 98 95 [some (.null), l1, l2, l3, l4, l5, l6, l7] (.null :: S) sh mi mj mr := zr_l (zD_of zk_98 d_98_94 rfl rfl) rfl rfl rfl
theorem q_98_95 (h : zIs sh o 0 7) : zRun 98 95 L (.ref o :: S) sh mi mj mr = zRun 98 98 L (va_rf (mr o 7) :: S) sh mi mj mr := zr_getR (zD_of zk_98 d_98_95 rfl rfl) rfl rfl rfl h
theorem q_98_98 (h : zIs sh o 0 1) : zRun 98 98 L (.ref o :: S) sh mi mj mr = zRun 98 101 L (va_rf (mr o 3) :: S) sh mi mj mr := zr_getR (zD_of zk_98 d_98_98 rfl rfl) rfl rfl rfl h
theorem q_98_101 : zRun 98 101 [l0, l1, l2, l3, l4, l5, some (.int x), l7] S sh mi mj mr = zRun 98 103 [l0, l1, l2, l3, l4, l5, some (.int x), l7] (.int x :: S) sh mi mj mr := zr_l (zD_of zk_98 d_98_101 rfl rfl) rfl rfl rfl
theorem q_98_103 (h : zAt sh o 1 x) : zRun 98 103 L (.int x :: .ref o :: S) sh mi mj mr = zRun 98 104 L (.int (mi o x.toNatClampNeg) :: S) sh mi mj mr := zr_iald (zD_of zk_98 d_98_103 rfl rfl) h
theorem q_98_104 : zRun 98 104 [l0, l1, l2, l3, l4, l5, l6, l7] (.int x :: S) sh mi mj mr = zRun 98 106 [l0, l1, l2, l3, l4, l5, zk2 l6, some (.int x)] S sh mi mj mr := zr_s1 (i := 7) (v := .int x) (L := [l0, l1, l2, l3, l4, l5, l6, l7]) (zD_of zk_98 d_98_104 rfl rfl) rfl rfl rfl rfl
theorem q_98_106 : zRun 98 106 [l0, l1, l2, l3, l4, l5, l6, some (.int x)] S sh mi mj mr = zRun 98 108 [l0, l1, l2, l3, l4, l5, l6, some (.int x)] (.int x :: S) sh mi mj mr := zr_l (zD_of zk_98 d_98_106 rfl rfl) rfl rfl rfl
theorem q_98_108  : zRun 98 108 L (.int x :: S) sh mi mj mr = if 0 ≤ x then zRun 98 114 L S sh mi mj mr else zRun 98 111 L S sh mi mj mr := zr_if (off := 6) (P := 0 ≤ x) (zD_of zk_98 d_98_108 rfl rfl) rfl rfl (by decide)
theorem q_98_111  : zRun 98 111 L S sh mi mj mr = zRun 98 207 L S sh mi mj mr := zr_go (off := 96) (zD_of zk_98 d_98_111 rfl rfl) rfl rfl (by decide)
theorem q_98_114r : zRun 98 114 [some (.ref o), l1, l2, l3, l4, l5, l6, l7] S sh mi mj mr = zRun 98 115 [some (.ref o), l1, l2, l3, l4, l5, l6, l7] (.ref o :: S) sh mi mj mr := zr_l (zD_of zk_98 d_98_114 rfl rfl) rfl rfl rfl
theorem q_98_114n : zRun 98 114 [some (.null), l1, l2, l3, l4, l5, l6, l7] S sh mi mj mr = zRun 98 115 [some (.null), l1, l2, l3, l4, l5, l6, l7] (.null :: S) sh mi mj mr := zr_l (zD_of zk_98 d_98_114 rfl rfl) rfl rfl rfl
theorem q_98_115 (h : zIs sh o 0 7) : zRun 98 115 L (.ref o :: S) sh mi mj mr = zRun 98 118 L (va_rf (mr o 7) :: S) sh mi mj mr := zr_getR (zD_of zk_98 d_98_115 rfl rfl) rfl rfl rfl h
theorem q_98_118 : zRun 98 118 [l0, l1, l2, l3, l4, l5, some (.int x), l7] S sh mi mj mr = zRun 98 120 [l0, l1, l2, l3, l4, l5, some (.int x), l7] (.int x :: S) sh mi mj mr := zr_l (zD_of zk_98 d_98_118 rfl rfl) rfl rfl rfl
theorem q_98_120r : zRun 98 120 [some (.ref o), l1, l2, l3, l4, l5, l6, l7] S sh mi mj mr = zRun 98 121 [some (.ref o), l1, l2, l3, l4, l5, l6, l7] (.ref o :: S) sh mi mj mr := zr_l (zD_of zk_98 d_98_120 rfl rfl) rfl rfl rfl
theorem q_98_120n : zRun 98 120 [some (.null), l1, l2, l3, l4, l5, l6, l7] S sh mi mj mr = zRun 98 121 [some (.null), l1, l2, l3, l4, l5, l6, l7] (.null :: S) sh mi mj mr := zr_l (zD_of zk_98 d_98_120 rfl rfl) rfl rfl rfl
theorem q_98_121 (h : zIs sh o 0 7) : zRun 98 121 L (.ref o :: S) sh mi mj mr = zRun 98 124 L (va_rf (mr o 10) :: S) sh mi mj mr := zr_getR (zD_of zk_98 d_98_121 rfl rfl) rfl rfl rfl h
theorem q_98_124  {x0 : Int32} {o0 : Nat} (hS : zcat S ≤ 8) (h : zIs sh o 0 1) : zRun 98 124 L (.ref o0 :: .int x0 :: .ref o :: S) sh mi mj mr = (zCall 14 [.ref o, .int x0, .ref o0] sh mi mj mr).bind fun r => zRun 98 127 L (r.1.toList ++ S) r.2.1 r.2.2.1 r.2.2.2.1 r.2.2.2.2 := zr_V (zD_of zk_98 d_98_124 rfl rfl) rfl zk_14 rfl rfl rfl hS h
theorem q_98_127r : zRun 98 127 [some (.ref o), l1, l2, l3, l4, l5, l6, l7] S sh mi mj mr = zRun 98 128 [some (.ref o), l1, l2, l3, l4, l5, l6, l7] (.ref o :: S) sh mi mj mr := zr_l (zD_of zk_98 d_98_127 rfl rfl) rfl rfl rfl
theorem q_98_127n : zRun 98 127 [some (.null), l1, l2, l3, l4, l5, l6, l7] S sh mi mj mr = zRun 98 128 [some (.null), l1, l2, l3, l4, l5, l6, l7] (.null :: S) sh mi mj mr := zr_l (zD_of zk_98 d_98_127 rfl rfl) rfl rfl rfl
theorem q_98_128 (h : zIs sh o 0 7) : zRun 98 128 L (.ref o :: S) sh mi mj mr = zRun 98 131 L (va_rf (mr o 10) :: S) sh mi mj mr := zr_getR (zD_of zk_98 d_98_128 rfl rfl) rfl rfl rfl h
theorem q_98_131 : zRun 98 131 [l0, l1, l2, l3, l4, l5, l6, some (.int x)] S sh mi mj mr = zRun 98 133 [l0, l1, l2, l3, l4, l5, l6, some (.int x)] (.int x :: S) sh mi mj mr := zr_l (zD_of zk_98 d_98_131 rfl rfl) rfl rfl rfl
theorem q_98_133r : zRun 98 133 [some (.ref o), l1, l2, l3, l4, l5, l6, l7] S sh mi mj mr = zRun 98 134 [some (.ref o), l1, l2, l3, l4, l5, l6, l7] (.ref o :: S) sh mi mj mr := zr_l (zD_of zk_98 d_98_133 rfl rfl) rfl rfl rfl
theorem q_98_133n : zRun 98 133 [some (.null), l1, l2, l3, l4, l5, l6, l7] S sh mi mj mr = zRun 98 134 [some (.null), l1, l2, l3, l4, l5, l6, l7] (.null :: S) sh mi mj mr := zr_l (zD_of zk_98 d_98_133 rfl rfl) rfl rfl rfl
theorem q_98_134 (h : zIs sh o 0 7) : zRun 98 134 L (.ref o :: S) sh mi mj mr = zRun 98 137 L (va_rf (mr o 11) :: S) sh mi mj mr := zr_getR (zD_of zk_98 d_98_134 rfl rfl) rfl rfl rfl h
theorem q_98_137r : zRun 98 137 [some (.ref o), l1, l2, l3, l4, l5, l6, l7] S sh mi mj mr = zRun 98 138 [some (.ref o), l1, l2, l3, l4, l5, l6, l7] (.ref o :: S) sh mi mj mr := zr_l (zD_of zk_98 d_98_137 rfl rfl) rfl rfl rfl
theorem q_98_137n : zRun 98 137 [some (.null), l1, l2, l3, l4, l5, l6, l7] S sh mi mj mr = zRun 98 138 [some (.null), l1, l2, l3, l4, l5, l6, l7] (.null :: S) sh mi mj mr := zr_l (zD_of zk_98 d_98_137 rfl rfl) rfl rfl rfl
theorem q_98_138 (h : zIs sh o 0 7) : zRun 98 138 L (.ref o :: S) sh mi mj mr = zRun 98 141 L (va_rf (mr o 12) :: S) sh mi mj mr := zr_getR (zD_of zk_98 d_98_138 rfl rfl) rfl rfl rfl h
theorem q_98_141  {x0 : Int32} {o0 o1 : Nat} (hS : zcat S ≤ 8) (h : zIs sh o 0 0) : zRun 98 141 L (.ref o1 :: .ref o0 :: .int x0 :: .ref o :: S) sh mi mj mr = (zCall 9 [.ref o, .int x0, .ref o0, .ref o1] sh mi mj mr).bind fun r => zRun 98 144 L (r.1.toList ++ S) r.2.1 r.2.2.1 r.2.2.2.1 r.2.2.2.2 := zr_V (zD_of zk_98 d_98_141 rfl rfl) rfl zk_9 rfl rfl rfl hS h
theorem q_98_144r : zRun 98 144 [some (.ref o), l1, l2, l3, l4, l5, l6, l7] S sh mi mj mr = zRun 98 145 [some (.ref o), l1, l2, l3, l4, l5, l6, l7] (.ref o :: S) sh mi mj mr := zr_l (zD_of zk_98 d_98_144 rfl rfl) rfl rfl rfl
theorem q_98_144n : zRun 98 144 [some (.null), l1, l2, l3, l4, l5, l6, l7] S sh mi mj mr = zRun 98 145 [some (.null), l1, l2, l3, l4, l5, l6, l7] (.null :: S) sh mi mj mr := zr_l (zD_of zk_98 d_98_144 rfl rfl) rfl rfl rfl
theorem q_98_145 (h : zIs sh o 0 7) : zRun 98 145 L (.ref o :: S) sh mi mj mr = zRun 98 148 L (va_rf (mr o 7) :: S) sh mi mj mr := zr_getR (zD_of zk_98 d_98_145 rfl rfl) rfl rfl rfl h
theorem q_98_148 : zRun 98 148 [l0, l1, l2, l3, l4, l5, some (.int x), l7] S sh mi mj mr = zRun 98 150 [l0, l1, l2, l3, l4, l5, some (.int x), l7] (.int x :: S) sh mi mj mr := zr_l (zD_of zk_98 d_98_148 rfl rfl) rfl rfl rfl
theorem q_98_150r : zRun 98 150 [some (.ref o), l1, l2, l3, l4, l5, l6, l7] S sh mi mj mr = zRun 98 151 [some (.ref o), l1, l2, l3, l4, l5, l6, l7] (.ref o :: S) sh mi mj mr := zr_l (zD_of zk_98 d_98_150 rfl rfl) rfl rfl rfl
theorem q_98_150n : zRun 98 150 [some (.null), l1, l2, l3, l4, l5, l6, l7] S sh mi mj mr = zRun 98 151 [some (.null), l1, l2, l3, l4, l5, l6, l7] (.null :: S) sh mi mj mr := zr_l (zD_of zk_98 d_98_150 rfl rfl) rfl rfl rfl
theorem q_98_151 (h : zIs sh o 0 7) : zRun 98 151 L (.ref o :: S) sh mi mj mr = zRun 98 154 L (va_rf (mr o 11) :: S) sh mi mj mr := zr_getR (zD_of zk_98 d_98_151 rfl rfl) rfl rfl rfl h
theorem q_98_154  {x0 : Int32} {o0 : Nat} (hS : zcat S ≤ 8) (h : zIs sh o 0 1) : zRun 98 154 L (.ref o0 :: .int x0 :: .ref o :: S) sh mi mj mr = (zCall 13 [.ref o, .int x0, .ref o0] sh mi mj mr).bind fun r => zRun 98 157 L (r.1.toList ++ S) r.2.1 r.2.2.1 r.2.2.2.1 r.2.2.2.2 := zr_V (zD_of zk_98 d_98_154 rfl rfl) rfl zk_13 rfl rfl rfl hS h
theorem q_98_157r : zRun 98 157 [some (.ref o), l1, l2, l3, l4, l5, l6, l7] S sh mi mj mr = zRun 98 158 [some (.ref o), l1, l2, l3, l4, l5, l6, l7] (.ref o :: S) sh mi mj mr := zr_l (zD_of zk_98 d_98_157 rfl rfl) rfl rfl rfl
theorem q_98_157n : zRun 98 157 [some (.null), l1, l2, l3, l4, l5, l6, l7] S sh mi mj mr = zRun 98 158 [some (.null), l1, l2, l3, l4, l5, l6, l7] (.null :: S) sh mi mj mr := zr_l (zD_of zk_98 d_98_157 rfl rfl) rfl rfl rfl
theorem q_98_158 : zRun 98 158 [l0, l1, l2, l3, l4, l5, some (.int x), l7] S sh mi mj mr = zRun 98 160 [l0, l1, l2, l3, l4, l5, some (.int x), l7] (.int x :: S) sh mi mj mr := zr_l (zD_of zk_98 d_98_158 rfl rfl) rfl rfl rfl
theorem q_98_160r : zRun 98 160 [some (.ref o), l1, l2, l3, l4, l5, l6, l7] S sh mi mj mr = zRun 98 161 [some (.ref o), l1, l2, l3, l4, l5, l6, l7] (.ref o :: S) sh mi mj mr := zr_l (zD_of zk_98 d_98_160 rfl rfl) rfl rfl rfl
theorem q_98_160n : zRun 98 160 [some (.null), l1, l2, l3, l4, l5, l6, l7] S sh mi mj mr = zRun 98 161 [some (.null), l1, l2, l3, l4, l5, l6, l7] (.null :: S) sh mi mj mr := zr_l (zD_of zk_98 d_98_160 rfl rfl) rfl rfl rfl
theorem q_98_161 (h : zIs sh o 0 7) : zRun 98 161 L (.ref o :: S) sh mi mj mr = zRun 98 164 L (va_rf (mr o 11) :: S) sh mi mj mr := zr_getR (zD_of zk_98 d_98_161 rfl rfl) rfl rfl rfl h
theorem q_98_164r : zRun 98 164 [l0, l1, l2, l3, some (.ref o), l5, l6, l7] S sh mi mj mr = zRun 98 166 [l0, l1, l2, l3, some (.ref o), l5, l6, l7] (.ref o :: S) sh mi mj mr := zr_l (zD_of zk_98 d_98_164 rfl rfl) rfl rfl rfl
theorem q_98_164n : zRun 98 164 [l0, l1, l2, l3, some (.null), l5, l6, l7] S sh mi mj mr = zRun 98 166 [l0, l1, l2, l3, some (.null), l5, l6, l7] (.null :: S) sh mi mj mr := zr_l (zD_of zk_98 d_98_164 rfl rfl) rfl rfl rfl
theorem q_98_166 : zRun 98 166 [l0, l1, l2, some (.int x), l4, l5, l6, l7] S sh mi mj mr = zRun 98 167 [l0, l1, l2, some (.int x), l4, l5, l6, l7] (.int x :: S) sh mi mj mr := zr_l (zD_of zk_98 d_98_166 rfl rfl) rfl rfl rfl
theorem q_98_167  {x0 x1 : Int32} {o0 o1 : Nat} (hS : zcat S ≤ 8) (h : zIs sh o 0 7) : zRun 98 167 L (.int x1 :: .ref o1 :: .ref o0 :: .int x0 :: .ref o :: S) sh mi mj mr = (zCall 105 [.ref o, .int x0, .ref o0, .ref o1, .int x1] sh mi mj mr).bind fun r => zRun 98 170 L (r.1.toList ++ S) r.2.1 r.2.2.1 r.2.2.2.1 r.2.2.2.2 := zr_V (zD_of zk_98 d_98_167 rfl rfl) rfl zk_105 rfl rfl rfl hS h
theorem q_98_170r : zRun 98 170 [some (.ref o), l1, l2, l3, l4, l5, l6, l7] S sh mi mj mr = zRun 98 171 [some (.ref o), l1, l2, l3, l4, l5, l6, l7] (.ref o :: S) sh mi mj mr := zr_l (zD_of zk_98 d_98_170 rfl rfl) rfl rfl rfl
theorem q_98_170n : zRun 98 170 [some (.null), l1, l2, l3, l4, l5, l6, l7] S sh mi mj mr = zRun 98 171 [some (.null), l1, l2, l3, l4, l5, l6, l7] (.null :: S) sh mi mj mr := zr_l (zD_of zk_98 d_98_170 rfl rfl) rfl rfl rfl
theorem q_98_171 (h : zIs sh o 0 7) : zRun 98 171 L (.ref o :: S) sh mi mj mr = zRun 98 174 L (va_rf (mr o 7) :: S) sh mi mj mr := zr_getR (zD_of zk_98 d_98_171 rfl rfl) rfl rfl rfl h
theorem q_98_174r : zRun 98 174 [some (.ref o), l1, l2, l3, l4, l5, l6, l7] S sh mi mj mr = zRun 98 175 [some (.ref o), l1, l2, l3, l4, l5, l6, l7] (.ref o :: S) sh mi mj mr := zr_l (zD_of zk_98 d_98_174 rfl rfl) rfl rfl rfl
theorem q_98_174n : zRun 98 174 [some (.null), l1, l2, l3, l4, l5, l6, l7] S sh mi mj mr = zRun 98 175 [some (.null), l1, l2, l3, l4, l5, l6, l7] (.null :: S) sh mi mj mr := zr_l (zD_of zk_98 d_98_174 rfl rfl) rfl rfl rfl
theorem q_98_175 (h : zIs sh o 0 7) : zRun 98 175 L (.ref o :: S) sh mi mj mr = zRun 98 178 L (va_rf (mr o 12) :: S) sh mi mj mr := zr_getR (zD_of zk_98 d_98_175 rfl rfl) rfl rfl rfl h
theorem q_98_178  {o0 : Nat} (hS : zcat S ≤ 8) (h : zIs sh o 0 1) : zRun 98 178 L (.ref o0 :: .ref o :: S) sh mi mj mr = (zCall 12 [.ref o, .ref o0] sh mi mj mr).bind fun r => zRun 98 181 L (r.1.toList ++ S) r.2.1 r.2.2.1 r.2.2.2.1 r.2.2.2.2 := zr_V (zD_of zk_98 d_98_178 rfl rfl) rfl zk_12 rfl rfl rfl hS h
theorem q_98_181r : zRun 98 181 [some (.ref o), l1, l2, l3, l4, l5, l6, l7] S sh mi mj mr = zRun 98 182 [some (.ref o), l1, l2, l3, l4, l5, l6, l7] (.ref o :: S) sh mi mj mr := zr_l (zD_of zk_98 d_98_181 rfl rfl) rfl rfl rfl
theorem q_98_181n : zRun 98 181 [some (.null), l1, l2, l3, l4, l5, l6, l7] S sh mi mj mr = zRun 98 182 [some (.null), l1, l2, l3, l4, l5, l6, l7] (.null :: S) sh mi mj mr := zr_l (zD_of zk_98 d_98_181 rfl rfl) rfl rfl rfl
theorem q_98_182r : zRun 98 182 [some (.ref o), l1, l2, l3, l4, l5, l6, l7] S sh mi mj mr = zRun 98 183 [some (.ref o), l1, l2, l3, l4, l5, l6, l7] (.ref o :: S) sh mi mj mr := zr_l (zD_of zk_98 d_98_182 rfl rfl) rfl rfl rfl
theorem q_98_182n : zRun 98 182 [some (.null), l1, l2, l3, l4, l5, l6, l7] S sh mi mj mr = zRun 98 183 [some (.null), l1, l2, l3, l4, l5, l6, l7] (.null :: S) sh mi mj mr := zr_l (zD_of zk_98 d_98_182 rfl rfl) rfl rfl rfl
theorem q_98_183 (h : zIs sh o 0 7) : zRun 98 183 L (.ref o :: S) sh mi mj mr = zRun 98 186 L (va_rf (mr o 7) :: S) sh mi mj mr := zr_getR (zD_of zk_98 d_98_183 rfl rfl) rfl rfl rfl h
theorem q_98_186 (h : zIs sh o 0 1) : zRun 98 186 L (.ref o :: S) sh mi mj mr = zRun 98 189 L (.int (mi o 4) :: S) sh mi mj mr := zr_getI (zD_of zk_98 d_98_186 rfl rfl) rfl rfl (Or.inl rfl) h
theorem q_98_189  : zRun 98 189 L S sh mi mj mr = zRun 98 190 L (.int 1 :: S) sh mi mj mr := zr_p (zD_of zk_98 d_98_189 rfl rfl) rfl
theorem q_98_190  : zRun 98 190 L (.int y :: .int x :: S) sh mi mj mr = zRun 98 191 L (.int (x - y) :: S) sh mi mj mr := zr_p (zD_of zk_98 d_98_190 rfl rfl) rfl
theorem q_98_191r : zRun 98 191 [some (.ref o), l1, l2, l3, l4, l5, l6, l7] S sh mi mj mr = zRun 98 192 [some (.ref o), l1, l2, l3, l4, l5, l6, l7] (.ref o :: S) sh mi mj mr := zr_l (zD_of zk_98 d_98_191 rfl rfl) rfl rfl rfl
theorem q_98_191n : zRun 98 191 [some (.null), l1, l2, l3, l4, l5, l6, l7] S sh mi mj mr = zRun 98 192 [some (.null), l1, l2, l3, l4, l5, l6, l7] (.null :: S) sh mi mj mr := zr_l (zD_of zk_98 d_98_191 rfl rfl) rfl rfl rfl
theorem q_98_192 (h : zIs sh o 0 7) : zRun 98 192 L (.ref o :: S) sh mi mj mr = zRun 98 195 L (va_rf (mr o 12) :: S) sh mi mj mr := zr_getR (zD_of zk_98 d_98_192 rfl rfl) rfl rfl rfl h
theorem q_98_195r : zRun 98 195 [l0, l1, l2, l3, some (.ref o), l5, l6, l7] S sh mi mj mr = zRun 98 197 [l0, l1, l2, l3, some (.ref o), l5, l6, l7] (.ref o :: S) sh mi mj mr := zr_l (zD_of zk_98 d_98_195 rfl rfl) rfl rfl rfl
theorem q_98_195n : zRun 98 195 [l0, l1, l2, l3, some (.null), l5, l6, l7] S sh mi mj mr = zRun 98 197 [l0, l1, l2, l3, some (.null), l5, l6, l7] (.null :: S) sh mi mj mr := zr_l (zD_of zk_98 d_98_195 rfl rfl) rfl rfl rfl
theorem q_98_197 : zRun 98 197 [l0, l1, l2, some (.int x), l4, l5, l6, l7] S sh mi mj mr = zRun 98 198 [l0, l1, l2, some (.int x), l4, l5, l6, l7] (.int x :: S) sh mi mj mr := zr_l (zD_of zk_98 d_98_197 rfl rfl) rfl rfl rfl
theorem q_98_198  {x0 x1 : Int32} {o0 o1 : Nat} (hS : zcat S ≤ 8) (h : zIs sh o 0 7) : zRun 98 198 L (.int x1 :: .ref o1 :: .ref o0 :: .int x0 :: .ref o :: S) sh mi mj mr = (zCall 105 [.ref o, .int x0, .ref o0, .ref o1, .int x1] sh mi mj mr).bind fun r => zRun 98 201 L (r.1.toList ++ S) r.2.1 r.2.2.1 r.2.2.2.1 r.2.2.2.2 := zr_V (zD_of zk_98 d_98_198 rfl rfl) rfl zk_105 rfl rfl rfl hS h
theorem q_98_201  : zRun 98 201 [l0, l1, l2, l3, l4, some (.int x), l6, l7] S sh mi mj mr = zRun 98 204 [l0, l1, l2, l3, zk2 l4, some (.int (x + 1)), l6, l7] S sh mi mj mr := zr_s1 (i := 5) (v := .int (x + 1)) (L := [l0, l1, l2, l3, l4, some (.int x), l6, l7]) (zD_of zk_98 d_98_201 rfl rfl) rfl rfl rfl rfl
theorem q_98_204  : zRun 98 204 L S sh mi mj mr = zRun 98 79 L S sh mi mj mr := zr_go (off := (-125)) (zD_of zk_98 d_98_204 rfl rfl) rfl rfl (by decide)
theorem q_98_207r : zRun 98 207 [some (.ref o), l1, l2, l3, l4, l5, l6, l7] S sh mi mj mr = zRun 98 208 [some (.ref o), l1, l2, l3, l4, l5, l6, l7] (.ref o :: S) sh mi mj mr := zr_l (zD_of zk_98 d_98_207 rfl rfl) rfl rfl rfl
theorem q_98_207n : zRun 98 207 [some (.null), l1, l2, l3, l4, l5, l6, l7] S sh mi mj mr = zRun 98 208 [some (.null), l1, l2, l3, l4, l5, l6, l7] (.null :: S) sh mi mj mr := zr_l (zD_of zk_98 d_98_207 rfl rfl) rfl rfl rfl
theorem q_98_208 (h : zIs sh o 0 7) : zRun 98 208 L (.ref o :: S) sh mi mj mr = zRun 98 211 L (va_rf (mr o 7) :: S) sh mi mj mr := zr_getR (zD_of zk_98 d_98_208 rfl rfl) rfl rfl rfl h
theorem q_98_211 (h : zIs sh o 0 1) : zRun 98 211 L (.ref o :: S) sh mi mj mr = zRun 98 214 L (va_rf (mr o 2) :: S) sh mi mj mr := zr_getR (zD_of zk_98 d_98_211 rfl rfl) rfl rfl rfl h
theorem q_98_214r : zRun 98 214 [some (.ref o), l1, l2, l3, l4, l5, l6, l7] S sh mi mj mr = zRun 98 215 [some (.ref o), l1, l2, l3, l4, l5, l6, l7] (.ref o :: S) sh mi mj mr := zr_l (zD_of zk_98 d_98_214 rfl rfl) rfl rfl rfl
theorem q_98_214n : zRun 98 214 [some (.null), l1, l2, l3, l4, l5, l6, l7] S sh mi mj mr = zRun 98 215 [some (.null), l1, l2, l3, l4, l5, l6, l7] (.null :: S) sh mi mj mr := zr_l (zD_of zk_98 d_98_214 rfl rfl) rfl rfl rfl
theorem q_98_215 (h : zIs sh o 0 7) : zRun 98 215 L (.ref o :: S) sh mi mj mr = zRun 98 218 L (va_rf (mr o 7) :: S) sh mi mj mr := zr_getR (zD_of zk_98 d_98_215 rfl rfl) rfl rfl rfl h
theorem q_98_218  (hS : zcat S ≤ 8) (h : zIs sh o 0 1) : zRun 98 218 L (.ref o :: S) sh mi mj mr = (zCall 17 [.ref o] sh mi mj mr).bind fun r => zRun 98 221 L (r.1.toList ++ S) r.2.1 r.2.2.1 r.2.2.2.1 r.2.2.2.2 := zr_V (zD_of zk_98 d_98_218 rfl rfl) rfl zk_17 rfl rfl rfl hS h
theorem q_98_221 (h : zAt sh o 2 x) : zRun 98 221 L (.int x :: .ref o :: S) sh mi mj mr = zRun 98 222 L (.long (mj o x.toNatClampNeg) :: S) sh mi mj mr := zr_lald (zD_of zk_98 d_98_221 rfl rfl) h
theorem q_98_222 : zRun 98 222 [l0, l1, l2, l3, l4, l5, l6, l7] (.long u :: S) sh mi mj mr = zRun 98 224 [l0, l1, l2, l3, zk2 l4, some (.long u), none, l7] S sh mi mj mr := zr_s2 (i := 5) (v := .long u) (L := [l0, l1, l2, l3, l4, l5, l6, l7]) (zD_of zk_98 d_98_222 rfl rfl) rfl rfl rfl rfl
theorem q_98_224 : zRun 98 224 [l0, l1, l2, l3, l4, some (.long u), l6, l7] S sh mi mj mr = zRun 98 226 [l0, l1, l2, l3, l4, some (.long u), l6, l7] (.long u :: S) sh mi mj mr := zr_l (zD_of zk_98 d_98_224 rfl rfl) rfl rfl rfl
theorem q_98_226  : zRun 98 226 L S sh mi mj mr = zRun 98 229 L (.long (-1000000000000000000) :: S) sh mi mj mr := zr_k64 (zD_of zk_98 d_98_226 rfl rfl) rfl
theorem q_98_229  : zRun 98 229 L (.long v :: .long u :: S) sh mi mj mr = if ¬ u = v then zRun 98 239 L S sh mi mj mr else zRun 98 233 L S sh mi mj mr := zr_cmp (off := 9) (zD_of zk_98 d_98_229 rfl rfl) (zD_of zk_98 d_98_230 rfl rfl) rfl rfl (by decide) (not_congr (lg_cmp_eq u v))
theorem q_98_230  : zRun 98 230 L (.int x :: S) sh mi mj mr = if ¬ x = 0 then zRun 98 239 L S sh mi mj mr else zRun 98 233 L S sh mi mj mr := zr_if (off := 9) (P := ¬ x = 0) (zD_of zk_98 d_98_230 rfl rfl) rfl rfl (by decide)
theorem q_98_233  : zRun 98 233 L S sh mi mj mr = zRun 98 235 L (.int (-5) :: S) sh mi mj mr := zr_p (zD_of zk_98 d_98_233 rfl rfl) rfl
theorem q_98_235  {x0 : Int32} (hS : zcat S ≤ 8) : zRun 98 235 L (.int x0 :: S) sh mi mj mr = (zCall 107 [.int x0] sh mi mj mr).bind fun r => zRun 98 238 L (r.1.toList ++ S) r.2.1 r.2.2.1 r.2.2.2.1 r.2.2.2.2 := zr_S (zD_of zk_98 d_98_235 rfl rfl) rfl zk_107 rfl rfl rfl hS
theorem q_98_238  : zRun 98 238 L ([.long u]) sh mi mj mr = some (some (.long u), sh, mi, mj, mr) := zr_ret (zD_of zk_98 d_98_238 rfl rfl) rfl rfl rfl rfl rfl rfl
theorem q_98_239 : zRun 98 239 [l0, l1, l2, some (.int x), l4, l5, l6, l7] S sh mi mj mr = zRun 98 240 [l0, l1, l2, some (.int x), l4, l5, l6, l7] (.int x :: S) sh mi mj mr := zr_l (zD_of zk_98 d_98_239 rfl rfl) rfl rfl rfl
theorem q_98_240  : zRun 98 240 L (.int x :: S) sh mi mj mr = if ¬ x = 0 then zRun 98 248 L S sh mi mj mr else zRun 98 243 L S sh mi mj mr := zr_if (off := 8) (P := ¬ x = 0) (zD_of zk_98 d_98_240 rfl rfl) rfl rfl (by decide)
theorem q_98_243 : zRun 98 243 [l0, l1, l2, l3, l4, some (.long u), l6, l7] S sh mi mj mr = zRun 98 245 [l0, l1, l2, l3, l4, some (.long u), l6, l7] (.long u :: S) sh mi mj mr := zr_l (zD_of zk_98 d_98_243 rfl rfl) rfl rfl rfl
theorem q_98_245  : zRun 98 245 L S sh mi mj mr = zRun 98 251 L S sh mi mj mr := zr_go (off := 6) (zD_of zk_98 d_98_245 rfl rfl) rfl rfl (by decide)
theorem q_98_248 : zRun 98 248 [l0, l1, l2, l3, l4, some (.long u), l6, l7] S sh mi mj mr = zRun 98 250 [l0, l1, l2, l3, l4, some (.long u), l6, l7] (.long u :: S) sh mi mj mr := zr_l (zD_of zk_98 d_98_248 rfl rfl) rfl rfl rfl
theorem q_98_250  : zRun 98 250 L (.long u :: S) sh mi mj mr = zRun 98 251 L (.long (-u) :: S) sh mi mj mr := zr_p (zD_of zk_98 d_98_250 rfl rfl) rfl
theorem q_98_251  : zRun 98 251 L ([.long u]) sh mi mj mr = some (some (.long u), sh, mi, mj, mr) := zr_ret (zD_of zk_98 d_98_251 rfl rfl) rfl rfl rfl rfl rfl rfl
theorem e_98 {x0 x1 x2 : Int32} : zCall 98 [.ref o, .int x0, .int x1, .int x2] sh mi mj mr = zRun 98 0 [some (.ref o), some (.int x0), some (.int x1), some (.int x2), none, none, none, none] [] sh mi mj mr := rfl
theorem d_99_0 : decode cX7_roots 0 = .ok (.aload_n 0, 1) := by decide +kernel
theorem d_99_1 : decode cX7_roots 1 = .ok (.iload_n 1, 1) := by decide +kernel
theorem d_99_2 : decode cX7_roots 2 = .ok (.invokevirtual 124, 3) := by decide +kernel
theorem d_99_5 : decode cX7_roots 5 = .ok (.astore 4, 2) := by decide +kernel
theorem d_99_7 : decode cX7_roots 7 = .ok (.aload 4, 2) := by decide +kernel
theorem d_99_9 : decode cX7_roots 9 = .ok (.ifnull 10, 3) := by decide +kernel
theorem d_99_12 : decode cX7_roots 12 = .ok (.iload_n 2, 1) := by decide +kernel
theorem d_99_13 : decode cX7_roots 13 = .ok (.invokestatic 72, 3) := by decide +kernel
theorem d_99_16 : decode cX7_roots 16 = .ok (.ifCond .ne 5, 3) := by decide +kernel
theorem d_99_19 : decode cX7_roots 19 = .ok (.iconst (-1), 1) := by decide +kernel
theorem d_99_20 : decode cX7_roots 20 = .ok (.ireturn, 1) := by decide +kernel
theorem d_99_21 : decode cX7_roots 21 = .ok (.iload_n 3, 1) := by decide +kernel
theorem d_99_22 : decode cX7_roots 22 = .ok (.iconst 1, 1) := by decide +kernel
theorem d_99_23 : decode cX7_roots 23 = .ok (.if_icmp .lt 9, 3) := by decide +kernel
theorem d_99_26 : decode cX7_roots 26 = .ok (.iload_n 3, 1) := by decide +kernel
theorem d_99_27 : decode cX7_roots 27 = .ok (.bipush 16, 2) := by decide +kernel
theorem d_99_29 : decode cX7_roots 29 = .ok (.if_icmp .le 6, 3) := by decide +kernel
theorem d_99_32 : decode cX7_roots 32 = .ok (.bipush (-2), 2) := by decide +kernel
theorem d_99_34 : decode cX7_roots 34 = .ok (.ireturn, 1) := by decide +kernel
theorem d_99_35 : decode cX7_roots 35 = .ok (.aload_n 0, 1) := by decide +kernel
theorem d_99_36 : decode cX7_roots 36 = .ok (.getfield 20, 3) := by decide +kernel
theorem d_99_39 : decode cX7_roots 39 = .ok (.getfield 78, 3) := by decide +kernel
theorem d_99_42 : decode cX7_roots 42 = .ok (.getfield 93, 3) := by decide +kernel
theorem d_99_45 : decode cX7_roots 45 = .ok (.iload_n 2, 1) := by decide +kernel
theorem d_99_46 : decode cX7_roots 46 = .ok (.iaload, 1) := by decide +kernel
theorem d_99_47 : decode cX7_roots 47 = .ok (.istore 5, 2) := by decide +kernel
theorem d_99_49 : decode cX7_roots 49 = .ok (.aload_n 0, 1) := by decide +kernel
theorem d_99_50 : decode cX7_roots 50 = .ok (.getfield 20, 3) := by decide +kernel
theorem d_99_53 : decode cX7_roots 53 = .ok (.getfield 78, 3) := by decide +kernel
theorem d_99_56 : decode cX7_roots 56 = .ok (.iload_n 2, 1) := by decide +kernel
theorem d_99_57 : decode cX7_roots 57 = .ok (.invokevirtual 81, 3) := by decide +kernel
theorem d_99_60 : decode cX7_roots 60 = .ok (.istore 6, 2) := by decide +kernel
theorem d_99_62 : decode cX7_roots 62 = .ok (.aload_n 0, 1) := by decide +kernel
theorem d_99_63 : decode cX7_roots 63 = .ok (.getfield 63, 3) := by decide +kernel
theorem d_99_66 : decode cX7_roots 66 = .ok (.aload_n 0, 1) := by decide +kernel
theorem d_99_67 : decode cX7_roots 67 = .ok (.getfield 20, 3) := by decide +kernel
theorem d_99_70 : decode cX7_roots 70 = .ok (.getfield 78, 3) := by decide +kernel
theorem d_99_73 : decode cX7_roots 73 = .ok (.invokevirtual 239, 3) := by decide +kernel
theorem d_99_76 : decode cX7_roots 76 = .ok (.iconst 0, 1) := by decide +kernel
theorem d_99_77 : decode cX7_roots 77 = .ok (.istore 7, 2) := by decide +kernel
theorem d_99_79 : decode cX7_roots 79 = .ok (.iconst 0, 1) := by decide +kernel
theorem d_99_80 : decode cX7_roots 80 = .ok (.istore 8, 2) := by decide +kernel
theorem d_99_82 : decode cX7_roots 82 = .ok (.iload 8, 2) := by decide +kernel
theorem d_99_84 : decode cX7_roots 84 = .ok (.iload_n 3, 1) := by decide +kernel
theorem d_99_85 : decode cX7_roots 85 = .ok (.if_icmp .ge 91, 3) := by decide +kernel
theorem d_99_88 : decode cX7_roots 88 = .ok (.aload_n 0, 1) := by decide +kernel
theorem d_99_89 : decode cX7_roots 89 = .ok (.getfield 63, 3) := by decide +kernel
theorem d_99_92 : decode cX7_roots 92 = .ok (.iload_n 2, 1) := by decide +kernel
theorem d_99_93 : decode cX7_roots 93 = .ok (.iload 5, 2) := by decide +kernel
theorem d_99_95 : decode cX7_roots 95 = .ok (.iload 6, 2) := by decide +kernel
theorem d_99_97 : decode cX7_roots 97 = .ok (.iload 8, 2) := by decide +kernel
theorem d_99_99 : decode cX7_roots 99 = .ok (.imul, 1) := by decide +kernel
theorem d_99_100 : decode cX7_roots 100 = .ok (.iload_n 3, 1) := by decide +kernel
theorem d_99_101 : decode cX7_roots 101 = .ok (.idiv, 1) := by decide +kernel
theorem d_99_102 : decode cX7_roots 102 = .ok (.iadd, 1) := by decide +kernel
theorem d_99_103 : decode cX7_roots 103 = .ok (.iload 5, 2) := by decide +kernel
theorem d_99_105 : decode cX7_roots 105 = .ok (.iload 6, 2) := by decide +kernel
theorem d_99_107 : decode cX7_roots 107 = .ok (.iload 8, 2) := by decide +kernel
theorem d_99_109 : decode cX7_roots 109 = .ok (.iconst 1, 1) := by decide +kernel
theorem d_99_110 : decode cX7_roots 110 = .ok (.iadd, 1) := by decide +kernel
theorem d_99_111 : decode cX7_roots 111 = .ok (.imul, 1) := by decide +kernel
theorem d_99_112 : decode cX7_roots 112 = .ok (.iload_n 3, 1) := by decide +kernel
theorem d_99_113 : decode cX7_roots 113 = .ok (.idiv, 1) := by decide +kernel
theorem d_99_114 : decode cX7_roots 114 = .ok (.iadd, 1) := by decide +kernel
theorem d_99_115 : decode cX7_roots 115 = .ok (.invokevirtual 85, 3) := by decide +kernel
theorem d_99_118 : decode cX7_roots 118 = .ok (.aload_n 0, 1) := by decide +kernel
theorem d_99_119 : decode cX7_roots 119 = .ok (.getfield 42, 3) := by decide +kernel
theorem d_99_122 : decode cX7_roots 122 = .ok (.aload 4, 2) := by decide +kernel
theorem d_99_124 : decode cX7_roots 124 = .ok (.aload 4, 2) := by decide +kernel
theorem d_99_126 : decode cX7_roots 126 = .ok (.getfield 121, 3) := by decide +kernel
theorem d_99_129 : decode cX7_roots 129 = .ok (.aload_n 0, 1) := by decide +kernel
theorem d_99_130 : decode cX7_roots 130 = .ok (.getfield 63, 3) := by decide +kernel
theorem d_99_133 : decode cX7_roots 133 = .ok (.aload_n 0, 1) := by decide +kernel
theorem d_99_134 : decode cX7_roots 134 = .ok (.getfield 20, 3) := by decide +kernel
theorem d_99_137 : decode cX7_roots 137 = .ok (.getfield 100, 3) := by decide +kernel
theorem d_99_140 : decode cX7_roots 140 = .ok (.invokevirtual 134, 3) := by decide +kernel
theorem d_99_143 : decode cX7_roots 143 = .ok (.astore 9, 2) := by decide +kernel
theorem d_99_145 : decode cX7_roots 145 = .ok (.aload 9, 2) := by decide +kernel
theorem d_99_147 : decode cX7_roots 147 = .ok (.getfield 138, 3) := by decide +kernel
theorem d_99_150 : decode cX7_roots 150 = .ok (.ifCond .ne 11, 3) := by decide +kernel
theorem d_99_153 : decode cX7_roots 153 = .ok (.aload 9, 2) := by decide +kernel
theorem d_99_155 : decode cX7_roots 155 = .ok (.invokevirtual 241, 3) := by decide +kernel
theorem d_99_158 : decode cX7_roots 158 = .ok (.ifCond .eq 12, 3) := by decide +kernel
theorem d_99_161 : decode cX7_roots 161 = .ok (.iload 7, 2) := by decide +kernel
theorem d_99_163 : decode cX7_roots 163 = .ok (.iconst 1, 1) := by decide +kernel
theorem d_99_164 : decode cX7_roots 164 = .ok (.iload 8, 2) := by decide +kernel
theorem d_99_166 : decode cX7_roots 166 = .ok (.ishl, 1) := by decide +kernel
theorem d_99_167 : decode cX7_roots 167 = .ok (.ior, 1) := by decide +kernel
theorem d_99_168 : decode cX7_roots 168 = .ok (.istore 7, 2) := by decide +kernel
theorem d_99_170 : decode cX7_roots 170 = .ok (.iinc 8 1, 3) := by decide +kernel
theorem d_99_173 : decode cX7_roots 173 = .ok (.goto (-91), 3) := by decide +kernel
theorem d_99_176 : decode cX7_roots 176 = .ok (.iload 7, 2) := by decide +kernel
theorem d_99_178 : decode cX7_roots 178 = .ok (.ireturn, 1) := by decide +kernel
theorem q_99_0r : zRun 99 0 [some (.ref o), l1, l2, l3, l4, l5, l6, l7, l8, l9] S sh mi mj mr = zRun 99 1 [some (.ref o), l1, l2, l3, l4, l5, l6, l7, l8, l9] (.ref o :: S) sh mi mj mr := zr_l (zD_of zk_99 d_99_0 rfl rfl) rfl rfl rfl
theorem q_99_0n : zRun 99 0 [some (.null), l1, l2, l3, l4, l5, l6, l7, l8, l9] S sh mi mj mr = zRun 99 1 [some (.null), l1, l2, l3, l4, l5, l6, l7, l8, l9] (.null :: S) sh mi mj mr := zr_l (zD_of zk_99 d_99_0 rfl rfl) rfl rfl rfl
theorem q_99_1 : zRun 99 1 [l0, some (.int x), l2, l3, l4, l5, l6, l7, l8, l9] S sh mi mj mr = zRun 99 2 [l0, some (.int x), l2, l3, l4, l5, l6, l7, l8, l9] (.int x :: S) sh mi mj mr := zr_l (zD_of zk_99 d_99_1 rfl rfl) rfl rfl rfl
theorem q_99_2  {x0 : Int32} (hS : zcat S ≤ 8) (h : zIs sh o 0 7) : zRun 99 2 L (.int x0 :: .ref o :: S) sh mi mj mr = (zCall 103 [.ref o, .int x0] sh mi mj mr).bind fun r => zRun 99 5 L (r.1.toList ++ S) r.2.1 r.2.2.1 r.2.2.2.1 r.2.2.2.2 := zr_V (zD_of zk_99 d_99_2 rfl rfl) rfl zk_103 rfl rfl rfl hS h
theorem q_99_5r : zRun 99 5 [l0, l1, l2, l3, l4, l5, l6, l7, l8, l9] (.ref o :: S) sh mi mj mr = zRun 99 7 [l0, l1, l2, zk2 l3, some (.ref o), l5, l6, l7, l8, l9] S sh mi mj mr := zr_s1 (i := 4) (v := .ref o) (L := [l0, l1, l2, l3, l4, l5, l6, l7, l8, l9]) (zD_of zk_99 d_99_5 rfl rfl) rfl rfl rfl rfl
theorem q_99_5n : zRun 99 5 [l0, l1, l2, l3, l4, l5, l6, l7, l8, l9] (.null :: S) sh mi mj mr = zRun 99 7 [l0, l1, l2, zk2 l3, some (.null), l5, l6, l7, l8, l9] S sh mi mj mr := zr_s1 (i := 4) (v := .null) (L := [l0, l1, l2, l3, l4, l5, l6, l7, l8, l9]) (zD_of zk_99 d_99_5 rfl rfl) rfl rfl rfl rfl
theorem q_99_7r : zRun 99 7 [l0, l1, l2, l3, some (.ref o), l5, l6, l7, l8, l9] S sh mi mj mr = zRun 99 9 [l0, l1, l2, l3, some (.ref o), l5, l6, l7, l8, l9] (.ref o :: S) sh mi mj mr := zr_l (zD_of zk_99 d_99_7 rfl rfl) rfl rfl rfl
theorem q_99_7n : zRun 99 7 [l0, l1, l2, l3, some (.null), l5, l6, l7, l8, l9] S sh mi mj mr = zRun 99 9 [l0, l1, l2, l3, some (.null), l5, l6, l7, l8, l9] (.null :: S) sh mi mj mr := zr_l (zD_of zk_99 d_99_7 rfl rfl) rfl rfl rfl
theorem q_99_9n : zRun 99 9 L (.null :: S) sh mi mj mr = zRun 99 19 L S sh mi mj mr := zr_go (off := 10) (zD_of zk_99 d_99_9 rfl rfl) rfl rfl (by decide)
theorem q_99_9r : zRun 99 9 L (.ref o :: S) sh mi mj mr = zRun 99 12 L S sh mi mj mr := zr_no (off := 10) (zD_of zk_99 d_99_9 rfl rfl) rfl rfl (by decide)
theorem q_99_12 : zRun 99 12 [l0, l1, some (.int x), l3, l4, l5, l6, l7, l8, l9] S sh mi mj mr = zRun 99 13 [l0, l1, some (.int x), l3, l4, l5, l6, l7, l8, l9] (.int x :: S) sh mi mj mr := zr_l (zD_of zk_99 d_99_12 rfl rfl) rfl rfl rfl
theorem q_99_13  {x0 : Int32} (hS : zcat S ≤ 8) : zRun 99 13 L (.int x0 :: S) sh mi mj mr = (zCall 108 [.int x0] sh mi mj mr).bind fun r => zRun 99 16 L (r.1.toList ++ S) r.2.1 r.2.2.1 r.2.2.2.1 r.2.2.2.2 := zr_S (zD_of zk_99 d_99_13 rfl rfl) rfl zk_108 rfl rfl rfl hS
theorem q_99_16  : zRun 99 16 L (.int x :: S) sh mi mj mr = if ¬ x = 0 then zRun 99 21 L S sh mi mj mr else zRun 99 19 L S sh mi mj mr := zr_if (off := 5) (P := ¬ x = 0) (zD_of zk_99 d_99_16 rfl rfl) rfl rfl (by decide)
theorem q_99_19  : zRun 99 19 L S sh mi mj mr = zRun 99 20 L (.int (-1) :: S) sh mi mj mr := zr_p (zD_of zk_99 d_99_19 rfl rfl) rfl
theorem q_99_20  : zRun 99 20 L ([.int x]) sh mi mj mr = some (some (.int x), sh, mi, mj, mr) := zr_ret (zD_of zk_99 d_99_20 rfl rfl) rfl rfl rfl rfl rfl (if_pos rfl)
theorem q_99_21 : zRun 99 21 [l0, l1, l2, some (.int x), l4, l5, l6, l7, l8, l9] S sh mi mj mr = zRun 99 22 [l0, l1, l2, some (.int x), l4, l5, l6, l7, l8, l9] (.int x :: S) sh mi mj mr := zr_l (zD_of zk_99 d_99_21 rfl rfl) rfl rfl rfl
theorem q_99_22  : zRun 99 22 L S sh mi mj mr = zRun 99 23 L (.int 1 :: S) sh mi mj mr := zr_p (zD_of zk_99 d_99_22 rfl rfl) rfl
theorem q_99_23  : zRun 99 23 L (.int y :: .int x :: S) sh mi mj mr = if x < y then zRun 99 32 L S sh mi mj mr else zRun 99 26 L S sh mi mj mr := zr_if (off := 9) (P := x < y) (zD_of zk_99 d_99_23 rfl rfl) rfl rfl (by decide)
theorem q_99_26 : zRun 99 26 [l0, l1, l2, some (.int x), l4, l5, l6, l7, l8, l9] S sh mi mj mr = zRun 99 27 [l0, l1, l2, some (.int x), l4, l5, l6, l7, l8, l9] (.int x :: S) sh mi mj mr := zr_l (zD_of zk_99 d_99_26 rfl rfl) rfl rfl rfl
theorem q_99_27  : zRun 99 27 L S sh mi mj mr = zRun 99 29 L (.int 16 :: S) sh mi mj mr := zr_p (zD_of zk_99 d_99_27 rfl rfl) rfl
theorem q_99_29  : zRun 99 29 L (.int y :: .int x :: S) sh mi mj mr = if x ≤ y then zRun 99 35 L S sh mi mj mr else zRun 99 32 L S sh mi mj mr := zr_if (off := 6) (P := x ≤ y) (zD_of zk_99 d_99_29 rfl rfl) rfl rfl (by decide)
theorem q_99_32  : zRun 99 32 L S sh mi mj mr = zRun 99 34 L (.int (-2) :: S) sh mi mj mr := zr_p (zD_of zk_99 d_99_32 rfl rfl) rfl
theorem q_99_34  : zRun 99 34 L ([.int x]) sh mi mj mr = some (some (.int x), sh, mi, mj, mr) := zr_ret (zD_of zk_99 d_99_34 rfl rfl) rfl rfl rfl rfl rfl (if_pos rfl)
theorem q_99_35r : zRun 99 35 [some (.ref o), l1, l2, l3, l4, l5, l6, l7, l8, l9] S sh mi mj mr = zRun 99 36 [some (.ref o), l1, l2, l3, l4, l5, l6, l7, l8, l9] (.ref o :: S) sh mi mj mr := zr_l (zD_of zk_99 d_99_35 rfl rfl) rfl rfl rfl
theorem q_99_35n : zRun 99 35 [some (.null), l1, l2, l3, l4, l5, l6, l7, l8, l9] S sh mi mj mr = zRun 99 36 [some (.null), l1, l2, l3, l4, l5, l6, l7, l8, l9] (.null :: S) sh mi mj mr := zr_l (zD_of zk_99 d_99_35 rfl rfl) rfl rfl rfl
theorem q_99_36 (h : zIs sh o 0 7) : zRun 99 36 L (.ref o :: S) sh mi mj mr = zRun 99 39 L (va_rf (mr o 2) :: S) sh mi mj mr := zr_getR (zD_of zk_99 d_99_36 rfl rfl) rfl rfl rfl h
theorem q_99_39 (h : zIs sh o 0 5) : zRun 99 39 L (.ref o :: S) sh mi mj mr = zRun 99 42 L (va_rf (mr o 0) :: S) sh mi mj mr := zr_getR (zD_of zk_99 d_99_39 rfl rfl) rfl rfl rfl h
theorem q_99_42 (h : zIs sh o 0 0) : zRun 99 42 L (.ref o :: S) sh mi mj mr = zRun 99 45 L (va_rf (mr o 0) :: S) sh mi mj mr := zr_getR (zD_of zk_99 d_99_42 rfl rfl) rfl rfl rfl h
theorem q_99_45 : zRun 99 45 [l0, l1, some (.int x), l3, l4, l5, l6, l7, l8, l9] S sh mi mj mr = zRun 99 46 [l0, l1, some (.int x), l3, l4, l5, l6, l7, l8, l9] (.int x :: S) sh mi mj mr := zr_l (zD_of zk_99 d_99_45 rfl rfl) rfl rfl rfl
theorem q_99_46 (h : zAt sh o 1 x) : zRun 99 46 L (.int x :: .ref o :: S) sh mi mj mr = zRun 99 47 L (.int (mi o x.toNatClampNeg) :: S) sh mi mj mr := zr_iald (zD_of zk_99 d_99_46 rfl rfl) h
theorem q_99_47 : zRun 99 47 [l0, l1, l2, l3, l4, l5, l6, l7, l8, l9] (.int x :: S) sh mi mj mr = zRun 99 49 [l0, l1, l2, l3, zk2 l4, some (.int x), l6, l7, l8, l9] S sh mi mj mr := zr_s1 (i := 5) (v := .int x) (L := [l0, l1, l2, l3, l4, l5, l6, l7, l8, l9]) (zD_of zk_99 d_99_47 rfl rfl) rfl rfl rfl rfl
theorem q_99_49r : zRun 99 49 [some (.ref o), l1, l2, l3, l4, l5, l6, l7, l8, l9] S sh mi mj mr = zRun 99 50 [some (.ref o), l1, l2, l3, l4, l5, l6, l7, l8, l9] (.ref o :: S) sh mi mj mr := zr_l (zD_of zk_99 d_99_49 rfl rfl) rfl rfl rfl
theorem q_99_49n : zRun 99 49 [some (.null), l1, l2, l3, l4, l5, l6, l7, l8, l9] S sh mi mj mr = zRun 99 50 [some (.null), l1, l2, l3, l4, l5, l6, l7, l8, l9] (.null :: S) sh mi mj mr := zr_l (zD_of zk_99 d_99_49 rfl rfl) rfl rfl rfl
theorem q_99_50 (h : zIs sh o 0 7) : zRun 99 50 L (.ref o :: S) sh mi mj mr = zRun 99 53 L (va_rf (mr o 2) :: S) sh mi mj mr := zr_getR (zD_of zk_99 d_99_50 rfl rfl) rfl rfl rfl h
theorem q_99_53 (h : zIs sh o 0 5) : zRun 99 53 L (.ref o :: S) sh mi mj mr = zRun 99 56 L (va_rf (mr o 0) :: S) sh mi mj mr := zr_getR (zD_of zk_99 d_99_53 rfl rfl) rfl rfl rfl h
theorem q_99_56 : zRun 99 56 [l0, l1, some (.int x), l3, l4, l5, l6, l7, l8, l9] S sh mi mj mr = zRun 99 57 [l0, l1, some (.int x), l3, l4, l5, l6, l7, l8, l9] (.int x :: S) sh mi mj mr := zr_l (zD_of zk_99 d_99_56 rfl rfl) rfl rfl rfl
theorem q_99_57  {x0 : Int32} (hS : zcat S ≤ 8) (h : zIs sh o 0 0) : zRun 99 57 L (.int x0 :: .ref o :: S) sh mi mj mr = (zCall 4 [.ref o, .int x0] sh mi mj mr).bind fun r => zRun 99 60 L (r.1.toList ++ S) r.2.1 r.2.2.1 r.2.2.2.1 r.2.2.2.2 := zr_V (zD_of zk_99 d_99_57 rfl rfl) rfl zk_4 rfl rfl rfl hS h
theorem q_99_60 : zRun 99 60 [l0, l1, l2, l3, l4, l5, l6, l7, l8, l9] (.int x :: S) sh mi mj mr = zRun 99 62 [l0, l1, l2, l3, l4, zk2 l5, some (.int x), l7, l8, l9] S sh mi mj mr := zr_s1 (i := 6) (v := .int x) (L := [l0, l1, l2, l3, l4, l5, l6, l7, l8, l9]) (zD_of zk_99 d_99_60 rfl rfl) rfl rfl rfl rfl
theorem q_99_62r : zRun 99 62 [some (.ref o), l1, l2, l3, l4, l5, l6, l7, l8, l9] S sh mi mj mr = zRun 99 63 [some (.ref o), l1, l2, l3, l4, l5, l6, l7, l8, l9] (.ref o :: S) sh mi mj mr := zr_l (zD_of zk_99 d_99_62 rfl rfl) rfl rfl rfl
theorem q_99_62n : zRun 99 62 [some (.null), l1, l2, l3, l4, l5, l6, l7, l8, l9] S sh mi mj mr = zRun 99 63 [some (.null), l1, l2, l3, l4, l5, l6, l7, l8, l9] (.null :: S) sh mi mj mr := zr_l (zD_of zk_99 d_99_62 rfl rfl) rfl rfl rfl
theorem q_99_63 (h : zIs sh o 0 7) : zRun 99 63 L (.ref o :: S) sh mi mj mr = zRun 99 66 L (va_rf (mr o 10) :: S) sh mi mj mr := zr_getR (zD_of zk_99 d_99_63 rfl rfl) rfl rfl rfl h
theorem q_99_66r : zRun 99 66 [some (.ref o), l1, l2, l3, l4, l5, l6, l7, l8, l9] S sh mi mj mr = zRun 99 67 [some (.ref o), l1, l2, l3, l4, l5, l6, l7, l8, l9] (.ref o :: S) sh mi mj mr := zr_l (zD_of zk_99 d_99_66 rfl rfl) rfl rfl rfl
theorem q_99_66n : zRun 99 66 [some (.null), l1, l2, l3, l4, l5, l6, l7, l8, l9] S sh mi mj mr = zRun 99 67 [some (.null), l1, l2, l3, l4, l5, l6, l7, l8, l9] (.null :: S) sh mi mj mr := zr_l (zD_of zk_99 d_99_66 rfl rfl) rfl rfl rfl
theorem q_99_67 (h : zIs sh o 0 7) : zRun 99 67 L (.ref o :: S) sh mi mj mr = zRun 99 70 L (va_rf (mr o 2) :: S) sh mi mj mr := zr_getR (zD_of zk_99 d_99_67 rfl rfl) rfl rfl rfl h
theorem q_99_70 (h : zIs sh o 0 5) : zRun 99 70 L (.ref o :: S) sh mi mj mr = zRun 99 73 L (va_rf (mr o 0) :: S) sh mi mj mr := zr_getR (zD_of zk_99 d_99_70 rfl rfl) rfl rfl rfl h
theorem q_99_73  {o0 : Nat} (hS : zcat S ≤ 8) (h : zIs sh o 0 0) : zRun 99 73 L (.ref o0 :: .ref o :: S) sh mi mj mr = (zCall 3 [.ref o, .ref o0] sh mi mj mr).bind fun r => zRun 99 76 L (r.1.toList ++ S) r.2.1 r.2.2.1 r.2.2.2.1 r.2.2.2.2 := zr_V (zD_of zk_99 d_99_73 rfl rfl) rfl zk_3 rfl rfl rfl hS h
theorem q_99_76  : zRun 99 76 L S sh mi mj mr = zRun 99 77 L (.int 0 :: S) sh mi mj mr := zr_p (zD_of zk_99 d_99_76 rfl rfl) rfl
theorem q_99_77 : zRun 99 77 [l0, l1, l2, l3, l4, l5, l6, l7, l8, l9] (.int x :: S) sh mi mj mr = zRun 99 79 [l0, l1, l2, l3, l4, l5, zk2 l6, some (.int x), l8, l9] S sh mi mj mr := zr_s1 (i := 7) (v := .int x) (L := [l0, l1, l2, l3, l4, l5, l6, l7, l8, l9]) (zD_of zk_99 d_99_77 rfl rfl) rfl rfl rfl rfl
theorem q_99_79  : zRun 99 79 L S sh mi mj mr = zRun 99 80 L (.int 0 :: S) sh mi mj mr := zr_p (zD_of zk_99 d_99_79 rfl rfl) rfl
theorem q_99_80 : zRun 99 80 [l0, l1, l2, l3, l4, l5, l6, l7, l8, l9] (.int x :: S) sh mi mj mr = zRun 99 82 [l0, l1, l2, l3, l4, l5, l6, zk2 l7, some (.int x), l9] S sh mi mj mr := zr_s1 (i := 8) (v := .int x) (L := [l0, l1, l2, l3, l4, l5, l6, l7, l8, l9]) (zD_of zk_99 d_99_80 rfl rfl) rfl rfl rfl rfl
theorem q_99_82 : zRun 99 82 [l0, l1, l2, l3, l4, l5, l6, l7, some (.int x), l9] S sh mi mj mr = zRun 99 84 [l0, l1, l2, l3, l4, l5, l6, l7, some (.int x), l9] (.int x :: S) sh mi mj mr := zr_l (zD_of zk_99 d_99_82 rfl rfl) rfl rfl rfl
theorem q_99_84 : zRun 99 84 [l0, l1, l2, some (.int x), l4, l5, l6, l7, l8, l9] S sh mi mj mr = zRun 99 85 [l0, l1, l2, some (.int x), l4, l5, l6, l7, l8, l9] (.int x :: S) sh mi mj mr := zr_l (zD_of zk_99 d_99_84 rfl rfl) rfl rfl rfl
theorem q_99_85  : zRun 99 85 L (.int y :: .int x :: S) sh mi mj mr = if y ≤ x then zRun 99 176 L S sh mi mj mr else zRun 99 88 L S sh mi mj mr := zr_if (off := 91) (P := y ≤ x) (zD_of zk_99 d_99_85 rfl rfl) rfl rfl (by decide)
theorem q_99_88r : zRun 99 88 [some (.ref o), l1, l2, l3, l4, l5, l6, l7, l8, l9] S sh mi mj mr = zRun 99 89 [some (.ref o), l1, l2, l3, l4, l5, l6, l7, l8, l9] (.ref o :: S) sh mi mj mr := zr_l (zD_of zk_99 d_99_88 rfl rfl) rfl rfl rfl
theorem q_99_88n : zRun 99 88 [some (.null), l1, l2, l3, l4, l5, l6, l7, l8, l9] S sh mi mj mr = zRun 99 89 [some (.null), l1, l2, l3, l4, l5, l6, l7, l8, l9] (.null :: S) sh mi mj mr := zr_l (zD_of zk_99 d_99_88 rfl rfl) rfl rfl rfl
theorem q_99_89 (h : zIs sh o 0 7) : zRun 99 89 L (.ref o :: S) sh mi mj mr = zRun 99 92 L (va_rf (mr o 10) :: S) sh mi mj mr := zr_getR (zD_of zk_99 d_99_89 rfl rfl) rfl rfl rfl h
theorem q_99_92 : zRun 99 92 [l0, l1, some (.int x), l3, l4, l5, l6, l7, l8, l9] S sh mi mj mr = zRun 99 93 [l0, l1, some (.int x), l3, l4, l5, l6, l7, l8, l9] (.int x :: S) sh mi mj mr := zr_l (zD_of zk_99 d_99_92 rfl rfl) rfl rfl rfl
theorem q_99_93 : zRun 99 93 [l0, l1, l2, l3, l4, some (.int x), l6, l7, l8, l9] S sh mi mj mr = zRun 99 95 [l0, l1, l2, l3, l4, some (.int x), l6, l7, l8, l9] (.int x :: S) sh mi mj mr := zr_l (zD_of zk_99 d_99_93 rfl rfl) rfl rfl rfl
theorem q_99_95 : zRun 99 95 [l0, l1, l2, l3, l4, l5, some (.int x), l7, l8, l9] S sh mi mj mr = zRun 99 97 [l0, l1, l2, l3, l4, l5, some (.int x), l7, l8, l9] (.int x :: S) sh mi mj mr := zr_l (zD_of zk_99 d_99_95 rfl rfl) rfl rfl rfl
theorem q_99_97 : zRun 99 97 [l0, l1, l2, l3, l4, l5, l6, l7, some (.int x), l9] S sh mi mj mr = zRun 99 99 [l0, l1, l2, l3, l4, l5, l6, l7, some (.int x), l9] (.int x :: S) sh mi mj mr := zr_l (zD_of zk_99 d_99_97 rfl rfl) rfl rfl rfl
theorem q_99_99  : zRun 99 99 L (.int y :: .int x :: S) sh mi mj mr = zRun 99 100 L (.int (x * y) :: S) sh mi mj mr := zr_p (zD_of zk_99 d_99_99 rfl rfl) rfl
theorem q_99_100 : zRun 99 100 [l0, l1, l2, some (.int x), l4, l5, l6, l7, l8, l9] S sh mi mj mr = zRun 99 101 [l0, l1, l2, some (.int x), l4, l5, l6, l7, l8, l9] (.int x :: S) sh mi mj mr := zr_l (zD_of zk_99 d_99_100 rfl rfl) rfl rfl rfl
theorem q_99_101 (h : ¬ y = 0) : zRun 99 101 L (.int y :: .int x :: S) sh mi mj mr = zRun 99 102 L (.int (x / y) :: S) sh mi mj mr := zr_p (zD_of zk_99 d_99_101 rfl rfl) (if_neg h)
theorem q_99_102  : zRun 99 102 L (.int y :: .int x :: S) sh mi mj mr = zRun 99 103 L (.int (x + y) :: S) sh mi mj mr := zr_p (zD_of zk_99 d_99_102 rfl rfl) rfl
theorem q_99_103 : zRun 99 103 [l0, l1, l2, l3, l4, some (.int x), l6, l7, l8, l9] S sh mi mj mr = zRun 99 105 [l0, l1, l2, l3, l4, some (.int x), l6, l7, l8, l9] (.int x :: S) sh mi mj mr := zr_l (zD_of zk_99 d_99_103 rfl rfl) rfl rfl rfl
theorem q_99_105 : zRun 99 105 [l0, l1, l2, l3, l4, l5, some (.int x), l7, l8, l9] S sh mi mj mr = zRun 99 107 [l0, l1, l2, l3, l4, l5, some (.int x), l7, l8, l9] (.int x :: S) sh mi mj mr := zr_l (zD_of zk_99 d_99_105 rfl rfl) rfl rfl rfl
theorem q_99_107 : zRun 99 107 [l0, l1, l2, l3, l4, l5, l6, l7, some (.int x), l9] S sh mi mj mr = zRun 99 109 [l0, l1, l2, l3, l4, l5, l6, l7, some (.int x), l9] (.int x :: S) sh mi mj mr := zr_l (zD_of zk_99 d_99_107 rfl rfl) rfl rfl rfl
theorem q_99_109  : zRun 99 109 L S sh mi mj mr = zRun 99 110 L (.int 1 :: S) sh mi mj mr := zr_p (zD_of zk_99 d_99_109 rfl rfl) rfl
theorem q_99_110  : zRun 99 110 L (.int y :: .int x :: S) sh mi mj mr = zRun 99 111 L (.int (x + y) :: S) sh mi mj mr := zr_p (zD_of zk_99 d_99_110 rfl rfl) rfl
theorem q_99_111  : zRun 99 111 L (.int y :: .int x :: S) sh mi mj mr = zRun 99 112 L (.int (x * y) :: S) sh mi mj mr := zr_p (zD_of zk_99 d_99_111 rfl rfl) rfl
theorem q_99_112 : zRun 99 112 [l0, l1, l2, some (.int x), l4, l5, l6, l7, l8, l9] S sh mi mj mr = zRun 99 113 [l0, l1, l2, some (.int x), l4, l5, l6, l7, l8, l9] (.int x :: S) sh mi mj mr := zr_l (zD_of zk_99 d_99_112 rfl rfl) rfl rfl rfl
theorem q_99_113 (h : ¬ y = 0) : zRun 99 113 L (.int y :: .int x :: S) sh mi mj mr = zRun 99 114 L (.int (x / y) :: S) sh mi mj mr := zr_p (zD_of zk_99 d_99_113 rfl rfl) (if_neg h)
theorem q_99_114  : zRun 99 114 L (.int y :: .int x :: S) sh mi mj mr = zRun 99 115 L (.int (x + y) :: S) sh mi mj mr := zr_p (zD_of zk_99 d_99_114 rfl rfl) rfl
theorem q_99_115  {x0 x1 x2 : Int32} (hS : zcat S ≤ 8) (h : zIs sh o 0 0) : zRun 99 115 L (.int x2 :: .int x1 :: .int x0 :: .ref o :: S) sh mi mj mr = (zCall 2 [.ref o, .int x0, .int x1, .int x2] sh mi mj mr).bind fun r => zRun 99 118 L (r.1.toList ++ S) r.2.1 r.2.2.1 r.2.2.2.1 r.2.2.2.2 := zr_V (zD_of zk_99 d_99_115 rfl rfl) rfl zk_2 rfl rfl rfl hS h
theorem q_99_118r : zRun 99 118 [some (.ref o), l1, l2, l3, l4, l5, l6, l7, l8, l9] S sh mi mj mr = zRun 99 119 [some (.ref o), l1, l2, l3, l4, l5, l6, l7, l8, l9] (.ref o :: S) sh mi mj mr := zr_l (zD_of zk_99 d_99_118 rfl rfl) rfl rfl rfl
theorem q_99_118n : zRun 99 118 [some (.null), l1, l2, l3, l4, l5, l6, l7, l8, l9] S sh mi mj mr = zRun 99 119 [some (.null), l1, l2, l3, l4, l5, l6, l7, l8, l9] (.null :: S) sh mi mj mr := zr_l (zD_of zk_99 d_99_118 rfl rfl) rfl rfl rfl
theorem q_99_119 (h : zIs sh o 0 7) : zRun 99 119 L (.ref o :: S) sh mi mj mr = zRun 99 122 L (va_rf (mr o 6) :: S) sh mi mj mr := zr_getR (zD_of zk_99 d_99_119 rfl rfl) rfl rfl rfl h
theorem q_99_122r : zRun 99 122 [l0, l1, l2, l3, some (.ref o), l5, l6, l7, l8, l9] S sh mi mj mr = zRun 99 124 [l0, l1, l2, l3, some (.ref o), l5, l6, l7, l8, l9] (.ref o :: S) sh mi mj mr := zr_l (zD_of zk_99 d_99_122 rfl rfl) rfl rfl rfl
theorem q_99_122n : zRun 99 122 [l0, l1, l2, l3, some (.null), l5, l6, l7, l8, l9] S sh mi mj mr = zRun 99 124 [l0, l1, l2, l3, some (.null), l5, l6, l7, l8, l9] (.null :: S) sh mi mj mr := zr_l (zD_of zk_99 d_99_122 rfl rfl) rfl rfl rfl
theorem q_99_124r : zRun 99 124 [l0, l1, l2, l3, some (.ref o), l5, l6, l7, l8, l9] S sh mi mj mr = zRun 99 126 [l0, l1, l2, l3, some (.ref o), l5, l6, l7, l8, l9] (.ref o :: S) sh mi mj mr := zr_l (zD_of zk_99 d_99_124 rfl rfl) rfl rfl rfl
theorem q_99_124n : zRun 99 124 [l0, l1, l2, l3, some (.null), l5, l6, l7, l8, l9] S sh mi mj mr = zRun 99 126 [l0, l1, l2, l3, some (.null), l5, l6, l7, l8, l9] (.null :: S) sh mi mj mr := zr_l (zD_of zk_99 d_99_124 rfl rfl) rfl rfl rfl
theorem q_99_126 (h : zIs sh o 0 6) : zRun 99 126 L (.ref o :: S) sh mi mj mr = zRun 99 129 L (.int (mi o 2) :: S) sh mi mj mr := zr_getI (zD_of zk_99 d_99_126 rfl rfl) rfl rfl (Or.inl rfl) h
theorem q_99_129r : zRun 99 129 [some (.ref o), l1, l2, l3, l4, l5, l6, l7, l8, l9] S sh mi mj mr = zRun 99 130 [some (.ref o), l1, l2, l3, l4, l5, l6, l7, l8, l9] (.ref o :: S) sh mi mj mr := zr_l (zD_of zk_99 d_99_129 rfl rfl) rfl rfl rfl
theorem q_99_129n : zRun 99 129 [some (.null), l1, l2, l3, l4, l5, l6, l7, l8, l9] S sh mi mj mr = zRun 99 130 [some (.null), l1, l2, l3, l4, l5, l6, l7, l8, l9] (.null :: S) sh mi mj mr := zr_l (zD_of zk_99 d_99_129 rfl rfl) rfl rfl rfl
theorem q_99_130 (h : zIs sh o 0 7) : zRun 99 130 L (.ref o :: S) sh mi mj mr = zRun 99 133 L (va_rf (mr o 10) :: S) sh mi mj mr := zr_getR (zD_of zk_99 d_99_130 rfl rfl) rfl rfl rfl h
theorem q_99_133r : zRun 99 133 [some (.ref o), l1, l2, l3, l4, l5, l6, l7, l8, l9] S sh mi mj mr = zRun 99 134 [some (.ref o), l1, l2, l3, l4, l5, l6, l7, l8, l9] (.ref o :: S) sh mi mj mr := zr_l (zD_of zk_99 d_99_133 rfl rfl) rfl rfl rfl
theorem q_99_133n : zRun 99 133 [some (.null), l1, l2, l3, l4, l5, l6, l7, l8, l9] S sh mi mj mr = zRun 99 134 [some (.null), l1, l2, l3, l4, l5, l6, l7, l8, l9] (.null :: S) sh mi mj mr := zr_l (zD_of zk_99 d_99_133 rfl rfl) rfl rfl rfl
theorem q_99_134 (h : zIs sh o 0 7) : zRun 99 134 L (.ref o :: S) sh mi mj mr = zRun 99 137 L (va_rf (mr o 2) :: S) sh mi mj mr := zr_getR (zD_of zk_99 d_99_134 rfl rfl) rfl rfl rfl h
theorem q_99_137 (h : zIs sh o 0 5) : zRun 99 137 L (.ref o :: S) sh mi mj mr = zRun 99 140 L (.int (mi o 2) :: S) sh mi mj mr := zr_getI (zD_of zk_99 d_99_137 rfl rfl) rfl rfl (Or.inl rfl) h
theorem q_99_140  {x0 x1 : Int32} {o0 o1 : Nat} (hS : zcat S ≤ 8) (h : zIs sh o 0 3) : zRun 99 140 L (.int x1 :: .ref o1 :: .int x0 :: .ref o0 :: .ref o :: S) sh mi mj mr = (zCall 45 [.ref o, .ref o0, .int x0, .ref o1, .int x1] sh mi mj mr).bind fun r => zRun 99 143 L (r.1.toList ++ S) r.2.1 r.2.2.1 r.2.2.2.1 r.2.2.2.2 := zr_V (zD_of zk_99 d_99_140 rfl rfl) rfl zk_45 rfl rfl rfl hS h
theorem q_99_143r : zRun 99 143 [l0, l1, l2, l3, l4, l5, l6, l7, l8, l9] (.ref o :: S) sh mi mj mr = zRun 99 145 [l0, l1, l2, l3, l4, l5, l6, l7, zk2 l8, some (.ref o)] S sh mi mj mr := zr_s1 (i := 9) (v := .ref o) (L := [l0, l1, l2, l3, l4, l5, l6, l7, l8, l9]) (zD_of zk_99 d_99_143 rfl rfl) rfl rfl rfl rfl
theorem q_99_143n : zRun 99 143 [l0, l1, l2, l3, l4, l5, l6, l7, l8, l9] (.null :: S) sh mi mj mr = zRun 99 145 [l0, l1, l2, l3, l4, l5, l6, l7, zk2 l8, some (.null)] S sh mi mj mr := zr_s1 (i := 9) (v := .null) (L := [l0, l1, l2, l3, l4, l5, l6, l7, l8, l9]) (zD_of zk_99 d_99_143 rfl rfl) rfl rfl rfl rfl
theorem q_99_145r : zRun 99 145 [l0, l1, l2, l3, l4, l5, l6, l7, l8, some (.ref o)] S sh mi mj mr = zRun 99 147 [l0, l1, l2, l3, l4, l5, l6, l7, l8, some (.ref o)] (.ref o :: S) sh mi mj mr := zr_l (zD_of zk_99 d_99_145 rfl rfl) rfl rfl rfl
theorem q_99_145n : zRun 99 145 [l0, l1, l2, l3, l4, l5, l6, l7, l8, some (.null)] S sh mi mj mr = zRun 99 147 [l0, l1, l2, l3, l4, l5, l6, l7, l8, some (.null)] (.null :: S) sh mi mj mr := zr_l (zD_of zk_99 d_99_145 rfl rfl) rfl rfl rfl
theorem q_99_147 (h : zIs sh o 0 2) : zRun 99 147 L (.ref o :: S) sh mi mj mr = zRun 99 150 L (.int (mi o 0) :: S) sh mi mj mr := zr_getI (zD_of zk_99 d_99_147 rfl rfl) rfl rfl (Or.inl rfl) h
theorem q_99_150  : zRun 99 150 L (.int x :: S) sh mi mj mr = if ¬ x = 0 then zRun 99 161 L S sh mi mj mr else zRun 99 153 L S sh mi mj mr := zr_if (off := 11) (P := ¬ x = 0) (zD_of zk_99 d_99_150 rfl rfl) rfl rfl (by decide)
theorem q_99_153r : zRun 99 153 [l0, l1, l2, l3, l4, l5, l6, l7, l8, some (.ref o)] S sh mi mj mr = zRun 99 155 [l0, l1, l2, l3, l4, l5, l6, l7, l8, some (.ref o)] (.ref o :: S) sh mi mj mr := zr_l (zD_of zk_99 d_99_153 rfl rfl) rfl rfl rfl
theorem q_99_153n : zRun 99 153 [l0, l1, l2, l3, l4, l5, l6, l7, l8, some (.null)] S sh mi mj mr = zRun 99 155 [l0, l1, l2, l3, l4, l5, l6, l7, l8, some (.null)] (.null :: S) sh mi mj mr := zr_l (zD_of zk_99 d_99_153 rfl rfl) rfl rfl rfl
theorem q_99_155  (hS : zcat S ≤ 8) (h : zIs sh o 0 2) : zRun 99 155 L (.ref o :: S) sh mi mj mr = (zCall 22 [.ref o] sh mi mj mr).bind fun r => zRun 99 158 L (r.1.toList ++ S) r.2.1 r.2.2.1 r.2.2.2.1 r.2.2.2.2 := zr_V (zD_of zk_99 d_99_155 rfl rfl) rfl zk_22 rfl rfl rfl hS h
theorem q_99_158  : zRun 99 158 L (.int x :: S) sh mi mj mr = if x = 0 then zRun 99 170 L S sh mi mj mr else zRun 99 161 L S sh mi mj mr := zr_if (off := 12) (P := x = 0) (zD_of zk_99 d_99_158 rfl rfl) rfl rfl (by decide)
theorem q_99_161 : zRun 99 161 [l0, l1, l2, l3, l4, l5, l6, some (.int x), l8, l9] S sh mi mj mr = zRun 99 163 [l0, l1, l2, l3, l4, l5, l6, some (.int x), l8, l9] (.int x :: S) sh mi mj mr := zr_l (zD_of zk_99 d_99_161 rfl rfl) rfl rfl rfl
theorem q_99_163  : zRun 99 163 L S sh mi mj mr = zRun 99 164 L (.int 1 :: S) sh mi mj mr := zr_p (zD_of zk_99 d_99_163 rfl rfl) rfl
theorem q_99_164 : zRun 99 164 [l0, l1, l2, l3, l4, l5, l6, l7, some (.int x), l9] S sh mi mj mr = zRun 99 166 [l0, l1, l2, l3, l4, l5, l6, l7, some (.int x), l9] (.int x :: S) sh mi mj mr := zr_l (zD_of zk_99 d_99_164 rfl rfl) rfl rfl rfl
theorem q_99_166  : zRun 99 166 L (.int y :: .int x :: S) sh mi mj mr = zRun 99 167 L (.int (x <<< (y &&& 31)) :: S) sh mi mj mr := zr_p (zD_of zk_99 d_99_166 rfl rfl) rfl
theorem q_99_167  : zRun 99 167 L (.int y :: .int x :: S) sh mi mj mr = zRun 99 168 L (.int (x ||| y) :: S) sh mi mj mr := zr_p (zD_of zk_99 d_99_167 rfl rfl) rfl
theorem q_99_168 : zRun 99 168 [l0, l1, l2, l3, l4, l5, l6, l7, l8, l9] (.int x :: S) sh mi mj mr = zRun 99 170 [l0, l1, l2, l3, l4, l5, zk2 l6, some (.int x), l8, l9] S sh mi mj mr := zr_s1 (i := 7) (v := .int x) (L := [l0, l1, l2, l3, l4, l5, l6, l7, l8, l9]) (zD_of zk_99 d_99_168 rfl rfl) rfl rfl rfl rfl
theorem q_99_170  : zRun 99 170 [l0, l1, l2, l3, l4, l5, l6, l7, some (.int x), l9] S sh mi mj mr = zRun 99 173 [l0, l1, l2, l3, l4, l5, l6, zk2 l7, some (.int (x + 1)), l9] S sh mi mj mr := zr_s1 (i := 8) (v := .int (x + 1)) (L := [l0, l1, l2, l3, l4, l5, l6, l7, some (.int x), l9]) (zD_of zk_99 d_99_170 rfl rfl) rfl rfl rfl rfl
theorem q_99_173  : zRun 99 173 L S sh mi mj mr = zRun 99 82 L S sh mi mj mr := zr_go (off := (-91)) (zD_of zk_99 d_99_173 rfl rfl) rfl rfl (by decide)
theorem q_99_176 : zRun 99 176 [l0, l1, l2, l3, l4, l5, l6, some (.int x), l8, l9] S sh mi mj mr = zRun 99 178 [l0, l1, l2, l3, l4, l5, l6, some (.int x), l8, l9] (.int x :: S) sh mi mj mr := zr_l (zD_of zk_99 d_99_176 rfl rfl) rfl rfl rfl
theorem q_99_178  : zRun 99 178 L ([.int x]) sh mi mj mr = some (some (.int x), sh, mi, mj, mr) := zr_ret (zD_of zk_99 d_99_178 rfl rfl) rfl rfl rfl rfl rfl (if_pos rfl)
theorem e_99 {x0 x1 x2 : Int32} : zCall 99 [.ref o, .int x0, .int x1, .int x2] sh mi mj mr = zRun 99 0 [some (.ref o), some (.int x0), some (.int x1), some (.int x2), none, none, none, none, none, none] [] sh mi mj mr := rfl
theorem d_100_0 : decode cX7_count 0 = .ok (.iload_n 1, 1) := by decide +kernel
theorem d_100_1 : decode cX7_count 1 = .ok (.tableswitch 63 0 3 #[31, 39, 44, 52], 31) := by decide +kernel
theorem d_100_32 : decode cX7_count 32 = .ok (.aload_n 0, 1) := by decide +kernel
theorem d_100_33 : decode cX7_count 33 = .ok (.getfield 20, 3) := by decide +kernel
theorem d_100_36 : decode cX7_count 36 = .ok (.invokevirtual 245, 3) := by decide +kernel
theorem d_100_39 : decode cX7_count 39 = .ok (.ireturn, 1) := by decide +kernel
theorem d_100_40 : decode cX7_count 40 = .ok (.aload_n 0, 1) := by decide +kernel
theorem d_100_41 : decode cX7_count 41 = .ok (.getfield 13, 3) := by decide +kernel
theorem d_100_44 : decode cX7_count 44 = .ok (.ireturn, 1) := by decide +kernel
theorem d_100_45 : decode cX7_count 45 = .ok (.aload_n 0, 1) := by decide +kernel
theorem d_100_46 : decode cX7_count 46 = .ok (.getfield 20, 3) := by decide +kernel
theorem d_100_49 : decode cX7_count 49 = .ok (.getfield 100, 3) := by decide +kernel
theorem d_100_52 : decode cX7_count 52 = .ok (.ireturn, 1) := by decide +kernel
theorem d_100_53 : decode cX7_count 53 = .ok (.aload_n 0, 1) := by decide +kernel
theorem d_100_54 : decode cX7_count 54 = .ok (.getfield 20, 3) := by decide +kernel
theorem d_100_57 : decode cX7_count 57 = .ok (.getfield 78, 3) := by decide +kernel
theorem d_100_60 : decode cX7_count 60 = .ok (.invokevirtual 248, 3) := by decide +kernel
theorem d_100_63 : decode cX7_count 63 = .ok (.ireturn, 1) := by decide +kernel
theorem d_100_64 : decode cX7_count 64 = .ok (.bipush (-2), 2) := by decide +kernel
theorem d_100_66 : decode cX7_count 66 = .ok (.ireturn, 1) := by decide +kernel
theorem q_100_0 : zRun 100 0 [l0, some (.int x)] S sh mi mj mr = zRun 100 1 [l0, some (.int x)] (.int x :: S) sh mi mj mr := zr_l (zD_of zk_100 d_100_0 rfl rfl) rfl rfl rfl
theorem q_100_1 : zRun 100 1 L (.int x :: S) sh mi mj mr = if x = 0 then zRun 100 32 L S sh mi mj mr else if x = 1 then zRun 100 40 L S sh mi mj mr else if x = 2 then zRun 100 45 L S sh mi mj mr else if x = 3 then zRun 100 53 L S sh mi mj mr else zRun 100 64 L S sh mi mj mr := by
  by_cases h : x = 0
  · subst h; exact zr_go (off := 31) (zD_of zk_100 d_100_1 rfl rfl) rfl rfl (by decide)
  rw [if_neg h]
  have a0 := zsw_ne (v := 0) h (by decide) (by decide)
  by_cases h : x = 1
  · subst h; exact zr_go (off := 39) (zD_of zk_100 d_100_1 rfl rfl) rfl rfl (by decide)
  rw [if_neg h]
  have a1 := zsw_ne (v := 1) h (by decide) (by decide)
  by_cases h : x = 2
  · subst h; exact zr_go (off := 44) (zD_of zk_100 d_100_1 rfl rfl) rfl rfl (by decide)
  rw [if_neg h]
  have a2 := zsw_ne (v := 2) h (by decide) (by decide)
  by_cases h : x = 3
  · subst h; exact zr_go (off := 52) (zD_of zk_100 d_100_1 rfl rfl) rfl rfl (by decide)
  rw [if_neg h]
  have a3 := zsw_ne (v := 3) h (by decide) (by decide)
  exact zr_go (S' := S) (off := 63) (zD_of zk_100 d_100_1 rfl rfl) rfl (by simp only [zjump, zsw_out (x := x) 63 0 3 (by omega)]) (by decide)
theorem q_100_32r : zRun 100 32 [some (.ref o), l1] S sh mi mj mr = zRun 100 33 [some (.ref o), l1] (.ref o :: S) sh mi mj mr := zr_l (zD_of zk_100 d_100_32 rfl rfl) rfl rfl rfl
theorem q_100_32n : zRun 100 32 [some (.null), l1] S sh mi mj mr = zRun 100 33 [some (.null), l1] (.null :: S) sh mi mj mr := zr_l (zD_of zk_100 d_100_32 rfl rfl) rfl rfl rfl
theorem q_100_33 (h : zIs sh o 0 7) : zRun 100 33 L (.ref o :: S) sh mi mj mr = zRun 100 36 L (va_rf (mr o 2) :: S) sh mi mj mr := zr_getR (zD_of zk_100 d_100_33 rfl rfl) rfl rfl rfl h
theorem q_100_36  (hS : zcat S ≤ 8) (h : zIs sh o 0 5) : zRun 100 36 L (.ref o :: S) sh mi mj mr = (zCall 72 [.ref o] sh mi mj mr).bind fun r => zRun 100 39 L (r.1.toList ++ S) r.2.1 r.2.2.1 r.2.2.2.1 r.2.2.2.2 := zr_V (zD_of zk_100 d_100_36 rfl rfl) rfl zk_72 rfl rfl rfl hS h
theorem q_100_39  : zRun 100 39 L ([.int x]) sh mi mj mr = some (some (.int x), sh, mi, mj, mr) := zr_ret (zD_of zk_100 d_100_39 rfl rfl) rfl rfl rfl rfl rfl (if_pos rfl)
theorem q_100_40r : zRun 100 40 [some (.ref o), l1] S sh mi mj mr = zRun 100 41 [some (.ref o), l1] (.ref o :: S) sh mi mj mr := zr_l (zD_of zk_100 d_100_40 rfl rfl) rfl rfl rfl
theorem q_100_40n : zRun 100 40 [some (.null), l1] S sh mi mj mr = zRun 100 41 [some (.null), l1] (.null :: S) sh mi mj mr := zr_l (zD_of zk_100 d_100_40 rfl rfl) rfl rfl rfl
theorem q_100_41 (h : zIs sh o 0 7) : zRun 100 41 L (.ref o :: S) sh mi mj mr = zRun 100 44 L (.int (mi o 1) :: S) sh mi mj mr := zr_getI (zD_of zk_100 d_100_41 rfl rfl) rfl rfl (Or.inl rfl) h
theorem q_100_44  : zRun 100 44 L ([.int x]) sh mi mj mr = some (some (.int x), sh, mi, mj, mr) := zr_ret (zD_of zk_100 d_100_44 rfl rfl) rfl rfl rfl rfl rfl (if_pos rfl)
theorem q_100_45r : zRun 100 45 [some (.ref o), l1] S sh mi mj mr = zRun 100 46 [some (.ref o), l1] (.ref o :: S) sh mi mj mr := zr_l (zD_of zk_100 d_100_45 rfl rfl) rfl rfl rfl
theorem q_100_45n : zRun 100 45 [some (.null), l1] S sh mi mj mr = zRun 100 46 [some (.null), l1] (.null :: S) sh mi mj mr := zr_l (zD_of zk_100 d_100_45 rfl rfl) rfl rfl rfl
theorem q_100_46 (h : zIs sh o 0 7) : zRun 100 46 L (.ref o :: S) sh mi mj mr = zRun 100 49 L (va_rf (mr o 2) :: S) sh mi mj mr := zr_getR (zD_of zk_100 d_100_46 rfl rfl) rfl rfl rfl h
theorem q_100_49 (h : zIs sh o 0 5) : zRun 100 49 L (.ref o :: S) sh mi mj mr = zRun 100 52 L (.int (mi o 2) :: S) sh mi mj mr := zr_getI (zD_of zk_100 d_100_49 rfl rfl) rfl rfl (Or.inl rfl) h
theorem q_100_52  : zRun 100 52 L ([.int x]) sh mi mj mr = some (some (.int x), sh, mi, mj, mr) := zr_ret (zD_of zk_100 d_100_52 rfl rfl) rfl rfl rfl rfl rfl (if_pos rfl)
theorem q_100_53r : zRun 100 53 [some (.ref o), l1] S sh mi mj mr = zRun 100 54 [some (.ref o), l1] (.ref o :: S) sh mi mj mr := zr_l (zD_of zk_100 d_100_53 rfl rfl) rfl rfl rfl
theorem q_100_53n : zRun 100 53 [some (.null), l1] S sh mi mj mr = zRun 100 54 [some (.null), l1] (.null :: S) sh mi mj mr := zr_l (zD_of zk_100 d_100_53 rfl rfl) rfl rfl rfl
theorem q_100_54 (h : zIs sh o 0 7) : zRun 100 54 L (.ref o :: S) sh mi mj mr = zRun 100 57 L (va_rf (mr o 2) :: S) sh mi mj mr := zr_getR (zD_of zk_100 d_100_54 rfl rfl) rfl rfl rfl h
theorem q_100_57 (h : zIs sh o 0 5) : zRun 100 57 L (.ref o :: S) sh mi mj mr = zRun 100 60 L (va_rf (mr o 0) :: S) sh mi mj mr := zr_getR (zD_of zk_100 d_100_57 rfl rfl) rfl rfl rfl h
theorem q_100_60  (hS : zcat S ≤ 8) (h : zIs sh o 0 0) : zRun 100 60 L (.ref o :: S) sh mi mj mr = (zCall 7 [.ref o] sh mi mj mr).bind fun r => zRun 100 63 L (r.1.toList ++ S) r.2.1 r.2.2.1 r.2.2.2.1 r.2.2.2.2 := zr_V (zD_of zk_100 d_100_60 rfl rfl) rfl zk_7 rfl rfl rfl hS h
theorem q_100_63  : zRun 100 63 L ([.int x]) sh mi mj mr = some (some (.int x), sh, mi, mj, mr) := zr_ret (zD_of zk_100 d_100_63 rfl rfl) rfl rfl rfl rfl rfl (if_pos rfl)
theorem q_100_64  : zRun 100 64 L S sh mi mj mr = zRun 100 66 L (.int (-2) :: S) sh mi mj mr := zr_p (zD_of zk_100 d_100_64 rfl rfl) rfl
theorem q_100_66  : zRun 100 66 L ([.int x]) sh mi mj mr = some (some (.int x), sh, mi, mj, mr) := zr_ret (zD_of zk_100 d_100_66 rfl rfl) rfl rfl rfl rfl rfl (if_pos rfl)
theorem e_100 {x0 : Int32} : zCall 100 [.ref o, .int x0] sh mi mj mr = zRun 100 0 [some (.ref o), some (.int x0)] [] sh mi mj mr := rfl
theorem d_101_0 : decode cX7_save 0 = .ok (.iload_n 1, 1) := by decide +kernel
theorem d_101_1 : decode cX7_save 1 = .ok (.ifCond .lt 8, 3) := by decide +kernel
theorem d_101_4 : decode cX7_save 4 = .ok (.iload_n 1, 1) := by decide +kernel
theorem d_101_5 : decode cX7_save 5 = .ok (.iconst 2, 1) := by decide +kernel
theorem d_101_6 : decode cX7_save 6 = .ok (.if_icmp .lt 6, 3) := by decide +kernel
theorem d_101_9 : decode cX7_save 9 = .ok (.bipush (-2), 2) := by decide +kernel
theorem d_101_11 : decode cX7_save 11 = .ok (.ireturn, 1) := by decide +kernel
theorem d_101_12 : decode cX7_save 12 = .ok (.aload_n 0, 1) := by decide +kernel
theorem d_101_13 : decode cX7_save 13 = .ok (.getfield 24, 3) := by decide +kernel
theorem d_101_16 : decode cX7_save 16 = .ok (.iload_n 1, 1) := by decide +kernel
theorem d_101_17 : decode cX7_save 17 = .ok (.aaload, 1) := by decide +kernel
theorem d_101_18 : decode cX7_save 18 = .ok (.aload_n 0, 1) := by decide +kernel
theorem d_101_19 : decode cX7_save 19 = .ok (.getfield 20, 3) := by decide +kernel
theorem d_101_22 : decode cX7_save 22 = .ok (.invokevirtual 251, 3) := by decide +kernel
theorem d_101_25 : decode cX7_save 25 = .ok (.aload_n 0, 1) := by decide +kernel
theorem d_101_26 : decode cX7_save 26 = .ok (.getfield 28, 3) := by decide +kernel
theorem d_101_29 : decode cX7_save 29 = .ok (.iload_n 1, 1) := by decide +kernel
theorem d_101_30 : decode cX7_save 30 = .ok (.iconst 1, 1) := by decide +kernel
theorem d_101_31 : decode cX7_save 31 = .ok (.bastore, 1) := by decide +kernel
theorem d_101_32 : decode cX7_save 32 = .ok (.aload_n 0, 1) := by decide +kernel
theorem d_101_33 : decode cX7_save 33 = .ok (.getfield 20, 3) := by decide +kernel
theorem d_101_36 : decode cX7_save 36 = .ok (.invokevirtual 245, 3) := by decide +kernel
theorem d_101_39 : decode cX7_save 39 = .ok (.ireturn, 1) := by decide +kernel
theorem q_101_0 : zRun 101 0 [l0, some (.int x)] S sh mi mj mr = zRun 101 1 [l0, some (.int x)] (.int x :: S) sh mi mj mr := zr_l (zD_of zk_101 d_101_0 rfl rfl) rfl rfl rfl
theorem q_101_1  : zRun 101 1 L (.int x :: S) sh mi mj mr = if x < 0 then zRun 101 9 L S sh mi mj mr else zRun 101 4 L S sh mi mj mr := zr_if (off := 8) (P := x < 0) (zD_of zk_101 d_101_1 rfl rfl) rfl rfl (by decide)
theorem q_101_4 : zRun 101 4 [l0, some (.int x)] S sh mi mj mr = zRun 101 5 [l0, some (.int x)] (.int x :: S) sh mi mj mr := zr_l (zD_of zk_101 d_101_4 rfl rfl) rfl rfl rfl
theorem q_101_5  : zRun 101 5 L S sh mi mj mr = zRun 101 6 L (.int 2 :: S) sh mi mj mr := zr_p (zD_of zk_101 d_101_5 rfl rfl) rfl
theorem q_101_6  : zRun 101 6 L (.int y :: .int x :: S) sh mi mj mr = if x < y then zRun 101 12 L S sh mi mj mr else zRun 101 9 L S sh mi mj mr := zr_if (off := 6) (P := x < y) (zD_of zk_101 d_101_6 rfl rfl) rfl rfl (by decide)
theorem q_101_9  : zRun 101 9 L S sh mi mj mr = zRun 101 11 L (.int (-2) :: S) sh mi mj mr := zr_p (zD_of zk_101 d_101_9 rfl rfl) rfl
theorem q_101_11  : zRun 101 11 L ([.int x]) sh mi mj mr = some (some (.int x), sh, mi, mj, mr) := zr_ret (zD_of zk_101 d_101_11 rfl rfl) rfl rfl rfl rfl rfl (if_pos rfl)
theorem q_101_12r : zRun 101 12 [some (.ref o), l1] S sh mi mj mr = zRun 101 13 [some (.ref o), l1] (.ref o :: S) sh mi mj mr := zr_l (zD_of zk_101 d_101_12 rfl rfl) rfl rfl rfl
theorem q_101_12n : zRun 101 12 [some (.null), l1] S sh mi mj mr = zRun 101 13 [some (.null), l1] (.null :: S) sh mi mj mr := zr_l (zD_of zk_101 d_101_12 rfl rfl) rfl rfl rfl
theorem q_101_13 (h : zIs sh o 0 7) : zRun 101 13 L (.ref o :: S) sh mi mj mr = zRun 101 16 L (va_rf (mr o 3) :: S) sh mi mj mr := zr_getR (zD_of zk_101 d_101_13 rfl rfl) rfl rfl rfl h
theorem q_101_16 : zRun 101 16 [l0, some (.int x)] S sh mi mj mr = zRun 101 17 [l0, some (.int x)] (.int x :: S) sh mi mj mr := zr_l (zD_of zk_101 d_101_16 rfl rfl) rfl rfl rfl
theorem q_101_17t7 (h : zAt sh o 7 x) : zRun 101 17 L (.int x :: .ref o :: S) sh mi mj mr = zRun 101 18 L (va_rf (mr o x.toNatClampNeg) :: S) sh mi mj mr := zr_aald (zD_of zk_101 d_101_17 rfl rfl) (by decide) h
theorem q_101_17t10 (h : zAt sh o 10 x) : zRun 101 17 L (.int x :: .ref o :: S) sh mi mj mr = zRun 101 18 L (va_rf (mr o x.toNatClampNeg) :: S) sh mi mj mr := zr_aald (zD_of zk_101 d_101_17 rfl rfl) (by decide) h
theorem q_101_17t11 (h : zAt sh o 11 x) : zRun 101 17 L (.int x :: .ref o :: S) sh mi mj mr = zRun 101 18 L (va_rf (mr o x.toNatClampNeg) :: S) sh mi mj mr := zr_aald (zD_of zk_101 d_101_17 rfl rfl) (by decide) h
theorem q_101_18r : zRun 101 18 [some (.ref o), l1] S sh mi mj mr = zRun 101 19 [some (.ref o), l1] (.ref o :: S) sh mi mj mr := zr_l (zD_of zk_101 d_101_18 rfl rfl) rfl rfl rfl
theorem q_101_18n : zRun 101 18 [some (.null), l1] S sh mi mj mr = zRun 101 19 [some (.null), l1] (.null :: S) sh mi mj mr := zr_l (zD_of zk_101 d_101_18 rfl rfl) rfl rfl rfl
theorem q_101_19 (h : zIs sh o 0 7) : zRun 101 19 L (.ref o :: S) sh mi mj mr = zRun 101 22 L (va_rf (mr o 2) :: S) sh mi mj mr := zr_getR (zD_of zk_101 d_101_19 rfl rfl) rfl rfl rfl h
theorem q_101_22  {o0 : Nat} (hS : zcat S ≤ 8) (h : zIs sh o 0 5) : zRun 101 22 L (.ref o0 :: .ref o :: S) sh mi mj mr = (zCall 71 [.ref o, .ref o0] sh mi mj mr).bind fun r => zRun 101 25 L (r.1.toList ++ S) r.2.1 r.2.2.1 r.2.2.2.1 r.2.2.2.2 := zr_V (zD_of zk_101 d_101_22 rfl rfl) rfl zk_71 rfl rfl rfl hS h
theorem q_101_25r : zRun 101 25 [some (.ref o), l1] S sh mi mj mr = zRun 101 26 [some (.ref o), l1] (.ref o :: S) sh mi mj mr := zr_l (zD_of zk_101 d_101_25 rfl rfl) rfl rfl rfl
theorem q_101_25n : zRun 101 25 [some (.null), l1] S sh mi mj mr = zRun 101 26 [some (.null), l1] (.null :: S) sh mi mj mr := zr_l (zD_of zk_101 d_101_25 rfl rfl) rfl rfl rfl
theorem q_101_26 (h : zIs sh o 0 7) : zRun 101 26 L (.ref o :: S) sh mi mj mr = zRun 101 29 L (va_rf (mr o 4) :: S) sh mi mj mr := zr_getR (zD_of zk_101 d_101_26 rfl rfl) rfl rfl rfl h
theorem q_101_29 : zRun 101 29 [l0, some (.int x)] S sh mi mj mr = zRun 101 30 [l0, some (.int x)] (.int x :: S) sh mi mj mr := zr_l (zD_of zk_101 d_101_29 rfl rfl) rfl rfl rfl
theorem q_101_30  : zRun 101 30 L S sh mi mj mr = zRun 101 31 L (.int 1 :: S) sh mi mj mr := zr_p (zD_of zk_101 d_101_30 rfl rfl) rfl
theorem q_101_31 (h : zAt sh o 4 x) : zRun 101 31 L (.int y :: .int x :: .ref o :: S) sh mi mj mr = zRun 101 32 L S sh (zup mi o x.toNatClampNeg (vp_nar .boolean y)) mj mr := zr_bast (zD_of zk_101 d_101_31 rfl rfl) h
theorem q_101_32r : zRun 101 32 [some (.ref o), l1] S sh mi mj mr = zRun 101 33 [some (.ref o), l1] (.ref o :: S) sh mi mj mr := zr_l (zD_of zk_101 d_101_32 rfl rfl) rfl rfl rfl
theorem q_101_32n : zRun 101 32 [some (.null), l1] S sh mi mj mr = zRun 101 33 [some (.null), l1] (.null :: S) sh mi mj mr := zr_l (zD_of zk_101 d_101_32 rfl rfl) rfl rfl rfl
theorem q_101_33 (h : zIs sh o 0 7) : zRun 101 33 L (.ref o :: S) sh mi mj mr = zRun 101 36 L (va_rf (mr o 2) :: S) sh mi mj mr := zr_getR (zD_of zk_101 d_101_33 rfl rfl) rfl rfl rfl h
theorem q_101_36  (hS : zcat S ≤ 8) (h : zIs sh o 0 5) : zRun 101 36 L (.ref o :: S) sh mi mj mr = (zCall 72 [.ref o] sh mi mj mr).bind fun r => zRun 101 39 L (r.1.toList ++ S) r.2.1 r.2.2.1 r.2.2.2.1 r.2.2.2.2 := zr_V (zD_of zk_101 d_101_36 rfl rfl) rfl zk_72 rfl rfl rfl hS h
theorem q_101_39  : zRun 101 39 L ([.int x]) sh mi mj mr = some (some (.int x), sh, mi, mj, mr) := zr_ret (zD_of zk_101 d_101_39 rfl rfl) rfl rfl rfl rfl rfl (if_pos rfl)
theorem e_101 {x0 : Int32} : zCall 101 [.ref o, .int x0] sh mi mj mr = zRun 101 0 [some (.ref o), some (.int x0)] [] sh mi mj mr := rfl
theorem d_102_0 : decode cX7_restore 0 = .ok (.iload_n 1, 1) := by decide +kernel
theorem d_102_1 : decode cX7_restore 1 = .ok (.ifCond .lt 8, 3) := by decide +kernel
theorem d_102_4 : decode cX7_restore 4 = .ok (.iload_n 1, 1) := by decide +kernel
theorem d_102_5 : decode cX7_restore 5 = .ok (.iconst 2, 1) := by decide +kernel
theorem d_102_6 : decode cX7_restore 6 = .ok (.if_icmp .lt 6, 3) := by decide +kernel
theorem d_102_9 : decode cX7_restore 9 = .ok (.bipush (-2), 2) := by decide +kernel
theorem d_102_11 : decode cX7_restore 11 = .ok (.ireturn, 1) := by decide +kernel
theorem d_102_12 : decode cX7_restore 12 = .ok (.aload_n 0, 1) := by decide +kernel
theorem d_102_13 : decode cX7_restore 13 = .ok (.getfield 28, 3) := by decide +kernel
theorem d_102_16 : decode cX7_restore 16 = .ok (.iload_n 1, 1) := by decide +kernel
theorem d_102_17 : decode cX7_restore 17 = .ok (.baload, 1) := by decide +kernel
theorem d_102_18 : decode cX7_restore 18 = .ok (.ifCond .ne 6, 3) := by decide +kernel
theorem d_102_21 : decode cX7_restore 21 = .ok (.bipush (-5), 2) := by decide +kernel
theorem d_102_23 : decode cX7_restore 23 = .ok (.ireturn, 1) := by decide +kernel
theorem d_102_24 : decode cX7_restore 24 = .ok (.aload_n 0, 1) := by decide +kernel
theorem d_102_25 : decode cX7_restore 25 = .ok (.getfield 20, 3) := by decide +kernel
theorem d_102_28 : decode cX7_restore 28 = .ok (.aload_n 0, 1) := by decide +kernel
theorem d_102_29 : decode cX7_restore 29 = .ok (.getfield 24, 3) := by decide +kernel
theorem d_102_32 : decode cX7_restore 32 = .ok (.iload_n 1, 1) := by decide +kernel
theorem d_102_33 : decode cX7_restore 33 = .ok (.aaload, 1) := by decide +kernel
theorem d_102_34 : decode cX7_restore 34 = .ok (.invokevirtual 251, 3) := by decide +kernel
theorem d_102_37 : decode cX7_restore 37 = .ok (.aload_n 0, 1) := by decide +kernel
theorem d_102_38 : decode cX7_restore 38 = .ok (.getfield 20, 3) := by decide +kernel
theorem d_102_41 : decode cX7_restore 41 = .ok (.invokevirtual 245, 3) := by decide +kernel
theorem d_102_44 : decode cX7_restore 44 = .ok (.ireturn, 1) := by decide +kernel
theorem q_102_0 : zRun 102 0 [l0, some (.int x)] S sh mi mj mr = zRun 102 1 [l0, some (.int x)] (.int x :: S) sh mi mj mr := zr_l (zD_of zk_102 d_102_0 rfl rfl) rfl rfl rfl
theorem q_102_1  : zRun 102 1 L (.int x :: S) sh mi mj mr = if x < 0 then zRun 102 9 L S sh mi mj mr else zRun 102 4 L S sh mi mj mr := zr_if (off := 8) (P := x < 0) (zD_of zk_102 d_102_1 rfl rfl) rfl rfl (by decide)
theorem q_102_4 : zRun 102 4 [l0, some (.int x)] S sh mi mj mr = zRun 102 5 [l0, some (.int x)] (.int x :: S) sh mi mj mr := zr_l (zD_of zk_102 d_102_4 rfl rfl) rfl rfl rfl
theorem q_102_5  : zRun 102 5 L S sh mi mj mr = zRun 102 6 L (.int 2 :: S) sh mi mj mr := zr_p (zD_of zk_102 d_102_5 rfl rfl) rfl
theorem q_102_6  : zRun 102 6 L (.int y :: .int x :: S) sh mi mj mr = if x < y then zRun 102 12 L S sh mi mj mr else zRun 102 9 L S sh mi mj mr := zr_if (off := 6) (P := x < y) (zD_of zk_102 d_102_6 rfl rfl) rfl rfl (by decide)
theorem q_102_9  : zRun 102 9 L S sh mi mj mr = zRun 102 11 L (.int (-2) :: S) sh mi mj mr := zr_p (zD_of zk_102 d_102_9 rfl rfl) rfl
theorem q_102_11  : zRun 102 11 L ([.int x]) sh mi mj mr = some (some (.int x), sh, mi, mj, mr) := zr_ret (zD_of zk_102 d_102_11 rfl rfl) rfl rfl rfl rfl rfl (if_pos rfl)
theorem q_102_12r : zRun 102 12 [some (.ref o), l1] S sh mi mj mr = zRun 102 13 [some (.ref o), l1] (.ref o :: S) sh mi mj mr := zr_l (zD_of zk_102 d_102_12 rfl rfl) rfl rfl rfl
theorem q_102_12n : zRun 102 12 [some (.null), l1] S sh mi mj mr = zRun 102 13 [some (.null), l1] (.null :: S) sh mi mj mr := zr_l (zD_of zk_102 d_102_12 rfl rfl) rfl rfl rfl
theorem q_102_13 (h : zIs sh o 0 7) : zRun 102 13 L (.ref o :: S) sh mi mj mr = zRun 102 16 L (va_rf (mr o 4) :: S) sh mi mj mr := zr_getR (zD_of zk_102 d_102_13 rfl rfl) rfl rfl rfl h
theorem q_102_16 : zRun 102 16 [l0, some (.int x)] S sh mi mj mr = zRun 102 17 [l0, some (.int x)] (.int x :: S) sh mi mj mr := zr_l (zD_of zk_102 d_102_16 rfl rfl) rfl rfl rfl
theorem q_102_17 (h : zAt sh o 4 x) : zRun 102 17 L (.int x :: .ref o :: S) sh mi mj mr = zRun 102 18 L (.int (mi o x.toNatClampNeg) :: S) sh mi mj mr := zr_bald (zD_of zk_102 d_102_17 rfl rfl) h
theorem q_102_18  : zRun 102 18 L (.int x :: S) sh mi mj mr = if ¬ x = 0 then zRun 102 24 L S sh mi mj mr else zRun 102 21 L S sh mi mj mr := zr_if (off := 6) (P := ¬ x = 0) (zD_of zk_102 d_102_18 rfl rfl) rfl rfl (by decide)
theorem q_102_21  : zRun 102 21 L S sh mi mj mr = zRun 102 23 L (.int (-5) :: S) sh mi mj mr := zr_p (zD_of zk_102 d_102_21 rfl rfl) rfl
theorem q_102_23  : zRun 102 23 L ([.int x]) sh mi mj mr = some (some (.int x), sh, mi, mj, mr) := zr_ret (zD_of zk_102 d_102_23 rfl rfl) rfl rfl rfl rfl rfl (if_pos rfl)
theorem q_102_24r : zRun 102 24 [some (.ref o), l1] S sh mi mj mr = zRun 102 25 [some (.ref o), l1] (.ref o :: S) sh mi mj mr := zr_l (zD_of zk_102 d_102_24 rfl rfl) rfl rfl rfl
theorem q_102_24n : zRun 102 24 [some (.null), l1] S sh mi mj mr = zRun 102 25 [some (.null), l1] (.null :: S) sh mi mj mr := zr_l (zD_of zk_102 d_102_24 rfl rfl) rfl rfl rfl
theorem q_102_25 (h : zIs sh o 0 7) : zRun 102 25 L (.ref o :: S) sh mi mj mr = zRun 102 28 L (va_rf (mr o 2) :: S) sh mi mj mr := zr_getR (zD_of zk_102 d_102_25 rfl rfl) rfl rfl rfl h
theorem q_102_28r : zRun 102 28 [some (.ref o), l1] S sh mi mj mr = zRun 102 29 [some (.ref o), l1] (.ref o :: S) sh mi mj mr := zr_l (zD_of zk_102 d_102_28 rfl rfl) rfl rfl rfl
theorem q_102_28n : zRun 102 28 [some (.null), l1] S sh mi mj mr = zRun 102 29 [some (.null), l1] (.null :: S) sh mi mj mr := zr_l (zD_of zk_102 d_102_28 rfl rfl) rfl rfl rfl
theorem q_102_29 (h : zIs sh o 0 7) : zRun 102 29 L (.ref o :: S) sh mi mj mr = zRun 102 32 L (va_rf (mr o 3) :: S) sh mi mj mr := zr_getR (zD_of zk_102 d_102_29 rfl rfl) rfl rfl rfl h
theorem q_102_32 : zRun 102 32 [l0, some (.int x)] S sh mi mj mr = zRun 102 33 [l0, some (.int x)] (.int x :: S) sh mi mj mr := zr_l (zD_of zk_102 d_102_32 rfl rfl) rfl rfl rfl
theorem q_102_33t7 (h : zAt sh o 7 x) : zRun 102 33 L (.int x :: .ref o :: S) sh mi mj mr = zRun 102 34 L (va_rf (mr o x.toNatClampNeg) :: S) sh mi mj mr := zr_aald (zD_of zk_102 d_102_33 rfl rfl) (by decide) h
theorem q_102_33t10 (h : zAt sh o 10 x) : zRun 102 33 L (.int x :: .ref o :: S) sh mi mj mr = zRun 102 34 L (va_rf (mr o x.toNatClampNeg) :: S) sh mi mj mr := zr_aald (zD_of zk_102 d_102_33 rfl rfl) (by decide) h
theorem q_102_33t11 (h : zAt sh o 11 x) : zRun 102 33 L (.int x :: .ref o :: S) sh mi mj mr = zRun 102 34 L (va_rf (mr o x.toNatClampNeg) :: S) sh mi mj mr := zr_aald (zD_of zk_102 d_102_33 rfl rfl) (by decide) h
theorem q_102_34  {o0 : Nat} (hS : zcat S ≤ 8) (h : zIs sh o 0 5) : zRun 102 34 L (.ref o0 :: .ref o :: S) sh mi mj mr = (zCall 71 [.ref o, .ref o0] sh mi mj mr).bind fun r => zRun 102 37 L (r.1.toList ++ S) r.2.1 r.2.2.1 r.2.2.2.1 r.2.2.2.2 := zr_V (zD_of zk_102 d_102_34 rfl rfl) rfl zk_71 rfl rfl rfl hS h
theorem q_102_37r : zRun 102 37 [some (.ref o), l1] S sh mi mj mr = zRun 102 38 [some (.ref o), l1] (.ref o :: S) sh mi mj mr := zr_l (zD_of zk_102 d_102_37 rfl rfl) rfl rfl rfl
theorem q_102_37n : zRun 102 37 [some (.null), l1] S sh mi mj mr = zRun 102 38 [some (.null), l1] (.null :: S) sh mi mj mr := zr_l (zD_of zk_102 d_102_37 rfl rfl) rfl rfl rfl
theorem q_102_38 (h : zIs sh o 0 7) : zRun 102 38 L (.ref o :: S) sh mi mj mr = zRun 102 41 L (va_rf (mr o 2) :: S) sh mi mj mr := zr_getR (zD_of zk_102 d_102_38 rfl rfl) rfl rfl rfl h
theorem q_102_41  (hS : zcat S ≤ 8) (h : zIs sh o 0 5) : zRun 102 41 L (.ref o :: S) sh mi mj mr = (zCall 72 [.ref o] sh mi mj mr).bind fun r => zRun 102 44 L (r.1.toList ++ S) r.2.1 r.2.2.1 r.2.2.2.1 r.2.2.2.2 := zr_V (zD_of zk_102 d_102_41 rfl rfl) rfl zk_72 rfl rfl rfl hS h
theorem q_102_44  : zRun 102 44 L ([.int x]) sh mi mj mr = some (some (.int x), sh, mi, mj, mr) := zr_ret (zD_of zk_102 d_102_44 rfl rfl) rfl rfl rfl rfl rfl (if_pos rfl)
theorem e_102 {x0 : Int32} : zCall 102 [.ref o, .int x0] sh mi mj mr = zRun 102 0 [some (.ref o), some (.int x0)] [] sh mi mj mr := rfl
theorem d_103_0 : decode cX7_find 0 = .ok (.iload_n 1, 1) := by decide +kernel
theorem d_103_1 : decode cX7_find 1 = .ok (.ifCond .lt 8, 3) := by decide +kernel
theorem d_103_4 : decode cX7_find 4 = .ok (.iload_n 1, 1) := by decide +kernel
theorem d_103_5 : decode cX7_find 5 = .ok (.iconst 4, 1) := by decide +kernel
theorem d_103_6 : decode cX7_find 6 = .ok (.if_icmp .lt 5, 3) := by decide +kernel
theorem d_103_9 : decode cX7_find 9 = .ok (.aconst_null, 1) := by decide +kernel
theorem d_103_10 : decode cX7_find 10 = .ok (.areturn, 1) := by decide +kernel
theorem d_103_11 : decode cX7_find 11 = .ok (.aload_n 0, 1) := by decide +kernel
theorem d_103_12 : decode cX7_find 12 = .ok (.getfield 20, 3) := by decide +kernel
theorem d_103_15 : decode cX7_find 15 = .ok (.getfield 107, 3) := by decide +kernel
theorem d_103_18 : decode cX7_find 18 = .ok (.iload_n 1, 1) := by decide +kernel
theorem d_103_19 : decode cX7_find 19 = .ok (.aaload, 1) := by decide +kernel
theorem d_103_20 : decode cX7_find 20 = .ok (.astore_n 2, 1) := by decide +kernel
theorem d_103_21 : decode cX7_find 21 = .ok (.aload_n 2, 1) := by decide +kernel
theorem d_103_22 : decode cX7_find 22 = .ok (.getfield 121, 3) := by decide +kernel
theorem d_103_25 : decode cX7_find 25 = .ok (.ifCond .le 7, 3) := by decide +kernel
theorem d_103_28 : decode cX7_find 28 = .ok (.aload_n 2, 1) := by decide +kernel
theorem d_103_29 : decode cX7_find 29 = .ok (.goto 4, 3) := by decide +kernel
theorem d_103_32 : decode cX7_find 32 = .ok (.aconst_null, 1) := by decide +kernel
theorem d_103_33 : decode cX7_find 33 = .ok (.areturn, 1) := by decide +kernel
theorem q_103_0 : zRun 103 0 [l0, some (.int x), l2] S sh mi mj mr = zRun 103 1 [l0, some (.int x), l2] (.int x :: S) sh mi mj mr := zr_l (zD_of zk_103 d_103_0 rfl rfl) rfl rfl rfl
theorem q_103_1  : zRun 103 1 L (.int x :: S) sh mi mj mr = if x < 0 then zRun 103 9 L S sh mi mj mr else zRun 103 4 L S sh mi mj mr := zr_if (off := 8) (P := x < 0) (zD_of zk_103 d_103_1 rfl rfl) rfl rfl (by decide)
theorem q_103_4 : zRun 103 4 [l0, some (.int x), l2] S sh mi mj mr = zRun 103 5 [l0, some (.int x), l2] (.int x :: S) sh mi mj mr := zr_l (zD_of zk_103 d_103_4 rfl rfl) rfl rfl rfl
theorem q_103_5  : zRun 103 5 L S sh mi mj mr = zRun 103 6 L (.int 4 :: S) sh mi mj mr := zr_p (zD_of zk_103 d_103_5 rfl rfl) rfl
theorem q_103_6  : zRun 103 6 L (.int y :: .int x :: S) sh mi mj mr = if x < y then zRun 103 11 L S sh mi mj mr else zRun 103 9 L S sh mi mj mr := zr_if (off := 5) (P := x < y) (zD_of zk_103 d_103_6 rfl rfl) rfl rfl (by decide)
theorem q_103_9  : zRun 103 9 L S sh mi mj mr = zRun 103 10 L (.null :: S) sh mi mj mr := zr_p (zD_of zk_103 d_103_9 rfl rfl) rfl
theorem q_103_10r : zRun 103 10 L ([.ref o]) sh mi mj mr = some (some (.ref o), sh, mi, mj, mr) := zr_ret (zD_of zk_103 d_103_10 rfl rfl) rfl rfl rfl rfl rfl rfl
theorem q_103_10n : zRun 103 10 L [.null] sh mi mj mr = some (some (.null), sh, mi, mj, mr) := zr_ret (zD_of zk_103 d_103_10 rfl rfl) rfl rfl rfl rfl rfl rfl
theorem q_103_11r : zRun 103 11 [some (.ref o), l1, l2] S sh mi mj mr = zRun 103 12 [some (.ref o), l1, l2] (.ref o :: S) sh mi mj mr := zr_l (zD_of zk_103 d_103_11 rfl rfl) rfl rfl rfl
theorem q_103_11n : zRun 103 11 [some (.null), l1, l2] S sh mi mj mr = zRun 103 12 [some (.null), l1, l2] (.null :: S) sh mi mj mr := zr_l (zD_of zk_103 d_103_11 rfl rfl) rfl rfl rfl
theorem q_103_12 (h : zIs sh o 0 7) : zRun 103 12 L (.ref o :: S) sh mi mj mr = zRun 103 15 L (va_rf (mr o 2) :: S) sh mi mj mr := zr_getR (zD_of zk_103 d_103_12 rfl rfl) rfl rfl rfl h
theorem q_103_15 (h : zIs sh o 0 5) : zRun 103 15 L (.ref o :: S) sh mi mj mr = zRun 103 18 L (va_rf (mr o 1) :: S) sh mi mj mr := zr_getR (zD_of zk_103 d_103_15 rfl rfl) rfl rfl rfl h
theorem q_103_18 : zRun 103 18 [l0, some (.int x), l2] S sh mi mj mr = zRun 103 19 [l0, some (.int x), l2] (.int x :: S) sh mi mj mr := zr_l (zD_of zk_103 d_103_18 rfl rfl) rfl rfl rfl
theorem q_103_19t7 (h : zAt sh o 7 x) : zRun 103 19 L (.int x :: .ref o :: S) sh mi mj mr = zRun 103 20 L (va_rf (mr o x.toNatClampNeg) :: S) sh mi mj mr := zr_aald (zD_of zk_103 d_103_19 rfl rfl) (by decide) h
theorem q_103_19t10 (h : zAt sh o 10 x) : zRun 103 19 L (.int x :: .ref o :: S) sh mi mj mr = zRun 103 20 L (va_rf (mr o x.toNatClampNeg) :: S) sh mi mj mr := zr_aald (zD_of zk_103 d_103_19 rfl rfl) (by decide) h
theorem q_103_19t11 (h : zAt sh o 11 x) : zRun 103 19 L (.int x :: .ref o :: S) sh mi mj mr = zRun 103 20 L (va_rf (mr o x.toNatClampNeg) :: S) sh mi mj mr := zr_aald (zD_of zk_103 d_103_19 rfl rfl) (by decide) h
theorem q_103_20r : zRun 103 20 [l0, l1, l2] (.ref o :: S) sh mi mj mr = zRun 103 21 [l0, zk2 l1, some (.ref o)] S sh mi mj mr := zr_s1 (i := 2) (v := .ref o) (L := [l0, l1, l2]) (zD_of zk_103 d_103_20 rfl rfl) rfl rfl rfl rfl
theorem q_103_20n : zRun 103 20 [l0, l1, l2] (.null :: S) sh mi mj mr = zRun 103 21 [l0, zk2 l1, some (.null)] S sh mi mj mr := zr_s1 (i := 2) (v := .null) (L := [l0, l1, l2]) (zD_of zk_103 d_103_20 rfl rfl) rfl rfl rfl rfl
theorem q_103_21r : zRun 103 21 [l0, l1, some (.ref o)] S sh mi mj mr = zRun 103 22 [l0, l1, some (.ref o)] (.ref o :: S) sh mi mj mr := zr_l (zD_of zk_103 d_103_21 rfl rfl) rfl rfl rfl
theorem q_103_21n : zRun 103 21 [l0, l1, some (.null)] S sh mi mj mr = zRun 103 22 [l0, l1, some (.null)] (.null :: S) sh mi mj mr := zr_l (zD_of zk_103 d_103_21 rfl rfl) rfl rfl rfl
theorem q_103_22 (h : zIs sh o 0 6) : zRun 103 22 L (.ref o :: S) sh mi mj mr = zRun 103 25 L (.int (mi o 2) :: S) sh mi mj mr := zr_getI (zD_of zk_103 d_103_22 rfl rfl) rfl rfl (Or.inl rfl) h
theorem q_103_25  : zRun 103 25 L (.int x :: S) sh mi mj mr = if x ≤ 0 then zRun 103 32 L S sh mi mj mr else zRun 103 28 L S sh mi mj mr := zr_if (off := 7) (P := x ≤ 0) (zD_of zk_103 d_103_25 rfl rfl) rfl rfl (by decide)
theorem q_103_28r : zRun 103 28 [l0, l1, some (.ref o)] S sh mi mj mr = zRun 103 29 [l0, l1, some (.ref o)] (.ref o :: S) sh mi mj mr := zr_l (zD_of zk_103 d_103_28 rfl rfl) rfl rfl rfl
theorem q_103_28n : zRun 103 28 [l0, l1, some (.null)] S sh mi mj mr = zRun 103 29 [l0, l1, some (.null)] (.null :: S) sh mi mj mr := zr_l (zD_of zk_103 d_103_28 rfl rfl) rfl rfl rfl
theorem q_103_29  : zRun 103 29 L S sh mi mj mr = zRun 103 33 L S sh mi mj mr := zr_go (off := 4) (zD_of zk_103 d_103_29 rfl rfl) rfl rfl (by decide)
theorem q_103_32  : zRun 103 32 L S sh mi mj mr = zRun 103 33 L (.null :: S) sh mi mj mr := zr_p (zD_of zk_103 d_103_32 rfl rfl) rfl
theorem q_103_33r : zRun 103 33 L ([.ref o]) sh mi mj mr = some (some (.ref o), sh, mi, mj, mr) := zr_ret (zD_of zk_103 d_103_33 rfl rfl) rfl rfl rfl rfl rfl rfl
theorem q_103_33n : zRun 103 33 L [.null] sh mi mj mr = some (some (.null), sh, mi, mj, mr) := zr_ret (zD_of zk_103 d_103_33 rfl rfl) rfl rfl rfl rfl rfl rfl
theorem e_103 {x0 : Int32} : zCall 103 [.ref o, .int x0] sh mi mj mr = zRun 103 0 [some (.ref o), some (.int x0), none] [] sh mi mj mr := rfl
theorem d_104_0 : decode cX7_isMiddleAtMost 0 = .ok (.iconst 0, 1) := by decide +kernel
theorem d_104_1 : decode cX7_isMiddleAtMost 1 = .ok (.istore 4, 2) := by decide +kernel
theorem d_104_3 : decode cX7_isMiddleAtMost 3 = .ok (.iload 4, 2) := by decide +kernel
theorem d_104_5 : decode cX7_isMiddleAtMost 5 = .ok (.iconst 4, 1) := by decide +kernel
theorem d_104_6 : decode cX7_isMiddleAtMost 6 = .ok (.if_icmp .ge 30, 3) := by decide +kernel
theorem d_104_9 : decode cX7_isMiddleAtMost 9 = .ok (.aload_n 2, 1) := by decide +kernel
theorem d_104_10 : decode cX7_isMiddleAtMost 10 = .ok (.iload 4, 2) := by decide +kernel
theorem d_104_12 : decode cX7_isMiddleAtMost 12 = .ok (.invokevirtual 254, 3) := by decide +kernel
theorem d_104_15 : decode cX7_isMiddleAtMost 15 = .ok (.istore 5, 2) := by decide +kernel
theorem d_104_17 : decode cX7_isMiddleAtMost 17 = .ok (.aload_n 0, 1) := by decide +kernel
theorem d_104_18 : decode cX7_isMiddleAtMost 18 = .ok (.getfield 63, 3) := by decide +kernel
theorem d_104_21 : decode cX7_isMiddleAtMost 21 = .ok (.iload 4, 2) := by decide +kernel
theorem d_104_23 : decode cX7_isMiddleAtMost 23 = .ok (.iload 5, 2) := by decide +kernel
theorem d_104_25 : decode cX7_isMiddleAtMost 25 = .ok (.iload 5, 2) := by decide +kernel
theorem d_104_27 : decode cX7_isMiddleAtMost 27 = .ok (.invokevirtual 85, 3) := by decide +kernel
theorem d_104_30 : decode cX7_isMiddleAtMost 30 = .ok (.iinc 4 1, 3) := by decide +kernel
theorem d_104_33 : decode cX7_isMiddleAtMost 33 = .ok (.goto (-30), 3) := by decide +kernel
theorem d_104_36 : decode cX7_isMiddleAtMost 36 = .ok (.aload_n 0, 1) := by decide +kernel
theorem d_104_37 : decode cX7_isMiddleAtMost 37 = .ok (.getfield 42, 3) := by decide +kernel
theorem d_104_40 : decode cX7_isMiddleAtMost 40 = .ok (.aload_n 1, 1) := by decide +kernel
theorem d_104_41 : decode cX7_isMiddleAtMost 41 = .ok (.aload_n 1, 1) := by decide +kernel
theorem d_104_42 : decode cX7_isMiddleAtMost 42 = .ok (.getfield 121, 3) := by decide +kernel
theorem d_104_45 : decode cX7_isMiddleAtMost 45 = .ok (.aload_n 0, 1) := by decide +kernel
theorem d_104_46 : decode cX7_isMiddleAtMost 46 = .ok (.getfield 63, 3) := by decide +kernel
theorem d_104_49 : decode cX7_isMiddleAtMost 49 = .ok (.aload_n 0, 1) := by decide +kernel
theorem d_104_50 : decode cX7_isMiddleAtMost 50 = .ok (.getfield 20, 3) := by decide +kernel
theorem d_104_53 : decode cX7_isMiddleAtMost 53 = .ok (.getfield 100, 3) := by decide +kernel
theorem d_104_56 : decode cX7_isMiddleAtMost 56 = .ok (.invokevirtual 134, 3) := by decide +kernel
theorem d_104_59 : decode cX7_isMiddleAtMost 59 = .ok (.astore 4, 2) := by decide +kernel
theorem d_104_61 : decode cX7_isMiddleAtMost 61 = .ok (.aload 4, 2) := by decide +kernel
theorem d_104_63 : decode cX7_isMiddleAtMost 63 = .ok (.getfield 138, 3) := by decide +kernel
theorem d_104_66 : decode cX7_isMiddleAtMost 66 = .ok (.ifCond .ne 18, 3) := by decide +kernel
theorem d_104_69 : decode cX7_isMiddleAtMost 69 = .ok (.aload 4, 2) := by decide +kernel
theorem d_104_71 : decode cX7_isMiddleAtMost 71 = .ok (.getfield 188, 3) := by decide +kernel
theorem d_104_74 : decode cX7_isMiddleAtMost 74 = .ok (.iload_n 3, 1) := by decide +kernel
theorem d_104_75 : decode cX7_isMiddleAtMost 75 = .ok (.i2l, 1) := by decide +kernel
theorem d_104_76 : decode cX7_isMiddleAtMost 76 = .ok (.lcmp, 1) := by decide +kernel
theorem d_104_77 : decode cX7_isMiddleAtMost 77 = .ok (.ifCond .gt 7, 3) := by decide +kernel
theorem d_104_80 : decode cX7_isMiddleAtMost 80 = .ok (.iconst 1, 1) := by decide +kernel
theorem d_104_81 : decode cX7_isMiddleAtMost 81 = .ok (.goto 4, 3) := by decide +kernel
theorem d_104_84 : decode cX7_isMiddleAtMost 84 = .ok (.iconst 0, 1) := by decide +kernel
theorem d_104_85 : decode cX7_isMiddleAtMost 85 = .ok (.ireturn, 1) := by decide +kernel
theorem q_104_0  : zRun 104 0 L S sh mi mj mr = zRun 104 1 L (.int 0 :: S) sh mi mj mr := zr_p (zD_of zk_104 d_104_0 rfl rfl) rfl
theorem q_104_1 : zRun 104 1 [l0, l1, l2, l3, l4, l5] (.int x :: S) sh mi mj mr = zRun 104 3 [l0, l1, l2, zk2 l3, some (.int x), l5] S sh mi mj mr := zr_s1 (i := 4) (v := .int x) (L := [l0, l1, l2, l3, l4, l5]) (zD_of zk_104 d_104_1 rfl rfl) rfl rfl rfl rfl
theorem q_104_3 : zRun 104 3 [l0, l1, l2, l3, some (.int x), l5] S sh mi mj mr = zRun 104 5 [l0, l1, l2, l3, some (.int x), l5] (.int x :: S) sh mi mj mr := zr_l (zD_of zk_104 d_104_3 rfl rfl) rfl rfl rfl
theorem q_104_5  : zRun 104 5 L S sh mi mj mr = zRun 104 6 L (.int 4 :: S) sh mi mj mr := zr_p (zD_of zk_104 d_104_5 rfl rfl) rfl
theorem q_104_6  : zRun 104 6 L (.int y :: .int x :: S) sh mi mj mr = if y ≤ x then zRun 104 36 L S sh mi mj mr else zRun 104 9 L S sh mi mj mr := zr_if (off := 30) (P := y ≤ x) (zD_of zk_104 d_104_6 rfl rfl) rfl rfl (by decide)
theorem q_104_9r : zRun 104 9 [l0, l1, some (.ref o), l3, l4, l5] S sh mi mj mr = zRun 104 10 [l0, l1, some (.ref o), l3, l4, l5] (.ref o :: S) sh mi mj mr := zr_l (zD_of zk_104 d_104_9 rfl rfl) rfl rfl rfl
theorem q_104_9n : zRun 104 9 [l0, l1, some (.null), l3, l4, l5] S sh mi mj mr = zRun 104 10 [l0, l1, some (.null), l3, l4, l5] (.null :: S) sh mi mj mr := zr_l (zD_of zk_104 d_104_9 rfl rfl) rfl rfl rfl
theorem q_104_10 : zRun 104 10 [l0, l1, l2, l3, some (.int x), l5] S sh mi mj mr = zRun 104 12 [l0, l1, l2, l3, some (.int x), l5] (.int x :: S) sh mi mj mr := zr_l (zD_of zk_104 d_104_10 rfl rfl) rfl rfl rfl
theorem q_104_12  {x0 : Int32} (hS : zcat S ≤ 8) (h : zIs sh o 0 0) : zRun 104 12 L (.int x0 :: .ref o :: S) sh mi mj mr = (zCall 5 [.ref o, .int x0] sh mi mj mr).bind fun r => zRun 104 15 L (r.1.toList ++ S) r.2.1 r.2.2.1 r.2.2.2.1 r.2.2.2.2 := zr_V (zD_of zk_104 d_104_12 rfl rfl) rfl zk_5 rfl rfl rfl hS h
theorem q_104_15 : zRun 104 15 [l0, l1, l2, l3, l4, l5] (.int x :: S) sh mi mj mr = zRun 104 17 [l0, l1, l2, l3, zk2 l4, some (.int x)] S sh mi mj mr := zr_s1 (i := 5) (v := .int x) (L := [l0, l1, l2, l3, l4, l5]) (zD_of zk_104 d_104_15 rfl rfl) rfl rfl rfl rfl
theorem q_104_17r : zRun 104 17 [some (.ref o), l1, l2, l3, l4, l5] S sh mi mj mr = zRun 104 18 [some (.ref o), l1, l2, l3, l4, l5] (.ref o :: S) sh mi mj mr := zr_l (zD_of zk_104 d_104_17 rfl rfl) rfl rfl rfl
theorem q_104_17n : zRun 104 17 [some (.null), l1, l2, l3, l4, l5] S sh mi mj mr = zRun 104 18 [some (.null), l1, l2, l3, l4, l5] (.null :: S) sh mi mj mr := zr_l (zD_of zk_104 d_104_17 rfl rfl) rfl rfl rfl
theorem q_104_18 (h : zIs sh o 0 7) : zRun 104 18 L (.ref o :: S) sh mi mj mr = zRun 104 21 L (va_rf (mr o 10) :: S) sh mi mj mr := zr_getR (zD_of zk_104 d_104_18 rfl rfl) rfl rfl rfl h
theorem q_104_21 : zRun 104 21 [l0, l1, l2, l3, some (.int x), l5] S sh mi mj mr = zRun 104 23 [l0, l1, l2, l3, some (.int x), l5] (.int x :: S) sh mi mj mr := zr_l (zD_of zk_104 d_104_21 rfl rfl) rfl rfl rfl
theorem q_104_23 : zRun 104 23 [l0, l1, l2, l3, l4, some (.int x)] S sh mi mj mr = zRun 104 25 [l0, l1, l2, l3, l4, some (.int x)] (.int x :: S) sh mi mj mr := zr_l (zD_of zk_104 d_104_23 rfl rfl) rfl rfl rfl
theorem q_104_25 : zRun 104 25 [l0, l1, l2, l3, l4, some (.int x)] S sh mi mj mr = zRun 104 27 [l0, l1, l2, l3, l4, some (.int x)] (.int x :: S) sh mi mj mr := zr_l (zD_of zk_104 d_104_25 rfl rfl) rfl rfl rfl
theorem q_104_27  {x0 x1 x2 : Int32} (hS : zcat S ≤ 8) (h : zIs sh o 0 0) : zRun 104 27 L (.int x2 :: .int x1 :: .int x0 :: .ref o :: S) sh mi mj mr = (zCall 2 [.ref o, .int x0, .int x1, .int x2] sh mi mj mr).bind fun r => zRun 104 30 L (r.1.toList ++ S) r.2.1 r.2.2.1 r.2.2.2.1 r.2.2.2.2 := zr_V (zD_of zk_104 d_104_27 rfl rfl) rfl zk_2 rfl rfl rfl hS h
theorem q_104_30  : zRun 104 30 [l0, l1, l2, l3, some (.int x), l5] S sh mi mj mr = zRun 104 33 [l0, l1, l2, zk2 l3, some (.int (x + 1)), l5] S sh mi mj mr := zr_s1 (i := 4) (v := .int (x + 1)) (L := [l0, l1, l2, l3, some (.int x), l5]) (zD_of zk_104 d_104_30 rfl rfl) rfl rfl rfl rfl
theorem q_104_33  : zRun 104 33 L S sh mi mj mr = zRun 104 3 L S sh mi mj mr := zr_go (off := (-30)) (zD_of zk_104 d_104_33 rfl rfl) rfl rfl (by decide)
theorem q_104_36r : zRun 104 36 [some (.ref o), l1, l2, l3, l4, l5] S sh mi mj mr = zRun 104 37 [some (.ref o), l1, l2, l3, l4, l5] (.ref o :: S) sh mi mj mr := zr_l (zD_of zk_104 d_104_36 rfl rfl) rfl rfl rfl
theorem q_104_36n : zRun 104 36 [some (.null), l1, l2, l3, l4, l5] S sh mi mj mr = zRun 104 37 [some (.null), l1, l2, l3, l4, l5] (.null :: S) sh mi mj mr := zr_l (zD_of zk_104 d_104_36 rfl rfl) rfl rfl rfl
theorem q_104_37 (h : zIs sh o 0 7) : zRun 104 37 L (.ref o :: S) sh mi mj mr = zRun 104 40 L (va_rf (mr o 6) :: S) sh mi mj mr := zr_getR (zD_of zk_104 d_104_37 rfl rfl) rfl rfl rfl h
theorem q_104_40r : zRun 104 40 [l0, some (.ref o), l2, l3, l4, l5] S sh mi mj mr = zRun 104 41 [l0, some (.ref o), l2, l3, l4, l5] (.ref o :: S) sh mi mj mr := zr_l (zD_of zk_104 d_104_40 rfl rfl) rfl rfl rfl
theorem q_104_40n : zRun 104 40 [l0, some (.null), l2, l3, l4, l5] S sh mi mj mr = zRun 104 41 [l0, some (.null), l2, l3, l4, l5] (.null :: S) sh mi mj mr := zr_l (zD_of zk_104 d_104_40 rfl rfl) rfl rfl rfl
theorem q_104_41r : zRun 104 41 [l0, some (.ref o), l2, l3, l4, l5] S sh mi mj mr = zRun 104 42 [l0, some (.ref o), l2, l3, l4, l5] (.ref o :: S) sh mi mj mr := zr_l (zD_of zk_104 d_104_41 rfl rfl) rfl rfl rfl
theorem q_104_41n : zRun 104 41 [l0, some (.null), l2, l3, l4, l5] S sh mi mj mr = zRun 104 42 [l0, some (.null), l2, l3, l4, l5] (.null :: S) sh mi mj mr := zr_l (zD_of zk_104 d_104_41 rfl rfl) rfl rfl rfl
theorem q_104_42 (h : zIs sh o 0 6) : zRun 104 42 L (.ref o :: S) sh mi mj mr = zRun 104 45 L (.int (mi o 2) :: S) sh mi mj mr := zr_getI (zD_of zk_104 d_104_42 rfl rfl) rfl rfl (Or.inl rfl) h
theorem q_104_45r : zRun 104 45 [some (.ref o), l1, l2, l3, l4, l5] S sh mi mj mr = zRun 104 46 [some (.ref o), l1, l2, l3, l4, l5] (.ref o :: S) sh mi mj mr := zr_l (zD_of zk_104 d_104_45 rfl rfl) rfl rfl rfl
theorem q_104_45n : zRun 104 45 [some (.null), l1, l2, l3, l4, l5] S sh mi mj mr = zRun 104 46 [some (.null), l1, l2, l3, l4, l5] (.null :: S) sh mi mj mr := zr_l (zD_of zk_104 d_104_45 rfl rfl) rfl rfl rfl
theorem q_104_46 (h : zIs sh o 0 7) : zRun 104 46 L (.ref o :: S) sh mi mj mr = zRun 104 49 L (va_rf (mr o 10) :: S) sh mi mj mr := zr_getR (zD_of zk_104 d_104_46 rfl rfl) rfl rfl rfl h
theorem q_104_49r : zRun 104 49 [some (.ref o), l1, l2, l3, l4, l5] S sh mi mj mr = zRun 104 50 [some (.ref o), l1, l2, l3, l4, l5] (.ref o :: S) sh mi mj mr := zr_l (zD_of zk_104 d_104_49 rfl rfl) rfl rfl rfl
theorem q_104_49n : zRun 104 49 [some (.null), l1, l2, l3, l4, l5] S sh mi mj mr = zRun 104 50 [some (.null), l1, l2, l3, l4, l5] (.null :: S) sh mi mj mr := zr_l (zD_of zk_104 d_104_49 rfl rfl) rfl rfl rfl
theorem q_104_50 (h : zIs sh o 0 7) : zRun 104 50 L (.ref o :: S) sh mi mj mr = zRun 104 53 L (va_rf (mr o 2) :: S) sh mi mj mr := zr_getR (zD_of zk_104 d_104_50 rfl rfl) rfl rfl rfl h
theorem q_104_53 (h : zIs sh o 0 5) : zRun 104 53 L (.ref o :: S) sh mi mj mr = zRun 104 56 L (.int (mi o 2) :: S) sh mi mj mr := zr_getI (zD_of zk_104 d_104_53 rfl rfl) rfl rfl (Or.inl rfl) h
theorem q_104_56  {x0 x1 : Int32} {o0 o1 : Nat} (hS : zcat S ≤ 8) (h : zIs sh o 0 3) : zRun 104 56 L (.int x1 :: .ref o1 :: .int x0 :: .ref o0 :: .ref o :: S) sh mi mj mr = (zCall 45 [.ref o, .ref o0, .int x0, .ref o1, .int x1] sh mi mj mr).bind fun r => zRun 104 59 L (r.1.toList ++ S) r.2.1 r.2.2.1 r.2.2.2.1 r.2.2.2.2 := zr_V (zD_of zk_104 d_104_56 rfl rfl) rfl zk_45 rfl rfl rfl hS h
theorem q_104_59r : zRun 104 59 [l0, l1, l2, l3, l4, l5] (.ref o :: S) sh mi mj mr = zRun 104 61 [l0, l1, l2, zk2 l3, some (.ref o), l5] S sh mi mj mr := zr_s1 (i := 4) (v := .ref o) (L := [l0, l1, l2, l3, l4, l5]) (zD_of zk_104 d_104_59 rfl rfl) rfl rfl rfl rfl
theorem q_104_59n : zRun 104 59 [l0, l1, l2, l3, l4, l5] (.null :: S) sh mi mj mr = zRun 104 61 [l0, l1, l2, zk2 l3, some (.null), l5] S sh mi mj mr := zr_s1 (i := 4) (v := .null) (L := [l0, l1, l2, l3, l4, l5]) (zD_of zk_104 d_104_59 rfl rfl) rfl rfl rfl rfl
theorem q_104_61r : zRun 104 61 [l0, l1, l2, l3, some (.ref o), l5] S sh mi mj mr = zRun 104 63 [l0, l1, l2, l3, some (.ref o), l5] (.ref o :: S) sh mi mj mr := zr_l (zD_of zk_104 d_104_61 rfl rfl) rfl rfl rfl
theorem q_104_61n : zRun 104 61 [l0, l1, l2, l3, some (.null), l5] S sh mi mj mr = zRun 104 63 [l0, l1, l2, l3, some (.null), l5] (.null :: S) sh mi mj mr := zr_l (zD_of zk_104 d_104_61 rfl rfl) rfl rfl rfl
theorem q_104_63 (h : zIs sh o 0 2) : zRun 104 63 L (.ref o :: S) sh mi mj mr = zRun 104 66 L (.int (mi o 0) :: S) sh mi mj mr := zr_getI (zD_of zk_104 d_104_63 rfl rfl) rfl rfl (Or.inl rfl) h
theorem q_104_66  : zRun 104 66 L (.int x :: S) sh mi mj mr = if ¬ x = 0 then zRun 104 84 L S sh mi mj mr else zRun 104 69 L S sh mi mj mr := zr_if (off := 18) (P := ¬ x = 0) (zD_of zk_104 d_104_66 rfl rfl) rfl rfl (by decide)
theorem q_104_69r : zRun 104 69 [l0, l1, l2, l3, some (.ref o), l5] S sh mi mj mr = zRun 104 71 [l0, l1, l2, l3, some (.ref o), l5] (.ref o :: S) sh mi mj mr := zr_l (zD_of zk_104 d_104_69 rfl rfl) rfl rfl rfl
theorem q_104_69n : zRun 104 69 [l0, l1, l2, l3, some (.null), l5] S sh mi mj mr = zRun 104 71 [l0, l1, l2, l3, some (.null), l5] (.null :: S) sh mi mj mr := zr_l (zD_of zk_104 d_104_69 rfl rfl) rfl rfl rfl
theorem q_104_71 (h : zIs sh o 0 2) : zRun 104 71 L (.ref o :: S) sh mi mj mr = zRun 104 74 L (.long (mj o 8) :: S) sh mi mj mr := zr_getJ (zD_of zk_104 d_104_71 rfl rfl) rfl rfl rfl h
theorem q_104_74 : zRun 104 74 [l0, l1, l2, some (.int x), l4, l5] S sh mi mj mr = zRun 104 75 [l0, l1, l2, some (.int x), l4, l5] (.int x :: S) sh mi mj mr := zr_l (zD_of zk_104 d_104_74 rfl rfl) rfl rfl rfl
theorem q_104_75  : zRun 104 75 L (.int x :: S) sh mi mj mr = zRun 104 76 L (.long x.toInt64 :: S) sh mi mj mr := zr_p (zD_of zk_104 d_104_75 rfl rfl) rfl
theorem q_104_76  : zRun 104 76 L (.long v :: .long u :: S) sh mi mj mr = if v < u then zRun 104 84 L S sh mi mj mr else zRun 104 80 L S sh mi mj mr := zr_cmp (off := 7) (zD_of zk_104 d_104_76 rfl rfl) (zD_of zk_104 d_104_77 rfl rfl) rfl rfl (by decide) (lg_cmp_gt u v)
theorem q_104_77  : zRun 104 77 L (.int x :: S) sh mi mj mr = if 0 < x then zRun 104 84 L S sh mi mj mr else zRun 104 80 L S sh mi mj mr := zr_if (off := 7) (P := 0 < x) (zD_of zk_104 d_104_77 rfl rfl) rfl rfl (by decide)
theorem q_104_80  : zRun 104 80 L S sh mi mj mr = zRun 104 81 L (.int 1 :: S) sh mi mj mr := zr_p (zD_of zk_104 d_104_80 rfl rfl) rfl
theorem q_104_81  : zRun 104 81 L S sh mi mj mr = zRun 104 85 L S sh mi mj mr := zr_go (off := 4) (zD_of zk_104 d_104_81 rfl rfl) rfl rfl (by decide)
theorem q_104_84  : zRun 104 84 L S sh mi mj mr = zRun 104 85 L (.int 0 :: S) sh mi mj mr := zr_p (zD_of zk_104 d_104_84 rfl rfl) rfl
theorem q_104_85 (h : x = 0 ∨ x = 1) : zRun 104 85 L ([.int x]) sh mi mj mr = some (some (.int x), sh, mi, mj, mr) := zr_ret (zD_of zk_104 d_104_85 rfl rfl) rfl rfl rfl rfl rfl (if_pos (zna_b h))
theorem e_104 {x0 : Int32} {o0 o1 : Nat} : zCall 104 [.ref o, .ref o0, .ref o1, .int x0] sh mi mj mr = zRun 104 0 [some (.ref o), some (.ref o0), some (.ref o1), some (.int x0), none, none] [] sh mi mj mr := rfl
theorem d_105_0 : decode cX7_rank 0 = .ok (.aload_n 0, 1) := by decide +kernel
theorem d_105_1 : decode cX7_rank 1 = .ok (.getfield 42, 3) := by decide +kernel
theorem d_105_4 : decode cX7_rank 4 = .ok (.aload_n 3, 1) := by decide +kernel
theorem d_105_5 : decode cX7_rank 5 = .ok (.aload_n 3, 1) := by decide +kernel
theorem d_105_6 : decode cX7_rank 6 = .ok (.getfield 121, 3) := by decide +kernel
theorem d_105_9 : decode cX7_rank 9 = .ok (.aload_n 2, 1) := by decide +kernel
theorem d_105_10 : decode cX7_rank 10 = .ok (.aload_n 0, 1) := by decide +kernel
theorem d_105_11 : decode cX7_rank 11 = .ok (.getfield 20, 3) := by decide +kernel
theorem d_105_14 : decode cX7_rank 14 = .ok (.getfield 100, 3) := by decide +kernel
theorem d_105_17 : decode cX7_rank 17 = .ok (.invokevirtual 134, 3) := by decide +kernel
theorem d_105_20 : decode cX7_rank 20 = .ok (.astore 5, 2) := by decide +kernel
theorem d_105_22 : decode cX7_rank 22 = .ok (.ldc2_w 237, 3) := by decide +kernel
theorem d_105_25 : decode cX7_rank 25 = .ok (.lstore 6, 2) := by decide +kernel
theorem d_105_27 : decode cX7_rank 27 = .ok (.aload 5, 2) := by decide +kernel
theorem d_105_29 : decode cX7_rank 29 = .ok (.getfield 138, 3) := by decide +kernel
theorem d_105_32 : decode cX7_rank 32 = .ok (.ifCond .ne 24, 3) := by decide +kernel
theorem d_105_35 : decode cX7_rank 35 = .ok (.iload 4, 2) := by decide +kernel
theorem d_105_37 : decode cX7_rank 37 = .ok (.ifCond .ne 11, 3) := by decide +kernel
theorem d_105_40 : decode cX7_rank 40 = .ok (.aload 5, 2) := by decide +kernel
theorem d_105_42 : decode cX7_rank 42 = .ok (.getfield 185, 3) := by decide +kernel
theorem d_105_45 : decode cX7_rank 45 = .ok (.goto 9, 3) := by decide +kernel
theorem d_105_48 : decode cX7_rank 48 = .ok (.aload 5, 2) := by decide +kernel
theorem d_105_50 : decode cX7_rank 50 = .ok (.getfield 188, 3) := by decide +kernel
theorem d_105_53 : decode cX7_rank 53 = .ok (.lneg, 1) := by decide +kernel
theorem d_105_54 : decode cX7_rank 54 = .ok (.lstore 6, 2) := by decide +kernel
theorem d_105_56 : decode cX7_rank 56 = .ok (.aload_n 0, 1) := by decide +kernel
theorem d_105_57 : decode cX7_rank 57 = .ok (.getfield 49, 3) := by decide +kernel
theorem d_105_60 : decode cX7_rank 60 = .ok (.iload_n 1, 1) := by decide +kernel
theorem d_105_61 : decode cX7_rank 61 = .ok (.lload 6, 2) := by decide +kernel
theorem d_105_63 : decode cX7_rank 63 = .ok (.aload_n 2, 1) := by decide +kernel
theorem d_105_64 : decode cX7_rank 64 = .ok (.aload 5, 2) := by decide +kernel
theorem d_105_66 : decode cX7_rank 66 = .ok (.invokevirtual 203, 3) := by decide +kernel
theorem d_105_69 : decode cX7_rank 69 = .ok (.invokevirtual 257, 3) := by decide +kernel
theorem d_105_72 : decode cX7_rank 72 = .ok (.return_, 1) := by decide +kernel
theorem q_105_0r : zRun 105 0 [some (.ref o), l1, l2, l3, l4, l5, l6, l7] S sh mi mj mr = zRun 105 1 [some (.ref o), l1, l2, l3, l4, l5, l6, l7] (.ref o :: S) sh mi mj mr := zr_l (zD_of zk_105 d_105_0 rfl rfl) rfl rfl rfl
theorem q_105_0n : zRun 105 0 [some (.null), l1, l2, l3, l4, l5, l6, l7] S sh mi mj mr = zRun 105 1 [some (.null), l1, l2, l3, l4, l5, l6, l7] (.null :: S) sh mi mj mr := zr_l (zD_of zk_105 d_105_0 rfl rfl) rfl rfl rfl
theorem q_105_1 (h : zIs sh o 0 7) : zRun 105 1 L (.ref o :: S) sh mi mj mr = zRun 105 4 L (va_rf (mr o 6) :: S) sh mi mj mr := zr_getR (zD_of zk_105 d_105_1 rfl rfl) rfl rfl rfl h
theorem q_105_4r : zRun 105 4 [l0, l1, l2, some (.ref o), l4, l5, l6, l7] S sh mi mj mr = zRun 105 5 [l0, l1, l2, some (.ref o), l4, l5, l6, l7] (.ref o :: S) sh mi mj mr := zr_l (zD_of zk_105 d_105_4 rfl rfl) rfl rfl rfl
theorem q_105_4n : zRun 105 4 [l0, l1, l2, some (.null), l4, l5, l6, l7] S sh mi mj mr = zRun 105 5 [l0, l1, l2, some (.null), l4, l5, l6, l7] (.null :: S) sh mi mj mr := zr_l (zD_of zk_105 d_105_4 rfl rfl) rfl rfl rfl
theorem q_105_5r : zRun 105 5 [l0, l1, l2, some (.ref o), l4, l5, l6, l7] S sh mi mj mr = zRun 105 6 [l0, l1, l2, some (.ref o), l4, l5, l6, l7] (.ref o :: S) sh mi mj mr := zr_l (zD_of zk_105 d_105_5 rfl rfl) rfl rfl rfl
theorem q_105_5n : zRun 105 5 [l0, l1, l2, some (.null), l4, l5, l6, l7] S sh mi mj mr = zRun 105 6 [l0, l1, l2, some (.null), l4, l5, l6, l7] (.null :: S) sh mi mj mr := zr_l (zD_of zk_105 d_105_5 rfl rfl) rfl rfl rfl
theorem q_105_6 (h : zIs sh o 0 6) : zRun 105 6 L (.ref o :: S) sh mi mj mr = zRun 105 9 L (.int (mi o 2) :: S) sh mi mj mr := zr_getI (zD_of zk_105 d_105_6 rfl rfl) rfl rfl (Or.inl rfl) h
theorem q_105_9r : zRun 105 9 [l0, l1, some (.ref o), l3, l4, l5, l6, l7] S sh mi mj mr = zRun 105 10 [l0, l1, some (.ref o), l3, l4, l5, l6, l7] (.ref o :: S) sh mi mj mr := zr_l (zD_of zk_105 d_105_9 rfl rfl) rfl rfl rfl
theorem q_105_9n : zRun 105 9 [l0, l1, some (.null), l3, l4, l5, l6, l7] S sh mi mj mr = zRun 105 10 [l0, l1, some (.null), l3, l4, l5, l6, l7] (.null :: S) sh mi mj mr := zr_l (zD_of zk_105 d_105_9 rfl rfl) rfl rfl rfl
theorem q_105_10r : zRun 105 10 [some (.ref o), l1, l2, l3, l4, l5, l6, l7] S sh mi mj mr = zRun 105 11 [some (.ref o), l1, l2, l3, l4, l5, l6, l7] (.ref o :: S) sh mi mj mr := zr_l (zD_of zk_105 d_105_10 rfl rfl) rfl rfl rfl
theorem q_105_10n : zRun 105 10 [some (.null), l1, l2, l3, l4, l5, l6, l7] S sh mi mj mr = zRun 105 11 [some (.null), l1, l2, l3, l4, l5, l6, l7] (.null :: S) sh mi mj mr := zr_l (zD_of zk_105 d_105_10 rfl rfl) rfl rfl rfl
theorem q_105_11 (h : zIs sh o 0 7) : zRun 105 11 L (.ref o :: S) sh mi mj mr = zRun 105 14 L (va_rf (mr o 2) :: S) sh mi mj mr := zr_getR (zD_of zk_105 d_105_11 rfl rfl) rfl rfl rfl h
theorem q_105_14 (h : zIs sh o 0 5) : zRun 105 14 L (.ref o :: S) sh mi mj mr = zRun 105 17 L (.int (mi o 2) :: S) sh mi mj mr := zr_getI (zD_of zk_105 d_105_14 rfl rfl) rfl rfl (Or.inl rfl) h
theorem q_105_17  {x0 x1 : Int32} {o0 o1 : Nat} (hS : zcat S ≤ 8) (h : zIs sh o 0 3) : zRun 105 17 L (.int x1 :: .ref o1 :: .int x0 :: .ref o0 :: .ref o :: S) sh mi mj mr = (zCall 45 [.ref o, .ref o0, .int x0, .ref o1, .int x1] sh mi mj mr).bind fun r => zRun 105 20 L (r.1.toList ++ S) r.2.1 r.2.2.1 r.2.2.2.1 r.2.2.2.2 := zr_V (zD_of zk_105 d_105_17 rfl rfl) rfl zk_45 rfl rfl rfl hS h
theorem q_105_20r : zRun 105 20 [l0, l1, l2, l3, l4, l5, l6, l7] (.ref o :: S) sh mi mj mr = zRun 105 22 [l0, l1, l2, l3, zk2 l4, some (.ref o), l6, l7] S sh mi mj mr := zr_s1 (i := 5) (v := .ref o) (L := [l0, l1, l2, l3, l4, l5, l6, l7]) (zD_of zk_105 d_105_20 rfl rfl) rfl rfl rfl rfl
theorem q_105_20n : zRun 105 20 [l0, l1, l2, l3, l4, l5, l6, l7] (.null :: S) sh mi mj mr = zRun 105 22 [l0, l1, l2, l3, zk2 l4, some (.null), l6, l7] S sh mi mj mr := zr_s1 (i := 5) (v := .null) (L := [l0, l1, l2, l3, l4, l5, l6, l7]) (zD_of zk_105 d_105_20 rfl rfl) rfl rfl rfl rfl
theorem q_105_22  : zRun 105 22 L S sh mi mj mr = zRun 105 25 L (.long (-1000000000000000000) :: S) sh mi mj mr := zr_k64 (zD_of zk_105 d_105_22 rfl rfl) rfl
theorem q_105_25 : zRun 105 25 [l0, l1, l2, l3, l4, l5, l6, l7] (.long u :: S) sh mi mj mr = zRun 105 27 [l0, l1, l2, l3, l4, zk2 l5, some (.long u), none] S sh mi mj mr := zr_s2 (i := 6) (v := .long u) (L := [l0, l1, l2, l3, l4, l5, l6, l7]) (zD_of zk_105 d_105_25 rfl rfl) rfl rfl rfl rfl
theorem q_105_27r : zRun 105 27 [l0, l1, l2, l3, l4, some (.ref o), l6, l7] S sh mi mj mr = zRun 105 29 [l0, l1, l2, l3, l4, some (.ref o), l6, l7] (.ref o :: S) sh mi mj mr := zr_l (zD_of zk_105 d_105_27 rfl rfl) rfl rfl rfl
theorem q_105_27n : zRun 105 27 [l0, l1, l2, l3, l4, some (.null), l6, l7] S sh mi mj mr = zRun 105 29 [l0, l1, l2, l3, l4, some (.null), l6, l7] (.null :: S) sh mi mj mr := zr_l (zD_of zk_105 d_105_27 rfl rfl) rfl rfl rfl
theorem q_105_29 (h : zIs sh o 0 2) : zRun 105 29 L (.ref o :: S) sh mi mj mr = zRun 105 32 L (.int (mi o 0) :: S) sh mi mj mr := zr_getI (zD_of zk_105 d_105_29 rfl rfl) rfl rfl (Or.inl rfl) h
theorem q_105_32  : zRun 105 32 L (.int x :: S) sh mi mj mr = if ¬ x = 0 then zRun 105 56 L S sh mi mj mr else zRun 105 35 L S sh mi mj mr := zr_if (off := 24) (P := ¬ x = 0) (zD_of zk_105 d_105_32 rfl rfl) rfl rfl (by decide)
theorem q_105_35 : zRun 105 35 [l0, l1, l2, l3, some (.int x), l5, l6, l7] S sh mi mj mr = zRun 105 37 [l0, l1, l2, l3, some (.int x), l5, l6, l7] (.int x :: S) sh mi mj mr := zr_l (zD_of zk_105 d_105_35 rfl rfl) rfl rfl rfl
theorem q_105_37  : zRun 105 37 L (.int x :: S) sh mi mj mr = if ¬ x = 0 then zRun 105 48 L S sh mi mj mr else zRun 105 40 L S sh mi mj mr := zr_if (off := 11) (P := ¬ x = 0) (zD_of zk_105 d_105_37 rfl rfl) rfl rfl (by decide)
theorem q_105_40r : zRun 105 40 [l0, l1, l2, l3, l4, some (.ref o), l6, l7] S sh mi mj mr = zRun 105 42 [l0, l1, l2, l3, l4, some (.ref o), l6, l7] (.ref o :: S) sh mi mj mr := zr_l (zD_of zk_105 d_105_40 rfl rfl) rfl rfl rfl
theorem q_105_40n : zRun 105 40 [l0, l1, l2, l3, l4, some (.null), l6, l7] S sh mi mj mr = zRun 105 42 [l0, l1, l2, l3, l4, some (.null), l6, l7] (.null :: S) sh mi mj mr := zr_l (zD_of zk_105 d_105_40 rfl rfl) rfl rfl rfl
theorem q_105_42 (h : zIs sh o 0 2) : zRun 105 42 L (.ref o :: S) sh mi mj mr = zRun 105 45 L (.long (mj o 7) :: S) sh mi mj mr := zr_getJ (zD_of zk_105 d_105_42 rfl rfl) rfl rfl rfl h
theorem q_105_45  : zRun 105 45 L S sh mi mj mr = zRun 105 54 L S sh mi mj mr := zr_go (off := 9) (zD_of zk_105 d_105_45 rfl rfl) rfl rfl (by decide)
theorem q_105_48r : zRun 105 48 [l0, l1, l2, l3, l4, some (.ref o), l6, l7] S sh mi mj mr = zRun 105 50 [l0, l1, l2, l3, l4, some (.ref o), l6, l7] (.ref o :: S) sh mi mj mr := zr_l (zD_of zk_105 d_105_48 rfl rfl) rfl rfl rfl
theorem q_105_48n : zRun 105 48 [l0, l1, l2, l3, l4, some (.null), l6, l7] S sh mi mj mr = zRun 105 50 [l0, l1, l2, l3, l4, some (.null), l6, l7] (.null :: S) sh mi mj mr := zr_l (zD_of zk_105 d_105_48 rfl rfl) rfl rfl rfl
theorem q_105_50 (h : zIs sh o 0 2) : zRun 105 50 L (.ref o :: S) sh mi mj mr = zRun 105 53 L (.long (mj o 8) :: S) sh mi mj mr := zr_getJ (zD_of zk_105 d_105_50 rfl rfl) rfl rfl rfl h
theorem q_105_53  : zRun 105 53 L (.long u :: S) sh mi mj mr = zRun 105 54 L (.long (-u) :: S) sh mi mj mr := zr_p (zD_of zk_105 d_105_53 rfl rfl) rfl
theorem q_105_54 : zRun 105 54 [l0, l1, l2, l3, l4, l5, l6, l7] (.long u :: S) sh mi mj mr = zRun 105 56 [l0, l1, l2, l3, l4, zk2 l5, some (.long u), none] S sh mi mj mr := zr_s2 (i := 6) (v := .long u) (L := [l0, l1, l2, l3, l4, l5, l6, l7]) (zD_of zk_105 d_105_54 rfl rfl) rfl rfl rfl rfl
theorem q_105_56r : zRun 105 56 [some (.ref o), l1, l2, l3, l4, l5, l6, l7] S sh mi mj mr = zRun 105 57 [some (.ref o), l1, l2, l3, l4, l5, l6, l7] (.ref o :: S) sh mi mj mr := zr_l (zD_of zk_105 d_105_56 rfl rfl) rfl rfl rfl
theorem q_105_56n : zRun 105 56 [some (.null), l1, l2, l3, l4, l5, l6, l7] S sh mi mj mr = zRun 105 57 [some (.null), l1, l2, l3, l4, l5, l6, l7] (.null :: S) sh mi mj mr := zr_l (zD_of zk_105 d_105_56 rfl rfl) rfl rfl rfl
theorem q_105_57 (h : zIs sh o 0 7) : zRun 105 57 L (.ref o :: S) sh mi mj mr = zRun 105 60 L (va_rf (mr o 7) :: S) sh mi mj mr := zr_getR (zD_of zk_105 d_105_57 rfl rfl) rfl rfl rfl h
theorem q_105_60 : zRun 105 60 [l0, some (.int x), l2, l3, l4, l5, l6, l7] S sh mi mj mr = zRun 105 61 [l0, some (.int x), l2, l3, l4, l5, l6, l7] (.int x :: S) sh mi mj mr := zr_l (zD_of zk_105 d_105_60 rfl rfl) rfl rfl rfl
theorem q_105_61 : zRun 105 61 [l0, l1, l2, l3, l4, l5, some (.long u), l7] S sh mi mj mr = zRun 105 63 [l0, l1, l2, l3, l4, l5, some (.long u), l7] (.long u :: S) sh mi mj mr := zr_l (zD_of zk_105 d_105_61 rfl rfl) rfl rfl rfl
theorem q_105_63r : zRun 105 63 [l0, l1, some (.ref o), l3, l4, l5, l6, l7] S sh mi mj mr = zRun 105 64 [l0, l1, some (.ref o), l3, l4, l5, l6, l7] (.ref o :: S) sh mi mj mr := zr_l (zD_of zk_105 d_105_63 rfl rfl) rfl rfl rfl
theorem q_105_63n : zRun 105 63 [l0, l1, some (.null), l3, l4, l5, l6, l7] S sh mi mj mr = zRun 105 64 [l0, l1, some (.null), l3, l4, l5, l6, l7] (.null :: S) sh mi mj mr := zr_l (zD_of zk_105 d_105_63 rfl rfl) rfl rfl rfl
theorem q_105_64r : zRun 105 64 [l0, l1, l2, l3, l4, some (.ref o), l6, l7] S sh mi mj mr = zRun 105 66 [l0, l1, l2, l3, l4, some (.ref o), l6, l7] (.ref o :: S) sh mi mj mr := zr_l (zD_of zk_105 d_105_64 rfl rfl) rfl rfl rfl
theorem q_105_64n : zRun 105 64 [l0, l1, l2, l3, l4, some (.null), l6, l7] S sh mi mj mr = zRun 105 66 [l0, l1, l2, l3, l4, some (.null), l6, l7] (.null :: S) sh mi mj mr := zr_l (zD_of zk_105 d_105_64 rfl rfl) rfl rfl rfl
theorem q_105_66  {o0 : Nat} (hS : zcat S ≤ 8) (h : zIs sh o 0 0) : zRun 105 66 L (.ref o0 :: .ref o :: S) sh mi mj mr = (zCall 8 [.ref o, .ref o0] sh mi mj mr).bind fun r => zRun 105 69 L (r.1.toList ++ S) r.2.1 r.2.2.1 r.2.2.2.1 r.2.2.2.2 := zr_V (zD_of zk_105 d_105_66 rfl rfl) rfl zk_8 rfl rfl rfl hS h
theorem q_105_69  {x0 x1 : Int32} {u0 : Int64} (hS : zcat S ≤ 8) (h : zIs sh o 0 1) : zRun 105 69 L (.int x1 :: .long u0 :: .int x0 :: .ref o :: S) sh mi mj mr = (zCall 16 [.ref o, .int x0, .long u0, .int x1] sh mi mj mr).bind fun r => zRun 105 72 L (r.1.toList ++ S) r.2.1 r.2.2.1 r.2.2.2.1 r.2.2.2.2 := zr_V (zD_of zk_105 d_105_69 rfl rfl) rfl zk_16 rfl rfl rfl hS h
theorem q_105_72  : zRun 105 72 L [] sh mi mj mr = some (none, sh, mi, mj, mr) := zr_ret (zD_of zk_105 d_105_72 rfl rfl) rfl rfl rfl rfl rfl rfl
theorem e_105 {x0 x1 : Int32} {o0 o1 : Nat} : zCall 105 [.ref o, .int x0, .ref o0, .ref o1, .int x1] sh mi mj mr = zRun 105 0 [some (.ref o), some (.int x0), some (.ref o0), some (.ref o1), some (.int x1), none, none, none] [] sh mi mj mr := rfl
theorem d_106_0 : decode cX7_endOf 0 = .ok (.aload_n 0, 1) := by decide +kernel
theorem d_106_1 : decode cX7_endOf 1 = .ok (.getfield 138, 3) := by decide +kernel
theorem d_106_4 : decode cX7_endOf 4 = .ok (.ifCond .eq 11, 3) := by decide +kernel
theorem d_106_7 : decode cX7_endOf 7 = .ok (.bipush (-5), 2) := by decide +kernel
theorem d_106_9 : decode cX7_endOf 9 = .ok (.invokestatic 143, 3) := by decide +kernel
theorem d_106_12 : decode cX7_endOf 12 = .ok (.goto 8, 3) := by decide +kernel
theorem d_106_15 : decode cX7_endOf 15 = .ok (.aload_n 0, 1) := by decide +kernel
theorem d_106_16 : decode cX7_endOf 16 = .ok (.iload_n 1, 1) := by decide +kernel
theorem d_106_17 : decode cX7_endOf 17 = .ok (.invokevirtual 158, 3) := by decide +kernel
theorem d_106_20 : decode cX7_endOf 20 = .ok (.lreturn, 1) := by decide +kernel
theorem q_106_0r : zRun 106 0 [some (.ref o), l1] S sh mi mj mr = zRun 106 1 [some (.ref o), l1] (.ref o :: S) sh mi mj mr := zr_l (zD_of zk_106 d_106_0 rfl rfl) rfl rfl rfl
theorem q_106_0n : zRun 106 0 [some (.null), l1] S sh mi mj mr = zRun 106 1 [some (.null), l1] (.null :: S) sh mi mj mr := zr_l (zD_of zk_106 d_106_0 rfl rfl) rfl rfl rfl
theorem q_106_1 (h : zIs sh o 0 2) : zRun 106 1 L (.ref o :: S) sh mi mj mr = zRun 106 4 L (.int (mi o 0) :: S) sh mi mj mr := zr_getI (zD_of zk_106 d_106_1 rfl rfl) rfl rfl (Or.inl rfl) h
theorem q_106_4  : zRun 106 4 L (.int x :: S) sh mi mj mr = if x = 0 then zRun 106 15 L S sh mi mj mr else zRun 106 7 L S sh mi mj mr := zr_if (off := 11) (P := x = 0) (zD_of zk_106 d_106_4 rfl rfl) rfl rfl (by decide)
theorem q_106_7  : zRun 106 7 L S sh mi mj mr = zRun 106 9 L (.int (-5) :: S) sh mi mj mr := zr_p (zD_of zk_106 d_106_7 rfl rfl) rfl
theorem q_106_9  {x0 : Int32} (hS : zcat S ≤ 8) : zRun 106 9 L (.int x0 :: S) sh mi mj mr = (zCall 107 [.int x0] sh mi mj mr).bind fun r => zRun 106 12 L (r.1.toList ++ S) r.2.1 r.2.2.1 r.2.2.2.1 r.2.2.2.2 := zr_S (zD_of zk_106 d_106_9 rfl rfl) rfl zk_107 rfl rfl rfl hS
theorem q_106_12  : zRun 106 12 L S sh mi mj mr = zRun 106 20 L S sh mi mj mr := zr_go (off := 8) (zD_of zk_106 d_106_12 rfl rfl) rfl rfl (by decide)
theorem q_106_15r : zRun 106 15 [some (.ref o), l1] S sh mi mj mr = zRun 106 16 [some (.ref o), l1] (.ref o :: S) sh mi mj mr := zr_l (zD_of zk_106 d_106_15 rfl rfl) rfl rfl rfl
theorem q_106_15n : zRun 106 15 [some (.null), l1] S sh mi mj mr = zRun 106 16 [some (.null), l1] (.null :: S) sh mi mj mr := zr_l (zD_of zk_106 d_106_15 rfl rfl) rfl rfl rfl
theorem q_106_16 : zRun 106 16 [l0, some (.int x)] S sh mi mj mr = zRun 106 17 [l0, some (.int x)] (.int x :: S) sh mi mj mr := zr_l (zD_of zk_106 d_106_16 rfl rfl) rfl rfl rfl
theorem q_106_17  {x0 : Int32} (hS : zcat S ≤ 8) (h : zIs sh o 0 2) : zRun 106 17 L (.int x0 :: .ref o :: S) sh mi mj mr = (zCall 21 [.ref o, .int x0] sh mi mj mr).bind fun r => zRun 106 20 L (r.1.toList ++ S) r.2.1 r.2.2.1 r.2.2.2.1 r.2.2.2.2 := zr_V (zD_of zk_106 d_106_17 rfl rfl) rfl zk_21 rfl rfl rfl hS h
theorem q_106_20  : zRun 106 20 L ([.long u]) sh mi mj mr = some (some (.long u), sh, mi, mj, mr) := zr_ret (zD_of zk_106 d_106_20 rfl rfl) rfl rfl rfl rfl rfl rfl
theorem e_106 {x0 : Int32} {o0 : Nat} : zCall 106 [.ref o0, .int x0] sh mi mj mr = zRun 106 0 [some (.ref o0), some (.int x0)] [] sh mi mj mr := rfl
theorem d_107_0 : decode cX7_gone 0 = .ok (.ldc2_w 237, 3) := by decide +kernel
theorem d_107_3 : decode cX7_gone 3 = .ok (.iload_n 0, 1) := by decide +kernel
theorem d_107_4 : decode cX7_gone 4 = .ok (.i2l, 1) := by decide +kernel
theorem d_107_5 : decode cX7_gone 5 = .ok (.ladd, 1) := by decide +kernel
theorem d_107_6 : decode cX7_gone 6 = .ok (.lreturn, 1) := by decide +kernel
theorem q_107_0  : zRun 107 0 L S sh mi mj mr = zRun 107 3 L (.long (-1000000000000000000) :: S) sh mi mj mr := zr_k64 (zD_of zk_107 d_107_0 rfl rfl) rfl
theorem q_107_3 : zRun 107 3 [some (.int x)] S sh mi mj mr = zRun 107 4 [some (.int x)] (.int x :: S) sh mi mj mr := zr_l (zD_of zk_107 d_107_3 rfl rfl) rfl rfl rfl
theorem q_107_4  : zRun 107 4 L (.int x :: S) sh mi mj mr = zRun 107 5 L (.long x.toInt64 :: S) sh mi mj mr := zr_p (zD_of zk_107 d_107_4 rfl rfl) rfl
theorem q_107_5  : zRun 107 5 L (.long v :: .long u :: S) sh mi mj mr = zRun 107 6 L (.long (u + v) :: S) sh mi mj mr := zr_p (zD_of zk_107 d_107_5 rfl rfl) rfl
theorem q_107_6  : zRun 107 6 L ([.long u]) sh mi mj mr = some (some (.long u), sh, mi, mj, mr) := zr_ret (zD_of zk_107 d_107_6 rfl rfl) rfl rfl rfl rfl rfl rfl
theorem e_107 {x0 : Int32} : zCall 107 [.int x0] sh mi mj mr = zRun 107 0 [some (.int x0)] [] sh mi mj mr := rfl
theorem d_108_0 : decode cX7_isInput 0 = .ok (.iload_n 0, 1) := by decide +kernel
theorem d_108_1 : decode cX7_isInput 1 = .ok (.ifCond .lt 12, 3) := by decide +kernel
theorem d_108_4 : decode cX7_isInput 4 = .ok (.iload_n 0, 1) := by decide +kernel
theorem d_108_5 : decode cX7_isInput 5 = .ok (.iconst 4, 1) := by decide +kernel
theorem d_108_6 : decode cX7_isInput 6 = .ok (.if_icmp .ge 7, 3) := by decide +kernel
theorem d_108_9 : decode cX7_isInput 9 = .ok (.iconst 1, 1) := by decide +kernel
theorem d_108_10 : decode cX7_isInput 10 = .ok (.goto 4, 3) := by decide +kernel
theorem d_108_13 : decode cX7_isInput 13 = .ok (.iconst 0, 1) := by decide +kernel
theorem d_108_14 : decode cX7_isInput 14 = .ok (.ireturn, 1) := by decide +kernel
theorem q_108_0 : zRun 108 0 [some (.int x)] S sh mi mj mr = zRun 108 1 [some (.int x)] (.int x :: S) sh mi mj mr := zr_l (zD_of zk_108 d_108_0 rfl rfl) rfl rfl rfl
theorem q_108_1  : zRun 108 1 L (.int x :: S) sh mi mj mr = if x < 0 then zRun 108 13 L S sh mi mj mr else zRun 108 4 L S sh mi mj mr := zr_if (off := 12) (P := x < 0) (zD_of zk_108 d_108_1 rfl rfl) rfl rfl (by decide)
theorem q_108_4 : zRun 108 4 [some (.int x)] S sh mi mj mr = zRun 108 5 [some (.int x)] (.int x :: S) sh mi mj mr := zr_l (zD_of zk_108 d_108_4 rfl rfl) rfl rfl rfl
theorem q_108_5  : zRun 108 5 L S sh mi mj mr = zRun 108 6 L (.int 4 :: S) sh mi mj mr := zr_p (zD_of zk_108 d_108_5 rfl rfl) rfl
theorem q_108_6  : zRun 108 6 L (.int y :: .int x :: S) sh mi mj mr = if y ≤ x then zRun 108 13 L S sh mi mj mr else zRun 108 9 L S sh mi mj mr := zr_if (off := 7) (P := y ≤ x) (zD_of zk_108 d_108_6 rfl rfl) rfl rfl (by decide)
theorem q_108_9  : zRun 108 9 L S sh mi mj mr = zRun 108 10 L (.int 1 :: S) sh mi mj mr := zr_p (zD_of zk_108 d_108_9 rfl rfl) rfl
theorem q_108_10  : zRun 108 10 L S sh mi mj mr = zRun 108 14 L S sh mi mj mr := zr_go (off := 4) (zD_of zk_108 d_108_10 rfl rfl) rfl rfl (by decide)
theorem q_108_13  : zRun 108 13 L S sh mi mj mr = zRun 108 14 L (.int 0 :: S) sh mi mj mr := zr_p (zD_of zk_108 d_108_13 rfl rfl) rfl
theorem q_108_14 (h : x = 0 ∨ x = 1) : zRun 108 14 L ([.int x]) sh mi mj mr = some (some (.int x), sh, mi, mj, mr) := zr_ret (zD_of zk_108 d_108_14 rfl rfl) rfl rfl rfl rfl rfl (if_pos (zna_b h))
theorem e_108 {x0 : Int32} : zCall 108 [.int x0] sh mi mj mr = zRun 108 0 [some (.int x0)] [] sh mi mj mr := rfl
theorem d_109_0 : decode cX7_isSide 0 = .ok (.iload_n 0, 1) := by decide +kernel
theorem d_109_1 : decode cX7_isSide 1 = .ok (.ifCond .eq 8, 3) := by decide +kernel
theorem d_109_4 : decode cX7_isSide 4 = .ok (.iload_n 0, 1) := by decide +kernel
theorem d_109_5 : decode cX7_isSide 5 = .ok (.iconst 1, 1) := by decide +kernel
theorem d_109_6 : decode cX7_isSide 6 = .ok (.if_icmp .ne 7, 3) := by decide +kernel
theorem d_109_9 : decode cX7_isSide 9 = .ok (.iconst 1, 1) := by decide +kernel
theorem d_109_10 : decode cX7_isSide 10 = .ok (.goto 4, 3) := by decide +kernel
theorem d_109_13 : decode cX7_isSide 13 = .ok (.iconst 0, 1) := by decide +kernel
theorem d_109_14 : decode cX7_isSide 14 = .ok (.ireturn, 1) := by decide +kernel
theorem q_109_0 : zRun 109 0 [some (.int x)] S sh mi mj mr = zRun 109 1 [some (.int x)] (.int x :: S) sh mi mj mr := zr_l (zD_of zk_109 d_109_0 rfl rfl) rfl rfl rfl
theorem q_109_1  : zRun 109 1 L (.int x :: S) sh mi mj mr = if x = 0 then zRun 109 9 L S sh mi mj mr else zRun 109 4 L S sh mi mj mr := zr_if (off := 8) (P := x = 0) (zD_of zk_109 d_109_1 rfl rfl) rfl rfl (by decide)
theorem q_109_4 : zRun 109 4 [some (.int x)] S sh mi mj mr = zRun 109 5 [some (.int x)] (.int x :: S) sh mi mj mr := zr_l (zD_of zk_109 d_109_4 rfl rfl) rfl rfl rfl
theorem q_109_5  : zRun 109 5 L S sh mi mj mr = zRun 109 6 L (.int 1 :: S) sh mi mj mr := zr_p (zD_of zk_109 d_109_5 rfl rfl) rfl
theorem q_109_6  : zRun 109 6 L (.int y :: .int x :: S) sh mi mj mr = if ¬ x = y then zRun 109 13 L S sh mi mj mr else zRun 109 9 L S sh mi mj mr := zr_if (off := 7) (P := ¬ x = y) (zD_of zk_109 d_109_6 rfl rfl) rfl rfl (by decide)
theorem q_109_9  : zRun 109 9 L S sh mi mj mr = zRun 109 10 L (.int 1 :: S) sh mi mj mr := zr_p (zD_of zk_109 d_109_9 rfl rfl) rfl
theorem q_109_10  : zRun 109 10 L S sh mi mj mr = zRun 109 14 L S sh mi mj mr := zr_go (off := 4) (zD_of zk_109 d_109_10 rfl rfl) rfl rfl (by decide)
theorem q_109_13  : zRun 109 13 L S sh mi mj mr = zRun 109 14 L (.int 0 :: S) sh mi mj mr := zr_p (zD_of zk_109 d_109_13 rfl rfl) rfl
theorem q_109_14 (h : x = 0 ∨ x = 1) : zRun 109 14 L ([.int x]) sh mi mj mr = some (some (.int x), sh, mi, mj, mr) := zr_ret (zD_of zk_109 d_109_14 rfl rfl) rfl rfl rfl rfl rfl (if_pos (zna_b h))
theorem e_109 {x0 : Int32} : zCall 109 [.int x0] sh mi mj mr = zRun 109 0 [some (.int x0)] [] sh mi mj mr := rfl
end
