/-! ===== one rule for each instruction of the model (2) ===== -/
section
variable {L : zLS} {S : List Value} {sh : zSh} {mi : zI} {mj : zJ} {mr : zR} {x y z : Int32} {u v : Int64} {o o2 : Nat} {l0 l1 l2 l3 l4 l5 l6 l7 l8 l9 l10 l11 l12 l13 l14 l15 l16 l17 l18 : Option Value}
theorem d_162_0 : decode cX8_addRun 0 = .ok (.iconst 0, 1) := by decide +kernel
theorem d_162_1 : decode cX8_addRun 1 = .ok (.istore_n 2, 1) := by decide +kernel
theorem d_162_2 : decode cX8_addRun 2 = .ok (.iload_n 2, 1) := by decide +kernel
theorem d_162_3 : decode cX8_addRun 3 = .ok (.aload_n 0, 1) := by decide +kernel
theorem d_162_4 : decode cX8_addRun 4 = .ok (.getfield 7, 3) := by decide +kernel
theorem d_162_7 : decode cX8_addRun 7 = .ok (.bipush 9, 2) := by decide +kernel
theorem d_162_9 : decode cX8_addRun 9 = .ok (.iload_n 1, 1) := by decide +kernel
theorem d_162_10 : decode cX8_addRun 10 = .ok (.iadd, 1) := by decide +kernel
theorem d_162_11 : decode cX8_addRun 11 = .ok (.iaload, 1) := by decide +kernel
theorem d_162_12 : decode cX8_addRun 12 = .ok (.if_icmp .ge 66, 3) := by decide +kernel
theorem d_162_15 : decode cX8_addRun 15 = .ok (.aload_n 0, 1) := by decide +kernel
theorem d_162_16 : decode cX8_addRun 16 = .ok (.getfield 33, 3) := by decide +kernel
theorem d_162_19 : decode cX8_addRun 19 = .ok (.aload_n 0, 1) := by decide +kernel
theorem d_162_20 : decode cX8_addRun 20 = .ok (.getfield 224, 3) := by decide +kernel
theorem d_162_23 : decode cX8_addRun 23 = .ok (.aload_n 0, 1) := by decide +kernel
theorem d_162_24 : decode cX8_addRun 24 = .ok (.getfield 7, 3) := by decide +kernel
theorem d_162_27 : decode cX8_addRun 27 = .ok (.bipush 13, 2) := by decide +kernel
theorem d_162_29 : decode cX8_addRun 29 = .ok (.bipush 60, 2) := by decide +kernel
theorem d_162_31 : decode cX8_addRun 31 = .ok (.iload_n 1, 1) := by decide +kernel
theorem d_162_32 : decode cX8_addRun 32 = .ok (.imul, 1) := by decide +kernel
theorem d_162_33 : decode cX8_addRun 33 = .ok (.iadd, 1) := by decide +kernel
theorem d_162_34 : decode cX8_addRun 34 = .ok (.iload_n 2, 1) := by decide +kernel
theorem d_162_35 : decode cX8_addRun 35 = .ok (.iadd, 1) := by decide +kernel
theorem d_162_36 : decode cX8_addRun 36 = .ok (.iaload, 1) := by decide +kernel
theorem d_162_37 : decode cX8_addRun 37 = .ok (.iastore, 1) := by decide +kernel
theorem d_162_38 : decode cX8_addRun 38 = .ok (.aload_n 0, 1) := by decide +kernel
theorem d_162_39 : decode cX8_addRun 39 = .ok (.getfield 36, 3) := by decide +kernel
theorem d_162_42 : decode cX8_addRun 42 = .ok (.aload_n 0, 1) := by decide +kernel
theorem d_162_43 : decode cX8_addRun 43 = .ok (.getfield 224, 3) := by decide +kernel
theorem d_162_46 : decode cX8_addRun 46 = .ok (.aload_n 0, 1) := by decide +kernel
theorem d_162_47 : decode cX8_addRun 47 = .ok (.getfield 7, 3) := by decide +kernel
theorem d_162_50 : decode cX8_addRun 50 = .ok (.sipush 253, 3) := by decide +kernel
theorem d_162_53 : decode cX8_addRun 53 = .ok (.bipush 60, 2) := by decide +kernel
theorem d_162_55 : decode cX8_addRun 55 = .ok (.iload_n 1, 1) := by decide +kernel
theorem d_162_56 : decode cX8_addRun 56 = .ok (.imul, 1) := by decide +kernel
theorem d_162_57 : decode cX8_addRun 57 = .ok (.iadd, 1) := by decide +kernel
theorem d_162_58 : decode cX8_addRun 58 = .ok (.iload_n 2, 1) := by decide +kernel
theorem d_162_59 : decode cX8_addRun 59 = .ok (.iadd, 1) := by decide +kernel
theorem d_162_60 : decode cX8_addRun 60 = .ok (.iaload, 1) := by decide +kernel
theorem d_162_61 : decode cX8_addRun 61 = .ok (.iastore, 1) := by decide +kernel
theorem d_162_62 : decode cX8_addRun 62 = .ok (.aload_n 0, 1) := by decide +kernel
theorem d_162_63 : decode cX8_addRun 63 = .ok (.dup, 1) := by decide +kernel
theorem d_162_64 : decode cX8_addRun 64 = .ok (.getfield 224, 3) := by decide +kernel
theorem d_162_67 : decode cX8_addRun 67 = .ok (.iconst 1, 1) := by decide +kernel
theorem d_162_68 : decode cX8_addRun 68 = .ok (.iadd, 1) := by decide +kernel
theorem d_162_69 : decode cX8_addRun 69 = .ok (.putfield 224, 3) := by decide +kernel
theorem d_162_72 : decode cX8_addRun 72 = .ok (.iinc 2 1, 3) := by decide +kernel
theorem d_162_75 : decode cX8_addRun 75 = .ok (.goto (-73), 3) := by decide +kernel
theorem d_162_78 : decode cX8_addRun 78 = .ok (.return_, 1) := by decide +kernel
theorem q_162_0  : zRun 162 0 L S sh mi mj mr = zRun 162 1 L (.int 0 :: S) sh mi mj mr := zr_p (zD_of zk_162 d_162_0 rfl rfl) rfl
theorem q_162_1 : zRun 162 1 [l0, l1, l2] (.int x :: S) sh mi mj mr = zRun 162 2 [l0, zk2 l1, some (.int x)] S sh mi mj mr := zr_s1 (i := 2) (v := .int x) (L := [l0, l1, l2]) (zD_of zk_162 d_162_1 rfl rfl) rfl rfl rfl rfl
theorem q_162_2 : zRun 162 2 [l0, l1, some (.int x)] S sh mi mj mr = zRun 162 3 [l0, l1, some (.int x)] (.int x :: S) sh mi mj mr := zr_l (zD_of zk_162 d_162_2 rfl rfl) rfl rfl rfl
theorem q_162_3r : zRun 162 3 [some (.ref o), l1, l2] S sh mi mj mr = zRun 162 4 [some (.ref o), l1, l2] (.ref o :: S) sh mi mj mr := zr_l (zD_of zk_162 d_162_3 rfl rfl) rfl rfl rfl
theorem q_162_3n : zRun 162 3 [some (.null), l1, l2] S sh mi mj mr = zRun 162 4 [some (.null), l1, l2] (.null :: S) sh mi mj mr := zr_l (zD_of zk_162 d_162_3 rfl rfl) rfl rfl rfl
theorem q_162_4 (h : zIs sh o 0 8) : zRun 162 4 L (.ref o :: S) sh mi mj mr = zRun 162 7 L (va_rf (mr o 0) :: S) sh mi mj mr := zr_getR (zD_of zk_162 d_162_4 rfl rfl) rfl rfl rfl h
theorem q_162_7  : zRun 162 7 L S sh mi mj mr = zRun 162 9 L (.int 9 :: S) sh mi mj mr := zr_p (zD_of zk_162 d_162_7 rfl rfl) rfl
theorem q_162_9 : zRun 162 9 [l0, some (.int x), l2] S sh mi mj mr = zRun 162 10 [l0, some (.int x), l2] (.int x :: S) sh mi mj mr := zr_l (zD_of zk_162 d_162_9 rfl rfl) rfl rfl rfl
theorem q_162_10  : zRun 162 10 L (.int y :: .int x :: S) sh mi mj mr = zRun 162 11 L (.int (x + y) :: S) sh mi mj mr := zr_p (zD_of zk_162 d_162_10 rfl rfl) rfl
theorem q_162_11 (h : zAt sh o 1 x) : zRun 162 11 L (.int x :: .ref o :: S) sh mi mj mr = zRun 162 12 L (.int (mi o x.toNatClampNeg) :: S) sh mi mj mr := zr_iald (zD_of zk_162 d_162_11 rfl rfl) h
theorem q_162_12  : zRun 162 12 L (.int y :: .int x :: S) sh mi mj mr = if y ≤ x then zRun 162 78 L S sh mi mj mr else zRun 162 15 L S sh mi mj mr := zr_if (off := 66) (P := y ≤ x) (zD_of zk_162 d_162_12 rfl rfl) rfl rfl (by decide)
theorem q_162_15r : zRun 162 15 [some (.ref o), l1, l2] S sh mi mj mr = zRun 162 16 [some (.ref o), l1, l2] (.ref o :: S) sh mi mj mr := zr_l (zD_of zk_162 d_162_15 rfl rfl) rfl rfl rfl
theorem q_162_15n : zRun 162 15 [some (.null), l1, l2] S sh mi mj mr = zRun 162 16 [some (.null), l1, l2] (.null :: S) sh mi mj mr := zr_l (zD_of zk_162 d_162_15 rfl rfl) rfl rfl rfl
theorem q_162_16 (h : zIs sh o 0 8) : zRun 162 16 L (.ref o :: S) sh mi mj mr = zRun 162 19 L (va_rf (mr o 13) :: S) sh mi mj mr := zr_getR (zD_of zk_162 d_162_16 rfl rfl) rfl rfl rfl h
theorem q_162_19r : zRun 162 19 [some (.ref o), l1, l2] S sh mi mj mr = zRun 162 20 [some (.ref o), l1, l2] (.ref o :: S) sh mi mj mr := zr_l (zD_of zk_162 d_162_19 rfl rfl) rfl rfl rfl
theorem q_162_19n : zRun 162 19 [some (.null), l1, l2] S sh mi mj mr = zRun 162 20 [some (.null), l1, l2] (.null :: S) sh mi mj mr := zr_l (zD_of zk_162 d_162_19 rfl rfl) rfl rfl rfl
theorem q_162_20 (h : zIs sh o 0 8) : zRun 162 20 L (.ref o :: S) sh mi mj mr = zRun 162 23 L (.int (mi o 15) :: S) sh mi mj mr := zr_getI (zD_of zk_162 d_162_20 rfl rfl) rfl rfl (Or.inl rfl) h
theorem q_162_23r : zRun 162 23 [some (.ref o), l1, l2] S sh mi mj mr = zRun 162 24 [some (.ref o), l1, l2] (.ref o :: S) sh mi mj mr := zr_l (zD_of zk_162 d_162_23 rfl rfl) rfl rfl rfl
theorem q_162_23n : zRun 162 23 [some (.null), l1, l2] S sh mi mj mr = zRun 162 24 [some (.null), l1, l2] (.null :: S) sh mi mj mr := zr_l (zD_of zk_162 d_162_23 rfl rfl) rfl rfl rfl
theorem q_162_24 (h : zIs sh o 0 8) : zRun 162 24 L (.ref o :: S) sh mi mj mr = zRun 162 27 L (va_rf (mr o 0) :: S) sh mi mj mr := zr_getR (zD_of zk_162 d_162_24 rfl rfl) rfl rfl rfl h
theorem q_162_27  : zRun 162 27 L S sh mi mj mr = zRun 162 29 L (.int 13 :: S) sh mi mj mr := zr_p (zD_of zk_162 d_162_27 rfl rfl) rfl
theorem q_162_29  : zRun 162 29 L S sh mi mj mr = zRun 162 31 L (.int 60 :: S) sh mi mj mr := zr_p (zD_of zk_162 d_162_29 rfl rfl) rfl
theorem q_162_31 : zRun 162 31 [l0, some (.int x), l2] S sh mi mj mr = zRun 162 32 [l0, some (.int x), l2] (.int x :: S) sh mi mj mr := zr_l (zD_of zk_162 d_162_31 rfl rfl) rfl rfl rfl
theorem q_162_32  : zRun 162 32 L (.int y :: .int x :: S) sh mi mj mr = zRun 162 33 L (.int (x * y) :: S) sh mi mj mr := zr_p (zD_of zk_162 d_162_32 rfl rfl) rfl
theorem q_162_33  : zRun 162 33 L (.int y :: .int x :: S) sh mi mj mr = zRun 162 34 L (.int (x + y) :: S) sh mi mj mr := zr_p (zD_of zk_162 d_162_33 rfl rfl) rfl
theorem q_162_34 : zRun 162 34 [l0, l1, some (.int x)] S sh mi mj mr = zRun 162 35 [l0, l1, some (.int x)] (.int x :: S) sh mi mj mr := zr_l (zD_of zk_162 d_162_34 rfl rfl) rfl rfl rfl
theorem q_162_35  : zRun 162 35 L (.int y :: .int x :: S) sh mi mj mr = zRun 162 36 L (.int (x + y) :: S) sh mi mj mr := zr_p (zD_of zk_162 d_162_35 rfl rfl) rfl
theorem q_162_36 (h : zAt sh o 1 x) : zRun 162 36 L (.int x :: .ref o :: S) sh mi mj mr = zRun 162 37 L (.int (mi o x.toNatClampNeg) :: S) sh mi mj mr := zr_iald (zD_of zk_162 d_162_36 rfl rfl) h
theorem q_162_37 (h : zAt sh o 1 x) : zRun 162 37 L (.int y :: .int x :: .ref o :: S) sh mi mj mr = zRun 162 38 L S sh (zup mi o x.toNatClampNeg y) mj mr := zr_iast (zD_of zk_162 d_162_37 rfl rfl) h
theorem q_162_38r : zRun 162 38 [some (.ref o), l1, l2] S sh mi mj mr = zRun 162 39 [some (.ref o), l1, l2] (.ref o :: S) sh mi mj mr := zr_l (zD_of zk_162 d_162_38 rfl rfl) rfl rfl rfl
theorem q_162_38n : zRun 162 38 [some (.null), l1, l2] S sh mi mj mr = zRun 162 39 [some (.null), l1, l2] (.null :: S) sh mi mj mr := zr_l (zD_of zk_162 d_162_38 rfl rfl) rfl rfl rfl
theorem q_162_39 (h : zIs sh o 0 8) : zRun 162 39 L (.ref o :: S) sh mi mj mr = zRun 162 42 L (va_rf (mr o 14) :: S) sh mi mj mr := zr_getR (zD_of zk_162 d_162_39 rfl rfl) rfl rfl rfl h
theorem q_162_42r : zRun 162 42 [some (.ref o), l1, l2] S sh mi mj mr = zRun 162 43 [some (.ref o), l1, l2] (.ref o :: S) sh mi mj mr := zr_l (zD_of zk_162 d_162_42 rfl rfl) rfl rfl rfl
theorem q_162_42n : zRun 162 42 [some (.null), l1, l2] S sh mi mj mr = zRun 162 43 [some (.null), l1, l2] (.null :: S) sh mi mj mr := zr_l (zD_of zk_162 d_162_42 rfl rfl) rfl rfl rfl
theorem q_162_43 (h : zIs sh o 0 8) : zRun 162 43 L (.ref o :: S) sh mi mj mr = zRun 162 46 L (.int (mi o 15) :: S) sh mi mj mr := zr_getI (zD_of zk_162 d_162_43 rfl rfl) rfl rfl (Or.inl rfl) h
theorem q_162_46r : zRun 162 46 [some (.ref o), l1, l2] S sh mi mj mr = zRun 162 47 [some (.ref o), l1, l2] (.ref o :: S) sh mi mj mr := zr_l (zD_of zk_162 d_162_46 rfl rfl) rfl rfl rfl
theorem q_162_46n : zRun 162 46 [some (.null), l1, l2] S sh mi mj mr = zRun 162 47 [some (.null), l1, l2] (.null :: S) sh mi mj mr := zr_l (zD_of zk_162 d_162_46 rfl rfl) rfl rfl rfl
theorem q_162_47 (h : zIs sh o 0 8) : zRun 162 47 L (.ref o :: S) sh mi mj mr = zRun 162 50 L (va_rf (mr o 0) :: S) sh mi mj mr := zr_getR (zD_of zk_162 d_162_47 rfl rfl) rfl rfl rfl h
theorem q_162_50  : zRun 162 50 L S sh mi mj mr = zRun 162 53 L (.int 253 :: S) sh mi mj mr := zr_p (zD_of zk_162 d_162_50 rfl rfl) rfl
theorem q_162_53  : zRun 162 53 L S sh mi mj mr = zRun 162 55 L (.int 60 :: S) sh mi mj mr := zr_p (zD_of zk_162 d_162_53 rfl rfl) rfl
theorem q_162_55 : zRun 162 55 [l0, some (.int x), l2] S sh mi mj mr = zRun 162 56 [l0, some (.int x), l2] (.int x :: S) sh mi mj mr := zr_l (zD_of zk_162 d_162_55 rfl rfl) rfl rfl rfl
theorem q_162_56  : zRun 162 56 L (.int y :: .int x :: S) sh mi mj mr = zRun 162 57 L (.int (x * y) :: S) sh mi mj mr := zr_p (zD_of zk_162 d_162_56 rfl rfl) rfl
theorem q_162_57  : zRun 162 57 L (.int y :: .int x :: S) sh mi mj mr = zRun 162 58 L (.int (x + y) :: S) sh mi mj mr := zr_p (zD_of zk_162 d_162_57 rfl rfl) rfl
theorem q_162_58 : zRun 162 58 [l0, l1, some (.int x)] S sh mi mj mr = zRun 162 59 [l0, l1, some (.int x)] (.int x :: S) sh mi mj mr := zr_l (zD_of zk_162 d_162_58 rfl rfl) rfl rfl rfl
theorem q_162_59  : zRun 162 59 L (.int y :: .int x :: S) sh mi mj mr = zRun 162 60 L (.int (x + y) :: S) sh mi mj mr := zr_p (zD_of zk_162 d_162_59 rfl rfl) rfl
theorem q_162_60 (h : zAt sh o 1 x) : zRun 162 60 L (.int x :: .ref o :: S) sh mi mj mr = zRun 162 61 L (.int (mi o x.toNatClampNeg) :: S) sh mi mj mr := zr_iald (zD_of zk_162 d_162_60 rfl rfl) h
theorem q_162_61 (h : zAt sh o 1 x) : zRun 162 61 L (.int y :: .int x :: .ref o :: S) sh mi mj mr = zRun 162 62 L S sh (zup mi o x.toNatClampNeg y) mj mr := zr_iast (zD_of zk_162 d_162_61 rfl rfl) h
theorem q_162_62r : zRun 162 62 [some (.ref o), l1, l2] S sh mi mj mr = zRun 162 63 [some (.ref o), l1, l2] (.ref o :: S) sh mi mj mr := zr_l (zD_of zk_162 d_162_62 rfl rfl) rfl rfl rfl
theorem q_162_62n : zRun 162 62 [some (.null), l1, l2] S sh mi mj mr = zRun 162 63 [some (.null), l1, l2] (.null :: S) sh mi mj mr := zr_l (zD_of zk_162 d_162_62 rfl rfl) rfl rfl rfl
theorem q_162_63r : zRun 162 63 L (.ref o :: S) sh mi mj mr = zRun 162 64 L (.ref o :: .ref o :: S) sh mi mj mr := zr_p (zD_of zk_162 d_162_63 rfl rfl) rfl
theorem q_162_63i : zRun 162 63 L (.int x :: S) sh mi mj mr = zRun 162 64 L (.int x :: .int x :: S) sh mi mj mr := zr_p (zD_of zk_162 d_162_63 rfl rfl) rfl
theorem q_162_64 (h : zIs sh o 0 8) : zRun 162 64 L (.ref o :: S) sh mi mj mr = zRun 162 67 L (.int (mi o 15) :: S) sh mi mj mr := zr_getI (zD_of zk_162 d_162_64 rfl rfl) rfl rfl (Or.inl rfl) h
theorem q_162_67  : zRun 162 67 L S sh mi mj mr = zRun 162 68 L (.int 1 :: S) sh mi mj mr := zr_p (zD_of zk_162 d_162_67 rfl rfl) rfl
theorem q_162_68  : zRun 162 68 L (.int y :: .int x :: S) sh mi mj mr = zRun 162 69 L (.int (x + y) :: S) sh mi mj mr := zr_p (zD_of zk_162 d_162_68 rfl rfl) rfl
theorem q_162_69 (h : zIs sh o 0 8) : zRun 162 69 L (.int x :: .ref o :: S) sh mi mj mr = zRun 162 72 L S sh (zup mi o 15 x) mj mr := zr_putI (zD_of zk_162 d_162_69 rfl rfl) rfl rfl rfl (Or.inl rfl) h
theorem q_162_72  : zRun 162 72 [l0, l1, some (.int x)] S sh mi mj mr = zRun 162 75 [l0, zk2 l1, some (.int (x + 1))] S sh mi mj mr := zr_s1 (i := 2) (v := .int (x + 1)) (L := [l0, l1, some (.int x)]) (zD_of zk_162 d_162_72 rfl rfl) rfl rfl rfl rfl
theorem q_162_75  : zRun 162 75 L S sh mi mj mr = zRun 162 2 L S sh mi mj mr := zr_go (off := (-73)) (zD_of zk_162 d_162_75 rfl rfl) rfl rfl (by decide)
theorem q_162_78  : zRun 162 78 L [] sh mi mj mr = some (none, sh, mi, mj, mr) := zr_ret (zD_of zk_162 d_162_78 rfl rfl) rfl rfl rfl rfl rfl rfl
theorem e_162 {x0 : Int32} : zCall 162 [.ref o, .int x0] sh mi mj mr = zRun 162 0 [some (.ref o), some (.int x0), none] [] sh mi mj mr := rfl
theorem d_163_0 : decode cX8_wholeBox 0 = .ok (.iconst 0, 1) := by decide +kernel
theorem d_163_1 : decode cX8_wholeBox 1 = .ok (.istore_n 1, 1) := by decide +kernel
theorem d_163_2 : decode cX8_wholeBox 2 = .ok (.iload_n 1, 1) := by decide +kernel
theorem d_163_3 : decode cX8_wholeBox 3 = .ok (.iconst 4, 1) := by decide +kernel
theorem d_163_4 : decode cX8_wholeBox 4 = .ok (.if_icmp .ge 37, 3) := by decide +kernel
theorem d_163_7 : decode cX8_wholeBox 7 = .ok (.aload_n 0, 1) := by decide +kernel
theorem d_163_8 : decode cX8_wholeBox 8 = .ok (.getfield 39, 3) := by decide +kernel
theorem d_163_11 : decode cX8_wholeBox 11 = .ok (.iload_n 1, 1) := by decide +kernel
theorem d_163_12 : decode cX8_wholeBox 12 = .ok (.aload_n 0, 1) := by decide +kernel
theorem d_163_13 : decode cX8_wholeBox 13 = .ok (.getfield 7, 3) := by decide +kernel
theorem d_163_16 : decode cX8_wholeBox 16 = .ok (.iconst 0, 1) := by decide +kernel
theorem d_163_17 : decode cX8_wholeBox 17 = .ok (.iload_n 1, 1) := by decide +kernel
theorem d_163_18 : decode cX8_wholeBox 18 = .ok (.iadd, 1) := by decide +kernel
theorem d_163_19 : decode cX8_wholeBox 19 = .ok (.iaload, 1) := by decide +kernel
theorem d_163_20 : decode cX8_wholeBox 20 = .ok (.iastore, 1) := by decide +kernel
theorem d_163_21 : decode cX8_wholeBox 21 = .ok (.aload_n 0, 1) := by decide +kernel
theorem d_163_22 : decode cX8_wholeBox 22 = .ok (.getfield 42, 3) := by decide +kernel
theorem d_163_25 : decode cX8_wholeBox 25 = .ok (.iload_n 1, 1) := by decide +kernel
theorem d_163_26 : decode cX8_wholeBox 26 = .ok (.aload_n 0, 1) := by decide +kernel
theorem d_163_27 : decode cX8_wholeBox 27 = .ok (.getfield 7, 3) := by decide +kernel
theorem d_163_30 : decode cX8_wholeBox 30 = .ok (.iconst 4, 1) := by decide +kernel
theorem d_163_31 : decode cX8_wholeBox 31 = .ok (.iload_n 1, 1) := by decide +kernel
theorem d_163_32 : decode cX8_wholeBox 32 = .ok (.iadd, 1) := by decide +kernel
theorem d_163_33 : decode cX8_wholeBox 33 = .ok (.iaload, 1) := by decide +kernel
theorem d_163_34 : decode cX8_wholeBox 34 = .ok (.iastore, 1) := by decide +kernel
theorem d_163_35 : decode cX8_wholeBox 35 = .ok (.iinc 1 1, 3) := by decide +kernel
theorem d_163_38 : decode cX8_wholeBox 38 = .ok (.goto (-36), 3) := by decide +kernel
theorem d_163_41 : decode cX8_wholeBox 41 = .ok (.return_, 1) := by decide +kernel
theorem q_163_0  : zRun 163 0 L S sh mi mj mr = zRun 163 1 L (.int 0 :: S) sh mi mj mr := zr_p (zD_of zk_163 d_163_0 rfl rfl) rfl
theorem q_163_1 : zRun 163 1 [l0, l1] (.int x :: S) sh mi mj mr = zRun 163 2 [zk2 l0, some (.int x)] S sh mi mj mr := zr_s1 (i := 1) (v := .int x) (L := [l0, l1]) (zD_of zk_163 d_163_1 rfl rfl) rfl rfl rfl rfl
theorem q_163_2 : zRun 163 2 [l0, some (.int x)] S sh mi mj mr = zRun 163 3 [l0, some (.int x)] (.int x :: S) sh mi mj mr := zr_l (zD_of zk_163 d_163_2 rfl rfl) rfl rfl rfl
theorem q_163_3  : zRun 163 3 L S sh mi mj mr = zRun 163 4 L (.int 4 :: S) sh mi mj mr := zr_p (zD_of zk_163 d_163_3 rfl rfl) rfl
theorem q_163_4  : zRun 163 4 L (.int y :: .int x :: S) sh mi mj mr = if y ≤ x then zRun 163 41 L S sh mi mj mr else zRun 163 7 L S sh mi mj mr := zr_if (off := 37) (P := y ≤ x) (zD_of zk_163 d_163_4 rfl rfl) rfl rfl (by decide)
theorem q_163_7r : zRun 163 7 [some (.ref o), l1] S sh mi mj mr = zRun 163 8 [some (.ref o), l1] (.ref o :: S) sh mi mj mr := zr_l (zD_of zk_163 d_163_7 rfl rfl) rfl rfl rfl
theorem q_163_7n : zRun 163 7 [some (.null), l1] S sh mi mj mr = zRun 163 8 [some (.null), l1] (.null :: S) sh mi mj mr := zr_l (zD_of zk_163 d_163_7 rfl rfl) rfl rfl rfl
theorem q_163_8 (h : zIs sh o 0 8) : zRun 163 8 L (.ref o :: S) sh mi mj mr = zRun 163 11 L (va_rf (mr o 16) :: S) sh mi mj mr := zr_getR (zD_of zk_163 d_163_8 rfl rfl) rfl rfl rfl h
theorem q_163_11 : zRun 163 11 [l0, some (.int x)] S sh mi mj mr = zRun 163 12 [l0, some (.int x)] (.int x :: S) sh mi mj mr := zr_l (zD_of zk_163 d_163_11 rfl rfl) rfl rfl rfl
theorem q_163_12r : zRun 163 12 [some (.ref o), l1] S sh mi mj mr = zRun 163 13 [some (.ref o), l1] (.ref o :: S) sh mi mj mr := zr_l (zD_of zk_163 d_163_12 rfl rfl) rfl rfl rfl
theorem q_163_12n : zRun 163 12 [some (.null), l1] S sh mi mj mr = zRun 163 13 [some (.null), l1] (.null :: S) sh mi mj mr := zr_l (zD_of zk_163 d_163_12 rfl rfl) rfl rfl rfl
theorem q_163_13 (h : zIs sh o 0 8) : zRun 163 13 L (.ref o :: S) sh mi mj mr = zRun 163 16 L (va_rf (mr o 0) :: S) sh mi mj mr := zr_getR (zD_of zk_163 d_163_13 rfl rfl) rfl rfl rfl h
theorem q_163_16  : zRun 163 16 L S sh mi mj mr = zRun 163 17 L (.int 0 :: S) sh mi mj mr := zr_p (zD_of zk_163 d_163_16 rfl rfl) rfl
theorem q_163_17 : zRun 163 17 [l0, some (.int x)] S sh mi mj mr = zRun 163 18 [l0, some (.int x)] (.int x :: S) sh mi mj mr := zr_l (zD_of zk_163 d_163_17 rfl rfl) rfl rfl rfl
theorem q_163_18  : zRun 163 18 L (.int y :: .int x :: S) sh mi mj mr = zRun 163 19 L (.int (x + y) :: S) sh mi mj mr := zr_p (zD_of zk_163 d_163_18 rfl rfl) rfl
theorem q_163_19 (h : zAt sh o 1 x) : zRun 163 19 L (.int x :: .ref o :: S) sh mi mj mr = zRun 163 20 L (.int (mi o x.toNatClampNeg) :: S) sh mi mj mr := zr_iald (zD_of zk_163 d_163_19 rfl rfl) h
theorem q_163_20 (h : zAt sh o 1 x) : zRun 163 20 L (.int y :: .int x :: .ref o :: S) sh mi mj mr = zRun 163 21 L S sh (zup mi o x.toNatClampNeg y) mj mr := zr_iast (zD_of zk_163 d_163_20 rfl rfl) h
theorem q_163_21r : zRun 163 21 [some (.ref o), l1] S sh mi mj mr = zRun 163 22 [some (.ref o), l1] (.ref o :: S) sh mi mj mr := zr_l (zD_of zk_163 d_163_21 rfl rfl) rfl rfl rfl
theorem q_163_21n : zRun 163 21 [some (.null), l1] S sh mi mj mr = zRun 163 22 [some (.null), l1] (.null :: S) sh mi mj mr := zr_l (zD_of zk_163 d_163_21 rfl rfl) rfl rfl rfl
theorem q_163_22 (h : zIs sh o 0 8) : zRun 163 22 L (.ref o :: S) sh mi mj mr = zRun 163 25 L (va_rf (mr o 17) :: S) sh mi mj mr := zr_getR (zD_of zk_163 d_163_22 rfl rfl) rfl rfl rfl h
theorem q_163_25 : zRun 163 25 [l0, some (.int x)] S sh mi mj mr = zRun 163 26 [l0, some (.int x)] (.int x :: S) sh mi mj mr := zr_l (zD_of zk_163 d_163_25 rfl rfl) rfl rfl rfl
theorem q_163_26r : zRun 163 26 [some (.ref o), l1] S sh mi mj mr = zRun 163 27 [some (.ref o), l1] (.ref o :: S) sh mi mj mr := zr_l (zD_of zk_163 d_163_26 rfl rfl) rfl rfl rfl
theorem q_163_26n : zRun 163 26 [some (.null), l1] S sh mi mj mr = zRun 163 27 [some (.null), l1] (.null :: S) sh mi mj mr := zr_l (zD_of zk_163 d_163_26 rfl rfl) rfl rfl rfl
theorem q_163_27 (h : zIs sh o 0 8) : zRun 163 27 L (.ref o :: S) sh mi mj mr = zRun 163 30 L (va_rf (mr o 0) :: S) sh mi mj mr := zr_getR (zD_of zk_163 d_163_27 rfl rfl) rfl rfl rfl h
theorem q_163_30  : zRun 163 30 L S sh mi mj mr = zRun 163 31 L (.int 4 :: S) sh mi mj mr := zr_p (zD_of zk_163 d_163_30 rfl rfl) rfl
theorem q_163_31 : zRun 163 31 [l0, some (.int x)] S sh mi mj mr = zRun 163 32 [l0, some (.int x)] (.int x :: S) sh mi mj mr := zr_l (zD_of zk_163 d_163_31 rfl rfl) rfl rfl rfl
theorem q_163_32  : zRun 163 32 L (.int y :: .int x :: S) sh mi mj mr = zRun 163 33 L (.int (x + y) :: S) sh mi mj mr := zr_p (zD_of zk_163 d_163_32 rfl rfl) rfl
theorem q_163_33 (h : zAt sh o 1 x) : zRun 163 33 L (.int x :: .ref o :: S) sh mi mj mr = zRun 163 34 L (.int (mi o x.toNatClampNeg) :: S) sh mi mj mr := zr_iald (zD_of zk_163 d_163_33 rfl rfl) h
theorem q_163_34 (h : zAt sh o 1 x) : zRun 163 34 L (.int y :: .int x :: .ref o :: S) sh mi mj mr = zRun 163 35 L S sh (zup mi o x.toNatClampNeg y) mj mr := zr_iast (zD_of zk_163 d_163_34 rfl rfl) h
theorem q_163_35  : zRun 163 35 [l0, some (.int x)] S sh mi mj mr = zRun 163 38 [zk2 l0, some (.int (x + 1))] S sh mi mj mr := zr_s1 (i := 1) (v := .int (x + 1)) (L := [l0, some (.int x)]) (zD_of zk_163 d_163_35 rfl rfl) rfl rfl rfl rfl
theorem q_163_38  : zRun 163 38 L S sh mi mj mr = zRun 163 2 L S sh mi mj mr := zr_go (off := (-36)) (zD_of zk_163 d_163_38 rfl rfl) rfl rfl (by decide)
theorem q_163_41  : zRun 163 41 L [] sh mi mj mr = some (none, sh, mi, mj, mr) := zr_ret (zD_of zk_163 d_163_41 rfl rfl) rfl rfl rfl rfl rfl rfl
theorem e_163 : zCall 163 [.ref o] sh mi mj mr = zRun 163 0 [some (.ref o), none] [] sh mi mj mr := rfl
theorem d_164_0 : decode cX8_layInput 0 = .ok (.aload_n 0, 1) := by decide +kernel
theorem d_164_1 : decode cX8_layInput 1 = .ok (.getfield 39, 3) := by decide +kernel
theorem d_164_4 : decode cX8_layInput 4 = .ok (.iload_n 1, 1) := by decide +kernel
theorem d_164_5 : decode cX8_layInput 5 = .ok (.iaload, 1) := by decide +kernel
theorem d_164_6 : decode cX8_layInput 6 = .ok (.aload_n 0, 1) := by decide +kernel
theorem d_164_7 : decode cX8_layInput 7 = .ok (.getfield 42, 3) := by decide +kernel
theorem d_164_10 : decode cX8_layInput 10 = .ok (.iload_n 1, 1) := by decide +kernel
theorem d_164_11 : decode cX8_layInput 11 = .ok (.iaload, 1) := by decide +kernel
theorem d_164_12 : decode cX8_layInput 12 = .ok (.iadd, 1) := by decide +kernel
theorem d_164_13 : decode cX8_layInput 13 = .ok (.iconst 1, 1) := by decide +kernel
theorem d_164_14 : decode cX8_layInput 14 = .ok (.ishr, 1) := by decide +kernel
theorem d_164_15 : decode cX8_layInput 15 = .ok (.i2l, 1) := by decide +kernel
theorem d_164_16 : decode cX8_layInput 16 = .ok (.lstore_n 2, 1) := by decide +kernel
theorem d_164_17 : decode cX8_layInput 17 = .ok (.aload_n 0, 1) := by decide +kernel
theorem d_164_18 : decode cX8_layInput 18 = .ok (.aload_n 0, 1) := by decide +kernel
theorem d_164_19 : decode cX8_layInput 19 = .ok (.getfield 213, 3) := by decide +kernel
theorem d_164_22 : decode cX8_layInput 22 = .ok (.invokevirtual 157, 3) := by decide +kernel
theorem d_164_25 : decode cX8_layInput 25 = .ok (.bipush 17, 2) := by decide +kernel
theorem d_164_27 : decode cX8_layInput 27 = .ok (.aload_n 0, 1) := by decide +kernel
theorem d_164_28 : decode cX8_layInput 28 = .ok (.getfield 213, 3) := by decide +kernel
theorem d_164_31 : decode cX8_layInput 31 = .ok (.imul, 1) := by decide +kernel
theorem d_164_32 : decode cX8_layInput 32 = .ok (.istore 4, 2) := by decide +kernel
theorem d_164_34 : decode cX8_layInput 34 = .ok (.aload_n 0, 1) := by decide +kernel
theorem d_164_35 : decode cX8_layInput 35 = .ok (.getfield 29, 3) := by decide +kernel
theorem d_164_38 : decode cX8_layInput 38 = .ok (.iload 4, 2) := by decide +kernel
theorem d_164_40 : decode cX8_layInput 40 = .ok (.lload_n 2, 1) := by decide +kernel
theorem d_164_41 : decode cX8_layInput 41 = .ok (.lastore, 1) := by decide +kernel
theorem d_164_42 : decode cX8_layInput 42 = .ok (.aload_n 0, 1) := by decide +kernel
theorem d_164_43 : decode cX8_layInput 43 = .ok (.getfield 29, 3) := by decide +kernel
theorem d_164_46 : decode cX8_layInput 46 = .ok (.iload 4, 2) := by decide +kernel
theorem d_164_48 : decode cX8_layInput 48 = .ok (.iconst 1, 1) := by decide +kernel
theorem d_164_49 : decode cX8_layInput 49 = .ok (.iadd, 1) := by decide +kernel
theorem d_164_50 : decode cX8_layInput 50 = .ok (.iload_n 1, 1) := by decide +kernel
theorem d_164_51 : decode cX8_layInput 51 = .ok (.iadd, 1) := by decide +kernel
theorem d_164_52 : decode cX8_layInput 52 = .ok (.aload_n 0, 1) := by decide +kernel
theorem d_164_53 : decode cX8_layInput 53 = .ok (.getfield 42, 3) := by decide +kernel
theorem d_164_56 : decode cX8_layInput 56 = .ok (.iload_n 1, 1) := by decide +kernel
theorem d_164_57 : decode cX8_layInput 57 = .ok (.iaload, 1) := by decide +kernel
theorem d_164_58 : decode cX8_layInput 58 = .ok (.i2l, 1) := by decide +kernel
theorem d_164_59 : decode cX8_layInput 59 = .ok (.lload_n 2, 1) := by decide +kernel
theorem d_164_60 : decode cX8_layInput 60 = .ok (.lsub, 1) := by decide +kernel
theorem d_164_61 : decode cX8_layInput 61 = .ok (.lload_n 2, 1) := by decide +kernel
theorem d_164_62 : decode cX8_layInput 62 = .ok (.aload_n 0, 1) := by decide +kernel
theorem d_164_63 : decode cX8_layInput 63 = .ok (.getfield 39, 3) := by decide +kernel
theorem d_164_66 : decode cX8_layInput 66 = .ok (.iload_n 1, 1) := by decide +kernel
theorem d_164_67 : decode cX8_layInput 67 = .ok (.iaload, 1) := by decide +kernel
theorem d_164_68 : decode cX8_layInput 68 = .ok (.i2l, 1) := by decide +kernel
theorem d_164_69 : decode cX8_layInput 69 = .ok (.lsub, 1) := by decide +kernel
theorem d_164_70 : decode cX8_layInput 70 = .ok (.invokestatic 178, 3) := by decide +kernel
theorem d_164_73 : decode cX8_layInput 73 = .ok (.lastore, 1) := by decide +kernel
theorem d_164_74 : decode cX8_layInput 74 = .ok (.aload_n 0, 1) := by decide +kernel
theorem d_164_75 : decode cX8_layInput 75 = .ok (.getfield 29, 3) := by decide +kernel
theorem d_164_78 : decode cX8_layInput 78 = .ok (.iload 4, 2) := by decide +kernel
theorem d_164_80 : decode cX8_layInput 80 = .ok (.bipush 14, 2) := by decide +kernel
theorem d_164_82 : decode cX8_layInput 82 = .ok (.iadd, 1) := by decide +kernel
theorem d_164_83 : decode cX8_layInput 83 = .ok (.aload_n 0, 1) := by decide +kernel
theorem d_164_84 : decode cX8_layInput 84 = .ok (.getfield 39, 3) := by decide +kernel
theorem d_164_87 : decode cX8_layInput 87 = .ok (.iload_n 1, 1) := by decide +kernel
theorem d_164_88 : decode cX8_layInput 88 = .ok (.iaload, 1) := by decide +kernel
theorem d_164_89 : decode cX8_layInput 89 = .ok (.i2l, 1) := by decide +kernel
theorem d_164_90 : decode cX8_layInput 90 = .ok (.lastore, 1) := by decide +kernel
theorem d_164_91 : decode cX8_layInput 91 = .ok (.aload_n 0, 1) := by decide +kernel
theorem d_164_92 : decode cX8_layInput 92 = .ok (.getfield 29, 3) := by decide +kernel
theorem d_164_95 : decode cX8_layInput 95 = .ok (.iload 4, 2) := by decide +kernel
theorem d_164_97 : decode cX8_layInput 97 = .ok (.bipush 15, 2) := by decide +kernel
theorem d_164_99 : decode cX8_layInput 99 = .ok (.iadd, 1) := by decide +kernel
theorem d_164_100 : decode cX8_layInput 100 = .ok (.aload_n 0, 1) := by decide +kernel
theorem d_164_101 : decode cX8_layInput 101 = .ok (.getfield 42, 3) := by decide +kernel
theorem d_164_104 : decode cX8_layInput 104 = .ok (.iload_n 1, 1) := by decide +kernel
theorem d_164_105 : decode cX8_layInput 105 = .ok (.iaload, 1) := by decide +kernel
theorem d_164_106 : decode cX8_layInput 106 = .ok (.i2l, 1) := by decide +kernel
theorem d_164_107 : decode cX8_layInput 107 = .ok (.lastore, 1) := by decide +kernel
theorem d_164_108 : decode cX8_layInput 108 = .ok (.aload_n 0, 1) := by decide +kernel
theorem d_164_109 : decode cX8_layInput 109 = .ok (.dup, 1) := by decide +kernel
theorem d_164_110 : decode cX8_layInput 110 = .ok (.getfield 213, 3) := by decide +kernel
theorem d_164_113 : decode cX8_layInput 113 = .ok (.iconst 1, 1) := by decide +kernel
theorem d_164_114 : decode cX8_layInput 114 = .ok (.iadd, 1) := by decide +kernel
theorem d_164_115 : decode cX8_layInput 115 = .ok (.putfield 213, 3) := by decide +kernel
theorem d_164_118 : decode cX8_layInput 118 = .ok (.return_, 1) := by decide +kernel
theorem q_164_0r : zRun 164 0 [some (.ref o), l1, l2, l3, l4] S sh mi mj mr = zRun 164 1 [some (.ref o), l1, l2, l3, l4] (.ref o :: S) sh mi mj mr := zr_l (zD_of zk_164 d_164_0 rfl rfl) rfl rfl rfl
theorem q_164_0n : zRun 164 0 [some (.null), l1, l2, l3, l4] S sh mi mj mr = zRun 164 1 [some (.null), l1, l2, l3, l4] (.null :: S) sh mi mj mr := zr_l (zD_of zk_164 d_164_0 rfl rfl) rfl rfl rfl
theorem q_164_1 (h : zIs sh o 0 8) : zRun 164 1 L (.ref o :: S) sh mi mj mr = zRun 164 4 L (va_rf (mr o 16) :: S) sh mi mj mr := zr_getR (zD_of zk_164 d_164_1 rfl rfl) rfl rfl rfl h
theorem q_164_4 : zRun 164 4 [l0, some (.int x), l2, l3, l4] S sh mi mj mr = zRun 164 5 [l0, some (.int x), l2, l3, l4] (.int x :: S) sh mi mj mr := zr_l (zD_of zk_164 d_164_4 rfl rfl) rfl rfl rfl
theorem q_164_5 (h : zAt sh o 1 x) : zRun 164 5 L (.int x :: .ref o :: S) sh mi mj mr = zRun 164 6 L (.int (mi o x.toNatClampNeg) :: S) sh mi mj mr := zr_iald (zD_of zk_164 d_164_5 rfl rfl) h
theorem q_164_6r : zRun 164 6 [some (.ref o), l1, l2, l3, l4] S sh mi mj mr = zRun 164 7 [some (.ref o), l1, l2, l3, l4] (.ref o :: S) sh mi mj mr := zr_l (zD_of zk_164 d_164_6 rfl rfl) rfl rfl rfl
theorem q_164_6n : zRun 164 6 [some (.null), l1, l2, l3, l4] S sh mi mj mr = zRun 164 7 [some (.null), l1, l2, l3, l4] (.null :: S) sh mi mj mr := zr_l (zD_of zk_164 d_164_6 rfl rfl) rfl rfl rfl
theorem q_164_7 (h : zIs sh o 0 8) : zRun 164 7 L (.ref o :: S) sh mi mj mr = zRun 164 10 L (va_rf (mr o 17) :: S) sh mi mj mr := zr_getR (zD_of zk_164 d_164_7 rfl rfl) rfl rfl rfl h
theorem q_164_10 : zRun 164 10 [l0, some (.int x), l2, l3, l4] S sh mi mj mr = zRun 164 11 [l0, some (.int x), l2, l3, l4] (.int x :: S) sh mi mj mr := zr_l (zD_of zk_164 d_164_10 rfl rfl) rfl rfl rfl
theorem q_164_11 (h : zAt sh o 1 x) : zRun 164 11 L (.int x :: .ref o :: S) sh mi mj mr = zRun 164 12 L (.int (mi o x.toNatClampNeg) :: S) sh mi mj mr := zr_iald (zD_of zk_164 d_164_11 rfl rfl) h
theorem q_164_12  : zRun 164 12 L (.int y :: .int x :: S) sh mi mj mr = zRun 164 13 L (.int (x + y) :: S) sh mi mj mr := zr_p (zD_of zk_164 d_164_12 rfl rfl) rfl
theorem q_164_13  : zRun 164 13 L S sh mi mj mr = zRun 164 14 L (.int 1 :: S) sh mi mj mr := zr_p (zD_of zk_164 d_164_13 rfl rfl) rfl
theorem q_164_14  : zRun 164 14 L (.int y :: .int x :: S) sh mi mj mr = zRun 164 15 L (.int (x >>> (y &&& 31)) :: S) sh mi mj mr := zr_p (zD_of zk_164 d_164_14 rfl rfl) rfl
theorem q_164_15  : zRun 164 15 L (.int x :: S) sh mi mj mr = zRun 164 16 L (.long x.toInt64 :: S) sh mi mj mr := zr_p (zD_of zk_164 d_164_15 rfl rfl) rfl
theorem q_164_16 : zRun 164 16 [l0, l1, l2, l3, l4] (.long u :: S) sh mi mj mr = zRun 164 17 [l0, zk2 l1, some (.long u), none, l4] S sh mi mj mr := zr_s2 (i := 2) (v := .long u) (L := [l0, l1, l2, l3, l4]) (zD_of zk_164 d_164_16 rfl rfl) rfl rfl rfl rfl
theorem q_164_17r : zRun 164 17 [some (.ref o), l1, l2, l3, l4] S sh mi mj mr = zRun 164 18 [some (.ref o), l1, l2, l3, l4] (.ref o :: S) sh mi mj mr := zr_l (zD_of zk_164 d_164_17 rfl rfl) rfl rfl rfl
theorem q_164_17n : zRun 164 17 [some (.null), l1, l2, l3, l4] S sh mi mj mr = zRun 164 18 [some (.null), l1, l2, l3, l4] (.null :: S) sh mi mj mr := zr_l (zD_of zk_164 d_164_17 rfl rfl) rfl rfl rfl
theorem q_164_18r : zRun 164 18 [some (.ref o), l1, l2, l3, l4] S sh mi mj mr = zRun 164 19 [some (.ref o), l1, l2, l3, l4] (.ref o :: S) sh mi mj mr := zr_l (zD_of zk_164 d_164_18 rfl rfl) rfl rfl rfl
theorem q_164_18n : zRun 164 18 [some (.null), l1, l2, l3, l4] S sh mi mj mr = zRun 164 19 [some (.null), l1, l2, l3, l4] (.null :: S) sh mi mj mr := zr_l (zD_of zk_164 d_164_18 rfl rfl) rfl rfl rfl
theorem q_164_19 (h : zIs sh o 0 8) : zRun 164 19 L (.ref o :: S) sh mi mj mr = zRun 164 22 L (.int (mi o 11) :: S) sh mi mj mr := zr_getI (zD_of zk_164 d_164_19 rfl rfl) rfl rfl (Or.inl rfl) h
theorem q_164_22  {x0 : Int32} (hS : zcat S ≤ 8) (h : zIs sh o 0 8) : zRun 164 22 L (.int x0 :: .ref o :: S) sh mi mj mr = (zCall 142 [.ref o, .int x0] sh mi mj mr).bind fun r => zRun 164 25 L (r.1.toList ++ S) r.2.1 r.2.2.1 r.2.2.2.1 r.2.2.2.2 := zr_V (zD_of zk_164 d_164_22 rfl rfl) rfl zk_142 rfl rfl rfl hS h
theorem q_164_25  : zRun 164 25 L S sh mi mj mr = zRun 164 27 L (.int 17 :: S) sh mi mj mr := zr_p (zD_of zk_164 d_164_25 rfl rfl) rfl
theorem q_164_27r : zRun 164 27 [some (.ref o), l1, l2, l3, l4] S sh mi mj mr = zRun 164 28 [some (.ref o), l1, l2, l3, l4] (.ref o :: S) sh mi mj mr := zr_l (zD_of zk_164 d_164_27 rfl rfl) rfl rfl rfl
theorem q_164_27n : zRun 164 27 [some (.null), l1, l2, l3, l4] S sh mi mj mr = zRun 164 28 [some (.null), l1, l2, l3, l4] (.null :: S) sh mi mj mr := zr_l (zD_of zk_164 d_164_27 rfl rfl) rfl rfl rfl
theorem q_164_28 (h : zIs sh o 0 8) : zRun 164 28 L (.ref o :: S) sh mi mj mr = zRun 164 31 L (.int (mi o 11) :: S) sh mi mj mr := zr_getI (zD_of zk_164 d_164_28 rfl rfl) rfl rfl (Or.inl rfl) h
theorem q_164_31  : zRun 164 31 L (.int y :: .int x :: S) sh mi mj mr = zRun 164 32 L (.int (x * y) :: S) sh mi mj mr := zr_p (zD_of zk_164 d_164_31 rfl rfl) rfl
theorem q_164_32 : zRun 164 32 [l0, l1, l2, l3, l4] (.int x :: S) sh mi mj mr = zRun 164 34 [l0, l1, l2, zk2 l3, some (.int x)] S sh mi mj mr := zr_s1 (i := 4) (v := .int x) (L := [l0, l1, l2, l3, l4]) (zD_of zk_164 d_164_32 rfl rfl) rfl rfl rfl rfl
theorem q_164_34r : zRun 164 34 [some (.ref o), l1, l2, l3, l4] S sh mi mj mr = zRun 164 35 [some (.ref o), l1, l2, l3, l4] (.ref o :: S) sh mi mj mr := zr_l (zD_of zk_164 d_164_34 rfl rfl) rfl rfl rfl
theorem q_164_34n : zRun 164 34 [some (.null), l1, l2, l3, l4] S sh mi mj mr = zRun 164 35 [some (.null), l1, l2, l3, l4] (.null :: S) sh mi mj mr := zr_l (zD_of zk_164 d_164_34 rfl rfl) rfl rfl rfl
theorem q_164_35 (h : zIs sh o 0 8) : zRun 164 35 L (.ref o :: S) sh mi mj mr = zRun 164 38 L (va_rf (mr o 10) :: S) sh mi mj mr := zr_getR (zD_of zk_164 d_164_35 rfl rfl) rfl rfl rfl h
theorem q_164_38 : zRun 164 38 [l0, l1, l2, l3, some (.int x)] S sh mi mj mr = zRun 164 40 [l0, l1, l2, l3, some (.int x)] (.int x :: S) sh mi mj mr := zr_l (zD_of zk_164 d_164_38 rfl rfl) rfl rfl rfl
theorem q_164_40 : zRun 164 40 [l0, l1, some (.long u), l3, l4] S sh mi mj mr = zRun 164 41 [l0, l1, some (.long u), l3, l4] (.long u :: S) sh mi mj mr := zr_l (zD_of zk_164 d_164_40 rfl rfl) rfl rfl rfl
theorem q_164_41 (h : zAt sh o 2 x) : zRun 164 41 L (.long u :: .int x :: .ref o :: S) sh mi mj mr = zRun 164 42 L S sh mi (zup mj o x.toNatClampNeg u) mr := zr_last (zD_of zk_164 d_164_41 rfl rfl) h
theorem q_164_42r : zRun 164 42 [some (.ref o), l1, l2, l3, l4] S sh mi mj mr = zRun 164 43 [some (.ref o), l1, l2, l3, l4] (.ref o :: S) sh mi mj mr := zr_l (zD_of zk_164 d_164_42 rfl rfl) rfl rfl rfl
theorem q_164_42n : zRun 164 42 [some (.null), l1, l2, l3, l4] S sh mi mj mr = zRun 164 43 [some (.null), l1, l2, l3, l4] (.null :: S) sh mi mj mr := zr_l (zD_of zk_164 d_164_42 rfl rfl) rfl rfl rfl
theorem q_164_43 (h : zIs sh o 0 8) : zRun 164 43 L (.ref o :: S) sh mi mj mr = zRun 164 46 L (va_rf (mr o 10) :: S) sh mi mj mr := zr_getR (zD_of zk_164 d_164_43 rfl rfl) rfl rfl rfl h
theorem q_164_46 : zRun 164 46 [l0, l1, l2, l3, some (.int x)] S sh mi mj mr = zRun 164 48 [l0, l1, l2, l3, some (.int x)] (.int x :: S) sh mi mj mr := zr_l (zD_of zk_164 d_164_46 rfl rfl) rfl rfl rfl
theorem q_164_48  : zRun 164 48 L S sh mi mj mr = zRun 164 49 L (.int 1 :: S) sh mi mj mr := zr_p (zD_of zk_164 d_164_48 rfl rfl) rfl
theorem q_164_49  : zRun 164 49 L (.int y :: .int x :: S) sh mi mj mr = zRun 164 50 L (.int (x + y) :: S) sh mi mj mr := zr_p (zD_of zk_164 d_164_49 rfl rfl) rfl
theorem q_164_50 : zRun 164 50 [l0, some (.int x), l2, l3, l4] S sh mi mj mr = zRun 164 51 [l0, some (.int x), l2, l3, l4] (.int x :: S) sh mi mj mr := zr_l (zD_of zk_164 d_164_50 rfl rfl) rfl rfl rfl
theorem q_164_51  : zRun 164 51 L (.int y :: .int x :: S) sh mi mj mr = zRun 164 52 L (.int (x + y) :: S) sh mi mj mr := zr_p (zD_of zk_164 d_164_51 rfl rfl) rfl
theorem q_164_52r : zRun 164 52 [some (.ref o), l1, l2, l3, l4] S sh mi mj mr = zRun 164 53 [some (.ref o), l1, l2, l3, l4] (.ref o :: S) sh mi mj mr := zr_l (zD_of zk_164 d_164_52 rfl rfl) rfl rfl rfl
theorem q_164_52n : zRun 164 52 [some (.null), l1, l2, l3, l4] S sh mi mj mr = zRun 164 53 [some (.null), l1, l2, l3, l4] (.null :: S) sh mi mj mr := zr_l (zD_of zk_164 d_164_52 rfl rfl) rfl rfl rfl
theorem q_164_53 (h : zIs sh o 0 8) : zRun 164 53 L (.ref o :: S) sh mi mj mr = zRun 164 56 L (va_rf (mr o 17) :: S) sh mi mj mr := zr_getR (zD_of zk_164 d_164_53 rfl rfl) rfl rfl rfl h
theorem q_164_56 : zRun 164 56 [l0, some (.int x), l2, l3, l4] S sh mi mj mr = zRun 164 57 [l0, some (.int x), l2, l3, l4] (.int x :: S) sh mi mj mr := zr_l (zD_of zk_164 d_164_56 rfl rfl) rfl rfl rfl
theorem q_164_57 (h : zAt sh o 1 x) : zRun 164 57 L (.int x :: .ref o :: S) sh mi mj mr = zRun 164 58 L (.int (mi o x.toNatClampNeg) :: S) sh mi mj mr := zr_iald (zD_of zk_164 d_164_57 rfl rfl) h
theorem q_164_58  : zRun 164 58 L (.int x :: S) sh mi mj mr = zRun 164 59 L (.long x.toInt64 :: S) sh mi mj mr := zr_p (zD_of zk_164 d_164_58 rfl rfl) rfl
theorem q_164_59 : zRun 164 59 [l0, l1, some (.long u), l3, l4] S sh mi mj mr = zRun 164 60 [l0, l1, some (.long u), l3, l4] (.long u :: S) sh mi mj mr := zr_l (zD_of zk_164 d_164_59 rfl rfl) rfl rfl rfl
theorem q_164_60  : zRun 164 60 L (.long v :: .long u :: S) sh mi mj mr = zRun 164 61 L (.long (u - v) :: S) sh mi mj mr := zr_p (zD_of zk_164 d_164_60 rfl rfl) rfl
theorem q_164_61 : zRun 164 61 [l0, l1, some (.long u), l3, l4] S sh mi mj mr = zRun 164 62 [l0, l1, some (.long u), l3, l4] (.long u :: S) sh mi mj mr := zr_l (zD_of zk_164 d_164_61 rfl rfl) rfl rfl rfl
theorem q_164_62r : zRun 164 62 [some (.ref o), l1, l2, l3, l4] S sh mi mj mr = zRun 164 63 [some (.ref o), l1, l2, l3, l4] (.ref o :: S) sh mi mj mr := zr_l (zD_of zk_164 d_164_62 rfl rfl) rfl rfl rfl
theorem q_164_62n : zRun 164 62 [some (.null), l1, l2, l3, l4] S sh mi mj mr = zRun 164 63 [some (.null), l1, l2, l3, l4] (.null :: S) sh mi mj mr := zr_l (zD_of zk_164 d_164_62 rfl rfl) rfl rfl rfl
theorem q_164_63 (h : zIs sh o 0 8) : zRun 164 63 L (.ref o :: S) sh mi mj mr = zRun 164 66 L (va_rf (mr o 16) :: S) sh mi mj mr := zr_getR (zD_of zk_164 d_164_63 rfl rfl) rfl rfl rfl h
theorem q_164_66 : zRun 164 66 [l0, some (.int x), l2, l3, l4] S sh mi mj mr = zRun 164 67 [l0, some (.int x), l2, l3, l4] (.int x :: S) sh mi mj mr := zr_l (zD_of zk_164 d_164_66 rfl rfl) rfl rfl rfl
theorem q_164_67 (h : zAt sh o 1 x) : zRun 164 67 L (.int x :: .ref o :: S) sh mi mj mr = zRun 164 68 L (.int (mi o x.toNatClampNeg) :: S) sh mi mj mr := zr_iald (zD_of zk_164 d_164_67 rfl rfl) h
theorem q_164_68  : zRun 164 68 L (.int x :: S) sh mi mj mr = zRun 164 69 L (.long x.toInt64 :: S) sh mi mj mr := zr_p (zD_of zk_164 d_164_68 rfl rfl) rfl
theorem q_164_69  : zRun 164 69 L (.long v :: .long u :: S) sh mi mj mr = zRun 164 70 L (.long (u - v) :: S) sh mi mj mr := zr_p (zD_of zk_164 d_164_69 rfl rfl) rfl
theorem q_164_70  {u0 u1 : Int64} (hS : zcat S ≤ 8) : zRun 164 70 L (.long u1 :: .long u0 :: S) sh mi mj mr = (zCall 151 [.long u0, .long u1] sh mi mj mr).bind fun r => zRun 164 73 L (r.1.toList ++ S) r.2.1 r.2.2.1 r.2.2.2.1 r.2.2.2.2 := zr_S (zD_of zk_164 d_164_70 rfl rfl) rfl zk_151 rfl rfl rfl hS
theorem q_164_73 (h : zAt sh o 2 x) : zRun 164 73 L (.long u :: .int x :: .ref o :: S) sh mi mj mr = zRun 164 74 L S sh mi (zup mj o x.toNatClampNeg u) mr := zr_last (zD_of zk_164 d_164_73 rfl rfl) h
theorem q_164_74r : zRun 164 74 [some (.ref o), l1, l2, l3, l4] S sh mi mj mr = zRun 164 75 [some (.ref o), l1, l2, l3, l4] (.ref o :: S) sh mi mj mr := zr_l (zD_of zk_164 d_164_74 rfl rfl) rfl rfl rfl
theorem q_164_74n : zRun 164 74 [some (.null), l1, l2, l3, l4] S sh mi mj mr = zRun 164 75 [some (.null), l1, l2, l3, l4] (.null :: S) sh mi mj mr := zr_l (zD_of zk_164 d_164_74 rfl rfl) rfl rfl rfl
theorem q_164_75 (h : zIs sh o 0 8) : zRun 164 75 L (.ref o :: S) sh mi mj mr = zRun 164 78 L (va_rf (mr o 10) :: S) sh mi mj mr := zr_getR (zD_of zk_164 d_164_75 rfl rfl) rfl rfl rfl h
theorem q_164_78 : zRun 164 78 [l0, l1, l2, l3, some (.int x)] S sh mi mj mr = zRun 164 80 [l0, l1, l2, l3, some (.int x)] (.int x :: S) sh mi mj mr := zr_l (zD_of zk_164 d_164_78 rfl rfl) rfl rfl rfl
theorem q_164_80  : zRun 164 80 L S sh mi mj mr = zRun 164 82 L (.int 14 :: S) sh mi mj mr := zr_p (zD_of zk_164 d_164_80 rfl rfl) rfl
theorem q_164_82  : zRun 164 82 L (.int y :: .int x :: S) sh mi mj mr = zRun 164 83 L (.int (x + y) :: S) sh mi mj mr := zr_p (zD_of zk_164 d_164_82 rfl rfl) rfl
theorem q_164_83r : zRun 164 83 [some (.ref o), l1, l2, l3, l4] S sh mi mj mr = zRun 164 84 [some (.ref o), l1, l2, l3, l4] (.ref o :: S) sh mi mj mr := zr_l (zD_of zk_164 d_164_83 rfl rfl) rfl rfl rfl
theorem q_164_83n : zRun 164 83 [some (.null), l1, l2, l3, l4] S sh mi mj mr = zRun 164 84 [some (.null), l1, l2, l3, l4] (.null :: S) sh mi mj mr := zr_l (zD_of zk_164 d_164_83 rfl rfl) rfl rfl rfl
theorem q_164_84 (h : zIs sh o 0 8) : zRun 164 84 L (.ref o :: S) sh mi mj mr = zRun 164 87 L (va_rf (mr o 16) :: S) sh mi mj mr := zr_getR (zD_of zk_164 d_164_84 rfl rfl) rfl rfl rfl h
theorem q_164_87 : zRun 164 87 [l0, some (.int x), l2, l3, l4] S sh mi mj mr = zRun 164 88 [l0, some (.int x), l2, l3, l4] (.int x :: S) sh mi mj mr := zr_l (zD_of zk_164 d_164_87 rfl rfl) rfl rfl rfl
theorem q_164_88 (h : zAt sh o 1 x) : zRun 164 88 L (.int x :: .ref o :: S) sh mi mj mr = zRun 164 89 L (.int (mi o x.toNatClampNeg) :: S) sh mi mj mr := zr_iald (zD_of zk_164 d_164_88 rfl rfl) h
theorem q_164_89  : zRun 164 89 L (.int x :: S) sh mi mj mr = zRun 164 90 L (.long x.toInt64 :: S) sh mi mj mr := zr_p (zD_of zk_164 d_164_89 rfl rfl) rfl
theorem q_164_90 (h : zAt sh o 2 x) : zRun 164 90 L (.long u :: .int x :: .ref o :: S) sh mi mj mr = zRun 164 91 L S sh mi (zup mj o x.toNatClampNeg u) mr := zr_last (zD_of zk_164 d_164_90 rfl rfl) h
theorem q_164_91r : zRun 164 91 [some (.ref o), l1, l2, l3, l4] S sh mi mj mr = zRun 164 92 [some (.ref o), l1, l2, l3, l4] (.ref o :: S) sh mi mj mr := zr_l (zD_of zk_164 d_164_91 rfl rfl) rfl rfl rfl
theorem q_164_91n : zRun 164 91 [some (.null), l1, l2, l3, l4] S sh mi mj mr = zRun 164 92 [some (.null), l1, l2, l3, l4] (.null :: S) sh mi mj mr := zr_l (zD_of zk_164 d_164_91 rfl rfl) rfl rfl rfl
theorem q_164_92 (h : zIs sh o 0 8) : zRun 164 92 L (.ref o :: S) sh mi mj mr = zRun 164 95 L (va_rf (mr o 10) :: S) sh mi mj mr := zr_getR (zD_of zk_164 d_164_92 rfl rfl) rfl rfl rfl h
theorem q_164_95 : zRun 164 95 [l0, l1, l2, l3, some (.int x)] S sh mi mj mr = zRun 164 97 [l0, l1, l2, l3, some (.int x)] (.int x :: S) sh mi mj mr := zr_l (zD_of zk_164 d_164_95 rfl rfl) rfl rfl rfl
theorem q_164_97  : zRun 164 97 L S sh mi mj mr = zRun 164 99 L (.int 15 :: S) sh mi mj mr := zr_p (zD_of zk_164 d_164_97 rfl rfl) rfl
theorem q_164_99  : zRun 164 99 L (.int y :: .int x :: S) sh mi mj mr = zRun 164 100 L (.int (x + y) :: S) sh mi mj mr := zr_p (zD_of zk_164 d_164_99 rfl rfl) rfl
theorem q_164_100r : zRun 164 100 [some (.ref o), l1, l2, l3, l4] S sh mi mj mr = zRun 164 101 [some (.ref o), l1, l2, l3, l4] (.ref o :: S) sh mi mj mr := zr_l (zD_of zk_164 d_164_100 rfl rfl) rfl rfl rfl
theorem q_164_100n : zRun 164 100 [some (.null), l1, l2, l3, l4] S sh mi mj mr = zRun 164 101 [some (.null), l1, l2, l3, l4] (.null :: S) sh mi mj mr := zr_l (zD_of zk_164 d_164_100 rfl rfl) rfl rfl rfl
theorem q_164_101 (h : zIs sh o 0 8) : zRun 164 101 L (.ref o :: S) sh mi mj mr = zRun 164 104 L (va_rf (mr o 17) :: S) sh mi mj mr := zr_getR (zD_of zk_164 d_164_101 rfl rfl) rfl rfl rfl h
theorem q_164_104 : zRun 164 104 [l0, some (.int x), l2, l3, l4] S sh mi mj mr = zRun 164 105 [l0, some (.int x), l2, l3, l4] (.int x :: S) sh mi mj mr := zr_l (zD_of zk_164 d_164_104 rfl rfl) rfl rfl rfl
theorem q_164_105 (h : zAt sh o 1 x) : zRun 164 105 L (.int x :: .ref o :: S) sh mi mj mr = zRun 164 106 L (.int (mi o x.toNatClampNeg) :: S) sh mi mj mr := zr_iald (zD_of zk_164 d_164_105 rfl rfl) h
theorem q_164_106  : zRun 164 106 L (.int x :: S) sh mi mj mr = zRun 164 107 L (.long x.toInt64 :: S) sh mi mj mr := zr_p (zD_of zk_164 d_164_106 rfl rfl) rfl
theorem q_164_107 (h : zAt sh o 2 x) : zRun 164 107 L (.long u :: .int x :: .ref o :: S) sh mi mj mr = zRun 164 108 L S sh mi (zup mj o x.toNatClampNeg u) mr := zr_last (zD_of zk_164 d_164_107 rfl rfl) h
theorem q_164_108r : zRun 164 108 [some (.ref o), l1, l2, l3, l4] S sh mi mj mr = zRun 164 109 [some (.ref o), l1, l2, l3, l4] (.ref o :: S) sh mi mj mr := zr_l (zD_of zk_164 d_164_108 rfl rfl) rfl rfl rfl
theorem q_164_108n : zRun 164 108 [some (.null), l1, l2, l3, l4] S sh mi mj mr = zRun 164 109 [some (.null), l1, l2, l3, l4] (.null :: S) sh mi mj mr := zr_l (zD_of zk_164 d_164_108 rfl rfl) rfl rfl rfl
theorem q_164_109r : zRun 164 109 L (.ref o :: S) sh mi mj mr = zRun 164 110 L (.ref o :: .ref o :: S) sh mi mj mr := zr_p (zD_of zk_164 d_164_109 rfl rfl) rfl
theorem q_164_109i : zRun 164 109 L (.int x :: S) sh mi mj mr = zRun 164 110 L (.int x :: .int x :: S) sh mi mj mr := zr_p (zD_of zk_164 d_164_109 rfl rfl) rfl
theorem q_164_110 (h : zIs sh o 0 8) : zRun 164 110 L (.ref o :: S) sh mi mj mr = zRun 164 113 L (.int (mi o 11) :: S) sh mi mj mr := zr_getI (zD_of zk_164 d_164_110 rfl rfl) rfl rfl (Or.inl rfl) h
theorem q_164_113  : zRun 164 113 L S sh mi mj mr = zRun 164 114 L (.int 1 :: S) sh mi mj mr := zr_p (zD_of zk_164 d_164_113 rfl rfl) rfl
theorem q_164_114  : zRun 164 114 L (.int y :: .int x :: S) sh mi mj mr = zRun 164 115 L (.int (x + y) :: S) sh mi mj mr := zr_p (zD_of zk_164 d_164_114 rfl rfl) rfl
theorem q_164_115 (h : zIs sh o 0 8) : zRun 164 115 L (.int x :: .ref o :: S) sh mi mj mr = zRun 164 118 L S sh (zup mi o 11 x) mj mr := zr_putI (zD_of zk_164 d_164_115 rfl rfl) rfl rfl rfl (Or.inl rfl) h
theorem q_164_118  : zRun 164 118 L [] sh mi mj mr = some (none, sh, mi, mj, mr) := zr_ret (zD_of zk_164 d_164_118 rfl rfl) rfl rfl rfl rfl rfl rfl
theorem e_164 {x0 : Int32} : zCall 164 [.ref o, .int x0] sh mi mj mr = zRun 164 0 [some (.ref o), some (.int x0), none, none, none] [] sh mi mj mr := rfl
theorem d_165_0 : decode cX8_layNumber 0 = .ok (.ldc2_w 166, 3) := by decide +kernel
theorem d_165_3 : decode cX8_layNumber 3 = .ok (.iload_n 1, 1) := by decide +kernel
theorem d_165_4 : decode cX8_layNumber 4 = .ok (.i2l, 1) := by decide +kernel
theorem d_165_5 : decode cX8_layNumber 5 = .ok (.lmul, 1) := by decide +kernel
theorem d_165_6 : decode cX8_layNumber 6 = .ok (.ldc2_w 227, 3) := by decide +kernel
theorem d_165_9 : decode cX8_layNumber 9 = .ok (.ldiv, 1) := by decide +kernel
theorem d_165_10 : decode cX8_layNumber 10 = .ok (.lstore_n 2, 1) := by decide +kernel
theorem d_165_11 : decode cX8_layNumber 11 = .ok (.ldc2_w 166, 3) := by decide +kernel
theorem d_165_14 : decode cX8_layNumber 14 = .ok (.iload_n 1, 1) := by decide +kernel
theorem d_165_15 : decode cX8_layNumber 15 = .ok (.i2l, 1) := by decide +kernel
theorem d_165_16 : decode cX8_layNumber 16 = .ok (.lmul, 1) := by decide +kernel
theorem d_165_17 : decode cX8_layNumber 17 = .ok (.ldc2_w 227, 3) := by decide +kernel
theorem d_165_20 : decode cX8_layNumber 20 = .ok (.lrem, 1) := by decide +kernel
theorem d_165_21 : decode cX8_layNumber 21 = .ok (.lconst 0, 1) := by decide +kernel
theorem d_165_22 : decode cX8_layNumber 22 = .ok (.lcmp, 1) := by decide +kernel
theorem d_165_23 : decode cX8_layNumber 23 = .ok (.ifCond .ne 7, 3) := by decide +kernel
theorem d_165_26 : decode cX8_layNumber 26 = .ok (.iconst 1, 1) := by decide +kernel
theorem d_165_27 : decode cX8_layNumber 27 = .ok (.goto 4, 3) := by decide +kernel
theorem d_165_30 : decode cX8_layNumber 30 = .ok (.iconst 0, 1) := by decide +kernel
theorem d_165_31 : decode cX8_layNumber 31 = .ok (.istore 4, 2) := by decide +kernel
theorem d_165_33 : decode cX8_layNumber 33 = .ok (.aload_n 0, 1) := by decide +kernel
theorem d_165_34 : decode cX8_layNumber 34 = .ok (.aload_n 0, 1) := by decide +kernel
theorem d_165_35 : decode cX8_layNumber 35 = .ok (.getfield 213, 3) := by decide +kernel
theorem d_165_38 : decode cX8_layNumber 38 = .ok (.invokevirtual 157, 3) := by decide +kernel
theorem d_165_41 : decode cX8_layNumber 41 = .ok (.bipush 17, 2) := by decide +kernel
theorem d_165_43 : decode cX8_layNumber 43 = .ok (.aload_n 0, 1) := by decide +kernel
theorem d_165_44 : decode cX8_layNumber 44 = .ok (.getfield 213, 3) := by decide +kernel
theorem d_165_47 : decode cX8_layNumber 47 = .ok (.imul, 1) := by decide +kernel
theorem d_165_48 : decode cX8_layNumber 48 = .ok (.istore 5, 2) := by decide +kernel
theorem d_165_50 : decode cX8_layNumber 50 = .ok (.aload_n 0, 1) := by decide +kernel
theorem d_165_51 : decode cX8_layNumber 51 = .ok (.getfield 29, 3) := by decide +kernel
theorem d_165_54 : decode cX8_layNumber 54 = .ok (.iload 5, 2) := by decide +kernel
theorem d_165_56 : decode cX8_layNumber 56 = .ok (.lload_n 2, 1) := by decide +kernel
theorem d_165_57 : decode cX8_layNumber 57 = .ok (.lastore, 1) := by decide +kernel
theorem d_165_58 : decode cX8_layNumber 58 = .ok (.aload_n 0, 1) := by decide +kernel
theorem d_165_59 : decode cX8_layNumber 59 = .ok (.getfield 29, 3) := by decide +kernel
theorem d_165_62 : decode cX8_layNumber 62 = .ok (.iload 5, 2) := by decide +kernel
theorem d_165_64 : decode cX8_layNumber 64 = .ok (.bipush 13, 2) := by decide +kernel
theorem d_165_66 : decode cX8_layNumber 66 = .ok (.iadd, 1) := by decide +kernel
theorem d_165_67 : decode cX8_layNumber 67 = .ok (.iload 4, 2) := by decide +kernel
theorem d_165_69 : decode cX8_layNumber 69 = .ok (.ifCond .eq 7, 3) := by decide +kernel
theorem d_165_72 : decode cX8_layNumber 72 = .ok (.lconst 0, 1) := by decide +kernel
theorem d_165_73 : decode cX8_layNumber 73 = .ok (.goto 4, 3) := by decide +kernel
theorem d_165_76 : decode cX8_layNumber 76 = .ok (.lconst 1, 1) := by decide +kernel
theorem d_165_77 : decode cX8_layNumber 77 = .ok (.lastore, 1) := by decide +kernel
theorem d_165_78 : decode cX8_layNumber 78 = .ok (.aload_n 0, 1) := by decide +kernel
theorem d_165_79 : decode cX8_layNumber 79 = .ok (.getfield 29, 3) := by decide +kernel
theorem d_165_82 : decode cX8_layNumber 82 = .ok (.iload 5, 2) := by decide +kernel
theorem d_165_84 : decode cX8_layNumber 84 = .ok (.bipush 14, 2) := by decide +kernel
theorem d_165_86 : decode cX8_layNumber 86 = .ok (.iadd, 1) := by decide +kernel
theorem d_165_87 : decode cX8_layNumber 87 = .ok (.lload_n 2, 1) := by decide +kernel
theorem d_165_88 : decode cX8_layNumber 88 = .ok (.lastore, 1) := by decide +kernel
theorem d_165_89 : decode cX8_layNumber 89 = .ok (.aload_n 0, 1) := by decide +kernel
theorem d_165_90 : decode cX8_layNumber 90 = .ok (.getfield 29, 3) := by decide +kernel
theorem d_165_93 : decode cX8_layNumber 93 = .ok (.iload 5, 2) := by decide +kernel
theorem d_165_95 : decode cX8_layNumber 95 = .ok (.bipush 15, 2) := by decide +kernel
theorem d_165_97 : decode cX8_layNumber 97 = .ok (.iadd, 1) := by decide +kernel
theorem d_165_98 : decode cX8_layNumber 98 = .ok (.iload 4, 2) := by decide +kernel
theorem d_165_100 : decode cX8_layNumber 100 = .ok (.ifCond .eq 7, 3) := by decide +kernel
theorem d_165_103 : decode cX8_layNumber 103 = .ok (.lload_n 2, 1) := by decide +kernel
theorem d_165_104 : decode cX8_layNumber 104 = .ok (.goto 6, 3) := by decide +kernel
theorem d_165_107 : decode cX8_layNumber 107 = .ok (.lload_n 2, 1) := by decide +kernel
theorem d_165_108 : decode cX8_layNumber 108 = .ok (.lconst 1, 1) := by decide +kernel
theorem d_165_109 : decode cX8_layNumber 109 = .ok (.ladd, 1) := by decide +kernel
theorem d_165_110 : decode cX8_layNumber 110 = .ok (.lastore, 1) := by decide +kernel
theorem d_165_111 : decode cX8_layNumber 111 = .ok (.aload_n 0, 1) := by decide +kernel
theorem d_165_112 : decode cX8_layNumber 112 = .ok (.dup, 1) := by decide +kernel
theorem d_165_113 : decode cX8_layNumber 113 = .ok (.getfield 213, 3) := by decide +kernel
theorem d_165_116 : decode cX8_layNumber 116 = .ok (.iconst 1, 1) := by decide +kernel
theorem d_165_117 : decode cX8_layNumber 117 = .ok (.iadd, 1) := by decide +kernel
theorem d_165_118 : decode cX8_layNumber 118 = .ok (.putfield 213, 3) := by decide +kernel
theorem d_165_121 : decode cX8_layNumber 121 = .ok (.return_, 1) := by decide +kernel
theorem q_165_0  : zRun 165 0 L S sh mi mj mr = zRun 165 3 L (.long 256 :: S) sh mi mj mr := zr_k64 (zD_of zk_165 d_165_0 rfl rfl) rfl
theorem q_165_3 : zRun 165 3 [l0, some (.int x), l2, l3, l4, l5] S sh mi mj mr = zRun 165 4 [l0, some (.int x), l2, l3, l4, l5] (.int x :: S) sh mi mj mr := zr_l (zD_of zk_165 d_165_3 rfl rfl) rfl rfl rfl
theorem q_165_4  : zRun 165 4 L (.int x :: S) sh mi mj mr = zRun 165 5 L (.long x.toInt64 :: S) sh mi mj mr := zr_p (zD_of zk_165 d_165_4 rfl rfl) rfl
theorem q_165_5  : zRun 165 5 L (.long v :: .long u :: S) sh mi mj mr = zRun 165 6 L (.long (u * v) :: S) sh mi mj mr := zr_p (zD_of zk_165 d_165_5 rfl rfl) rfl
theorem q_165_6  : zRun 165 6 L S sh mi mj mr = zRun 165 9 L (.long 100 :: S) sh mi mj mr := zr_k64 (zD_of zk_165 d_165_6 rfl rfl) rfl
theorem q_165_9 (h : ¬ v = 0) : zRun 165 9 L (.long v :: .long u :: S) sh mi mj mr = zRun 165 10 L (.long (u / v) :: S) sh mi mj mr := zr_p (zD_of zk_165 d_165_9 rfl rfl) (if_neg h)
theorem q_165_10 : zRun 165 10 [l0, l1, l2, l3, l4, l5] (.long u :: S) sh mi mj mr = zRun 165 11 [l0, zk2 l1, some (.long u), none, l4, l5] S sh mi mj mr := zr_s2 (i := 2) (v := .long u) (L := [l0, l1, l2, l3, l4, l5]) (zD_of zk_165 d_165_10 rfl rfl) rfl rfl rfl rfl
theorem q_165_11  : zRun 165 11 L S sh mi mj mr = zRun 165 14 L (.long 256 :: S) sh mi mj mr := zr_k64 (zD_of zk_165 d_165_11 rfl rfl) rfl
theorem q_165_14 : zRun 165 14 [l0, some (.int x), l2, l3, l4, l5] S sh mi mj mr = zRun 165 15 [l0, some (.int x), l2, l3, l4, l5] (.int x :: S) sh mi mj mr := zr_l (zD_of zk_165 d_165_14 rfl rfl) rfl rfl rfl
theorem q_165_15  : zRun 165 15 L (.int x :: S) sh mi mj mr = zRun 165 16 L (.long x.toInt64 :: S) sh mi mj mr := zr_p (zD_of zk_165 d_165_15 rfl rfl) rfl
theorem q_165_16  : zRun 165 16 L (.long v :: .long u :: S) sh mi mj mr = zRun 165 17 L (.long (u * v) :: S) sh mi mj mr := zr_p (zD_of zk_165 d_165_16 rfl rfl) rfl
theorem q_165_17  : zRun 165 17 L S sh mi mj mr = zRun 165 20 L (.long 100 :: S) sh mi mj mr := zr_k64 (zD_of zk_165 d_165_17 rfl rfl) rfl
theorem q_165_20 (h : ¬ v = 0) : zRun 165 20 L (.long v :: .long u :: S) sh mi mj mr = zRun 165 21 L (.long (u - (u / v) * v) :: S) sh mi mj mr := zr_p (zD_of zk_165 d_165_20 rfl rfl) (if_neg h)
theorem q_165_21  : zRun 165 21 L S sh mi mj mr = zRun 165 22 L (.long 0 :: S) sh mi mj mr := zr_p (zD_of zk_165 d_165_21 rfl rfl) rfl
theorem q_165_22  : zRun 165 22 L (.long v :: .long u :: S) sh mi mj mr = if ¬ u = v then zRun 165 30 L S sh mi mj mr else zRun 165 26 L S sh mi mj mr := zr_cmp (off := 7) (zD_of zk_165 d_165_22 rfl rfl) (zD_of zk_165 d_165_23 rfl rfl) rfl rfl (by decide) (not_congr (lg_cmp_eq u v))
theorem q_165_23  : zRun 165 23 L (.int x :: S) sh mi mj mr = if ¬ x = 0 then zRun 165 30 L S sh mi mj mr else zRun 165 26 L S sh mi mj mr := zr_if (off := 7) (P := ¬ x = 0) (zD_of zk_165 d_165_23 rfl rfl) rfl rfl (by decide)
theorem q_165_26  : zRun 165 26 L S sh mi mj mr = zRun 165 27 L (.int 1 :: S) sh mi mj mr := zr_p (zD_of zk_165 d_165_26 rfl rfl) rfl
theorem q_165_27  : zRun 165 27 L S sh mi mj mr = zRun 165 31 L S sh mi mj mr := zr_go (off := 4) (zD_of zk_165 d_165_27 rfl rfl) rfl rfl (by decide)
theorem q_165_30  : zRun 165 30 L S sh mi mj mr = zRun 165 31 L (.int 0 :: S) sh mi mj mr := zr_p (zD_of zk_165 d_165_30 rfl rfl) rfl
theorem q_165_31 : zRun 165 31 [l0, l1, l2, l3, l4, l5] (.int x :: S) sh mi mj mr = zRun 165 33 [l0, l1, l2, zk2 l3, some (.int x), l5] S sh mi mj mr := zr_s1 (i := 4) (v := .int x) (L := [l0, l1, l2, l3, l4, l5]) (zD_of zk_165 d_165_31 rfl rfl) rfl rfl rfl rfl
theorem q_165_33r : zRun 165 33 [some (.ref o), l1, l2, l3, l4, l5] S sh mi mj mr = zRun 165 34 [some (.ref o), l1, l2, l3, l4, l5] (.ref o :: S) sh mi mj mr := zr_l (zD_of zk_165 d_165_33 rfl rfl) rfl rfl rfl
theorem q_165_33n : zRun 165 33 [some (.null), l1, l2, l3, l4, l5] S sh mi mj mr = zRun 165 34 [some (.null), l1, l2, l3, l4, l5] (.null :: S) sh mi mj mr := zr_l (zD_of zk_165 d_165_33 rfl rfl) rfl rfl rfl
theorem q_165_34r : zRun 165 34 [some (.ref o), l1, l2, l3, l4, l5] S sh mi mj mr = zRun 165 35 [some (.ref o), l1, l2, l3, l4, l5] (.ref o :: S) sh mi mj mr := zr_l (zD_of zk_165 d_165_34 rfl rfl) rfl rfl rfl
theorem q_165_34n : zRun 165 34 [some (.null), l1, l2, l3, l4, l5] S sh mi mj mr = zRun 165 35 [some (.null), l1, l2, l3, l4, l5] (.null :: S) sh mi mj mr := zr_l (zD_of zk_165 d_165_34 rfl rfl) rfl rfl rfl
theorem q_165_35 (h : zIs sh o 0 8) : zRun 165 35 L (.ref o :: S) sh mi mj mr = zRun 165 38 L (.int (mi o 11) :: S) sh mi mj mr := zr_getI (zD_of zk_165 d_165_35 rfl rfl) rfl rfl (Or.inl rfl) h
theorem q_165_38  {x0 : Int32} (hS : zcat S ≤ 8) (h : zIs sh o 0 8) : zRun 165 38 L (.int x0 :: .ref o :: S) sh mi mj mr = (zCall 142 [.ref o, .int x0] sh mi mj mr).bind fun r => zRun 165 41 L (r.1.toList ++ S) r.2.1 r.2.2.1 r.2.2.2.1 r.2.2.2.2 := zr_V (zD_of zk_165 d_165_38 rfl rfl) rfl zk_142 rfl rfl rfl hS h
theorem q_165_41  : zRun 165 41 L S sh mi mj mr = zRun 165 43 L (.int 17 :: S) sh mi mj mr := zr_p (zD_of zk_165 d_165_41 rfl rfl) rfl
theorem q_165_43r : zRun 165 43 [some (.ref o), l1, l2, l3, l4, l5] S sh mi mj mr = zRun 165 44 [some (.ref o), l1, l2, l3, l4, l5] (.ref o :: S) sh mi mj mr := zr_l (zD_of zk_165 d_165_43 rfl rfl) rfl rfl rfl
theorem q_165_43n : zRun 165 43 [some (.null), l1, l2, l3, l4, l5] S sh mi mj mr = zRun 165 44 [some (.null), l1, l2, l3, l4, l5] (.null :: S) sh mi mj mr := zr_l (zD_of zk_165 d_165_43 rfl rfl) rfl rfl rfl
theorem q_165_44 (h : zIs sh o 0 8) : zRun 165 44 L (.ref o :: S) sh mi mj mr = zRun 165 47 L (.int (mi o 11) :: S) sh mi mj mr := zr_getI (zD_of zk_165 d_165_44 rfl rfl) rfl rfl (Or.inl rfl) h
theorem q_165_47  : zRun 165 47 L (.int y :: .int x :: S) sh mi mj mr = zRun 165 48 L (.int (x * y) :: S) sh mi mj mr := zr_p (zD_of zk_165 d_165_47 rfl rfl) rfl
theorem q_165_48 : zRun 165 48 [l0, l1, l2, l3, l4, l5] (.int x :: S) sh mi mj mr = zRun 165 50 [l0, l1, l2, l3, zk2 l4, some (.int x)] S sh mi mj mr := zr_s1 (i := 5) (v := .int x) (L := [l0, l1, l2, l3, l4, l5]) (zD_of zk_165 d_165_48 rfl rfl) rfl rfl rfl rfl
theorem q_165_50r : zRun 165 50 [some (.ref o), l1, l2, l3, l4, l5] S sh mi mj mr = zRun 165 51 [some (.ref o), l1, l2, l3, l4, l5] (.ref o :: S) sh mi mj mr := zr_l (zD_of zk_165 d_165_50 rfl rfl) rfl rfl rfl
theorem q_165_50n : zRun 165 50 [some (.null), l1, l2, l3, l4, l5] S sh mi mj mr = zRun 165 51 [some (.null), l1, l2, l3, l4, l5] (.null :: S) sh mi mj mr := zr_l (zD_of zk_165 d_165_50 rfl rfl) rfl rfl rfl
theorem q_165_51 (h : zIs sh o 0 8) : zRun 165 51 L (.ref o :: S) sh mi mj mr = zRun 165 54 L (va_rf (mr o 10) :: S) sh mi mj mr := zr_getR (zD_of zk_165 d_165_51 rfl rfl) rfl rfl rfl h
theorem q_165_54 : zRun 165 54 [l0, l1, l2, l3, l4, some (.int x)] S sh mi mj mr = zRun 165 56 [l0, l1, l2, l3, l4, some (.int x)] (.int x :: S) sh mi mj mr := zr_l (zD_of zk_165 d_165_54 rfl rfl) rfl rfl rfl
theorem q_165_56 : zRun 165 56 [l0, l1, some (.long u), l3, l4, l5] S sh mi mj mr = zRun 165 57 [l0, l1, some (.long u), l3, l4, l5] (.long u :: S) sh mi mj mr := zr_l (zD_of zk_165 d_165_56 rfl rfl) rfl rfl rfl
theorem q_165_57 (h : zAt sh o 2 x) : zRun 165 57 L (.long u :: .int x :: .ref o :: S) sh mi mj mr = zRun 165 58 L S sh mi (zup mj o x.toNatClampNeg u) mr := zr_last (zD_of zk_165 d_165_57 rfl rfl) h
theorem q_165_58r : zRun 165 58 [some (.ref o), l1, l2, l3, l4, l5] S sh mi mj mr = zRun 165 59 [some (.ref o), l1, l2, l3, l4, l5] (.ref o :: S) sh mi mj mr := zr_l (zD_of zk_165 d_165_58 rfl rfl) rfl rfl rfl
theorem q_165_58n : zRun 165 58 [some (.null), l1, l2, l3, l4, l5] S sh mi mj mr = zRun 165 59 [some (.null), l1, l2, l3, l4, l5] (.null :: S) sh mi mj mr := zr_l (zD_of zk_165 d_165_58 rfl rfl) rfl rfl rfl
theorem q_165_59 (h : zIs sh o 0 8) : zRun 165 59 L (.ref o :: S) sh mi mj mr = zRun 165 62 L (va_rf (mr o 10) :: S) sh mi mj mr := zr_getR (zD_of zk_165 d_165_59 rfl rfl) rfl rfl rfl h
theorem q_165_62 : zRun 165 62 [l0, l1, l2, l3, l4, some (.int x)] S sh mi mj mr = zRun 165 64 [l0, l1, l2, l3, l4, some (.int x)] (.int x :: S) sh mi mj mr := zr_l (zD_of zk_165 d_165_62 rfl rfl) rfl rfl rfl
theorem q_165_64  : zRun 165 64 L S sh mi mj mr = zRun 165 66 L (.int 13 :: S) sh mi mj mr := zr_p (zD_of zk_165 d_165_64 rfl rfl) rfl
theorem q_165_66  : zRun 165 66 L (.int y :: .int x :: S) sh mi mj mr = zRun 165 67 L (.int (x + y) :: S) sh mi mj mr := zr_p (zD_of zk_165 d_165_66 rfl rfl) rfl
theorem q_165_67 : zRun 165 67 [l0, l1, l2, l3, some (.int x), l5] S sh mi mj mr = zRun 165 69 [l0, l1, l2, l3, some (.int x), l5] (.int x :: S) sh mi mj mr := zr_l (zD_of zk_165 d_165_67 rfl rfl) rfl rfl rfl
theorem q_165_69  : zRun 165 69 L (.int x :: S) sh mi mj mr = if x = 0 then zRun 165 76 L S sh mi mj mr else zRun 165 72 L S sh mi mj mr := zr_if (off := 7) (P := x = 0) (zD_of zk_165 d_165_69 rfl rfl) rfl rfl (by decide)
theorem q_165_72  : zRun 165 72 L S sh mi mj mr = zRun 165 73 L (.long 0 :: S) sh mi mj mr := zr_p (zD_of zk_165 d_165_72 rfl rfl) rfl
theorem q_165_73  : zRun 165 73 L S sh mi mj mr = zRun 165 77 L S sh mi mj mr := zr_go (off := 4) (zD_of zk_165 d_165_73 rfl rfl) rfl rfl (by decide)
theorem q_165_76  : zRun 165 76 L S sh mi mj mr = zRun 165 77 L (.long 1 :: S) sh mi mj mr := zr_p (zD_of zk_165 d_165_76 rfl rfl) rfl
theorem q_165_77 (h : zAt sh o 2 x) : zRun 165 77 L (.long u :: .int x :: .ref o :: S) sh mi mj mr = zRun 165 78 L S sh mi (zup mj o x.toNatClampNeg u) mr := zr_last (zD_of zk_165 d_165_77 rfl rfl) h
theorem q_165_78r : zRun 165 78 [some (.ref o), l1, l2, l3, l4, l5] S sh mi mj mr = zRun 165 79 [some (.ref o), l1, l2, l3, l4, l5] (.ref o :: S) sh mi mj mr := zr_l (zD_of zk_165 d_165_78 rfl rfl) rfl rfl rfl
theorem q_165_78n : zRun 165 78 [some (.null), l1, l2, l3, l4, l5] S sh mi mj mr = zRun 165 79 [some (.null), l1, l2, l3, l4, l5] (.null :: S) sh mi mj mr := zr_l (zD_of zk_165 d_165_78 rfl rfl) rfl rfl rfl
theorem q_165_79 (h : zIs sh o 0 8) : zRun 165 79 L (.ref o :: S) sh mi mj mr = zRun 165 82 L (va_rf (mr o 10) :: S) sh mi mj mr := zr_getR (zD_of zk_165 d_165_79 rfl rfl) rfl rfl rfl h
theorem q_165_82 : zRun 165 82 [l0, l1, l2, l3, l4, some (.int x)] S sh mi mj mr = zRun 165 84 [l0, l1, l2, l3, l4, some (.int x)] (.int x :: S) sh mi mj mr := zr_l (zD_of zk_165 d_165_82 rfl rfl) rfl rfl rfl
theorem q_165_84  : zRun 165 84 L S sh mi mj mr = zRun 165 86 L (.int 14 :: S) sh mi mj mr := zr_p (zD_of zk_165 d_165_84 rfl rfl) rfl
theorem q_165_86  : zRun 165 86 L (.int y :: .int x :: S) sh mi mj mr = zRun 165 87 L (.int (x + y) :: S) sh mi mj mr := zr_p (zD_of zk_165 d_165_86 rfl rfl) rfl
theorem q_165_87 : zRun 165 87 [l0, l1, some (.long u), l3, l4, l5] S sh mi mj mr = zRun 165 88 [l0, l1, some (.long u), l3, l4, l5] (.long u :: S) sh mi mj mr := zr_l (zD_of zk_165 d_165_87 rfl rfl) rfl rfl rfl
theorem q_165_88 (h : zAt sh o 2 x) : zRun 165 88 L (.long u :: .int x :: .ref o :: S) sh mi mj mr = zRun 165 89 L S sh mi (zup mj o x.toNatClampNeg u) mr := zr_last (zD_of zk_165 d_165_88 rfl rfl) h
theorem q_165_89r : zRun 165 89 [some (.ref o), l1, l2, l3, l4, l5] S sh mi mj mr = zRun 165 90 [some (.ref o), l1, l2, l3, l4, l5] (.ref o :: S) sh mi mj mr := zr_l (zD_of zk_165 d_165_89 rfl rfl) rfl rfl rfl
theorem q_165_89n : zRun 165 89 [some (.null), l1, l2, l3, l4, l5] S sh mi mj mr = zRun 165 90 [some (.null), l1, l2, l3, l4, l5] (.null :: S) sh mi mj mr := zr_l (zD_of zk_165 d_165_89 rfl rfl) rfl rfl rfl
theorem q_165_90 (h : zIs sh o 0 8) : zRun 165 90 L (.ref o :: S) sh mi mj mr = zRun 165 93 L (va_rf (mr o 10) :: S) sh mi mj mr := zr_getR (zD_of zk_165 d_165_90 rfl rfl) rfl rfl rfl h
theorem q_165_93 : zRun 165 93 [l0, l1, l2, l3, l4, some (.int x)] S sh mi mj mr = zRun 165 95 [l0, l1, l2, l3, l4, some (.int x)] (.int x :: S) sh mi mj mr := zr_l (zD_of zk_165 d_165_93 rfl rfl) rfl rfl rfl
theorem q_165_95  : zRun 165 95 L S sh mi mj mr = zRun 165 97 L (.int 15 :: S) sh mi mj mr := zr_p (zD_of zk_165 d_165_95 rfl rfl) rfl
theorem q_165_97  : zRun 165 97 L (.int y :: .int x :: S) sh mi mj mr = zRun 165 98 L (.int (x + y) :: S) sh mi mj mr := zr_p (zD_of zk_165 d_165_97 rfl rfl) rfl
theorem q_165_98 : zRun 165 98 [l0, l1, l2, l3, some (.int x), l5] S sh mi mj mr = zRun 165 100 [l0, l1, l2, l3, some (.int x), l5] (.int x :: S) sh mi mj mr := zr_l (zD_of zk_165 d_165_98 rfl rfl) rfl rfl rfl
theorem q_165_100  : zRun 165 100 L (.int x :: S) sh mi mj mr = if x = 0 then zRun 165 107 L S sh mi mj mr else zRun 165 103 L S sh mi mj mr := zr_if (off := 7) (P := x = 0) (zD_of zk_165 d_165_100 rfl rfl) rfl rfl (by decide)
theorem q_165_103 : zRun 165 103 [l0, l1, some (.long u), l3, l4, l5] S sh mi mj mr = zRun 165 104 [l0, l1, some (.long u), l3, l4, l5] (.long u :: S) sh mi mj mr := zr_l (zD_of zk_165 d_165_103 rfl rfl) rfl rfl rfl
theorem q_165_104  : zRun 165 104 L S sh mi mj mr = zRun 165 110 L S sh mi mj mr := zr_go (off := 6) (zD_of zk_165 d_165_104 rfl rfl) rfl rfl (by decide)
theorem q_165_107 : zRun 165 107 [l0, l1, some (.long u), l3, l4, l5] S sh mi mj mr = zRun 165 108 [l0, l1, some (.long u), l3, l4, l5] (.long u :: S) sh mi mj mr := zr_l (zD_of zk_165 d_165_107 rfl rfl) rfl rfl rfl
theorem q_165_108  : zRun 165 108 L S sh mi mj mr = zRun 165 109 L (.long 1 :: S) sh mi mj mr := zr_p (zD_of zk_165 d_165_108 rfl rfl) rfl
theorem q_165_109  : zRun 165 109 L (.long v :: .long u :: S) sh mi mj mr = zRun 165 110 L (.long (u + v) :: S) sh mi mj mr := zr_p (zD_of zk_165 d_165_109 rfl rfl) rfl
theorem q_165_110 (h : zAt sh o 2 x) : zRun 165 110 L (.long u :: .int x :: .ref o :: S) sh mi mj mr = zRun 165 111 L S sh mi (zup mj o x.toNatClampNeg u) mr := zr_last (zD_of zk_165 d_165_110 rfl rfl) h
theorem q_165_111r : zRun 165 111 [some (.ref o), l1, l2, l3, l4, l5] S sh mi mj mr = zRun 165 112 [some (.ref o), l1, l2, l3, l4, l5] (.ref o :: S) sh mi mj mr := zr_l (zD_of zk_165 d_165_111 rfl rfl) rfl rfl rfl
theorem q_165_111n : zRun 165 111 [some (.null), l1, l2, l3, l4, l5] S sh mi mj mr = zRun 165 112 [some (.null), l1, l2, l3, l4, l5] (.null :: S) sh mi mj mr := zr_l (zD_of zk_165 d_165_111 rfl rfl) rfl rfl rfl
theorem q_165_112r : zRun 165 112 L (.ref o :: S) sh mi mj mr = zRun 165 113 L (.ref o :: .ref o :: S) sh mi mj mr := zr_p (zD_of zk_165 d_165_112 rfl rfl) rfl
theorem q_165_112i : zRun 165 112 L (.int x :: S) sh mi mj mr = zRun 165 113 L (.int x :: .int x :: S) sh mi mj mr := zr_p (zD_of zk_165 d_165_112 rfl rfl) rfl
theorem q_165_113 (h : zIs sh o 0 8) : zRun 165 113 L (.ref o :: S) sh mi mj mr = zRun 165 116 L (.int (mi o 11) :: S) sh mi mj mr := zr_getI (zD_of zk_165 d_165_113 rfl rfl) rfl rfl (Or.inl rfl) h
theorem q_165_116  : zRun 165 116 L S sh mi mj mr = zRun 165 117 L (.int 1 :: S) sh mi mj mr := zr_p (zD_of zk_165 d_165_116 rfl rfl) rfl
theorem q_165_117  : zRun 165 117 L (.int y :: .int x :: S) sh mi mj mr = zRun 165 118 L (.int (x + y) :: S) sh mi mj mr := zr_p (zD_of zk_165 d_165_117 rfl rfl) rfl
theorem q_165_118 (h : zIs sh o 0 8) : zRun 165 118 L (.int x :: .ref o :: S) sh mi mj mr = zRun 165 121 L S sh (zup mi o 11 x) mj mr := zr_putI (zD_of zk_165 d_165_118 rfl rfl) rfl rfl rfl (Or.inl rfl) h
theorem q_165_121  : zRun 165 121 L [] sh mi mj mr = some (none, sh, mi, mj, mr) := zr_ret (zD_of zk_165 d_165_121 rfl rfl) rfl rfl rfl rfl rfl rfl
theorem e_165 {x0 : Int32} : zCall 165 [.ref o, .int x0] sh mi mj mr = zRun 165 0 [some (.ref o), some (.int x0), none, none, none, none] [] sh mi mj mr := rfl
theorem d_166_0 : decode cX8_operate 0 = .ok (.iload_n 1, 1) := by decide +kernel
theorem d_166_1 : decode cX8_operate 1 = .ok (.tableswitch 121 5 13 #[51, 51, 71, 121, 79, 88, 96, 105, 113], 51) := by decide +kernel
theorem d_166_52 : decode cX8_operate 52 = .ok (.aload_n 0, 1) := by decide +kernel
theorem d_166_53 : decode cX8_operate 53 = .ok (.iload_n 2, 1) := by decide +kernel
theorem d_166_54 : decode cX8_operate 54 = .ok (.iload_n 3, 1) := by decide +kernel
theorem d_166_55 : decode cX8_operate 55 = .ok (.iload_n 1, 1) := by decide +kernel
theorem d_166_56 : decode cX8_operate 56 = .ok (.bipush 6, 2) := by decide +kernel
theorem d_166_58 : decode cX8_operate 58 = .ok (.if_icmp .ne 7, 3) := by decide +kernel
theorem d_166_61 : decode cX8_operate 61 = .ok (.iconst 1, 1) := by decide +kernel
theorem d_166_62 : decode cX8_operate 62 = .ok (.goto 4, 3) := by decide +kernel
theorem d_166_65 : decode cX8_operate 65 = .ok (.iconst 0, 1) := by decide +kernel
theorem d_166_66 : decode cX8_operate 66 = .ok (.invokevirtual 229, 3) := by decide +kernel
theorem d_166_69 : decode cX8_operate 69 = .ok (.goto 70, 3) := by decide +kernel
theorem d_166_72 : decode cX8_operate 72 = .ok (.aload_n 0, 1) := by decide +kernel
theorem d_166_73 : decode cX8_operate 73 = .ok (.iload_n 2, 1) := by decide +kernel
theorem d_166_74 : decode cX8_operate 74 = .ok (.invokevirtual 163, 3) := by decide +kernel
theorem d_166_77 : decode cX8_operate 77 = .ok (.goto 62, 3) := by decide +kernel
theorem d_166_80 : decode cX8_operate 80 = .ok (.aload_n 0, 1) := by decide +kernel
theorem d_166_81 : decode cX8_operate 81 = .ok (.iload_n 2, 1) := by decide +kernel
theorem d_166_82 : decode cX8_operate 82 = .ok (.iload_n 3, 1) := by decide +kernel
theorem d_166_83 : decode cX8_operate 83 = .ok (.invokevirtual 204, 3) := by decide +kernel
theorem d_166_86 : decode cX8_operate 86 = .ok (.goto 53, 3) := by decide +kernel
theorem d_166_89 : decode cX8_operate 89 = .ok (.aload_n 0, 1) := by decide +kernel
theorem d_166_90 : decode cX8_operate 90 = .ok (.iload_n 2, 1) := by decide +kernel
theorem d_166_91 : decode cX8_operate 91 = .ok (.invokevirtual 233, 3) := by decide +kernel
theorem d_166_94 : decode cX8_operate 94 = .ok (.goto 45, 3) := by decide +kernel
theorem d_166_97 : decode cX8_operate 97 = .ok (.aload_n 0, 1) := by decide +kernel
theorem d_166_98 : decode cX8_operate 98 = .ok (.iload_n 2, 1) := by decide +kernel
theorem d_166_99 : decode cX8_operate 99 = .ok (.iload_n 3, 1) := by decide +kernel
theorem d_166_100 : decode cX8_operate 100 = .ok (.invokevirtual 236, 3) := by decide +kernel
theorem d_166_103 : decode cX8_operate 103 = .ok (.goto 36, 3) := by decide +kernel
theorem d_166_106 : decode cX8_operate 106 = .ok (.aload_n 0, 1) := by decide +kernel
theorem d_166_107 : decode cX8_operate 107 = .ok (.iload_n 2, 1) := by decide +kernel
theorem d_166_108 : decode cX8_operate 108 = .ok (.invokevirtual 239, 3) := by decide +kernel
theorem d_166_111 : decode cX8_operate 111 = .ok (.goto 28, 3) := by decide +kernel
theorem d_166_114 : decode cX8_operate 114 = .ok (.aload_n 0, 1) := by decide +kernel
theorem d_166_115 : decode cX8_operate 115 = .ok (.iload_n 2, 1) := by decide +kernel
theorem d_166_116 : decode cX8_operate 116 = .ok (.invokevirtual 242, 3) := by decide +kernel
theorem d_166_119 : decode cX8_operate 119 = .ok (.goto 20, 3) := by decide +kernel
theorem d_166_122 : decode cX8_operate 122 = .ok (.aload_n 0, 1) := by decide +kernel
theorem d_166_123 : decode cX8_operate 123 = .ok (.iload_n 2, 1) := by decide +kernel
theorem d_166_124 : decode cX8_operate 124 = .ok (.iload_n 3, 1) := by decide +kernel
theorem d_166_125 : decode cX8_operate 125 = .ok (.iload_n 1, 1) := by decide +kernel
theorem d_166_126 : decode cX8_operate 126 = .ok (.bipush 14, 2) := by decide +kernel
theorem d_166_128 : decode cX8_operate 128 = .ok (.if_icmp .ne 7, 3) := by decide +kernel
theorem d_166_131 : decode cX8_operate 131 = .ok (.iconst 1, 1) := by decide +kernel
theorem d_166_132 : decode cX8_operate 132 = .ok (.goto 4, 3) := by decide +kernel
theorem d_166_135 : decode cX8_operate 135 = .ok (.iconst 0, 1) := by decide +kernel
theorem d_166_136 : decode cX8_operate 136 = .ok (.invokevirtual 245, 3) := by decide +kernel
theorem d_166_139 : decode cX8_operate 139 = .ok (.return_, 1) := by decide +kernel
theorem q_166_0 : zRun 166 0 [l0, some (.int x), l2, l3] S sh mi mj mr = zRun 166 1 [l0, some (.int x), l2, l3] (.int x :: S) sh mi mj mr := zr_l (zD_of zk_166 d_166_0 rfl rfl) rfl rfl rfl
theorem q_166_1 : zRun 166 1 L (.int x :: S) sh mi mj mr = if x = 5 then zRun 166 52 L S sh mi mj mr else if x = 6 then zRun 166 52 L S sh mi mj mr else if x = 7 then zRun 166 72 L S sh mi mj mr else if x = 8 then zRun 166 122 L S sh mi mj mr else if x = 9 then zRun 166 80 L S sh mi mj mr else if x = 10 then zRun 166 89 L S sh mi mj mr else if x = 11 then zRun 166 97 L S sh mi mj mr else if x = 12 then zRun 166 106 L S sh mi mj mr else if x = 13 then zRun 166 114 L S sh mi mj mr else zRun 166 122 L S sh mi mj mr := by
  by_cases h : x = 5
  · subst h; exact zr_go (off := 51) (zD_of zk_166 d_166_1 rfl rfl) rfl rfl (by decide)
  rw [if_neg h]
  have a5 := zsw_ne (v := 5) h (by decide) (by decide)
  by_cases h : x = 6
  · subst h; exact zr_go (off := 51) (zD_of zk_166 d_166_1 rfl rfl) rfl rfl (by decide)
  rw [if_neg h]
  have a6 := zsw_ne (v := 6) h (by decide) (by decide)
  by_cases h : x = 7
  · subst h; exact zr_go (off := 71) (zD_of zk_166 d_166_1 rfl rfl) rfl rfl (by decide)
  rw [if_neg h]
  have a7 := zsw_ne (v := 7) h (by decide) (by decide)
  by_cases h : x = 8
  · subst h; exact zr_go (off := 121) (zD_of zk_166 d_166_1 rfl rfl) rfl rfl (by decide)
  rw [if_neg h]
  have a8 := zsw_ne (v := 8) h (by decide) (by decide)
  by_cases h : x = 9
  · subst h; exact zr_go (off := 79) (zD_of zk_166 d_166_1 rfl rfl) rfl rfl (by decide)
  rw [if_neg h]
  have a9 := zsw_ne (v := 9) h (by decide) (by decide)
  by_cases h : x = 10
  · subst h; exact zr_go (off := 88) (zD_of zk_166 d_166_1 rfl rfl) rfl rfl (by decide)
  rw [if_neg h]
  have a10 := zsw_ne (v := 10) h (by decide) (by decide)
  by_cases h : x = 11
  · subst h; exact zr_go (off := 96) (zD_of zk_166 d_166_1 rfl rfl) rfl rfl (by decide)
  rw [if_neg h]
  have a11 := zsw_ne (v := 11) h (by decide) (by decide)
  by_cases h : x = 12
  · subst h; exact zr_go (off := 105) (zD_of zk_166 d_166_1 rfl rfl) rfl rfl (by decide)
  rw [if_neg h]
  have a12 := zsw_ne (v := 12) h (by decide) (by decide)
  by_cases h : x = 13
  · subst h; exact zr_go (off := 113) (zD_of zk_166 d_166_1 rfl rfl) rfl rfl (by decide)
  rw [if_neg h]
  have a13 := zsw_ne (v := 13) h (by decide) (by decide)
  exact zr_go (S' := S) (off := 121) (zD_of zk_166 d_166_1 rfl rfl) rfl (by simp only [zjump, zsw_out (x := x) 121 5 13 (by omega)]) (by decide)
theorem q_166_52r : zRun 166 52 [some (.ref o), l1, l2, l3] S sh mi mj mr = zRun 166 53 [some (.ref o), l1, l2, l3] (.ref o :: S) sh mi mj mr := zr_l (zD_of zk_166 d_166_52 rfl rfl) rfl rfl rfl
theorem q_166_52n : zRun 166 52 [some (.null), l1, l2, l3] S sh mi mj mr = zRun 166 53 [some (.null), l1, l2, l3] (.null :: S) sh mi mj mr := zr_l (zD_of zk_166 d_166_52 rfl rfl) rfl rfl rfl
theorem q_166_53 : zRun 166 53 [l0, l1, some (.int x), l3] S sh mi mj mr = zRun 166 54 [l0, l1, some (.int x), l3] (.int x :: S) sh mi mj mr := zr_l (zD_of zk_166 d_166_53 rfl rfl) rfl rfl rfl
theorem q_166_54 : zRun 166 54 [l0, l1, l2, some (.int x)] S sh mi mj mr = zRun 166 55 [l0, l1, l2, some (.int x)] (.int x :: S) sh mi mj mr := zr_l (zD_of zk_166 d_166_54 rfl rfl) rfl rfl rfl
theorem q_166_55 : zRun 166 55 [l0, some (.int x), l2, l3] S sh mi mj mr = zRun 166 56 [l0, some (.int x), l2, l3] (.int x :: S) sh mi mj mr := zr_l (zD_of zk_166 d_166_55 rfl rfl) rfl rfl rfl
theorem q_166_56  : zRun 166 56 L S sh mi mj mr = zRun 166 58 L (.int 6 :: S) sh mi mj mr := zr_p (zD_of zk_166 d_166_56 rfl rfl) rfl
theorem q_166_58  : zRun 166 58 L (.int y :: .int x :: S) sh mi mj mr = if ¬ x = y then zRun 166 65 L S sh mi mj mr else zRun 166 61 L S sh mi mj mr := zr_if (off := 7) (P := ¬ x = y) (zD_of zk_166 d_166_58 rfl rfl) rfl rfl (by decide)
theorem q_166_61  : zRun 166 61 L S sh mi mj mr = zRun 166 62 L (.int 1 :: S) sh mi mj mr := zr_p (zD_of zk_166 d_166_61 rfl rfl) rfl
theorem q_166_62  : zRun 166 62 L S sh mi mj mr = zRun 166 66 L S sh mi mj mr := zr_go (off := 4) (zD_of zk_166 d_166_62 rfl rfl) rfl rfl (by decide)
theorem q_166_65  : zRun 166 65 L S sh mi mj mr = zRun 166 66 L (.int 0 :: S) sh mi mj mr := zr_p (zD_of zk_166 d_166_65 rfl rfl) rfl
theorem q_166_66  {x0 x1 x2 : Int32} (hS : zcat S ≤ 8) (h : zIs sh o 0 8) : zRun 166 66 L (.int x2 :: .int x1 :: .int x0 :: .ref o :: S) sh mi mj mr = (zCall 149 [.ref o, .int x0, .int x1, .int x2] sh mi mj mr).bind fun r => zRun 166 69 L (r.1.toList ++ S) r.2.1 r.2.2.1 r.2.2.2.1 r.2.2.2.2 := zr_V (zD_of zk_166 d_166_66 rfl rfl) rfl zk_149 rfl rfl rfl hS h
theorem q_166_69  : zRun 166 69 L S sh mi mj mr = zRun 166 139 L S sh mi mj mr := zr_go (off := 70) (zD_of zk_166 d_166_69 rfl rfl) rfl rfl (by decide)
theorem q_166_72r : zRun 166 72 [some (.ref o), l1, l2, l3] S sh mi mj mr = zRun 166 73 [some (.ref o), l1, l2, l3] (.ref o :: S) sh mi mj mr := zr_l (zD_of zk_166 d_166_72 rfl rfl) rfl rfl rfl
theorem q_166_72n : zRun 166 72 [some (.null), l1, l2, l3] S sh mi mj mr = zRun 166 73 [some (.null), l1, l2, l3] (.null :: S) sh mi mj mr := zr_l (zD_of zk_166 d_166_72 rfl rfl) rfl rfl rfl
theorem q_166_73 : zRun 166 73 [l0, l1, some (.int x), l3] S sh mi mj mr = zRun 166 74 [l0, l1, some (.int x), l3] (.int x :: S) sh mi mj mr := zr_l (zD_of zk_166 d_166_73 rfl rfl) rfl rfl rfl
theorem q_166_74  {x0 : Int32} (hS : zcat S ≤ 8) (h : zIs sh o 0 8) : zRun 166 74 L (.int x0 :: .ref o :: S) sh mi mj mr = (zCall 146 [.ref o, .int x0] sh mi mj mr).bind fun r => zRun 166 77 L (r.1.toList ++ S) r.2.1 r.2.2.1 r.2.2.2.1 r.2.2.2.2 := zr_V (zD_of zk_166 d_166_74 rfl rfl) rfl zk_146 rfl rfl rfl hS h
theorem q_166_77  : zRun 166 77 L S sh mi mj mr = zRun 166 139 L S sh mi mj mr := zr_go (off := 62) (zD_of zk_166 d_166_77 rfl rfl) rfl rfl (by decide)
theorem q_166_80r : zRun 166 80 [some (.ref o), l1, l2, l3] S sh mi mj mr = zRun 166 81 [some (.ref o), l1, l2, l3] (.ref o :: S) sh mi mj mr := zr_l (zD_of zk_166 d_166_80 rfl rfl) rfl rfl rfl
theorem q_166_80n : zRun 166 80 [some (.null), l1, l2, l3] S sh mi mj mr = zRun 166 81 [some (.null), l1, l2, l3] (.null :: S) sh mi mj mr := zr_l (zD_of zk_166 d_166_80 rfl rfl) rfl rfl rfl
theorem q_166_81 : zRun 166 81 [l0, l1, some (.int x), l3] S sh mi mj mr = zRun 166 82 [l0, l1, some (.int x), l3] (.int x :: S) sh mi mj mr := zr_l (zD_of zk_166 d_166_81 rfl rfl) rfl rfl rfl
theorem q_166_82 : zRun 166 82 [l0, l1, l2, some (.int x)] S sh mi mj mr = zRun 166 83 [l0, l1, l2, some (.int x)] (.int x :: S) sh mi mj mr := zr_l (zD_of zk_166 d_166_82 rfl rfl) rfl rfl rfl
theorem q_166_83  {x0 x1 : Int32} (hS : zcat S ≤ 8) (h : zIs sh o 0 8) : zRun 166 83 L (.int x1 :: .int x0 :: .ref o :: S) sh mi mj mr = (zCall 152 [.ref o, .int x0, .int x1] sh mi mj mr).bind fun r => zRun 166 86 L (r.1.toList ++ S) r.2.1 r.2.2.1 r.2.2.2.1 r.2.2.2.2 := zr_V (zD_of zk_166 d_166_83 rfl rfl) rfl zk_152 rfl rfl rfl hS h
theorem q_166_86  : zRun 166 86 L S sh mi mj mr = zRun 166 139 L S sh mi mj mr := zr_go (off := 53) (zD_of zk_166 d_166_86 rfl rfl) rfl rfl (by decide)
theorem q_166_89r : zRun 166 89 [some (.ref o), l1, l2, l3] S sh mi mj mr = zRun 166 90 [some (.ref o), l1, l2, l3] (.ref o :: S) sh mi mj mr := zr_l (zD_of zk_166 d_166_89 rfl rfl) rfl rfl rfl
theorem q_166_89n : zRun 166 89 [some (.null), l1, l2, l3] S sh mi mj mr = zRun 166 90 [some (.null), l1, l2, l3] (.null :: S) sh mi mj mr := zr_l (zD_of zk_166 d_166_89 rfl rfl) rfl rfl rfl
theorem q_166_90 : zRun 166 90 [l0, l1, some (.int x), l3] S sh mi mj mr = zRun 166 91 [l0, l1, some (.int x), l3] (.int x :: S) sh mi mj mr := zr_l (zD_of zk_166 d_166_90 rfl rfl) rfl rfl rfl
theorem q_166_91  {x0 : Int32} (hS : zcat S ≤ 8) (h : zIs sh o 0 8) : zRun 166 91 L (.int x0 :: .ref o :: S) sh mi mj mr = (zCall 153 [.ref o, .int x0] sh mi mj mr).bind fun r => zRun 166 94 L (r.1.toList ++ S) r.2.1 r.2.2.1 r.2.2.2.1 r.2.2.2.2 := zr_V (zD_of zk_166 d_166_91 rfl rfl) rfl zk_153 rfl rfl rfl hS h
theorem q_166_94  : zRun 166 94 L S sh mi mj mr = zRun 166 139 L S sh mi mj mr := zr_go (off := 45) (zD_of zk_166 d_166_94 rfl rfl) rfl rfl (by decide)
theorem q_166_97r : zRun 166 97 [some (.ref o), l1, l2, l3] S sh mi mj mr = zRun 166 98 [some (.ref o), l1, l2, l3] (.ref o :: S) sh mi mj mr := zr_l (zD_of zk_166 d_166_97 rfl rfl) rfl rfl rfl
theorem q_166_97n : zRun 166 97 [some (.null), l1, l2, l3] S sh mi mj mr = zRun 166 98 [some (.null), l1, l2, l3] (.null :: S) sh mi mj mr := zr_l (zD_of zk_166 d_166_97 rfl rfl) rfl rfl rfl
theorem q_166_98 : zRun 166 98 [l0, l1, some (.int x), l3] S sh mi mj mr = zRun 166 99 [l0, l1, some (.int x), l3] (.int x :: S) sh mi mj mr := zr_l (zD_of zk_166 d_166_98 rfl rfl) rfl rfl rfl
theorem q_166_99 : zRun 166 99 [l0, l1, l2, some (.int x)] S sh mi mj mr = zRun 166 100 [l0, l1, l2, some (.int x)] (.int x :: S) sh mi mj mr := zr_l (zD_of zk_166 d_166_99 rfl rfl) rfl rfl rfl
theorem q_166_100  {x0 x1 : Int32} (hS : zcat S ≤ 8) (h : zIs sh o 0 8) : zRun 166 100 L (.int x1 :: .int x0 :: .ref o :: S) sh mi mj mr = (zCall 155 [.ref o, .int x0, .int x1] sh mi mj mr).bind fun r => zRun 166 103 L (r.1.toList ++ S) r.2.1 r.2.2.1 r.2.2.2.1 r.2.2.2.2 := zr_V (zD_of zk_166 d_166_100 rfl rfl) rfl zk_155 rfl rfl rfl hS h
theorem q_166_103  : zRun 166 103 L S sh mi mj mr = zRun 166 139 L S sh mi mj mr := zr_go (off := 36) (zD_of zk_166 d_166_103 rfl rfl) rfl rfl (by decide)
theorem q_166_106r : zRun 166 106 [some (.ref o), l1, l2, l3] S sh mi mj mr = zRun 166 107 [some (.ref o), l1, l2, l3] (.ref o :: S) sh mi mj mr := zr_l (zD_of zk_166 d_166_106 rfl rfl) rfl rfl rfl
theorem q_166_106n : zRun 166 106 [some (.null), l1, l2, l3] S sh mi mj mr = zRun 166 107 [some (.null), l1, l2, l3] (.null :: S) sh mi mj mr := zr_l (zD_of zk_166 d_166_106 rfl rfl) rfl rfl rfl
theorem q_166_107 : zRun 166 107 [l0, l1, some (.int x), l3] S sh mi mj mr = zRun 166 108 [l0, l1, some (.int x), l3] (.int x :: S) sh mi mj mr := zr_l (zD_of zk_166 d_166_107 rfl rfl) rfl rfl rfl
theorem q_166_108  {x0 : Int32} (hS : zcat S ≤ 8) (h : zIs sh o 0 8) : zRun 166 108 L (.int x0 :: .ref o :: S) sh mi mj mr = (zCall 156 [.ref o, .int x0] sh mi mj mr).bind fun r => zRun 166 111 L (r.1.toList ++ S) r.2.1 r.2.2.1 r.2.2.2.1 r.2.2.2.2 := zr_V (zD_of zk_166 d_166_108 rfl rfl) rfl zk_156 rfl rfl rfl hS h
theorem q_166_111  : zRun 166 111 L S sh mi mj mr = zRun 166 139 L S sh mi mj mr := zr_go (off := 28) (zD_of zk_166 d_166_111 rfl rfl) rfl rfl (by decide)
theorem q_166_114r : zRun 166 114 [some (.ref o), l1, l2, l3] S sh mi mj mr = zRun 166 115 [some (.ref o), l1, l2, l3] (.ref o :: S) sh mi mj mr := zr_l (zD_of zk_166 d_166_114 rfl rfl) rfl rfl rfl
theorem q_166_114n : zRun 166 114 [some (.null), l1, l2, l3] S sh mi mj mr = zRun 166 115 [some (.null), l1, l2, l3] (.null :: S) sh mi mj mr := zr_l (zD_of zk_166 d_166_114 rfl rfl) rfl rfl rfl
theorem q_166_115 : zRun 166 115 [l0, l1, some (.int x), l3] S sh mi mj mr = zRun 166 116 [l0, l1, some (.int x), l3] (.int x :: S) sh mi mj mr := zr_l (zD_of zk_166 d_166_115 rfl rfl) rfl rfl rfl
theorem q_166_116  {x0 : Int32} (hS : zcat S ≤ 8) (h : zIs sh o 0 8) : zRun 166 116 L (.int x0 :: .ref o :: S) sh mi mj mr = (zCall 157 [.ref o, .int x0] sh mi mj mr).bind fun r => zRun 166 119 L (r.1.toList ++ S) r.2.1 r.2.2.1 r.2.2.2.1 r.2.2.2.2 := zr_V (zD_of zk_166 d_166_116 rfl rfl) rfl zk_157 rfl rfl rfl hS h
theorem q_166_119  : zRun 166 119 L S sh mi mj mr = zRun 166 139 L S sh mi mj mr := zr_go (off := 20) (zD_of zk_166 d_166_119 rfl rfl) rfl rfl (by decide)
theorem q_166_122r : zRun 166 122 [some (.ref o), l1, l2, l3] S sh mi mj mr = zRun 166 123 [some (.ref o), l1, l2, l3] (.ref o :: S) sh mi mj mr := zr_l (zD_of zk_166 d_166_122 rfl rfl) rfl rfl rfl
theorem q_166_122n : zRun 166 122 [some (.null), l1, l2, l3] S sh mi mj mr = zRun 166 123 [some (.null), l1, l2, l3] (.null :: S) sh mi mj mr := zr_l (zD_of zk_166 d_166_122 rfl rfl) rfl rfl rfl
theorem q_166_123 : zRun 166 123 [l0, l1, some (.int x), l3] S sh mi mj mr = zRun 166 124 [l0, l1, some (.int x), l3] (.int x :: S) sh mi mj mr := zr_l (zD_of zk_166 d_166_123 rfl rfl) rfl rfl rfl
theorem q_166_124 : zRun 166 124 [l0, l1, l2, some (.int x)] S sh mi mj mr = zRun 166 125 [l0, l1, l2, some (.int x)] (.int x :: S) sh mi mj mr := zr_l (zD_of zk_166 d_166_124 rfl rfl) rfl rfl rfl
theorem q_166_125 : zRun 166 125 [l0, some (.int x), l2, l3] S sh mi mj mr = zRun 166 126 [l0, some (.int x), l2, l3] (.int x :: S) sh mi mj mr := zr_l (zD_of zk_166 d_166_125 rfl rfl) rfl rfl rfl
theorem q_166_126  : zRun 166 126 L S sh mi mj mr = zRun 166 128 L (.int 14 :: S) sh mi mj mr := zr_p (zD_of zk_166 d_166_126 rfl rfl) rfl
theorem q_166_128  : zRun 166 128 L (.int y :: .int x :: S) sh mi mj mr = if ¬ x = y then zRun 166 135 L S sh mi mj mr else zRun 166 131 L S sh mi mj mr := zr_if (off := 7) (P := ¬ x = y) (zD_of zk_166 d_166_128 rfl rfl) rfl rfl (by decide)
theorem q_166_131  : zRun 166 131 L S sh mi mj mr = zRun 166 132 L (.int 1 :: S) sh mi mj mr := zr_p (zD_of zk_166 d_166_131 rfl rfl) rfl
theorem q_166_132  : zRun 166 132 L S sh mi mj mr = zRun 166 136 L S sh mi mj mr := zr_go (off := 4) (zD_of zk_166 d_166_132 rfl rfl) rfl rfl (by decide)
theorem q_166_135  : zRun 166 135 L S sh mi mj mr = zRun 166 136 L (.int 0 :: S) sh mi mj mr := zr_p (zD_of zk_166 d_166_135 rfl rfl) rfl
theorem q_166_136  {x0 x1 x2 : Int32} (hS : zcat S ≤ 8) (h : zIs sh o 0 8) : zRun 166 136 L (.int x2 :: .int x1 :: .int x0 :: .ref o :: S) sh mi mj mr = (zCall 158 [.ref o, .int x0, .int x1, .int x2] sh mi mj mr).bind fun r => zRun 166 139 L (r.1.toList ++ S) r.2.1 r.2.2.1 r.2.2.2.1 r.2.2.2.2 := zr_V (zD_of zk_166 d_166_136 rfl rfl) rfl zk_158 rfl rfl rfl hS h
theorem q_166_139  : zRun 166 139 L [] sh mi mj mr = some (none, sh, mi, mj, mr) := zr_ret (zD_of zk_166 d_166_139 rfl rfl) rfl rfl rfl rfl rfl rfl
theorem e_166 {x0 x1 x2 : Int32} : zCall 166 [.ref o, .int x0, .int x1, .int x2] sh mi mj mr = zRun 166 0 [some (.ref o), some (.int x0), some (.int x1), some (.int x2)] [] sh mi mj mr := rfl
theorem d_167_0 : decode cX8_isOfTwo 0 = .ok (.iload_n 0, 1) := by decide +kernel
theorem d_167_1 : decode cX8_isOfTwo 1 = .ok (.iconst 5, 1) := by decide +kernel
theorem d_167_2 : decode cX8_isOfTwo 2 = .ok (.if_icmp .eq 27, 3) := by decide +kernel
theorem d_167_5 : decode cX8_isOfTwo 5 = .ok (.iload_n 0, 1) := by decide +kernel
theorem d_167_6 : decode cX8_isOfTwo 6 = .ok (.bipush 6, 2) := by decide +kernel
theorem d_167_8 : decode cX8_isOfTwo 8 = .ok (.if_icmp .eq 21, 3) := by decide +kernel
theorem d_167_11 : decode cX8_isOfTwo 11 = .ok (.iload_n 0, 1) := by decide +kernel
theorem d_167_12 : decode cX8_isOfTwo 12 = .ok (.bipush 9, 2) := by decide +kernel
theorem d_167_14 : decode cX8_isOfTwo 14 = .ok (.if_icmp .eq 15, 3) := by decide +kernel
theorem d_167_17 : decode cX8_isOfTwo 17 = .ok (.iload_n 0, 1) := by decide +kernel
theorem d_167_18 : decode cX8_isOfTwo 18 = .ok (.bipush 11, 2) := by decide +kernel
theorem d_167_20 : decode cX8_isOfTwo 20 = .ok (.if_icmp .eq 9, 3) := by decide +kernel
theorem d_167_23 : decode cX8_isOfTwo 23 = .ok (.iload_n 0, 1) := by decide +kernel
theorem d_167_24 : decode cX8_isOfTwo 24 = .ok (.bipush 14, 2) := by decide +kernel
theorem d_167_26 : decode cX8_isOfTwo 26 = .ok (.if_icmp .lt 7, 3) := by decide +kernel
theorem d_167_29 : decode cX8_isOfTwo 29 = .ok (.iconst 1, 1) := by decide +kernel
theorem d_167_30 : decode cX8_isOfTwo 30 = .ok (.goto 4, 3) := by decide +kernel
theorem d_167_33 : decode cX8_isOfTwo 33 = .ok (.iconst 0, 1) := by decide +kernel
theorem d_167_34 : decode cX8_isOfTwo 34 = .ok (.ireturn, 1) := by decide +kernel
theorem q_167_0 : zRun 167 0 [some (.int x)] S sh mi mj mr = zRun 167 1 [some (.int x)] (.int x :: S) sh mi mj mr := zr_l (zD_of zk_167 d_167_0 rfl rfl) rfl rfl rfl
theorem q_167_1  : zRun 167 1 L S sh mi mj mr = zRun 167 2 L (.int 5 :: S) sh mi mj mr := zr_p (zD_of zk_167 d_167_1 rfl rfl) rfl
theorem q_167_2  : zRun 167 2 L (.int y :: .int x :: S) sh mi mj mr = if x = y then zRun 167 29 L S sh mi mj mr else zRun 167 5 L S sh mi mj mr := zr_if (off := 27) (P := x = y) (zD_of zk_167 d_167_2 rfl rfl) rfl rfl (by decide)
theorem q_167_5 : zRun 167 5 [some (.int x)] S sh mi mj mr = zRun 167 6 [some (.int x)] (.int x :: S) sh mi mj mr := zr_l (zD_of zk_167 d_167_5 rfl rfl) rfl rfl rfl
theorem q_167_6  : zRun 167 6 L S sh mi mj mr = zRun 167 8 L (.int 6 :: S) sh mi mj mr := zr_p (zD_of zk_167 d_167_6 rfl rfl) rfl
theorem q_167_8  : zRun 167 8 L (.int y :: .int x :: S) sh mi mj mr = if x = y then zRun 167 29 L S sh mi mj mr else zRun 167 11 L S sh mi mj mr := zr_if (off := 21) (P := x = y) (zD_of zk_167 d_167_8 rfl rfl) rfl rfl (by decide)
theorem q_167_11 : zRun 167 11 [some (.int x)] S sh mi mj mr = zRun 167 12 [some (.int x)] (.int x :: S) sh mi mj mr := zr_l (zD_of zk_167 d_167_11 rfl rfl) rfl rfl rfl
theorem q_167_12  : zRun 167 12 L S sh mi mj mr = zRun 167 14 L (.int 9 :: S) sh mi mj mr := zr_p (zD_of zk_167 d_167_12 rfl rfl) rfl
theorem q_167_14  : zRun 167 14 L (.int y :: .int x :: S) sh mi mj mr = if x = y then zRun 167 29 L S sh mi mj mr else zRun 167 17 L S sh mi mj mr := zr_if (off := 15) (P := x = y) (zD_of zk_167 d_167_14 rfl rfl) rfl rfl (by decide)
theorem q_167_17 : zRun 167 17 [some (.int x)] S sh mi mj mr = zRun 167 18 [some (.int x)] (.int x :: S) sh mi mj mr := zr_l (zD_of zk_167 d_167_17 rfl rfl) rfl rfl rfl
theorem q_167_18  : zRun 167 18 L S sh mi mj mr = zRun 167 20 L (.int 11 :: S) sh mi mj mr := zr_p (zD_of zk_167 d_167_18 rfl rfl) rfl
theorem q_167_20  : zRun 167 20 L (.int y :: .int x :: S) sh mi mj mr = if x = y then zRun 167 29 L S sh mi mj mr else zRun 167 23 L S sh mi mj mr := zr_if (off := 9) (P := x = y) (zD_of zk_167 d_167_20 rfl rfl) rfl rfl (by decide)
theorem q_167_23 : zRun 167 23 [some (.int x)] S sh mi mj mr = zRun 167 24 [some (.int x)] (.int x :: S) sh mi mj mr := zr_l (zD_of zk_167 d_167_23 rfl rfl) rfl rfl rfl
theorem q_167_24  : zRun 167 24 L S sh mi mj mr = zRun 167 26 L (.int 14 :: S) sh mi mj mr := zr_p (zD_of zk_167 d_167_24 rfl rfl) rfl
theorem q_167_26  : zRun 167 26 L (.int y :: .int x :: S) sh mi mj mr = if x < y then zRun 167 33 L S sh mi mj mr else zRun 167 29 L S sh mi mj mr := zr_if (off := 7) (P := x < y) (zD_of zk_167 d_167_26 rfl rfl) rfl rfl (by decide)
theorem q_167_29  : zRun 167 29 L S sh mi mj mr = zRun 167 30 L (.int 1 :: S) sh mi mj mr := zr_p (zD_of zk_167 d_167_29 rfl rfl) rfl
theorem q_167_30  : zRun 167 30 L S sh mi mj mr = zRun 167 34 L S sh mi mj mr := zr_go (off := 4) (zD_of zk_167 d_167_30 rfl rfl) rfl rfl (by decide)
theorem q_167_33  : zRun 167 33 L S sh mi mj mr = zRun 167 34 L (.int 0 :: S) sh mi mj mr := zr_p (zD_of zk_167 d_167_33 rfl rfl) rfl
theorem q_167_34 (h : x = 0 ∨ x = 1) : zRun 167 34 L ([.int x]) sh mi mj mr = some (some (.int x), sh, mi, mj, mr) := zr_ret (zD_of zk_167 d_167_34 rfl rfl) rfl rfl rfl rfl rfl (if_pos (zna_b h))
theorem e_167 {x0 : Int32} : zCall 167 [.int x0] sh mi mj mr = zRun 167 0 [some (.int x0)] [] sh mi mj mr := rfl
theorem d_168_0 : decode cX8_make 0 = .ok (.iload_n 1, 1) := by decide +kernel
theorem d_168_1 : decode cX8_make 1 = .ok (.bipush 8, 2) := by decide +kernel
theorem d_168_3 : decode cX8_make 3 = .ok (.if_icmp .ne 28, 3) := by decide +kernel
theorem d_168_6 : decode cX8_make 6 = .ok (.aload_n 0, 1) := by decide +kernel
theorem d_168_7 : decode cX8_make 7 = .ok (.aload_n 0, 1) := by decide +kernel
theorem d_168_8 : decode cX8_make 8 = .ok (.getfield 213, 3) := by decide +kernel
theorem d_168_11 : decode cX8_make 11 = .ok (.iconst 1, 1) := by decide +kernel
theorem d_168_12 : decode cX8_make 12 = .ok (.isub, 1) := by decide +kernel
theorem d_168_13 : decode cX8_make 13 = .ok (.aload_n 0, 1) := by decide +kernel
theorem d_168_14 : decode cX8_make 14 = .ok (.getfield 213, 3) := by decide +kernel
theorem d_168_17 : decode cX8_make 17 = .ok (.invokevirtual 210, 3) := by decide +kernel
theorem d_168_20 : decode cX8_make 20 = .ok (.aload_n 0, 1) := by decide +kernel
theorem d_168_21 : decode cX8_make 21 = .ok (.dup, 1) := by decide +kernel
theorem d_168_22 : decode cX8_make 22 = .ok (.getfield 213, 3) := by decide +kernel
theorem d_168_25 : decode cX8_make 25 = .ok (.iconst 1, 1) := by decide +kernel
theorem d_168_26 : decode cX8_make 26 = .ok (.iadd, 1) := by decide +kernel
theorem d_168_27 : decode cX8_make 27 = .ok (.putfield 213, 3) := by decide +kernel
theorem d_168_30 : decode cX8_make 30 = .ok (.return_, 1) := by decide +kernel
theorem d_168_31 : decode cX8_make 31 = .ok (.iload_n 1, 1) := by decide +kernel
theorem d_168_32 : decode cX8_make 32 = .ok (.invokestatic 248, 3) := by decide +kernel
theorem d_168_35 : decode cX8_make 35 = .ok (.ifCond .eq 12, 3) := by decide +kernel
theorem d_168_38 : decode cX8_make 38 = .ok (.aload_n 0, 1) := by decide +kernel
theorem d_168_39 : decode cX8_make 39 = .ok (.getfield 213, 3) := by decide +kernel
theorem d_168_42 : decode cX8_make 42 = .ok (.iconst 2, 1) := by decide +kernel
theorem d_168_43 : decode cX8_make 43 = .ok (.isub, 1) := by decide +kernel
theorem d_168_44 : decode cX8_make 44 = .ok (.goto 9, 3) := by decide +kernel
theorem d_168_47 : decode cX8_make 47 = .ok (.aload_n 0, 1) := by decide +kernel
theorem d_168_48 : decode cX8_make 48 = .ok (.getfield 213, 3) := by decide +kernel
theorem d_168_51 : decode cX8_make 51 = .ok (.iconst 1, 1) := by decide +kernel
theorem d_168_52 : decode cX8_make 52 = .ok (.isub, 1) := by decide +kernel
theorem d_168_53 : decode cX8_make 53 = .ok (.istore_n 2, 1) := by decide +kernel
theorem d_168_54 : decode cX8_make 54 = .ok (.aload_n 0, 1) := by decide +kernel
theorem d_168_55 : decode cX8_make 55 = .ok (.getfield 213, 3) := by decide +kernel
theorem d_168_58 : decode cX8_make 58 = .ok (.iconst 1, 1) := by decide +kernel
theorem d_168_59 : decode cX8_make 59 = .ok (.isub, 1) := by decide +kernel
theorem d_168_60 : decode cX8_make 60 = .ok (.istore_n 3, 1) := by decide +kernel
theorem d_168_61 : decode cX8_make 61 = .ok (.aload_n 0, 1) := by decide +kernel
theorem d_168_62 : decode cX8_make 62 = .ok (.iload_n 2, 1) := by decide +kernel
theorem d_168_63 : decode cX8_make 63 = .ok (.invokevirtual 251, 3) := by decide +kernel
theorem d_168_66 : decode cX8_make 66 = .ok (.ifCond .ne 11, 3) := by decide +kernel
theorem d_168_69 : decode cX8_make 69 = .ok (.aload_n 0, 1) := by decide +kernel
theorem d_168_70 : decode cX8_make 70 = .ok (.iload_n 3, 1) := by decide +kernel
theorem d_168_71 : decode cX8_make 71 = .ok (.invokevirtual 251, 3) := by decide +kernel
theorem d_168_74 : decode cX8_make 74 = .ok (.ifCond .eq 7, 3) := by decide +kernel
theorem d_168_77 : decode cX8_make 77 = .ok (.iconst 1, 1) := by decide +kernel
theorem d_168_78 : decode cX8_make 78 = .ok (.goto 4, 3) := by decide +kernel
theorem d_168_81 : decode cX8_make 81 = .ok (.iconst 0, 1) := by decide +kernel
theorem d_168_82 : decode cX8_make 82 = .ok (.istore 4, 2) := by decide +kernel
theorem d_168_84 : decode cX8_make 84 = .ok (.aload_n 0, 1) := by decide +kernel
theorem d_168_85 : decode cX8_make 85 = .ok (.iload_n 2, 1) := by decide +kernel
theorem d_168_86 : decode cX8_make 86 = .ok (.iconst 1, 1) := by decide +kernel
theorem d_168_87 : decode cX8_make 87 = .ok (.iadd, 1) := by decide +kernel
theorem d_168_88 : decode cX8_make 88 = .ok (.putfield 213, 3) := by decide +kernel
theorem d_168_91 : decode cX8_make 91 = .ok (.iload 4, 2) := by decide +kernel
theorem d_168_93 : decode cX8_make 93 = .ok (.ifCond .eq 10, 3) := by decide +kernel
theorem d_168_96 : decode cX8_make 96 = .ok (.aload_n 0, 1) := by decide +kernel
theorem d_168_97 : decode cX8_make 97 = .ok (.iload_n 2, 1) := by decide +kernel
theorem d_168_98 : decode cX8_make 98 = .ok (.iconst 0, 1) := by decide +kernel
theorem d_168_99 : decode cX8_make 99 = .ok (.invokevirtual 195, 3) := by decide +kernel
theorem d_168_102 : decode cX8_make 102 = .ok (.return_, 1) := by decide +kernel
theorem d_168_103 : decode cX8_make 103 = .ok (.aload_n 0, 1) := by decide +kernel
theorem d_168_104 : decode cX8_make 104 = .ok (.iload_n 1, 1) := by decide +kernel
theorem d_168_105 : decode cX8_make 105 = .ok (.iload_n 2, 1) := by decide +kernel
theorem d_168_106 : decode cX8_make 106 = .ok (.iload_n 3, 1) := by decide +kernel
theorem d_168_107 : decode cX8_make 107 = .ok (.invokevirtual 254, 3) := by decide +kernel
theorem d_168_110 : decode cX8_make 110 = .ok (.aload_n 0, 1) := by decide +kernel
theorem d_168_111 : decode cX8_make 111 = .ok (.iload_n 2, 1) := by decide +kernel
theorem d_168_112 : decode cX8_make 112 = .ok (.invokevirtual 251, 3) := by decide +kernel
theorem d_168_115 : decode cX8_make 115 = .ok (.ifCond .ne 17, 3) := by decide +kernel
theorem d_168_118 : decode cX8_make 118 = .ok (.aload_n 0, 1) := by decide +kernel
theorem d_168_119 : decode cX8_make 119 = .ok (.iload_n 2, 1) := by decide +kernel
theorem d_168_120 : decode cX8_make 120 = .ok (.invokevirtual 258, 3) := by decide +kernel
theorem d_168_123 : decode cX8_make 123 = .ok (.ifCond .eq 9, 3) := by decide +kernel
theorem d_168_126 : decode cX8_make 126 = .ok (.aload_n 0, 1) := by decide +kernel
theorem d_168_127 : decode cX8_make 127 = .ok (.iload_n 2, 1) := by decide +kernel
theorem d_168_128 : decode cX8_make 128 = .ok (.iconst 3, 1) := by decide +kernel
theorem d_168_129 : decode cX8_make 129 = .ok (.invokevirtual 195, 3) := by decide +kernel
theorem d_168_132 : decode cX8_make 132 = .ok (.aload_n 0, 1) := by decide +kernel
theorem d_168_133 : decode cX8_make 133 = .ok (.iload_n 2, 1) := by decide +kernel
theorem d_168_134 : decode cX8_make 134 = .ok (.invokevirtual 251, 3) := by decide +kernel
theorem d_168_137 : decode cX8_make 137 = .ok (.ifCond .ne 13, 3) := by decide +kernel
theorem d_168_140 : decode cX8_make 140 = .ok (.iload_n 1, 1) := by decide +kernel
theorem d_168_141 : decode cX8_make 141 = .ok (.bipush 9, 2) := by decide +kernel
theorem d_168_143 : decode cX8_make 143 = .ok (.if_icmp .lt 7, 3) := by decide +kernel
theorem d_168_146 : decode cX8_make 146 = .ok (.aload_n 0, 1) := by decide +kernel
theorem d_168_147 : decode cX8_make 147 = .ok (.invokevirtual 261, 3) := by decide +kernel
theorem d_168_150 : decode cX8_make 150 = .ok (.return_, 1) := by decide +kernel
theorem q_168_0 : zRun 168 0 [l0, some (.int x), l2, l3, l4] S sh mi mj mr = zRun 168 1 [l0, some (.int x), l2, l3, l4] (.int x :: S) sh mi mj mr := zr_l (zD_of zk_168 d_168_0 rfl rfl) rfl rfl rfl
theorem q_168_1  : zRun 168 1 L S sh mi mj mr = zRun 168 3 L (.int 8 :: S) sh mi mj mr := zr_p (zD_of zk_168 d_168_1 rfl rfl) rfl
theorem q_168_3  : zRun 168 3 L (.int y :: .int x :: S) sh mi mj mr = if ¬ x = y then zRun 168 31 L S sh mi mj mr else zRun 168 6 L S sh mi mj mr := zr_if (off := 28) (P := ¬ x = y) (zD_of zk_168 d_168_3 rfl rfl) rfl rfl (by decide)
theorem q_168_6r : zRun 168 6 [some (.ref o), l1, l2, l3, l4] S sh mi mj mr = zRun 168 7 [some (.ref o), l1, l2, l3, l4] (.ref o :: S) sh mi mj mr := zr_l (zD_of zk_168 d_168_6 rfl rfl) rfl rfl rfl
theorem q_168_6n : zRun 168 6 [some (.null), l1, l2, l3, l4] S sh mi mj mr = zRun 168 7 [some (.null), l1, l2, l3, l4] (.null :: S) sh mi mj mr := zr_l (zD_of zk_168 d_168_6 rfl rfl) rfl rfl rfl
theorem q_168_7r : zRun 168 7 [some (.ref o), l1, l2, l3, l4] S sh mi mj mr = zRun 168 8 [some (.ref o), l1, l2, l3, l4] (.ref o :: S) sh mi mj mr := zr_l (zD_of zk_168 d_168_7 rfl rfl) rfl rfl rfl
theorem q_168_7n : zRun 168 7 [some (.null), l1, l2, l3, l4] S sh mi mj mr = zRun 168 8 [some (.null), l1, l2, l3, l4] (.null :: S) sh mi mj mr := zr_l (zD_of zk_168 d_168_7 rfl rfl) rfl rfl rfl
theorem q_168_8 (h : zIs sh o 0 8) : zRun 168 8 L (.ref o :: S) sh mi mj mr = zRun 168 11 L (.int (mi o 11) :: S) sh mi mj mr := zr_getI (zD_of zk_168 d_168_8 rfl rfl) rfl rfl (Or.inl rfl) h
theorem q_168_11  : zRun 168 11 L S sh mi mj mr = zRun 168 12 L (.int 1 :: S) sh mi mj mr := zr_p (zD_of zk_168 d_168_11 rfl rfl) rfl
theorem q_168_12  : zRun 168 12 L (.int y :: .int x :: S) sh mi mj mr = zRun 168 13 L (.int (x - y) :: S) sh mi mj mr := zr_p (zD_of zk_168 d_168_12 rfl rfl) rfl
theorem q_168_13r : zRun 168 13 [some (.ref o), l1, l2, l3, l4] S sh mi mj mr = zRun 168 14 [some (.ref o), l1, l2, l3, l4] (.ref o :: S) sh mi mj mr := zr_l (zD_of zk_168 d_168_13 rfl rfl) rfl rfl rfl
theorem q_168_13n : zRun 168 13 [some (.null), l1, l2, l3, l4] S sh mi mj mr = zRun 168 14 [some (.null), l1, l2, l3, l4] (.null :: S) sh mi mj mr := zr_l (zD_of zk_168 d_168_13 rfl rfl) rfl rfl rfl
theorem q_168_14 (h : zIs sh o 0 8) : zRun 168 14 L (.ref o :: S) sh mi mj mr = zRun 168 17 L (.int (mi o 11) :: S) sh mi mj mr := zr_getI (zD_of zk_168 d_168_14 rfl rfl) rfl rfl (Or.inl rfl) h
theorem q_168_17  {x0 x1 : Int32} (hS : zcat S ≤ 8) (h : zIs sh o 0 8) : zRun 168 17 L (.int x1 :: .int x0 :: .ref o :: S) sh mi mj mr = (zCall 143 [.ref o, .int x0, .int x1] sh mi mj mr).bind fun r => zRun 168 20 L (r.1.toList ++ S) r.2.1 r.2.2.1 r.2.2.2.1 r.2.2.2.2 := zr_V (zD_of zk_168 d_168_17 rfl rfl) rfl zk_143 rfl rfl rfl hS h
theorem q_168_20r : zRun 168 20 [some (.ref o), l1, l2, l3, l4] S sh mi mj mr = zRun 168 21 [some (.ref o), l1, l2, l3, l4] (.ref o :: S) sh mi mj mr := zr_l (zD_of zk_168 d_168_20 rfl rfl) rfl rfl rfl
theorem q_168_20n : zRun 168 20 [some (.null), l1, l2, l3, l4] S sh mi mj mr = zRun 168 21 [some (.null), l1, l2, l3, l4] (.null :: S) sh mi mj mr := zr_l (zD_of zk_168 d_168_20 rfl rfl) rfl rfl rfl
theorem q_168_21r : zRun 168 21 L (.ref o :: S) sh mi mj mr = zRun 168 22 L (.ref o :: .ref o :: S) sh mi mj mr := zr_p (zD_of zk_168 d_168_21 rfl rfl) rfl
theorem q_168_21i : zRun 168 21 L (.int x :: S) sh mi mj mr = zRun 168 22 L (.int x :: .int x :: S) sh mi mj mr := zr_p (zD_of zk_168 d_168_21 rfl rfl) rfl
theorem q_168_22 (h : zIs sh o 0 8) : zRun 168 22 L (.ref o :: S) sh mi mj mr = zRun 168 25 L (.int (mi o 11) :: S) sh mi mj mr := zr_getI (zD_of zk_168 d_168_22 rfl rfl) rfl rfl (Or.inl rfl) h
theorem q_168_25  : zRun 168 25 L S sh mi mj mr = zRun 168 26 L (.int 1 :: S) sh mi mj mr := zr_p (zD_of zk_168 d_168_25 rfl rfl) rfl
theorem q_168_26  : zRun 168 26 L (.int y :: .int x :: S) sh mi mj mr = zRun 168 27 L (.int (x + y) :: S) sh mi mj mr := zr_p (zD_of zk_168 d_168_26 rfl rfl) rfl
theorem q_168_27 (h : zIs sh o 0 8) : zRun 168 27 L (.int x :: .ref o :: S) sh mi mj mr = zRun 168 30 L S sh (zup mi o 11 x) mj mr := zr_putI (zD_of zk_168 d_168_27 rfl rfl) rfl rfl rfl (Or.inl rfl) h
theorem q_168_30  : zRun 168 30 L [] sh mi mj mr = some (none, sh, mi, mj, mr) := zr_ret (zD_of zk_168 d_168_30 rfl rfl) rfl rfl rfl rfl rfl rfl
theorem q_168_31 : zRun 168 31 [l0, some (.int x), l2, l3, l4] S sh mi mj mr = zRun 168 32 [l0, some (.int x), l2, l3, l4] (.int x :: S) sh mi mj mr := zr_l (zD_of zk_168 d_168_31 rfl rfl) rfl rfl rfl
theorem q_168_32  {x0 : Int32} (hS : zcat S ≤ 8) : zRun 168 32 L (.int x0 :: S) sh mi mj mr = (zCall 167 [.int x0] sh mi mj mr).bind fun r => zRun 168 35 L (r.1.toList ++ S) r.2.1 r.2.2.1 r.2.2.2.1 r.2.2.2.2 := zr_S (zD_of zk_168 d_168_32 rfl rfl) rfl zk_167 rfl rfl rfl hS
theorem q_168_35  : zRun 168 35 L (.int x :: S) sh mi mj mr = if x = 0 then zRun 168 47 L S sh mi mj mr else zRun 168 38 L S sh mi mj mr := zr_if (off := 12) (P := x = 0) (zD_of zk_168 d_168_35 rfl rfl) rfl rfl (by decide)
theorem q_168_38r : zRun 168 38 [some (.ref o), l1, l2, l3, l4] S sh mi mj mr = zRun 168 39 [some (.ref o), l1, l2, l3, l4] (.ref o :: S) sh mi mj mr := zr_l (zD_of zk_168 d_168_38 rfl rfl) rfl rfl rfl
theorem q_168_38n : zRun 168 38 [some (.null), l1, l2, l3, l4] S sh mi mj mr = zRun 168 39 [some (.null), l1, l2, l3, l4] (.null :: S) sh mi mj mr := zr_l (zD_of zk_168 d_168_38 rfl rfl) rfl rfl rfl
theorem q_168_39 (h : zIs sh o 0 8) : zRun 168 39 L (.ref o :: S) sh mi mj mr = zRun 168 42 L (.int (mi o 11) :: S) sh mi mj mr := zr_getI (zD_of zk_168 d_168_39 rfl rfl) rfl rfl (Or.inl rfl) h
theorem q_168_42  : zRun 168 42 L S sh mi mj mr = zRun 168 43 L (.int 2 :: S) sh mi mj mr := zr_p (zD_of zk_168 d_168_42 rfl rfl) rfl
theorem q_168_43  : zRun 168 43 L (.int y :: .int x :: S) sh mi mj mr = zRun 168 44 L (.int (x - y) :: S) sh mi mj mr := zr_p (zD_of zk_168 d_168_43 rfl rfl) rfl
theorem q_168_44  : zRun 168 44 L S sh mi mj mr = zRun 168 53 L S sh mi mj mr := zr_go (off := 9) (zD_of zk_168 d_168_44 rfl rfl) rfl rfl (by decide)
theorem q_168_47r : zRun 168 47 [some (.ref o), l1, l2, l3, l4] S sh mi mj mr = zRun 168 48 [some (.ref o), l1, l2, l3, l4] (.ref o :: S) sh mi mj mr := zr_l (zD_of zk_168 d_168_47 rfl rfl) rfl rfl rfl
theorem q_168_47n : zRun 168 47 [some (.null), l1, l2, l3, l4] S sh mi mj mr = zRun 168 48 [some (.null), l1, l2, l3, l4] (.null :: S) sh mi mj mr := zr_l (zD_of zk_168 d_168_47 rfl rfl) rfl rfl rfl
theorem q_168_48 (h : zIs sh o 0 8) : zRun 168 48 L (.ref o :: S) sh mi mj mr = zRun 168 51 L (.int (mi o 11) :: S) sh mi mj mr := zr_getI (zD_of zk_168 d_168_48 rfl rfl) rfl rfl (Or.inl rfl) h
theorem q_168_51  : zRun 168 51 L S sh mi mj mr = zRun 168 52 L (.int 1 :: S) sh mi mj mr := zr_p (zD_of zk_168 d_168_51 rfl rfl) rfl
theorem q_168_52  : zRun 168 52 L (.int y :: .int x :: S) sh mi mj mr = zRun 168 53 L (.int (x - y) :: S) sh mi mj mr := zr_p (zD_of zk_168 d_168_52 rfl rfl) rfl
theorem q_168_53 : zRun 168 53 [l0, l1, l2, l3, l4] (.int x :: S) sh mi mj mr = zRun 168 54 [l0, zk2 l1, some (.int x), l3, l4] S sh mi mj mr := zr_s1 (i := 2) (v := .int x) (L := [l0, l1, l2, l3, l4]) (zD_of zk_168 d_168_53 rfl rfl) rfl rfl rfl rfl
theorem q_168_54r : zRun 168 54 [some (.ref o), l1, l2, l3, l4] S sh mi mj mr = zRun 168 55 [some (.ref o), l1, l2, l3, l4] (.ref o :: S) sh mi mj mr := zr_l (zD_of zk_168 d_168_54 rfl rfl) rfl rfl rfl
theorem q_168_54n : zRun 168 54 [some (.null), l1, l2, l3, l4] S sh mi mj mr = zRun 168 55 [some (.null), l1, l2, l3, l4] (.null :: S) sh mi mj mr := zr_l (zD_of zk_168 d_168_54 rfl rfl) rfl rfl rfl
theorem q_168_55 (h : zIs sh o 0 8) : zRun 168 55 L (.ref o :: S) sh mi mj mr = zRun 168 58 L (.int (mi o 11) :: S) sh mi mj mr := zr_getI (zD_of zk_168 d_168_55 rfl rfl) rfl rfl (Or.inl rfl) h
theorem q_168_58  : zRun 168 58 L S sh mi mj mr = zRun 168 59 L (.int 1 :: S) sh mi mj mr := zr_p (zD_of zk_168 d_168_58 rfl rfl) rfl
theorem q_168_59  : zRun 168 59 L (.int y :: .int x :: S) sh mi mj mr = zRun 168 60 L (.int (x - y) :: S) sh mi mj mr := zr_p (zD_of zk_168 d_168_59 rfl rfl) rfl
theorem q_168_60 : zRun 168 60 [l0, l1, l2, l3, l4] (.int x :: S) sh mi mj mr = zRun 168 61 [l0, l1, zk2 l2, some (.int x), l4] S sh mi mj mr := zr_s1 (i := 3) (v := .int x) (L := [l0, l1, l2, l3, l4]) (zD_of zk_168 d_168_60 rfl rfl) rfl rfl rfl rfl
theorem q_168_61r : zRun 168 61 [some (.ref o), l1, l2, l3, l4] S sh mi mj mr = zRun 168 62 [some (.ref o), l1, l2, l3, l4] (.ref o :: S) sh mi mj mr := zr_l (zD_of zk_168 d_168_61 rfl rfl) rfl rfl rfl
theorem q_168_61n : zRun 168 61 [some (.null), l1, l2, l3, l4] S sh mi mj mr = zRun 168 62 [some (.null), l1, l2, l3, l4] (.null :: S) sh mi mj mr := zr_l (zD_of zk_168 d_168_61 rfl rfl) rfl rfl rfl
theorem q_168_62 : zRun 168 62 [l0, l1, some (.int x), l3, l4] S sh mi mj mr = zRun 168 63 [l0, l1, some (.int x), l3, l4] (.int x :: S) sh mi mj mr := zr_l (zD_of zk_168 d_168_62 rfl rfl) rfl rfl rfl
theorem q_168_63  {x0 : Int32} (hS : zcat S ≤ 8) (h : zIs sh o 0 8) : zRun 168 63 L (.int x0 :: .ref o :: S) sh mi mj mr = (zCall 141 [.ref o, .int x0] sh mi mj mr).bind fun r => zRun 168 66 L (r.1.toList ++ S) r.2.1 r.2.2.1 r.2.2.2.1 r.2.2.2.2 := zr_V (zD_of zk_168 d_168_63 rfl rfl) rfl zk_141 rfl rfl rfl hS h
theorem q_168_66  : zRun 168 66 L (.int x :: S) sh mi mj mr = if ¬ x = 0 then zRun 168 77 L S sh mi mj mr else zRun 168 69 L S sh mi mj mr := zr_if (off := 11) (P := ¬ x = 0) (zD_of zk_168 d_168_66 rfl rfl) rfl rfl (by decide)
theorem q_168_69r : zRun 168 69 [some (.ref o), l1, l2, l3, l4] S sh mi mj mr = zRun 168 70 [some (.ref o), l1, l2, l3, l4] (.ref o :: S) sh mi mj mr := zr_l (zD_of zk_168 d_168_69 rfl rfl) rfl rfl rfl
theorem q_168_69n : zRun 168 69 [some (.null), l1, l2, l3, l4] S sh mi mj mr = zRun 168 70 [some (.null), l1, l2, l3, l4] (.null :: S) sh mi mj mr := zr_l (zD_of zk_168 d_168_69 rfl rfl) rfl rfl rfl
theorem q_168_70 : zRun 168 70 [l0, l1, l2, some (.int x), l4] S sh mi mj mr = zRun 168 71 [l0, l1, l2, some (.int x), l4] (.int x :: S) sh mi mj mr := zr_l (zD_of zk_168 d_168_70 rfl rfl) rfl rfl rfl
theorem q_168_71  {x0 : Int32} (hS : zcat S ≤ 8) (h : zIs sh o 0 8) : zRun 168 71 L (.int x0 :: .ref o :: S) sh mi mj mr = (zCall 141 [.ref o, .int x0] sh mi mj mr).bind fun r => zRun 168 74 L (r.1.toList ++ S) r.2.1 r.2.2.1 r.2.2.2.1 r.2.2.2.2 := zr_V (zD_of zk_168 d_168_71 rfl rfl) rfl zk_141 rfl rfl rfl hS h
theorem q_168_74  : zRun 168 74 L (.int x :: S) sh mi mj mr = if x = 0 then zRun 168 81 L S sh mi mj mr else zRun 168 77 L S sh mi mj mr := zr_if (off := 7) (P := x = 0) (zD_of zk_168 d_168_74 rfl rfl) rfl rfl (by decide)
theorem q_168_77  : zRun 168 77 L S sh mi mj mr = zRun 168 78 L (.int 1 :: S) sh mi mj mr := zr_p (zD_of zk_168 d_168_77 rfl rfl) rfl
theorem q_168_78  : zRun 168 78 L S sh mi mj mr = zRun 168 82 L S sh mi mj mr := zr_go (off := 4) (zD_of zk_168 d_168_78 rfl rfl) rfl rfl (by decide)
theorem q_168_81  : zRun 168 81 L S sh mi mj mr = zRun 168 82 L (.int 0 :: S) sh mi mj mr := zr_p (zD_of zk_168 d_168_81 rfl rfl) rfl
theorem q_168_82 : zRun 168 82 [l0, l1, l2, l3, l4] (.int x :: S) sh mi mj mr = zRun 168 84 [l0, l1, l2, zk2 l3, some (.int x)] S sh mi mj mr := zr_s1 (i := 4) (v := .int x) (L := [l0, l1, l2, l3, l4]) (zD_of zk_168 d_168_82 rfl rfl) rfl rfl rfl rfl
theorem q_168_84r : zRun 168 84 [some (.ref o), l1, l2, l3, l4] S sh mi mj mr = zRun 168 85 [some (.ref o), l1, l2, l3, l4] (.ref o :: S) sh mi mj mr := zr_l (zD_of zk_168 d_168_84 rfl rfl) rfl rfl rfl
theorem q_168_84n : zRun 168 84 [some (.null), l1, l2, l3, l4] S sh mi mj mr = zRun 168 85 [some (.null), l1, l2, l3, l4] (.null :: S) sh mi mj mr := zr_l (zD_of zk_168 d_168_84 rfl rfl) rfl rfl rfl
theorem q_168_85 : zRun 168 85 [l0, l1, some (.int x), l3, l4] S sh mi mj mr = zRun 168 86 [l0, l1, some (.int x), l3, l4] (.int x :: S) sh mi mj mr := zr_l (zD_of zk_168 d_168_85 rfl rfl) rfl rfl rfl
theorem q_168_86  : zRun 168 86 L S sh mi mj mr = zRun 168 87 L (.int 1 :: S) sh mi mj mr := zr_p (zD_of zk_168 d_168_86 rfl rfl) rfl
theorem q_168_87  : zRun 168 87 L (.int y :: .int x :: S) sh mi mj mr = zRun 168 88 L (.int (x + y) :: S) sh mi mj mr := zr_p (zD_of zk_168 d_168_87 rfl rfl) rfl
theorem q_168_88 (h : zIs sh o 0 8) : zRun 168 88 L (.int x :: .ref o :: S) sh mi mj mr = zRun 168 91 L S sh (zup mi o 11 x) mj mr := zr_putI (zD_of zk_168 d_168_88 rfl rfl) rfl rfl rfl (Or.inl rfl) h
theorem q_168_91 : zRun 168 91 [l0, l1, l2, l3, some (.int x)] S sh mi mj mr = zRun 168 93 [l0, l1, l2, l3, some (.int x)] (.int x :: S) sh mi mj mr := zr_l (zD_of zk_168 d_168_91 rfl rfl) rfl rfl rfl
theorem q_168_93  : zRun 168 93 L (.int x :: S) sh mi mj mr = if x = 0 then zRun 168 103 L S sh mi mj mr else zRun 168 96 L S sh mi mj mr := zr_if (off := 10) (P := x = 0) (zD_of zk_168 d_168_93 rfl rfl) rfl rfl (by decide)
theorem q_168_96r : zRun 168 96 [some (.ref o), l1, l2, l3, l4] S sh mi mj mr = zRun 168 97 [some (.ref o), l1, l2, l3, l4] (.ref o :: S) sh mi mj mr := zr_l (zD_of zk_168 d_168_96 rfl rfl) rfl rfl rfl
theorem q_168_96n : zRun 168 96 [some (.null), l1, l2, l3, l4] S sh mi mj mr = zRun 168 97 [some (.null), l1, l2, l3, l4] (.null :: S) sh mi mj mr := zr_l (zD_of zk_168 d_168_96 rfl rfl) rfl rfl rfl
theorem q_168_97 : zRun 168 97 [l0, l1, some (.int x), l3, l4] S sh mi mj mr = zRun 168 98 [l0, l1, some (.int x), l3, l4] (.int x :: S) sh mi mj mr := zr_l (zD_of zk_168 d_168_97 rfl rfl) rfl rfl rfl
theorem q_168_98  : zRun 168 98 L S sh mi mj mr = zRun 168 99 L (.int 0 :: S) sh mi mj mr := zr_p (zD_of zk_168 d_168_98 rfl rfl) rfl
theorem q_168_99  {x0 x1 : Int32} (hS : zcat S ≤ 8) (h : zIs sh o 0 8) : zRun 168 99 L (.int x1 :: .int x0 :: .ref o :: S) sh mi mj mr = (zCall 144 [.ref o, .int x0, .int x1] sh mi mj mr).bind fun r => zRun 168 102 L (r.1.toList ++ S) r.2.1 r.2.2.1 r.2.2.2.1 r.2.2.2.2 := zr_V (zD_of zk_168 d_168_99 rfl rfl) rfl zk_144 rfl rfl rfl hS h
theorem q_168_102  : zRun 168 102 L [] sh mi mj mr = some (none, sh, mi, mj, mr) := zr_ret (zD_of zk_168 d_168_102 rfl rfl) rfl rfl rfl rfl rfl rfl
theorem q_168_103r : zRun 168 103 [some (.ref o), l1, l2, l3, l4] S sh mi mj mr = zRun 168 104 [some (.ref o), l1, l2, l3, l4] (.ref o :: S) sh mi mj mr := zr_l (zD_of zk_168 d_168_103 rfl rfl) rfl rfl rfl
theorem q_168_103n : zRun 168 103 [some (.null), l1, l2, l3, l4] S sh mi mj mr = zRun 168 104 [some (.null), l1, l2, l3, l4] (.null :: S) sh mi mj mr := zr_l (zD_of zk_168 d_168_103 rfl rfl) rfl rfl rfl
theorem q_168_104 : zRun 168 104 [l0, some (.int x), l2, l3, l4] S sh mi mj mr = zRun 168 105 [l0, some (.int x), l2, l3, l4] (.int x :: S) sh mi mj mr := zr_l (zD_of zk_168 d_168_104 rfl rfl) rfl rfl rfl
theorem q_168_105 : zRun 168 105 [l0, l1, some (.int x), l3, l4] S sh mi mj mr = zRun 168 106 [l0, l1, some (.int x), l3, l4] (.int x :: S) sh mi mj mr := zr_l (zD_of zk_168 d_168_105 rfl rfl) rfl rfl rfl
theorem q_168_106 : zRun 168 106 [l0, l1, l2, some (.int x), l4] S sh mi mj mr = zRun 168 107 [l0, l1, l2, some (.int x), l4] (.int x :: S) sh mi mj mr := zr_l (zD_of zk_168 d_168_106 rfl rfl) rfl rfl rfl
theorem q_168_107  {x0 x1 x2 : Int32} (hS : zcat S ≤ 8) (h : zIs sh o 0 8) : zRun 168 107 L (.int x2 :: .int x1 :: .int x0 :: .ref o :: S) sh mi mj mr = (zCall 166 [.ref o, .int x0, .int x1, .int x2] sh mi mj mr).bind fun r => zRun 168 110 L (r.1.toList ++ S) r.2.1 r.2.2.1 r.2.2.2.1 r.2.2.2.2 := zr_V (zD_of zk_168 d_168_107 rfl rfl) rfl zk_166 rfl rfl rfl hS h
theorem q_168_110r : zRun 168 110 [some (.ref o), l1, l2, l3, l4] S sh mi mj mr = zRun 168 111 [some (.ref o), l1, l2, l3, l4] (.ref o :: S) sh mi mj mr := zr_l (zD_of zk_168 d_168_110 rfl rfl) rfl rfl rfl
theorem q_168_110n : zRun 168 110 [some (.null), l1, l2, l3, l4] S sh mi mj mr = zRun 168 111 [some (.null), l1, l2, l3, l4] (.null :: S) sh mi mj mr := zr_l (zD_of zk_168 d_168_110 rfl rfl) rfl rfl rfl
theorem q_168_111 : zRun 168 111 [l0, l1, some (.int x), l3, l4] S sh mi mj mr = zRun 168 112 [l0, l1, some (.int x), l3, l4] (.int x :: S) sh mi mj mr := zr_l (zD_of zk_168 d_168_111 rfl rfl) rfl rfl rfl
theorem q_168_112  {x0 : Int32} (hS : zcat S ≤ 8) (h : zIs sh o 0 8) : zRun 168 112 L (.int x0 :: .ref o :: S) sh mi mj mr = (zCall 141 [.ref o, .int x0] sh mi mj mr).bind fun r => zRun 168 115 L (r.1.toList ++ S) r.2.1 r.2.2.1 r.2.2.2.1 r.2.2.2.2 := zr_V (zD_of zk_168 d_168_112 rfl rfl) rfl zk_141 rfl rfl rfl hS h
theorem q_168_115  : zRun 168 115 L (.int x :: S) sh mi mj mr = if ¬ x = 0 then zRun 168 132 L S sh mi mj mr else zRun 168 118 L S sh mi mj mr := zr_if (off := 17) (P := ¬ x = 0) (zD_of zk_168 d_168_115 rfl rfl) rfl rfl (by decide)
theorem q_168_118r : zRun 168 118 [some (.ref o), l1, l2, l3, l4] S sh mi mj mr = zRun 168 119 [some (.ref o), l1, l2, l3, l4] (.ref o :: S) sh mi mj mr := zr_l (zD_of zk_168 d_168_118 rfl rfl) rfl rfl rfl
theorem q_168_118n : zRun 168 118 [some (.null), l1, l2, l3, l4] S sh mi mj mr = zRun 168 119 [some (.null), l1, l2, l3, l4] (.null :: S) sh mi mj mr := zr_l (zD_of zk_168 d_168_118 rfl rfl) rfl rfl rfl
theorem q_168_119 : zRun 168 119 [l0, l1, some (.int x), l3, l4] S sh mi mj mr = zRun 168 120 [l0, l1, some (.int x), l3, l4] (.int x :: S) sh mi mj mr := zr_l (zD_of zk_168 d_168_119 rfl rfl) rfl rfl rfl
theorem q_168_120  {x0 : Int32} (hS : zcat S ≤ 8) (h : zIs sh o 0 8) : zRun 168 120 L (.int x0 :: .ref o :: S) sh mi mj mr = (zCall 161 [.ref o, .int x0] sh mi mj mr).bind fun r => zRun 168 123 L (r.1.toList ++ S) r.2.1 r.2.2.1 r.2.2.2.1 r.2.2.2.2 := zr_V (zD_of zk_168 d_168_120 rfl rfl) rfl zk_161 rfl rfl rfl hS h
theorem q_168_123  : zRun 168 123 L (.int x :: S) sh mi mj mr = if x = 0 then zRun 168 132 L S sh mi mj mr else zRun 168 126 L S sh mi mj mr := zr_if (off := 9) (P := x = 0) (zD_of zk_168 d_168_123 rfl rfl) rfl rfl (by decide)
theorem q_168_126r : zRun 168 126 [some (.ref o), l1, l2, l3, l4] S sh mi mj mr = zRun 168 127 [some (.ref o), l1, l2, l3, l4] (.ref o :: S) sh mi mj mr := zr_l (zD_of zk_168 d_168_126 rfl rfl) rfl rfl rfl
theorem q_168_126n : zRun 168 126 [some (.null), l1, l2, l3, l4] S sh mi mj mr = zRun 168 127 [some (.null), l1, l2, l3, l4] (.null :: S) sh mi mj mr := zr_l (zD_of zk_168 d_168_126 rfl rfl) rfl rfl rfl
theorem q_168_127 : zRun 168 127 [l0, l1, some (.int x), l3, l4] S sh mi mj mr = zRun 168 128 [l0, l1, some (.int x), l3, l4] (.int x :: S) sh mi mj mr := zr_l (zD_of zk_168 d_168_127 rfl rfl) rfl rfl rfl
theorem q_168_128  : zRun 168 128 L S sh mi mj mr = zRun 168 129 L (.int 3 :: S) sh mi mj mr := zr_p (zD_of zk_168 d_168_128 rfl rfl) rfl
theorem q_168_129  {x0 x1 : Int32} (hS : zcat S ≤ 8) (h : zIs sh o 0 8) : zRun 168 129 L (.int x1 :: .int x0 :: .ref o :: S) sh mi mj mr = (zCall 144 [.ref o, .int x0, .int x1] sh mi mj mr).bind fun r => zRun 168 132 L (r.1.toList ++ S) r.2.1 r.2.2.1 r.2.2.2.1 r.2.2.2.2 := zr_V (zD_of zk_168 d_168_129 rfl rfl) rfl zk_144 rfl rfl rfl hS h
theorem q_168_132r : zRun 168 132 [some (.ref o), l1, l2, l3, l4] S sh mi mj mr = zRun 168 133 [some (.ref o), l1, l2, l3, l4] (.ref o :: S) sh mi mj mr := zr_l (zD_of zk_168 d_168_132 rfl rfl) rfl rfl rfl
theorem q_168_132n : zRun 168 132 [some (.null), l1, l2, l3, l4] S sh mi mj mr = zRun 168 133 [some (.null), l1, l2, l3, l4] (.null :: S) sh mi mj mr := zr_l (zD_of zk_168 d_168_132 rfl rfl) rfl rfl rfl
theorem q_168_133 : zRun 168 133 [l0, l1, some (.int x), l3, l4] S sh mi mj mr = zRun 168 134 [l0, l1, some (.int x), l3, l4] (.int x :: S) sh mi mj mr := zr_l (zD_of zk_168 d_168_133 rfl rfl) rfl rfl rfl
theorem q_168_134  {x0 : Int32} (hS : zcat S ≤ 8) (h : zIs sh o 0 8) : zRun 168 134 L (.int x0 :: .ref o :: S) sh mi mj mr = (zCall 141 [.ref o, .int x0] sh mi mj mr).bind fun r => zRun 168 137 L (r.1.toList ++ S) r.2.1 r.2.2.1 r.2.2.2.1 r.2.2.2.2 := zr_V (zD_of zk_168 d_168_134 rfl rfl) rfl zk_141 rfl rfl rfl hS h
theorem q_168_137  : zRun 168 137 L (.int x :: S) sh mi mj mr = if ¬ x = 0 then zRun 168 150 L S sh mi mj mr else zRun 168 140 L S sh mi mj mr := zr_if (off := 13) (P := ¬ x = 0) (zD_of zk_168 d_168_137 rfl rfl) rfl rfl (by decide)
theorem q_168_140 : zRun 168 140 [l0, some (.int x), l2, l3, l4] S sh mi mj mr = zRun 168 141 [l0, some (.int x), l2, l3, l4] (.int x :: S) sh mi mj mr := zr_l (zD_of zk_168 d_168_140 rfl rfl) rfl rfl rfl
theorem q_168_141  : zRun 168 141 L S sh mi mj mr = zRun 168 143 L (.int 9 :: S) sh mi mj mr := zr_p (zD_of zk_168 d_168_141 rfl rfl) rfl
theorem q_168_143  : zRun 168 143 L (.int y :: .int x :: S) sh mi mj mr = if x < y then zRun 168 150 L S sh mi mj mr else zRun 168 146 L S sh mi mj mr := zr_if (off := 7) (P := x < y) (zD_of zk_168 d_168_143 rfl rfl) rfl rfl (by decide)
theorem q_168_146r : zRun 168 146 [some (.ref o), l1, l2, l3, l4] S sh mi mj mr = zRun 168 147 [some (.ref o), l1, l2, l3, l4] (.ref o :: S) sh mi mj mr := zr_l (zD_of zk_168 d_168_146 rfl rfl) rfl rfl rfl
theorem q_168_146n : zRun 168 146 [some (.null), l1, l2, l3, l4] S sh mi mj mr = zRun 168 147 [some (.null), l1, l2, l3, l4] (.null :: S) sh mi mj mr := zr_l (zD_of zk_168 d_168_146 rfl rfl) rfl rfl rfl
theorem q_168_147  (hS : zcat S ≤ 8) (h : zIs sh o 0 8) : zRun 168 147 L (.ref o :: S) sh mi mj mr = (zCall 159 [.ref o] sh mi mj mr).bind fun r => zRun 168 150 L (r.1.toList ++ S) r.2.1 r.2.2.1 r.2.2.2.1 r.2.2.2.2 := zr_V (zD_of zk_168 d_168_147 rfl rfl) rfl zk_159 rfl rfl rfl hS h
theorem q_168_150  : zRun 168 150 L [] sh mi mj mr = some (none, sh, mi, mj, mr) := zr_ret (zD_of zk_168 d_168_150 rfl rfl) rfl rfl rfl rfl rfl rfl
theorem e_168 {x0 : Int32} : zCall 168 [.ref o, .int x0] sh mi mj mr = zRun 168 0 [some (.ref o), some (.int x0), none, none, none] [] sh mi mj mr := rfl
theorem d_169_0 : decode cX8_run 0 = .ok (.aload_n 0, 1) := by decide +kernel
theorem d_169_1 : decode cX8_run 1 = .ok (.iconst 0, 1) := by decide +kernel
theorem d_169_2 : decode cX8_run 2 = .ok (.putfield 213, 3) := by decide +kernel
theorem d_169_5 : decode cX8_run 5 = .ok (.aload_n 0, 1) := by decide +kernel
theorem d_169_6 : decode cX8_run 6 = .ok (.iconst 0, 1) := by decide +kernel
theorem d_169_7 : decode cX8_run 7 = .ok (.putfield 160, 3) := by decide +kernel
theorem d_169_10 : decode cX8_run 10 = .ok (.iconst 0, 1) := by decide +kernel
theorem d_169_11 : decode cX8_run 11 = .ok (.istore_n 1, 1) := by decide +kernel
theorem d_169_12 : decode cX8_run 12 = .ok (.iload_n 1, 1) := by decide +kernel
theorem d_169_13 : decode cX8_run 13 = .ok (.aload_n 0, 1) := by decide +kernel
theorem d_169_14 : decode cX8_run 14 = .ok (.getfield 224, 3) := by decide +kernel
theorem d_169_17 : decode cX8_run 17 = .ok (.if_icmp .ge 119, 3) := by decide +kernel
theorem d_169_20 : decode cX8_run 20 = .ok (.aload_n 0, 1) := by decide +kernel
theorem d_169_21 : decode cX8_run 21 = .ok (.getfield 33, 3) := by decide +kernel
theorem d_169_24 : decode cX8_run 24 = .ok (.iload_n 1, 1) := by decide +kernel
theorem d_169_25 : decode cX8_run 25 = .ok (.iaload, 1) := by decide +kernel
theorem d_169_26 : decode cX8_run 26 = .ok (.istore_n 2, 1) := by decide +kernel
theorem d_169_27 : decode cX8_run 27 = .ok (.iload_n 2, 1) := by decide +kernel
theorem d_169_28 : decode cX8_run 28 = .ok (.ifCond .ne 16, 3) := by decide +kernel
theorem d_169_31 : decode cX8_run 31 = .ok (.aload_n 0, 1) := by decide +kernel
theorem d_169_32 : decode cX8_run 32 = .ok (.aload_n 0, 1) := by decide +kernel
theorem d_169_33 : decode cX8_run 33 = .ok (.getfield 36, 3) := by decide +kernel
theorem d_169_36 : decode cX8_run 36 = .ok (.iload_n 1, 1) := by decide +kernel
theorem d_169_37 : decode cX8_run 37 = .ok (.iaload, 1) := by decide +kernel
theorem d_169_38 : decode cX8_run 38 = .ok (.invokevirtual 264, 3) := by decide +kernel
theorem d_169_41 : decode cX8_run 41 = .ok (.goto 23, 3) := by decide +kernel
theorem d_169_44 : decode cX8_run 44 = .ok (.iload_n 2, 1) := by decide +kernel
theorem d_169_45 : decode cX8_run 45 = .ok (.iconst 5, 1) := by decide +kernel
theorem d_169_46 : decode cX8_run 46 = .ok (.if_icmp .ge 13, 3) := by decide +kernel
theorem d_169_49 : decode cX8_run 49 = .ok (.aload_n 0, 1) := by decide +kernel
theorem d_169_50 : decode cX8_run 50 = .ok (.iload_n 2, 1) := by decide +kernel
theorem d_169_51 : decode cX8_run 51 = .ok (.iconst 1, 1) := by decide +kernel
theorem d_169_52 : decode cX8_run 52 = .ok (.isub, 1) := by decide +kernel
theorem d_169_53 : decode cX8_run 53 = .ok (.invokevirtual 267, 3) := by decide +kernel
theorem d_169_56 : decode cX8_run 56 = .ok (.goto 8, 3) := by decide +kernel
theorem d_169_59 : decode cX8_run 59 = .ok (.aload_n 0, 1) := by decide +kernel
theorem d_169_60 : decode cX8_run 60 = .ok (.iload_n 2, 1) := by decide +kernel
theorem d_169_61 : decode cX8_run 61 = .ok (.invokevirtual 270, 3) := by decide +kernel
theorem d_169_64 : decode cX8_run 64 = .ok (.aload_n 0, 1) := by decide +kernel
theorem d_169_65 : decode cX8_run 65 = .ok (.getfield 213, 3) := by decide +kernel
theorem d_169_68 : decode cX8_run 68 = .ok (.iconst 1, 1) := by decide +kernel
theorem d_169_69 : decode cX8_run 69 = .ok (.isub, 1) := by decide +kernel
theorem d_169_70 : decode cX8_run 70 = .ok (.istore_n 3, 1) := by decide +kernel
theorem d_169_71 : decode cX8_run 71 = .ok (.aload_n 0, 1) := by decide +kernel
theorem d_169_72 : decode cX8_run 72 = .ok (.getfield 51, 3) := by decide +kernel
theorem d_169_75 : decode cX8_run 75 = .ok (.iload_n 1, 1) := by decide +kernel
theorem d_169_76 : decode cX8_run 76 = .ok (.aload_n 0, 1) := by decide +kernel
theorem d_169_77 : decode cX8_run 77 = .ok (.iload_n 3, 1) := by decide +kernel
theorem d_169_78 : decode cX8_run 78 = .ok (.invokevirtual 251, 3) := by decide +kernel
theorem d_169_81 : decode cX8_run 81 = .ok (.bastore, 1) := by decide +kernel
theorem d_169_82 : decode cX8_run 82 = .ok (.aload_n 0, 1) := by decide +kernel
theorem d_169_83 : decode cX8_run 83 = .ok (.getfield 45, 3) := by decide +kernel
theorem d_169_86 : decode cX8_run 86 = .ok (.iload_n 1, 1) := by decide +kernel
theorem d_169_87 : decode cX8_run 87 = .ok (.aload_n 0, 1) := by decide +kernel
theorem d_169_88 : decode cX8_run 88 = .ok (.getfield 51, 3) := by decide +kernel
theorem d_169_91 : decode cX8_run 91 = .ok (.iload_n 1, 1) := by decide +kernel
theorem d_169_92 : decode cX8_run 92 = .ok (.baload, 1) := by decide +kernel
theorem d_169_93 : decode cX8_run 93 = .ok (.ifCond .eq 7, 3) := by decide +kernel
theorem d_169_96 : decode cX8_run 96 = .ok (.lconst 0, 1) := by decide +kernel
theorem d_169_97 : decode cX8_run 97 = .ok (.goto 8, 3) := by decide +kernel
theorem d_169_100 : decode cX8_run 100 = .ok (.aload_n 0, 1) := by decide +kernel
theorem d_169_101 : decode cX8_run 101 = .ok (.iload_n 3, 1) := by decide +kernel
theorem d_169_102 : decode cX8_run 102 = .ok (.invokevirtual 189, 3) := by decide +kernel
theorem d_169_105 : decode cX8_run 105 = .ok (.lastore, 1) := by decide +kernel
theorem d_169_106 : decode cX8_run 106 = .ok (.aload_n 0, 1) := by decide +kernel
theorem d_169_107 : decode cX8_run 107 = .ok (.getfield 48, 3) := by decide +kernel
theorem d_169_110 : decode cX8_run 110 = .ok (.iload_n 1, 1) := by decide +kernel
theorem d_169_111 : decode cX8_run 111 = .ok (.aload_n 0, 1) := by decide +kernel
theorem d_169_112 : decode cX8_run 112 = .ok (.getfield 51, 3) := by decide +kernel
theorem d_169_115 : decode cX8_run 115 = .ok (.iload_n 1, 1) := by decide +kernel
theorem d_169_116 : decode cX8_run 116 = .ok (.baload, 1) := by decide +kernel
theorem d_169_117 : decode cX8_run 117 = .ok (.ifCond .eq 7, 3) := by decide +kernel
theorem d_169_120 : decode cX8_run 120 = .ok (.lconst 0, 1) := by decide +kernel
theorem d_169_121 : decode cX8_run 121 = .ok (.goto 8, 3) := by decide +kernel
theorem d_169_124 : decode cX8_run 124 = .ok (.aload_n 0, 1) := by decide +kernel
theorem d_169_125 : decode cX8_run 125 = .ok (.iload_n 3, 1) := by decide +kernel
theorem d_169_126 : decode cX8_run 126 = .ok (.invokevirtual 192, 3) := by decide +kernel
theorem d_169_129 : decode cX8_run 129 = .ok (.lastore, 1) := by decide +kernel
theorem d_169_130 : decode cX8_run 130 = .ok (.iinc 1 1, 3) := by decide +kernel
theorem d_169_133 : decode cX8_run 133 = .ok (.goto (-121), 3) := by decide +kernel
theorem d_169_136 : decode cX8_run 136 = .ok (.return_, 1) := by decide +kernel
theorem q_169_0r : zRun 169 0 [some (.ref o), l1, l2, l3] S sh mi mj mr = zRun 169 1 [some (.ref o), l1, l2, l3] (.ref o :: S) sh mi mj mr := zr_l (zD_of zk_169 d_169_0 rfl rfl) rfl rfl rfl
theorem q_169_0n : zRun 169 0 [some (.null), l1, l2, l3] S sh mi mj mr = zRun 169 1 [some (.null), l1, l2, l3] (.null :: S) sh mi mj mr := zr_l (zD_of zk_169 d_169_0 rfl rfl) rfl rfl rfl
theorem q_169_1  : zRun 169 1 L S sh mi mj mr = zRun 169 2 L (.int 0 :: S) sh mi mj mr := zr_p (zD_of zk_169 d_169_1 rfl rfl) rfl
theorem q_169_2 (h : zIs sh o 0 8) : zRun 169 2 L (.int x :: .ref o :: S) sh mi mj mr = zRun 169 5 L S sh (zup mi o 11 x) mj mr := zr_putI (zD_of zk_169 d_169_2 rfl rfl) rfl rfl rfl (Or.inl rfl) h
theorem q_169_5r : zRun 169 5 [some (.ref o), l1, l2, l3] S sh mi mj mr = zRun 169 6 [some (.ref o), l1, l2, l3] (.ref o :: S) sh mi mj mr := zr_l (zD_of zk_169 d_169_5 rfl rfl) rfl rfl rfl
theorem q_169_5n : zRun 169 5 [some (.null), l1, l2, l3] S sh mi mj mr = zRun 169 6 [some (.null), l1, l2, l3] (.null :: S) sh mi mj mr := zr_l (zD_of zk_169 d_169_5 rfl rfl) rfl rfl rfl
theorem q_169_6  : zRun 169 6 L S sh mi mj mr = zRun 169 7 L (.int 0 :: S) sh mi mj mr := zr_p (zD_of zk_169 d_169_6 rfl rfl) rfl
theorem q_169_7 (h : zIs sh o 0 8) : zRun 169 7 L (.int x :: .ref o :: S) sh mi mj mr = zRun 169 10 L S sh (zup mi o 12 x) mj mr := zr_putI (zD_of zk_169 d_169_7 rfl rfl) rfl rfl rfl (Or.inl rfl) h
theorem q_169_10  : zRun 169 10 L S sh mi mj mr = zRun 169 11 L (.int 0 :: S) sh mi mj mr := zr_p (zD_of zk_169 d_169_10 rfl rfl) rfl
theorem q_169_11 : zRun 169 11 [l0, l1, l2, l3] (.int x :: S) sh mi mj mr = zRun 169 12 [zk2 l0, some (.int x), l2, l3] S sh mi mj mr := zr_s1 (i := 1) (v := .int x) (L := [l0, l1, l2, l3]) (zD_of zk_169 d_169_11 rfl rfl) rfl rfl rfl rfl
theorem q_169_12 : zRun 169 12 [l0, some (.int x), l2, l3] S sh mi mj mr = zRun 169 13 [l0, some (.int x), l2, l3] (.int x :: S) sh mi mj mr := zr_l (zD_of zk_169 d_169_12 rfl rfl) rfl rfl rfl
theorem q_169_13r : zRun 169 13 [some (.ref o), l1, l2, l3] S sh mi mj mr = zRun 169 14 [some (.ref o), l1, l2, l3] (.ref o :: S) sh mi mj mr := zr_l (zD_of zk_169 d_169_13 rfl rfl) rfl rfl rfl
theorem q_169_13n : zRun 169 13 [some (.null), l1, l2, l3] S sh mi mj mr = zRun 169 14 [some (.null), l1, l2, l3] (.null :: S) sh mi mj mr := zr_l (zD_of zk_169 d_169_13 rfl rfl) rfl rfl rfl
theorem q_169_14 (h : zIs sh o 0 8) : zRun 169 14 L (.ref o :: S) sh mi mj mr = zRun 169 17 L (.int (mi o 15) :: S) sh mi mj mr := zr_getI (zD_of zk_169 d_169_14 rfl rfl) rfl rfl (Or.inl rfl) h
theorem q_169_17  : zRun 169 17 L (.int y :: .int x :: S) sh mi mj mr = if y ≤ x then zRun 169 136 L S sh mi mj mr else zRun 169 20 L S sh mi mj mr := zr_if (off := 119) (P := y ≤ x) (zD_of zk_169 d_169_17 rfl rfl) rfl rfl (by decide)
theorem q_169_20r : zRun 169 20 [some (.ref o), l1, l2, l3] S sh mi mj mr = zRun 169 21 [some (.ref o), l1, l2, l3] (.ref o :: S) sh mi mj mr := zr_l (zD_of zk_169 d_169_20 rfl rfl) rfl rfl rfl
theorem q_169_20n : zRun 169 20 [some (.null), l1, l2, l3] S sh mi mj mr = zRun 169 21 [some (.null), l1, l2, l3] (.null :: S) sh mi mj mr := zr_l (zD_of zk_169 d_169_20 rfl rfl) rfl rfl rfl
theorem q_169_21 (h : zIs sh o 0 8) : zRun 169 21 L (.ref o :: S) sh mi mj mr = zRun 169 24 L (va_rf (mr o 13) :: S) sh mi mj mr := zr_getR (zD_of zk_169 d_169_21 rfl rfl) rfl rfl rfl h
theorem q_169_24 : zRun 169 24 [l0, some (.int x), l2, l3] S sh mi mj mr = zRun 169 25 [l0, some (.int x), l2, l3] (.int x :: S) sh mi mj mr := zr_l (zD_of zk_169 d_169_24 rfl rfl) rfl rfl rfl
theorem q_169_25 (h : zAt sh o 1 x) : zRun 169 25 L (.int x :: .ref o :: S) sh mi mj mr = zRun 169 26 L (.int (mi o x.toNatClampNeg) :: S) sh mi mj mr := zr_iald (zD_of zk_169 d_169_25 rfl rfl) h
theorem q_169_26 : zRun 169 26 [l0, l1, l2, l3] (.int x :: S) sh mi mj mr = zRun 169 27 [l0, zk2 l1, some (.int x), l3] S sh mi mj mr := zr_s1 (i := 2) (v := .int x) (L := [l0, l1, l2, l3]) (zD_of zk_169 d_169_26 rfl rfl) rfl rfl rfl rfl
theorem q_169_27 : zRun 169 27 [l0, l1, some (.int x), l3] S sh mi mj mr = zRun 169 28 [l0, l1, some (.int x), l3] (.int x :: S) sh mi mj mr := zr_l (zD_of zk_169 d_169_27 rfl rfl) rfl rfl rfl
theorem q_169_28  : zRun 169 28 L (.int x :: S) sh mi mj mr = if ¬ x = 0 then zRun 169 44 L S sh mi mj mr else zRun 169 31 L S sh mi mj mr := zr_if (off := 16) (P := ¬ x = 0) (zD_of zk_169 d_169_28 rfl rfl) rfl rfl (by decide)
theorem q_169_31r : zRun 169 31 [some (.ref o), l1, l2, l3] S sh mi mj mr = zRun 169 32 [some (.ref o), l1, l2, l3] (.ref o :: S) sh mi mj mr := zr_l (zD_of zk_169 d_169_31 rfl rfl) rfl rfl rfl
theorem q_169_31n : zRun 169 31 [some (.null), l1, l2, l3] S sh mi mj mr = zRun 169 32 [some (.null), l1, l2, l3] (.null :: S) sh mi mj mr := zr_l (zD_of zk_169 d_169_31 rfl rfl) rfl rfl rfl
theorem q_169_32r : zRun 169 32 [some (.ref o), l1, l2, l3] S sh mi mj mr = zRun 169 33 [some (.ref o), l1, l2, l3] (.ref o :: S) sh mi mj mr := zr_l (zD_of zk_169 d_169_32 rfl rfl) rfl rfl rfl
theorem q_169_32n : zRun 169 32 [some (.null), l1, l2, l3] S sh mi mj mr = zRun 169 33 [some (.null), l1, l2, l3] (.null :: S) sh mi mj mr := zr_l (zD_of zk_169 d_169_32 rfl rfl) rfl rfl rfl
theorem q_169_33 (h : zIs sh o 0 8) : zRun 169 33 L (.ref o :: S) sh mi mj mr = zRun 169 36 L (va_rf (mr o 14) :: S) sh mi mj mr := zr_getR (zD_of zk_169 d_169_33 rfl rfl) rfl rfl rfl h
theorem q_169_36 : zRun 169 36 [l0, some (.int x), l2, l3] S sh mi mj mr = zRun 169 37 [l0, some (.int x), l2, l3] (.int x :: S) sh mi mj mr := zr_l (zD_of zk_169 d_169_36 rfl rfl) rfl rfl rfl
theorem q_169_37 (h : zAt sh o 1 x) : zRun 169 37 L (.int x :: .ref o :: S) sh mi mj mr = zRun 169 38 L (.int (mi o x.toNatClampNeg) :: S) sh mi mj mr := zr_iald (zD_of zk_169 d_169_37 rfl rfl) h
theorem q_169_38  {x0 : Int32} (hS : zcat S ≤ 8) (h : zIs sh o 0 8) : zRun 169 38 L (.int x0 :: .ref o :: S) sh mi mj mr = (zCall 165 [.ref o, .int x0] sh mi mj mr).bind fun r => zRun 169 41 L (r.1.toList ++ S) r.2.1 r.2.2.1 r.2.2.2.1 r.2.2.2.2 := zr_V (zD_of zk_169 d_169_38 rfl rfl) rfl zk_165 rfl rfl rfl hS h
theorem q_169_41  : zRun 169 41 L S sh mi mj mr = zRun 169 64 L S sh mi mj mr := zr_go (off := 23) (zD_of zk_169 d_169_41 rfl rfl) rfl rfl (by decide)
theorem q_169_44 : zRun 169 44 [l0, l1, some (.int x), l3] S sh mi mj mr = zRun 169 45 [l0, l1, some (.int x), l3] (.int x :: S) sh mi mj mr := zr_l (zD_of zk_169 d_169_44 rfl rfl) rfl rfl rfl
theorem q_169_45  : zRun 169 45 L S sh mi mj mr = zRun 169 46 L (.int 5 :: S) sh mi mj mr := zr_p (zD_of zk_169 d_169_45 rfl rfl) rfl
theorem q_169_46  : zRun 169 46 L (.int y :: .int x :: S) sh mi mj mr = if y ≤ x then zRun 169 59 L S sh mi mj mr else zRun 169 49 L S sh mi mj mr := zr_if (off := 13) (P := y ≤ x) (zD_of zk_169 d_169_46 rfl rfl) rfl rfl (by decide)
theorem q_169_49r : zRun 169 49 [some (.ref o), l1, l2, l3] S sh mi mj mr = zRun 169 50 [some (.ref o), l1, l2, l3] (.ref o :: S) sh mi mj mr := zr_l (zD_of zk_169 d_169_49 rfl rfl) rfl rfl rfl
theorem q_169_49n : zRun 169 49 [some (.null), l1, l2, l3] S sh mi mj mr = zRun 169 50 [some (.null), l1, l2, l3] (.null :: S) sh mi mj mr := zr_l (zD_of zk_169 d_169_49 rfl rfl) rfl rfl rfl
theorem q_169_50 : zRun 169 50 [l0, l1, some (.int x), l3] S sh mi mj mr = zRun 169 51 [l0, l1, some (.int x), l3] (.int x :: S) sh mi mj mr := zr_l (zD_of zk_169 d_169_50 rfl rfl) rfl rfl rfl
theorem q_169_51  : zRun 169 51 L S sh mi mj mr = zRun 169 52 L (.int 1 :: S) sh mi mj mr := zr_p (zD_of zk_169 d_169_51 rfl rfl) rfl
theorem q_169_52  : zRun 169 52 L (.int y :: .int x :: S) sh mi mj mr = zRun 169 53 L (.int (x - y) :: S) sh mi mj mr := zr_p (zD_of zk_169 d_169_52 rfl rfl) rfl
theorem q_169_53  {x0 : Int32} (hS : zcat S ≤ 8) (h : zIs sh o 0 8) : zRun 169 53 L (.int x0 :: .ref o :: S) sh mi mj mr = (zCall 164 [.ref o, .int x0] sh mi mj mr).bind fun r => zRun 169 56 L (r.1.toList ++ S) r.2.1 r.2.2.1 r.2.2.2.1 r.2.2.2.2 := zr_V (zD_of zk_169 d_169_53 rfl rfl) rfl zk_164 rfl rfl rfl hS h
theorem q_169_56  : zRun 169 56 L S sh mi mj mr = zRun 169 64 L S sh mi mj mr := zr_go (off := 8) (zD_of zk_169 d_169_56 rfl rfl) rfl rfl (by decide)
theorem q_169_59r : zRun 169 59 [some (.ref o), l1, l2, l3] S sh mi mj mr = zRun 169 60 [some (.ref o), l1, l2, l3] (.ref o :: S) sh mi mj mr := zr_l (zD_of zk_169 d_169_59 rfl rfl) rfl rfl rfl
theorem q_169_59n : zRun 169 59 [some (.null), l1, l2, l3] S sh mi mj mr = zRun 169 60 [some (.null), l1, l2, l3] (.null :: S) sh mi mj mr := zr_l (zD_of zk_169 d_169_59 rfl rfl) rfl rfl rfl
theorem q_169_60 : zRun 169 60 [l0, l1, some (.int x), l3] S sh mi mj mr = zRun 169 61 [l0, l1, some (.int x), l3] (.int x :: S) sh mi mj mr := zr_l (zD_of zk_169 d_169_60 rfl rfl) rfl rfl rfl
theorem q_169_61  {x0 : Int32} (hS : zcat S ≤ 8) (h : zIs sh o 0 8) : zRun 169 61 L (.int x0 :: .ref o :: S) sh mi mj mr = (zCall 168 [.ref o, .int x0] sh mi mj mr).bind fun r => zRun 169 64 L (r.1.toList ++ S) r.2.1 r.2.2.1 r.2.2.2.1 r.2.2.2.2 := zr_V (zD_of zk_169 d_169_61 rfl rfl) rfl zk_168 rfl rfl rfl hS h
theorem q_169_64r : zRun 169 64 [some (.ref o), l1, l2, l3] S sh mi mj mr = zRun 169 65 [some (.ref o), l1, l2, l3] (.ref o :: S) sh mi mj mr := zr_l (zD_of zk_169 d_169_64 rfl rfl) rfl rfl rfl
theorem q_169_64n : zRun 169 64 [some (.null), l1, l2, l3] S sh mi mj mr = zRun 169 65 [some (.null), l1, l2, l3] (.null :: S) sh mi mj mr := zr_l (zD_of zk_169 d_169_64 rfl rfl) rfl rfl rfl
theorem q_169_65 (h : zIs sh o 0 8) : zRun 169 65 L (.ref o :: S) sh mi mj mr = zRun 169 68 L (.int (mi o 11) :: S) sh mi mj mr := zr_getI (zD_of zk_169 d_169_65 rfl rfl) rfl rfl (Or.inl rfl) h
theorem q_169_68  : zRun 169 68 L S sh mi mj mr = zRun 169 69 L (.int 1 :: S) sh mi mj mr := zr_p (zD_of zk_169 d_169_68 rfl rfl) rfl
theorem q_169_69  : zRun 169 69 L (.int y :: .int x :: S) sh mi mj mr = zRun 169 70 L (.int (x - y) :: S) sh mi mj mr := zr_p (zD_of zk_169 d_169_69 rfl rfl) rfl
theorem q_169_70 : zRun 169 70 [l0, l1, l2, l3] (.int x :: S) sh mi mj mr = zRun 169 71 [l0, l1, zk2 l2, some (.int x)] S sh mi mj mr := zr_s1 (i := 3) (v := .int x) (L := [l0, l1, l2, l3]) (zD_of zk_169 d_169_70 rfl rfl) rfl rfl rfl rfl
theorem q_169_71r : zRun 169 71 [some (.ref o), l1, l2, l3] S sh mi mj mr = zRun 169 72 [some (.ref o), l1, l2, l3] (.ref o :: S) sh mi mj mr := zr_l (zD_of zk_169 d_169_71 rfl rfl) rfl rfl rfl
theorem q_169_71n : zRun 169 71 [some (.null), l1, l2, l3] S sh mi mj mr = zRun 169 72 [some (.null), l1, l2, l3] (.null :: S) sh mi mj mr := zr_l (zD_of zk_169 d_169_71 rfl rfl) rfl rfl rfl
theorem q_169_72 (h : zIs sh o 0 8) : zRun 169 72 L (.ref o :: S) sh mi mj mr = zRun 169 75 L (va_rf (mr o 20) :: S) sh mi mj mr := zr_getR (zD_of zk_169 d_169_72 rfl rfl) rfl rfl rfl h
theorem q_169_75 : zRun 169 75 [l0, some (.int x), l2, l3] S sh mi mj mr = zRun 169 76 [l0, some (.int x), l2, l3] (.int x :: S) sh mi mj mr := zr_l (zD_of zk_169 d_169_75 rfl rfl) rfl rfl rfl
theorem q_169_76r : zRun 169 76 [some (.ref o), l1, l2, l3] S sh mi mj mr = zRun 169 77 [some (.ref o), l1, l2, l3] (.ref o :: S) sh mi mj mr := zr_l (zD_of zk_169 d_169_76 rfl rfl) rfl rfl rfl
theorem q_169_76n : zRun 169 76 [some (.null), l1, l2, l3] S sh mi mj mr = zRun 169 77 [some (.null), l1, l2, l3] (.null :: S) sh mi mj mr := zr_l (zD_of zk_169 d_169_76 rfl rfl) rfl rfl rfl
theorem q_169_77 : zRun 169 77 [l0, l1, l2, some (.int x)] S sh mi mj mr = zRun 169 78 [l0, l1, l2, some (.int x)] (.int x :: S) sh mi mj mr := zr_l (zD_of zk_169 d_169_77 rfl rfl) rfl rfl rfl
theorem q_169_78  {x0 : Int32} (hS : zcat S ≤ 8) (h : zIs sh o 0 8) : zRun 169 78 L (.int x0 :: .ref o :: S) sh mi mj mr = (zCall 141 [.ref o, .int x0] sh mi mj mr).bind fun r => zRun 169 81 L (r.1.toList ++ S) r.2.1 r.2.2.1 r.2.2.2.1 r.2.2.2.2 := zr_V (zD_of zk_169 d_169_78 rfl rfl) rfl zk_141 rfl rfl rfl hS h
theorem q_169_81 (h : zAt sh o 4 x) : zRun 169 81 L (.int y :: .int x :: .ref o :: S) sh mi mj mr = zRun 169 82 L S sh (zup mi o x.toNatClampNeg (vp_nar .boolean y)) mj mr := zr_bast (zD_of zk_169 d_169_81 rfl rfl) h
theorem q_169_82r : zRun 169 82 [some (.ref o), l1, l2, l3] S sh mi mj mr = zRun 169 83 [some (.ref o), l1, l2, l3] (.ref o :: S) sh mi mj mr := zr_l (zD_of zk_169 d_169_82 rfl rfl) rfl rfl rfl
theorem q_169_82n : zRun 169 82 [some (.null), l1, l2, l3] S sh mi mj mr = zRun 169 83 [some (.null), l1, l2, l3] (.null :: S) sh mi mj mr := zr_l (zD_of zk_169 d_169_82 rfl rfl) rfl rfl rfl
theorem q_169_83 (h : zIs sh o 0 8) : zRun 169 83 L (.ref o :: S) sh mi mj mr = zRun 169 86 L (va_rf (mr o 18) :: S) sh mi mj mr := zr_getR (zD_of zk_169 d_169_83 rfl rfl) rfl rfl rfl h
theorem q_169_86 : zRun 169 86 [l0, some (.int x), l2, l3] S sh mi mj mr = zRun 169 87 [l0, some (.int x), l2, l3] (.int x :: S) sh mi mj mr := zr_l (zD_of zk_169 d_169_86 rfl rfl) rfl rfl rfl
theorem q_169_87r : zRun 169 87 [some (.ref o), l1, l2, l3] S sh mi mj mr = zRun 169 88 [some (.ref o), l1, l2, l3] (.ref o :: S) sh mi mj mr := zr_l (zD_of zk_169 d_169_87 rfl rfl) rfl rfl rfl
theorem q_169_87n : zRun 169 87 [some (.null), l1, l2, l3] S sh mi mj mr = zRun 169 88 [some (.null), l1, l2, l3] (.null :: S) sh mi mj mr := zr_l (zD_of zk_169 d_169_87 rfl rfl) rfl rfl rfl
theorem q_169_88 (h : zIs sh o 0 8) : zRun 169 88 L (.ref o :: S) sh mi mj mr = zRun 169 91 L (va_rf (mr o 20) :: S) sh mi mj mr := zr_getR (zD_of zk_169 d_169_88 rfl rfl) rfl rfl rfl h
theorem q_169_91 : zRun 169 91 [l0, some (.int x), l2, l3] S sh mi mj mr = zRun 169 92 [l0, some (.int x), l2, l3] (.int x :: S) sh mi mj mr := zr_l (zD_of zk_169 d_169_91 rfl rfl) rfl rfl rfl
theorem q_169_92 (h : zAt sh o 4 x) : zRun 169 92 L (.int x :: .ref o :: S) sh mi mj mr = zRun 169 93 L (.int (mi o x.toNatClampNeg) :: S) sh mi mj mr := zr_bald (zD_of zk_169 d_169_92 rfl rfl) h
theorem q_169_93  : zRun 169 93 L (.int x :: S) sh mi mj mr = if x = 0 then zRun 169 100 L S sh mi mj mr else zRun 169 96 L S sh mi mj mr := zr_if (off := 7) (P := x = 0) (zD_of zk_169 d_169_93 rfl rfl) rfl rfl (by decide)
theorem q_169_96  : zRun 169 96 L S sh mi mj mr = zRun 169 97 L (.long 0 :: S) sh mi mj mr := zr_p (zD_of zk_169 d_169_96 rfl rfl) rfl
theorem q_169_97  : zRun 169 97 L S sh mi mj mr = zRun 169 105 L S sh mi mj mr := zr_go (off := 8) (zD_of zk_169 d_169_97 rfl rfl) rfl rfl (by decide)
theorem q_169_100r : zRun 169 100 [some (.ref o), l1, l2, l3] S sh mi mj mr = zRun 169 101 [some (.ref o), l1, l2, l3] (.ref o :: S) sh mi mj mr := zr_l (zD_of zk_169 d_169_100 rfl rfl) rfl rfl rfl
theorem q_169_100n : zRun 169 100 [some (.null), l1, l2, l3] S sh mi mj mr = zRun 169 101 [some (.null), l1, l2, l3] (.null :: S) sh mi mj mr := zr_l (zD_of zk_169 d_169_100 rfl rfl) rfl rfl rfl
theorem q_169_101 : zRun 169 101 [l0, l1, l2, some (.int x)] S sh mi mj mr = zRun 169 102 [l0, l1, l2, some (.int x)] (.int x :: S) sh mi mj mr := zr_l (zD_of zk_169 d_169_101 rfl rfl) rfl rfl rfl
theorem q_169_102  {x0 : Int32} (hS : zcat S ≤ 8) (h : zIs sh o 0 8) : zRun 169 102 L (.int x0 :: .ref o :: S) sh mi mj mr = (zCall 139 [.ref o, .int x0] sh mi mj mr).bind fun r => zRun 169 105 L (r.1.toList ++ S) r.2.1 r.2.2.1 r.2.2.2.1 r.2.2.2.2 := zr_V (zD_of zk_169 d_169_102 rfl rfl) rfl zk_139 rfl rfl rfl hS h
theorem q_169_105 (h : zAt sh o 2 x) : zRun 169 105 L (.long u :: .int x :: .ref o :: S) sh mi mj mr = zRun 169 106 L S sh mi (zup mj o x.toNatClampNeg u) mr := zr_last (zD_of zk_169 d_169_105 rfl rfl) h
theorem q_169_106r : zRun 169 106 [some (.ref o), l1, l2, l3] S sh mi mj mr = zRun 169 107 [some (.ref o), l1, l2, l3] (.ref o :: S) sh mi mj mr := zr_l (zD_of zk_169 d_169_106 rfl rfl) rfl rfl rfl
theorem q_169_106n : zRun 169 106 [some (.null), l1, l2, l3] S sh mi mj mr = zRun 169 107 [some (.null), l1, l2, l3] (.null :: S) sh mi mj mr := zr_l (zD_of zk_169 d_169_106 rfl rfl) rfl rfl rfl
theorem q_169_107 (h : zIs sh o 0 8) : zRun 169 107 L (.ref o :: S) sh mi mj mr = zRun 169 110 L (va_rf (mr o 19) :: S) sh mi mj mr := zr_getR (zD_of zk_169 d_169_107 rfl rfl) rfl rfl rfl h
theorem q_169_110 : zRun 169 110 [l0, some (.int x), l2, l3] S sh mi mj mr = zRun 169 111 [l0, some (.int x), l2, l3] (.int x :: S) sh mi mj mr := zr_l (zD_of zk_169 d_169_110 rfl rfl) rfl rfl rfl
theorem q_169_111r : zRun 169 111 [some (.ref o), l1, l2, l3] S sh mi mj mr = zRun 169 112 [some (.ref o), l1, l2, l3] (.ref o :: S) sh mi mj mr := zr_l (zD_of zk_169 d_169_111 rfl rfl) rfl rfl rfl
theorem q_169_111n : zRun 169 111 [some (.null), l1, l2, l3] S sh mi mj mr = zRun 169 112 [some (.null), l1, l2, l3] (.null :: S) sh mi mj mr := zr_l (zD_of zk_169 d_169_111 rfl rfl) rfl rfl rfl
theorem q_169_112 (h : zIs sh o 0 8) : zRun 169 112 L (.ref o :: S) sh mi mj mr = zRun 169 115 L (va_rf (mr o 20) :: S) sh mi mj mr := zr_getR (zD_of zk_169 d_169_112 rfl rfl) rfl rfl rfl h
theorem q_169_115 : zRun 169 115 [l0, some (.int x), l2, l3] S sh mi mj mr = zRun 169 116 [l0, some (.int x), l2, l3] (.int x :: S) sh mi mj mr := zr_l (zD_of zk_169 d_169_115 rfl rfl) rfl rfl rfl
theorem q_169_116 (h : zAt sh o 4 x) : zRun 169 116 L (.int x :: .ref o :: S) sh mi mj mr = zRun 169 117 L (.int (mi o x.toNatClampNeg) :: S) sh mi mj mr := zr_bald (zD_of zk_169 d_169_116 rfl rfl) h
theorem q_169_117  : zRun 169 117 L (.int x :: S) sh mi mj mr = if x = 0 then zRun 169 124 L S sh mi mj mr else zRun 169 120 L S sh mi mj mr := zr_if (off := 7) (P := x = 0) (zD_of zk_169 d_169_117 rfl rfl) rfl rfl (by decide)
theorem q_169_120  : zRun 169 120 L S sh mi mj mr = zRun 169 121 L (.long 0 :: S) sh mi mj mr := zr_p (zD_of zk_169 d_169_120 rfl rfl) rfl
theorem q_169_121  : zRun 169 121 L S sh mi mj mr = zRun 169 129 L S sh mi mj mr := zr_go (off := 8) (zD_of zk_169 d_169_121 rfl rfl) rfl rfl (by decide)
theorem q_169_124r : zRun 169 124 [some (.ref o), l1, l2, l3] S sh mi mj mr = zRun 169 125 [some (.ref o), l1, l2, l3] (.ref o :: S) sh mi mj mr := zr_l (zD_of zk_169 d_169_124 rfl rfl) rfl rfl rfl
theorem q_169_124n : zRun 169 124 [some (.null), l1, l2, l3] S sh mi mj mr = zRun 169 125 [some (.null), l1, l2, l3] (.null :: S) sh mi mj mr := zr_l (zD_of zk_169 d_169_124 rfl rfl) rfl rfl rfl
theorem q_169_125 : zRun 169 125 [l0, l1, l2, some (.int x)] S sh mi mj mr = zRun 169 126 [l0, l1, l2, some (.int x)] (.int x :: S) sh mi mj mr := zr_l (zD_of zk_169 d_169_125 rfl rfl) rfl rfl rfl
theorem q_169_126  {x0 : Int32} (hS : zcat S ≤ 8) (h : zIs sh o 0 8) : zRun 169 126 L (.int x0 :: .ref o :: S) sh mi mj mr = (zCall 140 [.ref o, .int x0] sh mi mj mr).bind fun r => zRun 169 129 L (r.1.toList ++ S) r.2.1 r.2.2.1 r.2.2.2.1 r.2.2.2.2 := zr_V (zD_of zk_169 d_169_126 rfl rfl) rfl zk_140 rfl rfl rfl hS h
theorem q_169_129 (h : zAt sh o 2 x) : zRun 169 129 L (.long u :: .int x :: .ref o :: S) sh mi mj mr = zRun 169 130 L S sh mi (zup mj o x.toNatClampNeg u) mr := zr_last (zD_of zk_169 d_169_129 rfl rfl) h
theorem q_169_130  : zRun 169 130 [l0, some (.int x), l2, l3] S sh mi mj mr = zRun 169 133 [zk2 l0, some (.int (x + 1)), l2, l3] S sh mi mj mr := zr_s1 (i := 1) (v := .int (x + 1)) (L := [l0, some (.int x), l2, l3]) (zD_of zk_169 d_169_130 rfl rfl) rfl rfl rfl rfl
theorem q_169_133  : zRun 169 133 L S sh mi mj mr = zRun 169 12 L S sh mi mj mr := zr_go (off := (-121)) (zD_of zk_169 d_169_133 rfl rfl) rfl rfl (by decide)
theorem q_169_136  : zRun 169 136 L [] sh mi mj mr = some (none, sh, mi, mj, mr) := zr_ret (zD_of zk_169 d_169_136 rfl rfl) rfl rfl rfl rfl rfl rfl
theorem e_169 : zCall 169 [.ref o] sh mi mj mr = zRun 169 0 [some (.ref o), none, none, none] [] sh mi mj mr := rfl
theorem d_170_0 : decode cX8_evaluate 0 = .ok (.aload_n 0, 1) := by decide +kernel
theorem d_170_1 : decode cX8_evaluate 1 = .ok (.iconst 0, 1) := by decide +kernel
theorem d_170_2 : decode cX8_evaluate 2 = .ok (.putfield 224, 3) := by decide +kernel
theorem d_170_5 : decode cX8_evaluate 5 = .ok (.aload_n 0, 1) := by decide +kernel
theorem d_170_6 : decode cX8_evaluate 6 = .ok (.iload_n 1, 1) := by decide +kernel
theorem d_170_7 : decode cX8_evaluate 7 = .ok (.invokevirtual 273, 3) := by decide +kernel
theorem d_170_10 : decode cX8_evaluate 10 = .ok (.aload_n 0, 1) := by decide +kernel
theorem d_170_11 : decode cX8_evaluate 11 = .ok (.invokevirtual 276, 3) := by decide +kernel
theorem d_170_14 : decode cX8_evaluate 14 = .ok (.return_, 1) := by decide +kernel
theorem q_170_0r : zRun 170 0 [some (.ref o), l1] S sh mi mj mr = zRun 170 1 [some (.ref o), l1] (.ref o :: S) sh mi mj mr := zr_l (zD_of zk_170 d_170_0 rfl rfl) rfl rfl rfl
theorem q_170_0n : zRun 170 0 [some (.null), l1] S sh mi mj mr = zRun 170 1 [some (.null), l1] (.null :: S) sh mi mj mr := zr_l (zD_of zk_170 d_170_0 rfl rfl) rfl rfl rfl
theorem q_170_1  : zRun 170 1 L S sh mi mj mr = zRun 170 2 L (.int 0 :: S) sh mi mj mr := zr_p (zD_of zk_170 d_170_1 rfl rfl) rfl
theorem q_170_2 (h : zIs sh o 0 8) : zRun 170 2 L (.int x :: .ref o :: S) sh mi mj mr = zRun 170 5 L S sh (zup mi o 15 x) mj mr := zr_putI (zD_of zk_170 d_170_2 rfl rfl) rfl rfl rfl (Or.inl rfl) h
theorem q_170_5r : zRun 170 5 [some (.ref o), l1] S sh mi mj mr = zRun 170 6 [some (.ref o), l1] (.ref o :: S) sh mi mj mr := zr_l (zD_of zk_170 d_170_5 rfl rfl) rfl rfl rfl
theorem q_170_5n : zRun 170 5 [some (.null), l1] S sh mi mj mr = zRun 170 6 [some (.null), l1] (.null :: S) sh mi mj mr := zr_l (zD_of zk_170 d_170_5 rfl rfl) rfl rfl rfl
theorem q_170_6 : zRun 170 6 [l0, some (.int x)] S sh mi mj mr = zRun 170 7 [l0, some (.int x)] (.int x :: S) sh mi mj mr := zr_l (zD_of zk_170 d_170_6 rfl rfl) rfl rfl rfl
theorem q_170_7  {x0 : Int32} (hS : zcat S ≤ 8) (h : zIs sh o 0 8) : zRun 170 7 L (.int x0 :: .ref o :: S) sh mi mj mr = (zCall 162 [.ref o, .int x0] sh mi mj mr).bind fun r => zRun 170 10 L (r.1.toList ++ S) r.2.1 r.2.2.1 r.2.2.2.1 r.2.2.2.2 := zr_V (zD_of zk_170 d_170_7 rfl rfl) rfl zk_162 rfl rfl rfl hS h
theorem q_170_10r : zRun 170 10 [some (.ref o), l1] S sh mi mj mr = zRun 170 11 [some (.ref o), l1] (.ref o :: S) sh mi mj mr := zr_l (zD_of zk_170 d_170_10 rfl rfl) rfl rfl rfl
theorem q_170_10n : zRun 170 10 [some (.null), l1] S sh mi mj mr = zRun 170 11 [some (.null), l1] (.null :: S) sh mi mj mr := zr_l (zD_of zk_170 d_170_10 rfl rfl) rfl rfl rfl
theorem q_170_11  (hS : zcat S ≤ 8) (h : zIs sh o 0 8) : zRun 170 11 L (.ref o :: S) sh mi mj mr = (zCall 169 [.ref o] sh mi mj mr).bind fun r => zRun 170 14 L (r.1.toList ++ S) r.2.1 r.2.2.1 r.2.2.2.1 r.2.2.2.2 := zr_V (zD_of zk_170 d_170_11 rfl rfl) rfl zk_169 rfl rfl rfl hS h
theorem q_170_14  : zRun 170 14 L [] sh mi mj mr = some (none, sh, mi, mj, mr) := zr_ret (zD_of zk_170 d_170_14 rfl rfl) rfl rfl rfl rfl rfl rfl
theorem e_170 {x0 : Int32} : zCall 170 [.ref o, .int x0] sh mi mj mr = zRun 170 0 [some (.ref o), some (.int x0)] [] sh mi mj mr := rfl
theorem d_171_0 : decode cX8_evaluateWhole 0 = .ok (.aload_n 0, 1) := by decide +kernel
theorem d_171_1 : decode cX8_evaluateWhole 1 = .ok (.invokevirtual 279, 3) := by decide +kernel
theorem d_171_4 : decode cX8_evaluateWhole 4 = .ok (.aload_n 0, 1) := by decide +kernel
theorem d_171_5 : decode cX8_evaluateWhole 5 = .ok (.iload_n 1, 1) := by decide +kernel
theorem d_171_6 : decode cX8_evaluateWhole 6 = .ok (.invokevirtual 282, 3) := by decide +kernel
theorem d_171_9 : decode cX8_evaluateWhole 9 = .ok (.return_, 1) := by decide +kernel
theorem q_171_0r : zRun 171 0 [some (.ref o), l1] S sh mi mj mr = zRun 171 1 [some (.ref o), l1] (.ref o :: S) sh mi mj mr := zr_l (zD_of zk_171 d_171_0 rfl rfl) rfl rfl rfl
theorem q_171_0n : zRun 171 0 [some (.null), l1] S sh mi mj mr = zRun 171 1 [some (.null), l1] (.null :: S) sh mi mj mr := zr_l (zD_of zk_171 d_171_0 rfl rfl) rfl rfl rfl
theorem q_171_1  (hS : zcat S ≤ 8) (h : zIs sh o 0 8) : zRun 171 1 L (.ref o :: S) sh mi mj mr = (zCall 163 [.ref o] sh mi mj mr).bind fun r => zRun 171 4 L (r.1.toList ++ S) r.2.1 r.2.2.1 r.2.2.2.1 r.2.2.2.2 := zr_V (zD_of zk_171 d_171_1 rfl rfl) rfl zk_163 rfl rfl rfl hS h
theorem q_171_4r : zRun 171 4 [some (.ref o), l1] S sh mi mj mr = zRun 171 5 [some (.ref o), l1] (.ref o :: S) sh mi mj mr := zr_l (zD_of zk_171 d_171_4 rfl rfl) rfl rfl rfl
theorem q_171_4n : zRun 171 4 [some (.null), l1] S sh mi mj mr = zRun 171 5 [some (.null), l1] (.null :: S) sh mi mj mr := zr_l (zD_of zk_171 d_171_4 rfl rfl) rfl rfl rfl
theorem q_171_5 : zRun 171 5 [l0, some (.int x)] S sh mi mj mr = zRun 171 6 [l0, some (.int x)] (.int x :: S) sh mi mj mr := zr_l (zD_of zk_171 d_171_5 rfl rfl) rfl rfl rfl
theorem q_171_6  {x0 : Int32} (hS : zcat S ≤ 8) (h : zIs sh o 0 8) : zRun 171 6 L (.int x0 :: .ref o :: S) sh mi mj mr = (zCall 170 [.ref o, .int x0] sh mi mj mr).bind fun r => zRun 171 9 L (r.1.toList ++ S) r.2.1 r.2.2.1 r.2.2.2.1 r.2.2.2.2 := zr_V (zD_of zk_171 d_171_6 rfl rfl) rfl zk_170 rfl rfl rfl hS h
theorem q_171_9  : zRun 171 9 L [] sh mi mj mr = some (none, sh, mi, mj, mr) := zr_ret (zD_of zk_171 d_171_9 rfl rfl) rfl rfl rfl rfl rfl rfl
theorem e_171 {x0 : Int32} : zCall 171 [.ref o, .int x0] sh mi mj mr = zRun 171 0 [some (.ref o), some (.int x0)] [] sh mi mj mr := rfl
theorem d_172_0 : decode cX8_reason 0 = .ok (.aload_n 0, 1) := by decide +kernel
theorem d_172_1 : decode cX8_reason 1 = .ok (.iload_n 1, 1) := by decide +kernel
theorem d_172_2 : decode cX8_reason 2 = .ok (.invokevirtual 146, 3) := by decide +kernel
theorem d_172_5 : decode cX8_reason 5 = .ok (.ifCond .ne 5, 3) := by decide +kernel
theorem d_172_8 : decode cX8_reason 8 = .ok (.iconst (-1), 1) := by decide +kernel
theorem d_172_9 : decode cX8_reason 9 = .ok (.ireturn, 1) := by decide +kernel
theorem d_172_10 : decode cX8_reason 10 = .ok (.aload_n 0, 1) := by decide +kernel
theorem d_172_11 : decode cX8_reason 11 = .ok (.iload_n 1, 1) := by decide +kernel
theorem d_172_12 : decode cX8_reason 12 = .ok (.invokevirtual 285, 3) := by decide +kernel
theorem d_172_15 : decode cX8_reason 15 = .ok (.aload_n 0, 1) := by decide +kernel
theorem d_172_16 : decode cX8_reason 16 = .ok (.iconst 0, 1) := by decide +kernel
theorem d_172_17 : decode cX8_reason 17 = .ok (.invokevirtual 251, 3) := by decide +kernel
theorem d_172_20 : decode cX8_reason 20 = .ok (.ifCond .eq 10, 3) := by decide +kernel
theorem d_172_23 : decode cX8_reason 23 = .ok (.aload_n 0, 1) := by decide +kernel
theorem d_172_24 : decode cX8_reason 24 = .ok (.getfield 160, 3) := by decide +kernel
theorem d_172_27 : decode cX8_reason 27 = .ok (.goto 4, 3) := by decide +kernel
theorem d_172_30 : decode cX8_reason 30 = .ok (.iconst 0, 1) := by decide +kernel
theorem d_172_31 : decode cX8_reason 31 = .ok (.ireturn, 1) := by decide +kernel
theorem q_172_0r : zRun 172 0 [some (.ref o), l1] S sh mi mj mr = zRun 172 1 [some (.ref o), l1] (.ref o :: S) sh mi mj mr := zr_l (zD_of zk_172 d_172_0 rfl rfl) rfl rfl rfl
theorem q_172_0n : zRun 172 0 [some (.null), l1] S sh mi mj mr = zRun 172 1 [some (.null), l1] (.null :: S) sh mi mj mr := zr_l (zD_of zk_172 d_172_0 rfl rfl) rfl rfl rfl
theorem q_172_1 : zRun 172 1 [l0, some (.int x)] S sh mi mj mr = zRun 172 2 [l0, some (.int x)] (.int x :: S) sh mi mj mr := zr_l (zD_of zk_172 d_172_1 rfl rfl) rfl rfl rfl
theorem q_172_2  {x0 : Int32} (hS : zcat S ≤ 8) (h : zIs sh o 0 8) : zRun 172 2 L (.int x0 :: .ref o :: S) sh mi mj mr = (zCall 113 [.ref o, .int x0] sh mi mj mr).bind fun r => zRun 172 5 L (r.1.toList ++ S) r.2.1 r.2.2.1 r.2.2.2.1 r.2.2.2.2 := zr_V (zD_of zk_172 d_172_2 rfl rfl) rfl zk_113 rfl rfl rfl hS h
theorem q_172_5  : zRun 172 5 L (.int x :: S) sh mi mj mr = if ¬ x = 0 then zRun 172 10 L S sh mi mj mr else zRun 172 8 L S sh mi mj mr := zr_if (off := 5) (P := ¬ x = 0) (zD_of zk_172 d_172_5 rfl rfl) rfl rfl (by decide)
theorem q_172_8  : zRun 172 8 L S sh mi mj mr = zRun 172 9 L (.int (-1) :: S) sh mi mj mr := zr_p (zD_of zk_172 d_172_8 rfl rfl) rfl
theorem q_172_9  : zRun 172 9 L ([.int x]) sh mi mj mr = some (some (.int x), sh, mi, mj, mr) := zr_ret (zD_of zk_172 d_172_9 rfl rfl) rfl rfl rfl rfl rfl (if_pos rfl)
theorem q_172_10r : zRun 172 10 [some (.ref o), l1] S sh mi mj mr = zRun 172 11 [some (.ref o), l1] (.ref o :: S) sh mi mj mr := zr_l (zD_of zk_172 d_172_10 rfl rfl) rfl rfl rfl
theorem q_172_10n : zRun 172 10 [some (.null), l1] S sh mi mj mr = zRun 172 11 [some (.null), l1] (.null :: S) sh mi mj mr := zr_l (zD_of zk_172 d_172_10 rfl rfl) rfl rfl rfl
theorem q_172_11 : zRun 172 11 [l0, some (.int x)] S sh mi mj mr = zRun 172 12 [l0, some (.int x)] (.int x :: S) sh mi mj mr := zr_l (zD_of zk_172 d_172_11 rfl rfl) rfl rfl rfl
theorem q_172_12  {x0 : Int32} (hS : zcat S ≤ 8) (h : zIs sh o 0 8) : zRun 172 12 L (.int x0 :: .ref o :: S) sh mi mj mr = (zCall 171 [.ref o, .int x0] sh mi mj mr).bind fun r => zRun 172 15 L (r.1.toList ++ S) r.2.1 r.2.2.1 r.2.2.2.1 r.2.2.2.2 := zr_V (zD_of zk_172 d_172_12 rfl rfl) rfl zk_171 rfl rfl rfl hS h
theorem q_172_15r : zRun 172 15 [some (.ref o), l1] S sh mi mj mr = zRun 172 16 [some (.ref o), l1] (.ref o :: S) sh mi mj mr := zr_l (zD_of zk_172 d_172_15 rfl rfl) rfl rfl rfl
theorem q_172_15n : zRun 172 15 [some (.null), l1] S sh mi mj mr = zRun 172 16 [some (.null), l1] (.null :: S) sh mi mj mr := zr_l (zD_of zk_172 d_172_15 rfl rfl) rfl rfl rfl
theorem q_172_16  : zRun 172 16 L S sh mi mj mr = zRun 172 17 L (.int 0 :: S) sh mi mj mr := zr_p (zD_of zk_172 d_172_16 rfl rfl) rfl
theorem q_172_17  {x0 : Int32} (hS : zcat S ≤ 8) (h : zIs sh o 0 8) : zRun 172 17 L (.int x0 :: .ref o :: S) sh mi mj mr = (zCall 141 [.ref o, .int x0] sh mi mj mr).bind fun r => zRun 172 20 L (r.1.toList ++ S) r.2.1 r.2.2.1 r.2.2.2.1 r.2.2.2.2 := zr_V (zD_of zk_172 d_172_17 rfl rfl) rfl zk_141 rfl rfl rfl hS h
theorem q_172_20  : zRun 172 20 L (.int x :: S) sh mi mj mr = if x = 0 then zRun 172 30 L S sh mi mj mr else zRun 172 23 L S sh mi mj mr := zr_if (off := 10) (P := x = 0) (zD_of zk_172 d_172_20 rfl rfl) rfl rfl (by decide)
theorem q_172_23r : zRun 172 23 [some (.ref o), l1] S sh mi mj mr = zRun 172 24 [some (.ref o), l1] (.ref o :: S) sh mi mj mr := zr_l (zD_of zk_172 d_172_23 rfl rfl) rfl rfl rfl
theorem q_172_23n : zRun 172 23 [some (.null), l1] S sh mi mj mr = zRun 172 24 [some (.null), l1] (.null :: S) sh mi mj mr := zr_l (zD_of zk_172 d_172_23 rfl rfl) rfl rfl rfl
theorem q_172_24 (h : zIs sh o 0 8) : zRun 172 24 L (.ref o :: S) sh mi mj mr = zRun 172 27 L (.int (mi o 12) :: S) sh mi mj mr := zr_getI (zD_of zk_172 d_172_24 rfl rfl) rfl rfl (Or.inl rfl) h
theorem q_172_27  : zRun 172 27 L S sh mi mj mr = zRun 172 31 L S sh mi mj mr := zr_go (off := 4) (zD_of zk_172 d_172_27 rfl rfl) rfl rfl (by decide)
theorem q_172_30  : zRun 172 30 L S sh mi mj mr = zRun 172 31 L (.int 0 :: S) sh mi mj mr := zr_p (zD_of zk_172 d_172_30 rfl rfl) rfl
theorem q_172_31  : zRun 172 31 L ([.int x]) sh mi mj mr = some (some (.int x), sh, mi, mj, mr) := zr_ret (zD_of zk_172 d_172_31 rfl rfl) rfl rfl rfl rfl rfl (if_pos rfl)
theorem e_172 {x0 : Int32} : zCall 172 [.ref o, .int x0] sh mi mj mr = zRun 172 0 [some (.ref o), some (.int x0)] [] sh mi mj mr := rfl
theorem d_173_0 : decode cX8_bound 0 = .ok (.aload_n 0, 1) := by decide +kernel
theorem d_173_1 : decode cX8_bound 1 = .ok (.iload_n 1, 1) := by decide +kernel
theorem d_173_2 : decode cX8_bound 2 = .ok (.invokevirtual 146, 3) := by decide +kernel
theorem d_173_5 : decode cX8_bound 5 = .ok (.ifCond .ne 7, 3) := by decide +kernel
theorem d_173_8 : decode cX8_bound 8 = .ok (.ldc2_w 288, 3) := by decide +kernel
theorem d_173_11 : decode cX8_bound 11 = .ok (.lreturn, 1) := by decide +kernel
theorem d_173_12 : decode cX8_bound 12 = .ok (.iload_n 2, 1) := by decide +kernel
theorem d_173_13 : decode cX8_bound 13 = .ok (.iconst 0, 1) := by decide +kernel
theorem d_173_14 : decode cX8_bound 14 = .ok (.iconst 2, 1) := by decide +kernel
theorem d_173_15 : decode cX8_bound 15 = .ok (.invokestatic 72, 3) := by decide +kernel
theorem d_173_18 : decode cX8_bound 18 = .ok (.ifCond .eq 10, 3) := by decide +kernel
theorem d_173_21 : decode cX8_bound 21 = .ok (.iload_n 3, 1) := by decide +kernel
theorem d_173_22 : decode cX8_bound 22 = .ok (.invokestatic 82, 3) := by decide +kernel
theorem d_173_25 : decode cX8_bound 25 = .ok (.ifCond .ne 7, 3) := by decide +kernel
theorem d_173_28 : decode cX8_bound 28 = .ok (.ldc2_w 290, 3) := by decide +kernel
theorem d_173_31 : decode cX8_bound 31 = .ok (.lreturn, 1) := by decide +kernel
theorem d_173_32 : decode cX8_bound 32 = .ok (.aload_n 0, 1) := by decide +kernel
theorem d_173_33 : decode cX8_bound 33 = .ok (.iload_n 1, 1) := by decide +kernel
theorem d_173_34 : decode cX8_bound 34 = .ok (.invokevirtual 285, 3) := by decide +kernel
theorem d_173_37 : decode cX8_bound 37 = .ok (.aload_n 0, 1) := by decide +kernel
theorem d_173_38 : decode cX8_bound 38 = .ok (.iconst 0, 1) := by decide +kernel
theorem d_173_39 : decode cX8_bound 39 = .ok (.invokevirtual 251, 3) := by decide +kernel
theorem d_173_42 : decode cX8_bound 42 = .ok (.ifCond .eq 7, 3) := by decide +kernel
theorem d_173_45 : decode cX8_bound 45 = .ok (.ldc2_w 292, 3) := by decide +kernel
theorem d_173_48 : decode cX8_bound 48 = .ok (.lreturn, 1) := by decide +kernel
theorem d_173_49 : decode cX8_bound 49 = .ok (.iload_n 2, 1) := by decide +kernel
theorem d_173_50 : decode cX8_bound 50 = .ok (.ifCond .ne 35, 3) := by decide +kernel
theorem d_173_53 : decode cX8_bound 53 = .ok (.iload_n 3, 1) := by decide +kernel
theorem d_173_54 : decode cX8_bound 54 = .ok (.ifCond .ne 18, 3) := by decide +kernel
theorem d_173_57 : decode cX8_bound 57 = .ok (.aload_n 0, 1) := by decide +kernel
theorem d_173_58 : decode cX8_bound 58 = .ok (.getfield 29, 3) := by decide +kernel
theorem d_173_61 : decode cX8_bound 61 = .ok (.iconst 0, 1) := by decide +kernel
theorem d_173_62 : decode cX8_bound 62 = .ok (.laload, 1) := by decide +kernel
theorem d_173_63 : decode cX8_bound 63 = .ok (.aload_n 0, 1) := by decide +kernel
theorem d_173_64 : decode cX8_bound 64 = .ok (.iconst 0, 1) := by decide +kernel
theorem d_173_65 : decode cX8_bound 65 = .ok (.invokevirtual 153, 3) := by decide +kernel
theorem d_173_68 : decode cX8_bound 68 = .ok (.lsub, 1) := by decide +kernel
theorem d_173_69 : decode cX8_bound 69 = .ok (.goto 15, 3) := by decide +kernel
theorem d_173_72 : decode cX8_bound 72 = .ok (.aload_n 0, 1) := by decide +kernel
theorem d_173_73 : decode cX8_bound 73 = .ok (.getfield 29, 3) := by decide +kernel
theorem d_173_76 : decode cX8_bound 76 = .ok (.iconst 0, 1) := by decide +kernel
theorem d_173_77 : decode cX8_bound 77 = .ok (.laload, 1) := by decide +kernel
theorem d_173_78 : decode cX8_bound 78 = .ok (.aload_n 0, 1) := by decide +kernel
theorem d_173_79 : decode cX8_bound 79 = .ok (.iconst 0, 1) := by decide +kernel
theorem d_173_80 : decode cX8_bound 80 = .ok (.invokevirtual 153, 3) := by decide +kernel
theorem d_173_83 : decode cX8_bound 83 = .ok (.ladd, 1) := by decide +kernel
theorem d_173_84 : decode cX8_bound 84 = .ok (.lreturn, 1) := by decide +kernel
theorem d_173_85 : decode cX8_bound 85 = .ok (.iload_n 2, 1) := by decide +kernel
theorem d_173_86 : decode cX8_bound 86 = .ok (.iconst 2, 1) := by decide +kernel
theorem d_173_87 : decode cX8_bound 87 = .ok (.if_icmp .ne 21, 3) := by decide +kernel
theorem d_173_90 : decode cX8_bound 90 = .ok (.iload_n 3, 1) := by decide +kernel
theorem d_173_91 : decode cX8_bound 91 = .ok (.ifCond .ne 11, 3) := by decide +kernel
theorem d_173_94 : decode cX8_bound 94 = .ok (.aload_n 0, 1) := by decide +kernel
theorem d_173_95 : decode cX8_bound 95 = .ok (.iconst 0, 1) := by decide +kernel
theorem d_173_96 : decode cX8_bound 96 = .ok (.invokevirtual 189, 3) := by decide +kernel
theorem d_173_99 : decode cX8_bound 99 = .ok (.goto 8, 3) := by decide +kernel
theorem d_173_102 : decode cX8_bound 102 = .ok (.aload_n 0, 1) := by decide +kernel
theorem d_173_103 : decode cX8_bound 103 = .ok (.iconst 0, 1) := by decide +kernel
theorem d_173_104 : decode cX8_bound 104 = .ok (.invokevirtual 192, 3) := by decide +kernel
theorem d_173_107 : decode cX8_bound 107 = .ok (.lreturn, 1) := by decide +kernel
theorem d_173_108 : decode cX8_bound 108 = .ok (.iload_n 3, 1) := by decide +kernel
theorem d_173_109 : decode cX8_bound 109 = .ok (.ifCond .ne 13, 3) := by decide +kernel
theorem d_173_112 : decode cX8_bound 112 = .ok (.aload_n 0, 1) := by decide +kernel
theorem d_173_113 : decode cX8_bound 113 = .ok (.getfield 29, 3) := by decide +kernel
theorem d_173_116 : decode cX8_bound 116 = .ok (.bipush 14, 2) := by decide +kernel
theorem d_173_118 : decode cX8_bound 118 = .ok (.laload, 1) := by decide +kernel
theorem d_173_119 : decode cX8_bound 119 = .ok (.goto 10, 3) := by decide +kernel
theorem d_173_122 : decode cX8_bound 122 = .ok (.aload_n 0, 1) := by decide +kernel
theorem d_173_123 : decode cX8_bound 123 = .ok (.getfield 29, 3) := by decide +kernel
theorem d_173_126 : decode cX8_bound 126 = .ok (.bipush 15, 2) := by decide +kernel
theorem d_173_128 : decode cX8_bound 128 = .ok (.laload, 1) := by decide +kernel
theorem d_173_129 : decode cX8_bound 129 = .ok (.lreturn, 1) := by decide +kernel
theorem q_173_0r : zRun 173 0 [some (.ref o), l1, l2, l3] S sh mi mj mr = zRun 173 1 [some (.ref o), l1, l2, l3] (.ref o :: S) sh mi mj mr := zr_l (zD_of zk_173 d_173_0 rfl rfl) rfl rfl rfl
theorem q_173_0n : zRun 173 0 [some (.null), l1, l2, l3] S sh mi mj mr = zRun 173 1 [some (.null), l1, l2, l3] (.null :: S) sh mi mj mr := zr_l (zD_of zk_173 d_173_0 rfl rfl) rfl rfl rfl
theorem q_173_1 : zRun 173 1 [l0, some (.int x), l2, l3] S sh mi mj mr = zRun 173 2 [l0, some (.int x), l2, l3] (.int x :: S) sh mi mj mr := zr_l (zD_of zk_173 d_173_1 rfl rfl) rfl rfl rfl
theorem q_173_2  {x0 : Int32} (hS : zcat S ≤ 8) (h : zIs sh o 0 8) : zRun 173 2 L (.int x0 :: .ref o :: S) sh mi mj mr = (zCall 113 [.ref o, .int x0] sh mi mj mr).bind fun r => zRun 173 5 L (r.1.toList ++ S) r.2.1 r.2.2.1 r.2.2.2.1 r.2.2.2.2 := zr_V (zD_of zk_173 d_173_2 rfl rfl) rfl zk_113 rfl rfl rfl hS h
theorem q_173_5  : zRun 173 5 L (.int x :: S) sh mi mj mr = if ¬ x = 0 then zRun 173 12 L S sh mi mj mr else zRun 173 8 L S sh mi mj mr := zr_if (off := 7) (P := ¬ x = 0) (zD_of zk_173 d_173_5 rfl rfl) rfl rfl (by decide)
theorem q_173_8  : zRun 173 8 L S sh mi mj mr = zRun 173 11 L (.long (-1000000000000000001) :: S) sh mi mj mr := zr_k64 (zD_of zk_173 d_173_8 rfl rfl) rfl
theorem q_173_11  : zRun 173 11 L ([.long u]) sh mi mj mr = some (some (.long u), sh, mi, mj, mr) := zr_ret (zD_of zk_173 d_173_11 rfl rfl) rfl rfl rfl rfl rfl rfl
theorem q_173_12 : zRun 173 12 [l0, l1, some (.int x), l3] S sh mi mj mr = zRun 173 13 [l0, l1, some (.int x), l3] (.int x :: S) sh mi mj mr := zr_l (zD_of zk_173 d_173_12 rfl rfl) rfl rfl rfl
theorem q_173_13  : zRun 173 13 L S sh mi mj mr = zRun 173 14 L (.int 0 :: S) sh mi mj mr := zr_p (zD_of zk_173 d_173_13 rfl rfl) rfl
theorem q_173_14  : zRun 173 14 L S sh mi mj mr = zRun 173 15 L (.int 2 :: S) sh mi mj mr := zr_p (zD_of zk_173 d_173_14 rfl rfl) rfl
theorem q_173_15  {x0 x1 x2 : Int32} (hS : zcat S ≤ 8) : zRun 173 15 L (.int x2 :: .int x1 :: .int x0 :: S) sh mi mj mr = (zCall 111 [.int x0, .int x1, .int x2] sh mi mj mr).bind fun r => zRun 173 18 L (r.1.toList ++ S) r.2.1 r.2.2.1 r.2.2.2.1 r.2.2.2.2 := zr_S (zD_of zk_173 d_173_15 rfl rfl) rfl zk_111 rfl rfl rfl hS
theorem q_173_18  : zRun 173 18 L (.int x :: S) sh mi mj mr = if x = 0 then zRun 173 28 L S sh mi mj mr else zRun 173 21 L S sh mi mj mr := zr_if (off := 10) (P := x = 0) (zD_of zk_173 d_173_18 rfl rfl) rfl rfl (by decide)
theorem q_173_21 : zRun 173 21 [l0, l1, l2, some (.int x)] S sh mi mj mr = zRun 173 22 [l0, l1, l2, some (.int x)] (.int x :: S) sh mi mj mr := zr_l (zD_of zk_173 d_173_21 rfl rfl) rfl rfl rfl
theorem q_173_22  {x0 : Int32} (hS : zcat S ≤ 8) : zRun 173 22 L (.int x0 :: S) sh mi mj mr = (zCall 114 [.int x0] sh mi mj mr).bind fun r => zRun 173 25 L (r.1.toList ++ S) r.2.1 r.2.2.1 r.2.2.2.1 r.2.2.2.2 := zr_S (zD_of zk_173 d_173_22 rfl rfl) rfl zk_114 rfl rfl rfl hS
theorem q_173_25  : zRun 173 25 L (.int x :: S) sh mi mj mr = if ¬ x = 0 then zRun 173 32 L S sh mi mj mr else zRun 173 28 L S sh mi mj mr := zr_if (off := 7) (P := ¬ x = 0) (zD_of zk_173 d_173_25 rfl rfl) rfl rfl (by decide)
theorem q_173_28  : zRun 173 28 L S sh mi mj mr = zRun 173 31 L (.long (-1000000000000000002) :: S) sh mi mj mr := zr_k64 (zD_of zk_173 d_173_28 rfl rfl) rfl
theorem q_173_31  : zRun 173 31 L ([.long u]) sh mi mj mr = some (some (.long u), sh, mi, mj, mr) := zr_ret (zD_of zk_173 d_173_31 rfl rfl) rfl rfl rfl rfl rfl rfl
theorem q_173_32r : zRun 173 32 [some (.ref o), l1, l2, l3] S sh mi mj mr = zRun 173 33 [some (.ref o), l1, l2, l3] (.ref o :: S) sh mi mj mr := zr_l (zD_of zk_173 d_173_32 rfl rfl) rfl rfl rfl
theorem q_173_32n : zRun 173 32 [some (.null), l1, l2, l3] S sh mi mj mr = zRun 173 33 [some (.null), l1, l2, l3] (.null :: S) sh mi mj mr := zr_l (zD_of zk_173 d_173_32 rfl rfl) rfl rfl rfl
theorem q_173_33 : zRun 173 33 [l0, some (.int x), l2, l3] S sh mi mj mr = zRun 173 34 [l0, some (.int x), l2, l3] (.int x :: S) sh mi mj mr := zr_l (zD_of zk_173 d_173_33 rfl rfl) rfl rfl rfl
theorem q_173_34  {x0 : Int32} (hS : zcat S ≤ 8) (h : zIs sh o 0 8) : zRun 173 34 L (.int x0 :: .ref o :: S) sh mi mj mr = (zCall 171 [.ref o, .int x0] sh mi mj mr).bind fun r => zRun 173 37 L (r.1.toList ++ S) r.2.1 r.2.2.1 r.2.2.2.1 r.2.2.2.2 := zr_V (zD_of zk_173 d_173_34 rfl rfl) rfl zk_171 rfl rfl rfl hS h
theorem q_173_37r : zRun 173 37 [some (.ref o), l1, l2, l3] S sh mi mj mr = zRun 173 38 [some (.ref o), l1, l2, l3] (.ref o :: S) sh mi mj mr := zr_l (zD_of zk_173 d_173_37 rfl rfl) rfl rfl rfl
theorem q_173_37n : zRun 173 37 [some (.null), l1, l2, l3] S sh mi mj mr = zRun 173 38 [some (.null), l1, l2, l3] (.null :: S) sh mi mj mr := zr_l (zD_of zk_173 d_173_37 rfl rfl) rfl rfl rfl
theorem q_173_38  : zRun 173 38 L S sh mi mj mr = zRun 173 39 L (.int 0 :: S) sh mi mj mr := zr_p (zD_of zk_173 d_173_38 rfl rfl) rfl
theorem q_173_39  {x0 : Int32} (hS : zcat S ≤ 8) (h : zIs sh o 0 8) : zRun 173 39 L (.int x0 :: .ref o :: S) sh mi mj mr = (zCall 141 [.ref o, .int x0] sh mi mj mr).bind fun r => zRun 173 42 L (r.1.toList ++ S) r.2.1 r.2.2.1 r.2.2.2.1 r.2.2.2.2 := zr_V (zD_of zk_173 d_173_39 rfl rfl) rfl zk_141 rfl rfl rfl hS h
theorem q_173_42  : zRun 173 42 L (.int x :: S) sh mi mj mr = if x = 0 then zRun 173 49 L S sh mi mj mr else zRun 173 45 L S sh mi mj mr := zr_if (off := 7) (P := x = 0) (zD_of zk_173 d_173_42 rfl rfl) rfl rfl (by decide)
theorem q_173_45  : zRun 173 45 L S sh mi mj mr = zRun 173 48 L (.long (-1000000000000000005) :: S) sh mi mj mr := zr_k64 (zD_of zk_173 d_173_45 rfl rfl) rfl
theorem q_173_48  : zRun 173 48 L ([.long u]) sh mi mj mr = some (some (.long u), sh, mi, mj, mr) := zr_ret (zD_of zk_173 d_173_48 rfl rfl) rfl rfl rfl rfl rfl rfl
theorem q_173_49 : zRun 173 49 [l0, l1, some (.int x), l3] S sh mi mj mr = zRun 173 50 [l0, l1, some (.int x), l3] (.int x :: S) sh mi mj mr := zr_l (zD_of zk_173 d_173_49 rfl rfl) rfl rfl rfl
theorem q_173_50  : zRun 173 50 L (.int x :: S) sh mi mj mr = if ¬ x = 0 then zRun 173 85 L S sh mi mj mr else zRun 173 53 L S sh mi mj mr := zr_if (off := 35) (P := ¬ x = 0) (zD_of zk_173 d_173_50 rfl rfl) rfl rfl (by decide)
theorem q_173_53 : zRun 173 53 [l0, l1, l2, some (.int x)] S sh mi mj mr = zRun 173 54 [l0, l1, l2, some (.int x)] (.int x :: S) sh mi mj mr := zr_l (zD_of zk_173 d_173_53 rfl rfl) rfl rfl rfl
theorem q_173_54  : zRun 173 54 L (.int x :: S) sh mi mj mr = if ¬ x = 0 then zRun 173 72 L S sh mi mj mr else zRun 173 57 L S sh mi mj mr := zr_if (off := 18) (P := ¬ x = 0) (zD_of zk_173 d_173_54 rfl rfl) rfl rfl (by decide)
theorem q_173_57r : zRun 173 57 [some (.ref o), l1, l2, l3] S sh mi mj mr = zRun 173 58 [some (.ref o), l1, l2, l3] (.ref o :: S) sh mi mj mr := zr_l (zD_of zk_173 d_173_57 rfl rfl) rfl rfl rfl
theorem q_173_57n : zRun 173 57 [some (.null), l1, l2, l3] S sh mi mj mr = zRun 173 58 [some (.null), l1, l2, l3] (.null :: S) sh mi mj mr := zr_l (zD_of zk_173 d_173_57 rfl rfl) rfl rfl rfl
theorem q_173_58 (h : zIs sh o 0 8) : zRun 173 58 L (.ref o :: S) sh mi mj mr = zRun 173 61 L (va_rf (mr o 10) :: S) sh mi mj mr := zr_getR (zD_of zk_173 d_173_58 rfl rfl) rfl rfl rfl h
theorem q_173_61  : zRun 173 61 L S sh mi mj mr = zRun 173 62 L (.int 0 :: S) sh mi mj mr := zr_p (zD_of zk_173 d_173_61 rfl rfl) rfl
theorem q_173_62 (h : zAt sh o 2 x) : zRun 173 62 L (.int x :: .ref o :: S) sh mi mj mr = zRun 173 63 L (.long (mj o x.toNatClampNeg) :: S) sh mi mj mr := zr_lald (zD_of zk_173 d_173_62 rfl rfl) h
theorem q_173_63r : zRun 173 63 [some (.ref o), l1, l2, l3] S sh mi mj mr = zRun 173 64 [some (.ref o), l1, l2, l3] (.ref o :: S) sh mi mj mr := zr_l (zD_of zk_173 d_173_63 rfl rfl) rfl rfl rfl
theorem q_173_63n : zRun 173 63 [some (.null), l1, l2, l3] S sh mi mj mr = zRun 173 64 [some (.null), l1, l2, l3] (.null :: S) sh mi mj mr := zr_l (zD_of zk_173 d_173_63 rfl rfl) rfl rfl rfl
theorem q_173_64  : zRun 173 64 L S sh mi mj mr = zRun 173 65 L (.int 0 :: S) sh mi mj mr := zr_p (zD_of zk_173 d_173_64 rfl rfl) rfl
theorem q_173_65  {x0 : Int32} (hS : zcat S ≤ 8) (h : zIs sh o 0 8) : zRun 173 65 L (.int x0 :: .ref o :: S) sh mi mj mr = (zCall 138 [.ref o, .int x0] sh mi mj mr).bind fun r => zRun 173 68 L (r.1.toList ++ S) r.2.1 r.2.2.1 r.2.2.2.1 r.2.2.2.2 := zr_V (zD_of zk_173 d_173_65 rfl rfl) rfl zk_138 rfl rfl rfl hS h
theorem q_173_68  : zRun 173 68 L (.long v :: .long u :: S) sh mi mj mr = zRun 173 69 L (.long (u - v) :: S) sh mi mj mr := zr_p (zD_of zk_173 d_173_68 rfl rfl) rfl
theorem q_173_69  : zRun 173 69 L S sh mi mj mr = zRun 173 84 L S sh mi mj mr := zr_go (off := 15) (zD_of zk_173 d_173_69 rfl rfl) rfl rfl (by decide)
theorem q_173_72r : zRun 173 72 [some (.ref o), l1, l2, l3] S sh mi mj mr = zRun 173 73 [some (.ref o), l1, l2, l3] (.ref o :: S) sh mi mj mr := zr_l (zD_of zk_173 d_173_72 rfl rfl) rfl rfl rfl
theorem q_173_72n : zRun 173 72 [some (.null), l1, l2, l3] S sh mi mj mr = zRun 173 73 [some (.null), l1, l2, l3] (.null :: S) sh mi mj mr := zr_l (zD_of zk_173 d_173_72 rfl rfl) rfl rfl rfl
theorem q_173_73 (h : zIs sh o 0 8) : zRun 173 73 L (.ref o :: S) sh mi mj mr = zRun 173 76 L (va_rf (mr o 10) :: S) sh mi mj mr := zr_getR (zD_of zk_173 d_173_73 rfl rfl) rfl rfl rfl h
theorem q_173_76  : zRun 173 76 L S sh mi mj mr = zRun 173 77 L (.int 0 :: S) sh mi mj mr := zr_p (zD_of zk_173 d_173_76 rfl rfl) rfl
theorem q_173_77 (h : zAt sh o 2 x) : zRun 173 77 L (.int x :: .ref o :: S) sh mi mj mr = zRun 173 78 L (.long (mj o x.toNatClampNeg) :: S) sh mi mj mr := zr_lald (zD_of zk_173 d_173_77 rfl rfl) h
theorem q_173_78r : zRun 173 78 [some (.ref o), l1, l2, l3] S sh mi mj mr = zRun 173 79 [some (.ref o), l1, l2, l3] (.ref o :: S) sh mi mj mr := zr_l (zD_of zk_173 d_173_78 rfl rfl) rfl rfl rfl
theorem q_173_78n : zRun 173 78 [some (.null), l1, l2, l3] S sh mi mj mr = zRun 173 79 [some (.null), l1, l2, l3] (.null :: S) sh mi mj mr := zr_l (zD_of zk_173 d_173_78 rfl rfl) rfl rfl rfl
theorem q_173_79  : zRun 173 79 L S sh mi mj mr = zRun 173 80 L (.int 0 :: S) sh mi mj mr := zr_p (zD_of zk_173 d_173_79 rfl rfl) rfl
theorem q_173_80  {x0 : Int32} (hS : zcat S ≤ 8) (h : zIs sh o 0 8) : zRun 173 80 L (.int x0 :: .ref o :: S) sh mi mj mr = (zCall 138 [.ref o, .int x0] sh mi mj mr).bind fun r => zRun 173 83 L (r.1.toList ++ S) r.2.1 r.2.2.1 r.2.2.2.1 r.2.2.2.2 := zr_V (zD_of zk_173 d_173_80 rfl rfl) rfl zk_138 rfl rfl rfl hS h
theorem q_173_83  : zRun 173 83 L (.long v :: .long u :: S) sh mi mj mr = zRun 173 84 L (.long (u + v) :: S) sh mi mj mr := zr_p (zD_of zk_173 d_173_83 rfl rfl) rfl
theorem q_173_84  : zRun 173 84 L ([.long u]) sh mi mj mr = some (some (.long u), sh, mi, mj, mr) := zr_ret (zD_of zk_173 d_173_84 rfl rfl) rfl rfl rfl rfl rfl rfl
theorem q_173_85 : zRun 173 85 [l0, l1, some (.int x), l3] S sh mi mj mr = zRun 173 86 [l0, l1, some (.int x), l3] (.int x :: S) sh mi mj mr := zr_l (zD_of zk_173 d_173_85 rfl rfl) rfl rfl rfl
theorem q_173_86  : zRun 173 86 L S sh mi mj mr = zRun 173 87 L (.int 2 :: S) sh mi mj mr := zr_p (zD_of zk_173 d_173_86 rfl rfl) rfl
theorem q_173_87  : zRun 173 87 L (.int y :: .int x :: S) sh mi mj mr = if ¬ x = y then zRun 173 108 L S sh mi mj mr else zRun 173 90 L S sh mi mj mr := zr_if (off := 21) (P := ¬ x = y) (zD_of zk_173 d_173_87 rfl rfl) rfl rfl (by decide)
theorem q_173_90 : zRun 173 90 [l0, l1, l2, some (.int x)] S sh mi mj mr = zRun 173 91 [l0, l1, l2, some (.int x)] (.int x :: S) sh mi mj mr := zr_l (zD_of zk_173 d_173_90 rfl rfl) rfl rfl rfl
theorem q_173_91  : zRun 173 91 L (.int x :: S) sh mi mj mr = if ¬ x = 0 then zRun 173 102 L S sh mi mj mr else zRun 173 94 L S sh mi mj mr := zr_if (off := 11) (P := ¬ x = 0) (zD_of zk_173 d_173_91 rfl rfl) rfl rfl (by decide)
theorem q_173_94r : zRun 173 94 [some (.ref o), l1, l2, l3] S sh mi mj mr = zRun 173 95 [some (.ref o), l1, l2, l3] (.ref o :: S) sh mi mj mr := zr_l (zD_of zk_173 d_173_94 rfl rfl) rfl rfl rfl
theorem q_173_94n : zRun 173 94 [some (.null), l1, l2, l3] S sh mi mj mr = zRun 173 95 [some (.null), l1, l2, l3] (.null :: S) sh mi mj mr := zr_l (zD_of zk_173 d_173_94 rfl rfl) rfl rfl rfl
theorem q_173_95  : zRun 173 95 L S sh mi mj mr = zRun 173 96 L (.int 0 :: S) sh mi mj mr := zr_p (zD_of zk_173 d_173_95 rfl rfl) rfl
theorem q_173_96  {x0 : Int32} (hS : zcat S ≤ 8) (h : zIs sh o 0 8) : zRun 173 96 L (.int x0 :: .ref o :: S) sh mi mj mr = (zCall 139 [.ref o, .int x0] sh mi mj mr).bind fun r => zRun 173 99 L (r.1.toList ++ S) r.2.1 r.2.2.1 r.2.2.2.1 r.2.2.2.2 := zr_V (zD_of zk_173 d_173_96 rfl rfl) rfl zk_139 rfl rfl rfl hS h
theorem q_173_99  : zRun 173 99 L S sh mi mj mr = zRun 173 107 L S sh mi mj mr := zr_go (off := 8) (zD_of zk_173 d_173_99 rfl rfl) rfl rfl (by decide)
theorem q_173_102r : zRun 173 102 [some (.ref o), l1, l2, l3] S sh mi mj mr = zRun 173 103 [some (.ref o), l1, l2, l3] (.ref o :: S) sh mi mj mr := zr_l (zD_of zk_173 d_173_102 rfl rfl) rfl rfl rfl
theorem q_173_102n : zRun 173 102 [some (.null), l1, l2, l3] S sh mi mj mr = zRun 173 103 [some (.null), l1, l2, l3] (.null :: S) sh mi mj mr := zr_l (zD_of zk_173 d_173_102 rfl rfl) rfl rfl rfl
theorem q_173_103  : zRun 173 103 L S sh mi mj mr = zRun 173 104 L (.int 0 :: S) sh mi mj mr := zr_p (zD_of zk_173 d_173_103 rfl rfl) rfl
theorem q_173_104  {x0 : Int32} (hS : zcat S ≤ 8) (h : zIs sh o 0 8) : zRun 173 104 L (.int x0 :: .ref o :: S) sh mi mj mr = (zCall 140 [.ref o, .int x0] sh mi mj mr).bind fun r => zRun 173 107 L (r.1.toList ++ S) r.2.1 r.2.2.1 r.2.2.2.1 r.2.2.2.2 := zr_V (zD_of zk_173 d_173_104 rfl rfl) rfl zk_140 rfl rfl rfl hS h
theorem q_173_107  : zRun 173 107 L ([.long u]) sh mi mj mr = some (some (.long u), sh, mi, mj, mr) := zr_ret (zD_of zk_173 d_173_107 rfl rfl) rfl rfl rfl rfl rfl rfl
theorem q_173_108 : zRun 173 108 [l0, l1, l2, some (.int x)] S sh mi mj mr = zRun 173 109 [l0, l1, l2, some (.int x)] (.int x :: S) sh mi mj mr := zr_l (zD_of zk_173 d_173_108 rfl rfl) rfl rfl rfl
theorem q_173_109  : zRun 173 109 L (.int x :: S) sh mi mj mr = if ¬ x = 0 then zRun 173 122 L S sh mi mj mr else zRun 173 112 L S sh mi mj mr := zr_if (off := 13) (P := ¬ x = 0) (zD_of zk_173 d_173_109 rfl rfl) rfl rfl (by decide)
theorem q_173_112r : zRun 173 112 [some (.ref o), l1, l2, l3] S sh mi mj mr = zRun 173 113 [some (.ref o), l1, l2, l3] (.ref o :: S) sh mi mj mr := zr_l (zD_of zk_173 d_173_112 rfl rfl) rfl rfl rfl
theorem q_173_112n : zRun 173 112 [some (.null), l1, l2, l3] S sh mi mj mr = zRun 173 113 [some (.null), l1, l2, l3] (.null :: S) sh mi mj mr := zr_l (zD_of zk_173 d_173_112 rfl rfl) rfl rfl rfl
theorem q_173_113 (h : zIs sh o 0 8) : zRun 173 113 L (.ref o :: S) sh mi mj mr = zRun 173 116 L (va_rf (mr o 10) :: S) sh mi mj mr := zr_getR (zD_of zk_173 d_173_113 rfl rfl) rfl rfl rfl h
theorem q_173_116  : zRun 173 116 L S sh mi mj mr = zRun 173 118 L (.int 14 :: S) sh mi mj mr := zr_p (zD_of zk_173 d_173_116 rfl rfl) rfl
theorem q_173_118 (h : zAt sh o 2 x) : zRun 173 118 L (.int x :: .ref o :: S) sh mi mj mr = zRun 173 119 L (.long (mj o x.toNatClampNeg) :: S) sh mi mj mr := zr_lald (zD_of zk_173 d_173_118 rfl rfl) h
theorem q_173_119  : zRun 173 119 L S sh mi mj mr = zRun 173 129 L S sh mi mj mr := zr_go (off := 10) (zD_of zk_173 d_173_119 rfl rfl) rfl rfl (by decide)
theorem q_173_122r : zRun 173 122 [some (.ref o), l1, l2, l3] S sh mi mj mr = zRun 173 123 [some (.ref o), l1, l2, l3] (.ref o :: S) sh mi mj mr := zr_l (zD_of zk_173 d_173_122 rfl rfl) rfl rfl rfl
theorem q_173_122n : zRun 173 122 [some (.null), l1, l2, l3] S sh mi mj mr = zRun 173 123 [some (.null), l1, l2, l3] (.null :: S) sh mi mj mr := zr_l (zD_of zk_173 d_173_122 rfl rfl) rfl rfl rfl
theorem q_173_123 (h : zIs sh o 0 8) : zRun 173 123 L (.ref o :: S) sh mi mj mr = zRun 173 126 L (va_rf (mr o 10) :: S) sh mi mj mr := zr_getR (zD_of zk_173 d_173_123 rfl rfl) rfl rfl rfl h
theorem q_173_126  : zRun 173 126 L S sh mi mj mr = zRun 173 128 L (.int 15 :: S) sh mi mj mr := zr_p (zD_of zk_173 d_173_126 rfl rfl) rfl
theorem q_173_128 (h : zAt sh o 2 x) : zRun 173 128 L (.int x :: .ref o :: S) sh mi mj mr = zRun 173 129 L (.long (mj o x.toNatClampNeg) :: S) sh mi mj mr := zr_lald (zD_of zk_173 d_173_128 rfl rfl) h
theorem q_173_129  : zRun 173 129 L ([.long u]) sh mi mj mr = some (some (.long u), sh, mi, mj, mr) := zr_ret (zD_of zk_173 d_173_129 rfl rfl) rfl rfl rfl rfl rfl rfl
theorem e_173 {x0 x1 x2 : Int32} : zCall 173 [.ref o, .int x0, .int x1, .int x2] sh mi mj mr = zRun 173 0 [some (.ref o), some (.int x0), some (.int x1), some (.int x2)] [] sh mi mj mr := rfl
theorem d_174_0 : decode cX8_part 0 = .ok (.aload_n 0, 1) := by decide +kernel
theorem d_174_1 : decode cX8_part 1 = .ok (.iload_n 1, 1) := by decide +kernel
theorem d_174_2 : decode cX8_part 2 = .ok (.invokevirtual 146, 3) := by decide +kernel
theorem d_174_5 : decode cX8_part 5 = .ok (.ifCond .ne 7, 3) := by decide +kernel
theorem d_174_8 : decode cX8_part 8 = .ok (.ldc2_w 288, 3) := by decide +kernel
theorem d_174_11 : decode cX8_part 11 = .ok (.lreturn, 1) := by decide +kernel
theorem d_174_12 : decode cX8_part 12 = .ok (.iload_n 2, 1) := by decide +kernel
theorem d_174_13 : decode cX8_part 13 = .ok (.iconst 0, 1) := by decide +kernel
theorem d_174_14 : decode cX8_part 14 = .ok (.bipush 14, 2) := by decide +kernel
theorem d_174_16 : decode cX8_part 16 = .ok (.invokestatic 72, 3) := by decide +kernel
theorem d_174_19 : decode cX8_part 19 = .ok (.ifCond .ne 7, 3) := by decide +kernel
theorem d_174_22 : decode cX8_part 22 = .ok (.ldc2_w 290, 3) := by decide +kernel
theorem d_174_25 : decode cX8_part 25 = .ok (.lreturn, 1) := by decide +kernel
theorem d_174_26 : decode cX8_part 26 = .ok (.aload_n 0, 1) := by decide +kernel
theorem d_174_27 : decode cX8_part 27 = .ok (.iload_n 1, 1) := by decide +kernel
theorem d_174_28 : decode cX8_part 28 = .ok (.invokevirtual 285, 3) := by decide +kernel
theorem d_174_31 : decode cX8_part 31 = .ok (.aload_n 0, 1) := by decide +kernel
theorem d_174_32 : decode cX8_part 32 = .ok (.iconst 0, 1) := by decide +kernel
theorem d_174_33 : decode cX8_part 33 = .ok (.invokevirtual 251, 3) := by decide +kernel
theorem d_174_36 : decode cX8_part 36 = .ok (.ifCond .eq 7, 3) := by decide +kernel
theorem d_174_39 : decode cX8_part 39 = .ok (.ldc2_w 292, 3) := by decide +kernel
theorem d_174_42 : decode cX8_part 42 = .ok (.lreturn, 1) := by decide +kernel
theorem d_174_43 : decode cX8_part 43 = .ok (.iload_n 2, 1) := by decide +kernel
theorem d_174_44 : decode cX8_part 44 = .ok (.bipush 12, 2) := by decide +kernel
theorem d_174_46 : decode cX8_part 46 = .ok (.if_icmp .ge 14, 3) := by decide +kernel
theorem d_174_49 : decode cX8_part 49 = .ok (.aload_n 0, 1) := by decide +kernel
theorem d_174_50 : decode cX8_part 50 = .ok (.getfield 29, 3) := by decide +kernel
theorem d_174_53 : decode cX8_part 53 = .ok (.iconst 1, 1) := by decide +kernel
theorem d_174_54 : decode cX8_part 54 = .ok (.iload_n 2, 1) := by decide +kernel
theorem d_174_55 : decode cX8_part 55 = .ok (.iadd, 1) := by decide +kernel
theorem d_174_56 : decode cX8_part 56 = .ok (.laload, 1) := by decide +kernel
theorem d_174_57 : decode cX8_part 57 = .ok (.goto 39, 3) := by decide +kernel
theorem d_174_60 : decode cX8_part 60 = .ok (.iload_n 2, 1) := by decide +kernel
theorem d_174_61 : decode cX8_part 61 = .ok (.bipush 12, 2) := by decide +kernel
theorem d_174_63 : decode cX8_part 63 = .ok (.if_icmp .ne 12, 3) := by decide +kernel
theorem d_174_66 : decode cX8_part 66 = .ok (.aload_n 0, 1) := by decide +kernel
theorem d_174_67 : decode cX8_part 67 = .ok (.getfield 29, 3) := by decide +kernel
theorem d_174_70 : decode cX8_part 70 = .ok (.iconst 0, 1) := by decide +kernel
theorem d_174_71 : decode cX8_part 71 = .ok (.laload, 1) := by decide +kernel
theorem d_174_72 : decode cX8_part 72 = .ok (.goto 24, 3) := by decide +kernel
theorem d_174_75 : decode cX8_part 75 = .ok (.iload_n 2, 1) := by decide +kernel
theorem d_174_76 : decode cX8_part 76 = .ok (.bipush 13, 2) := by decide +kernel
theorem d_174_78 : decode cX8_part 78 = .ok (.if_icmp .ne 13, 3) := by decide +kernel
theorem d_174_81 : decode cX8_part 81 = .ok (.aload_n 0, 1) := by decide +kernel
theorem d_174_82 : decode cX8_part 82 = .ok (.getfield 29, 3) := by decide +kernel
theorem d_174_85 : decode cX8_part 85 = .ok (.bipush 13, 2) := by decide +kernel
theorem d_174_87 : decode cX8_part 87 = .ok (.laload, 1) := by decide +kernel
theorem d_174_88 : decode cX8_part 88 = .ok (.goto 8, 3) := by decide +kernel
theorem d_174_91 : decode cX8_part 91 = .ok (.aload_n 0, 1) := by decide +kernel
theorem d_174_92 : decode cX8_part 92 = .ok (.iconst 0, 1) := by decide +kernel
theorem d_174_93 : decode cX8_part 93 = .ok (.invokevirtual 153, 3) := by decide +kernel
theorem d_174_96 : decode cX8_part 96 = .ok (.lreturn, 1) := by decide +kernel
theorem q_174_0r : zRun 174 0 [some (.ref o), l1, l2] S sh mi mj mr = zRun 174 1 [some (.ref o), l1, l2] (.ref o :: S) sh mi mj mr := zr_l (zD_of zk_174 d_174_0 rfl rfl) rfl rfl rfl
theorem q_174_0n : zRun 174 0 [some (.null), l1, l2] S sh mi mj mr = zRun 174 1 [some (.null), l1, l2] (.null :: S) sh mi mj mr := zr_l (zD_of zk_174 d_174_0 rfl rfl) rfl rfl rfl
theorem q_174_1 : zRun 174 1 [l0, some (.int x), l2] S sh mi mj mr = zRun 174 2 [l0, some (.int x), l2] (.int x :: S) sh mi mj mr := zr_l (zD_of zk_174 d_174_1 rfl rfl) rfl rfl rfl
theorem q_174_2  {x0 : Int32} (hS : zcat S ≤ 8) (h : zIs sh o 0 8) : zRun 174 2 L (.int x0 :: .ref o :: S) sh mi mj mr = (zCall 113 [.ref o, .int x0] sh mi mj mr).bind fun r => zRun 174 5 L (r.1.toList ++ S) r.2.1 r.2.2.1 r.2.2.2.1 r.2.2.2.2 := zr_V (zD_of zk_174 d_174_2 rfl rfl) rfl zk_113 rfl rfl rfl hS h
theorem q_174_5  : zRun 174 5 L (.int x :: S) sh mi mj mr = if ¬ x = 0 then zRun 174 12 L S sh mi mj mr else zRun 174 8 L S sh mi mj mr := zr_if (off := 7) (P := ¬ x = 0) (zD_of zk_174 d_174_5 rfl rfl) rfl rfl (by decide)
theorem q_174_8  : zRun 174 8 L S sh mi mj mr = zRun 174 11 L (.long (-1000000000000000001) :: S) sh mi mj mr := zr_k64 (zD_of zk_174 d_174_8 rfl rfl) rfl
theorem q_174_11  : zRun 174 11 L ([.long u]) sh mi mj mr = some (some (.long u), sh, mi, mj, mr) := zr_ret (zD_of zk_174 d_174_11 rfl rfl) rfl rfl rfl rfl rfl rfl
theorem q_174_12 : zRun 174 12 [l0, l1, some (.int x)] S sh mi mj mr = zRun 174 13 [l0, l1, some (.int x)] (.int x :: S) sh mi mj mr := zr_l (zD_of zk_174 d_174_12 rfl rfl) rfl rfl rfl
theorem q_174_13  : zRun 174 13 L S sh mi mj mr = zRun 174 14 L (.int 0 :: S) sh mi mj mr := zr_p (zD_of zk_174 d_174_13 rfl rfl) rfl
theorem q_174_14  : zRun 174 14 L S sh mi mj mr = zRun 174 16 L (.int 14 :: S) sh mi mj mr := zr_p (zD_of zk_174 d_174_14 rfl rfl) rfl
theorem q_174_16  {x0 x1 x2 : Int32} (hS : zcat S ≤ 8) : zRun 174 16 L (.int x2 :: .int x1 :: .int x0 :: S) sh mi mj mr = (zCall 111 [.int x0, .int x1, .int x2] sh mi mj mr).bind fun r => zRun 174 19 L (r.1.toList ++ S) r.2.1 r.2.2.1 r.2.2.2.1 r.2.2.2.2 := zr_S (zD_of zk_174 d_174_16 rfl rfl) rfl zk_111 rfl rfl rfl hS
theorem q_174_19  : zRun 174 19 L (.int x :: S) sh mi mj mr = if ¬ x = 0 then zRun 174 26 L S sh mi mj mr else zRun 174 22 L S sh mi mj mr := zr_if (off := 7) (P := ¬ x = 0) (zD_of zk_174 d_174_19 rfl rfl) rfl rfl (by decide)
theorem q_174_22  : zRun 174 22 L S sh mi mj mr = zRun 174 25 L (.long (-1000000000000000002) :: S) sh mi mj mr := zr_k64 (zD_of zk_174 d_174_22 rfl rfl) rfl
theorem q_174_25  : zRun 174 25 L ([.long u]) sh mi mj mr = some (some (.long u), sh, mi, mj, mr) := zr_ret (zD_of zk_174 d_174_25 rfl rfl) rfl rfl rfl rfl rfl rfl
theorem q_174_26r : zRun 174 26 [some (.ref o), l1, l2] S sh mi mj mr = zRun 174 27 [some (.ref o), l1, l2] (.ref o :: S) sh mi mj mr := zr_l (zD_of zk_174 d_174_26 rfl rfl) rfl rfl rfl
theorem q_174_26n : zRun 174 26 [some (.null), l1, l2] S sh mi mj mr = zRun 174 27 [some (.null), l1, l2] (.null :: S) sh mi mj mr := zr_l (zD_of zk_174 d_174_26 rfl rfl) rfl rfl rfl
theorem q_174_27 : zRun 174 27 [l0, some (.int x), l2] S sh mi mj mr = zRun 174 28 [l0, some (.int x), l2] (.int x :: S) sh mi mj mr := zr_l (zD_of zk_174 d_174_27 rfl rfl) rfl rfl rfl
theorem q_174_28  {x0 : Int32} (hS : zcat S ≤ 8) (h : zIs sh o 0 8) : zRun 174 28 L (.int x0 :: .ref o :: S) sh mi mj mr = (zCall 171 [.ref o, .int x0] sh mi mj mr).bind fun r => zRun 174 31 L (r.1.toList ++ S) r.2.1 r.2.2.1 r.2.2.2.1 r.2.2.2.2 := zr_V (zD_of zk_174 d_174_28 rfl rfl) rfl zk_171 rfl rfl rfl hS h
theorem q_174_31r : zRun 174 31 [some (.ref o), l1, l2] S sh mi mj mr = zRun 174 32 [some (.ref o), l1, l2] (.ref o :: S) sh mi mj mr := zr_l (zD_of zk_174 d_174_31 rfl rfl) rfl rfl rfl
theorem q_174_31n : zRun 174 31 [some (.null), l1, l2] S sh mi mj mr = zRun 174 32 [some (.null), l1, l2] (.null :: S) sh mi mj mr := zr_l (zD_of zk_174 d_174_31 rfl rfl) rfl rfl rfl
theorem q_174_32  : zRun 174 32 L S sh mi mj mr = zRun 174 33 L (.int 0 :: S) sh mi mj mr := zr_p (zD_of zk_174 d_174_32 rfl rfl) rfl
theorem q_174_33  {x0 : Int32} (hS : zcat S ≤ 8) (h : zIs sh o 0 8) : zRun 174 33 L (.int x0 :: .ref o :: S) sh mi mj mr = (zCall 141 [.ref o, .int x0] sh mi mj mr).bind fun r => zRun 174 36 L (r.1.toList ++ S) r.2.1 r.2.2.1 r.2.2.2.1 r.2.2.2.2 := zr_V (zD_of zk_174 d_174_33 rfl rfl) rfl zk_141 rfl rfl rfl hS h
theorem q_174_36  : zRun 174 36 L (.int x :: S) sh mi mj mr = if x = 0 then zRun 174 43 L S sh mi mj mr else zRun 174 39 L S sh mi mj mr := zr_if (off := 7) (P := x = 0) (zD_of zk_174 d_174_36 rfl rfl) rfl rfl (by decide)
theorem q_174_39  : zRun 174 39 L S sh mi mj mr = zRun 174 42 L (.long (-1000000000000000005) :: S) sh mi mj mr := zr_k64 (zD_of zk_174 d_174_39 rfl rfl) rfl
theorem q_174_42  : zRun 174 42 L ([.long u]) sh mi mj mr = some (some (.long u), sh, mi, mj, mr) := zr_ret (zD_of zk_174 d_174_42 rfl rfl) rfl rfl rfl rfl rfl rfl
theorem q_174_43 : zRun 174 43 [l0, l1, some (.int x)] S sh mi mj mr = zRun 174 44 [l0, l1, some (.int x)] (.int x :: S) sh mi mj mr := zr_l (zD_of zk_174 d_174_43 rfl rfl) rfl rfl rfl
theorem q_174_44  : zRun 174 44 L S sh mi mj mr = zRun 174 46 L (.int 12 :: S) sh mi mj mr := zr_p (zD_of zk_174 d_174_44 rfl rfl) rfl
theorem q_174_46  : zRun 174 46 L (.int y :: .int x :: S) sh mi mj mr = if y ≤ x then zRun 174 60 L S sh mi mj mr else zRun 174 49 L S sh mi mj mr := zr_if (off := 14) (P := y ≤ x) (zD_of zk_174 d_174_46 rfl rfl) rfl rfl (by decide)
theorem q_174_49r : zRun 174 49 [some (.ref o), l1, l2] S sh mi mj mr = zRun 174 50 [some (.ref o), l1, l2] (.ref o :: S) sh mi mj mr := zr_l (zD_of zk_174 d_174_49 rfl rfl) rfl rfl rfl
theorem q_174_49n : zRun 174 49 [some (.null), l1, l2] S sh mi mj mr = zRun 174 50 [some (.null), l1, l2] (.null :: S) sh mi mj mr := zr_l (zD_of zk_174 d_174_49 rfl rfl) rfl rfl rfl
theorem q_174_50 (h : zIs sh o 0 8) : zRun 174 50 L (.ref o :: S) sh mi mj mr = zRun 174 53 L (va_rf (mr o 10) :: S) sh mi mj mr := zr_getR (zD_of zk_174 d_174_50 rfl rfl) rfl rfl rfl h
theorem q_174_53  : zRun 174 53 L S sh mi mj mr = zRun 174 54 L (.int 1 :: S) sh mi mj mr := zr_p (zD_of zk_174 d_174_53 rfl rfl) rfl
theorem q_174_54 : zRun 174 54 [l0, l1, some (.int x)] S sh mi mj mr = zRun 174 55 [l0, l1, some (.int x)] (.int x :: S) sh mi mj mr := zr_l (zD_of zk_174 d_174_54 rfl rfl) rfl rfl rfl
theorem q_174_55  : zRun 174 55 L (.int y :: .int x :: S) sh mi mj mr = zRun 174 56 L (.int (x + y) :: S) sh mi mj mr := zr_p (zD_of zk_174 d_174_55 rfl rfl) rfl
theorem q_174_56 (h : zAt sh o 2 x) : zRun 174 56 L (.int x :: .ref o :: S) sh mi mj mr = zRun 174 57 L (.long (mj o x.toNatClampNeg) :: S) sh mi mj mr := zr_lald (zD_of zk_174 d_174_56 rfl rfl) h
theorem q_174_57  : zRun 174 57 L S sh mi mj mr = zRun 174 96 L S sh mi mj mr := zr_go (off := 39) (zD_of zk_174 d_174_57 rfl rfl) rfl rfl (by decide)
theorem q_174_60 : zRun 174 60 [l0, l1, some (.int x)] S sh mi mj mr = zRun 174 61 [l0, l1, some (.int x)] (.int x :: S) sh mi mj mr := zr_l (zD_of zk_174 d_174_60 rfl rfl) rfl rfl rfl
theorem q_174_61  : zRun 174 61 L S sh mi mj mr = zRun 174 63 L (.int 12 :: S) sh mi mj mr := zr_p (zD_of zk_174 d_174_61 rfl rfl) rfl
theorem q_174_63  : zRun 174 63 L (.int y :: .int x :: S) sh mi mj mr = if ¬ x = y then zRun 174 75 L S sh mi mj mr else zRun 174 66 L S sh mi mj mr := zr_if (off := 12) (P := ¬ x = y) (zD_of zk_174 d_174_63 rfl rfl) rfl rfl (by decide)
theorem q_174_66r : zRun 174 66 [some (.ref o), l1, l2] S sh mi mj mr = zRun 174 67 [some (.ref o), l1, l2] (.ref o :: S) sh mi mj mr := zr_l (zD_of zk_174 d_174_66 rfl rfl) rfl rfl rfl
theorem q_174_66n : zRun 174 66 [some (.null), l1, l2] S sh mi mj mr = zRun 174 67 [some (.null), l1, l2] (.null :: S) sh mi mj mr := zr_l (zD_of zk_174 d_174_66 rfl rfl) rfl rfl rfl
theorem q_174_67 (h : zIs sh o 0 8) : zRun 174 67 L (.ref o :: S) sh mi mj mr = zRun 174 70 L (va_rf (mr o 10) :: S) sh mi mj mr := zr_getR (zD_of zk_174 d_174_67 rfl rfl) rfl rfl rfl h
theorem q_174_70  : zRun 174 70 L S sh mi mj mr = zRun 174 71 L (.int 0 :: S) sh mi mj mr := zr_p (zD_of zk_174 d_174_70 rfl rfl) rfl
theorem q_174_71 (h : zAt sh o 2 x) : zRun 174 71 L (.int x :: .ref o :: S) sh mi mj mr = zRun 174 72 L (.long (mj o x.toNatClampNeg) :: S) sh mi mj mr := zr_lald (zD_of zk_174 d_174_71 rfl rfl) h
theorem q_174_72  : zRun 174 72 L S sh mi mj mr = zRun 174 96 L S sh mi mj mr := zr_go (off := 24) (zD_of zk_174 d_174_72 rfl rfl) rfl rfl (by decide)
theorem q_174_75 : zRun 174 75 [l0, l1, some (.int x)] S sh mi mj mr = zRun 174 76 [l0, l1, some (.int x)] (.int x :: S) sh mi mj mr := zr_l (zD_of zk_174 d_174_75 rfl rfl) rfl rfl rfl
theorem q_174_76  : zRun 174 76 L S sh mi mj mr = zRun 174 78 L (.int 13 :: S) sh mi mj mr := zr_p (zD_of zk_174 d_174_76 rfl rfl) rfl
theorem q_174_78  : zRun 174 78 L (.int y :: .int x :: S) sh mi mj mr = if ¬ x = y then zRun 174 91 L S sh mi mj mr else zRun 174 81 L S sh mi mj mr := zr_if (off := 13) (P := ¬ x = y) (zD_of zk_174 d_174_78 rfl rfl) rfl rfl (by decide)
theorem q_174_81r : zRun 174 81 [some (.ref o), l1, l2] S sh mi mj mr = zRun 174 82 [some (.ref o), l1, l2] (.ref o :: S) sh mi mj mr := zr_l (zD_of zk_174 d_174_81 rfl rfl) rfl rfl rfl
theorem q_174_81n : zRun 174 81 [some (.null), l1, l2] S sh mi mj mr = zRun 174 82 [some (.null), l1, l2] (.null :: S) sh mi mj mr := zr_l (zD_of zk_174 d_174_81 rfl rfl) rfl rfl rfl
theorem q_174_82 (h : zIs sh o 0 8) : zRun 174 82 L (.ref o :: S) sh mi mj mr = zRun 174 85 L (va_rf (mr o 10) :: S) sh mi mj mr := zr_getR (zD_of zk_174 d_174_82 rfl rfl) rfl rfl rfl h
theorem q_174_85  : zRun 174 85 L S sh mi mj mr = zRun 174 87 L (.int 13 :: S) sh mi mj mr := zr_p (zD_of zk_174 d_174_85 rfl rfl) rfl
theorem q_174_87 (h : zAt sh o 2 x) : zRun 174 87 L (.int x :: .ref o :: S) sh mi mj mr = zRun 174 88 L (.long (mj o x.toNatClampNeg) :: S) sh mi mj mr := zr_lald (zD_of zk_174 d_174_87 rfl rfl) h
theorem q_174_88  : zRun 174 88 L S sh mi mj mr = zRun 174 96 L S sh mi mj mr := zr_go (off := 8) (zD_of zk_174 d_174_88 rfl rfl) rfl rfl (by decide)
theorem q_174_91r : zRun 174 91 [some (.ref o), l1, l2] S sh mi mj mr = zRun 174 92 [some (.ref o), l1, l2] (.ref o :: S) sh mi mj mr := zr_l (zD_of zk_174 d_174_91 rfl rfl) rfl rfl rfl
theorem q_174_91n : zRun 174 91 [some (.null), l1, l2] S sh mi mj mr = zRun 174 92 [some (.null), l1, l2] (.null :: S) sh mi mj mr := zr_l (zD_of zk_174 d_174_91 rfl rfl) rfl rfl rfl
theorem q_174_92  : zRun 174 92 L S sh mi mj mr = zRun 174 93 L (.int 0 :: S) sh mi mj mr := zr_p (zD_of zk_174 d_174_92 rfl rfl) rfl
theorem q_174_93  {x0 : Int32} (hS : zcat S ≤ 8) (h : zIs sh o 0 8) : zRun 174 93 L (.int x0 :: .ref o :: S) sh mi mj mr = (zCall 138 [.ref o, .int x0] sh mi mj mr).bind fun r => zRun 174 96 L (r.1.toList ++ S) r.2.1 r.2.2.1 r.2.2.2.1 r.2.2.2.2 := zr_V (zD_of zk_174 d_174_93 rfl rfl) rfl zk_138 rfl rfl rfl hS h
theorem q_174_96  : zRun 174 96 L ([.long u]) sh mi mj mr = some (some (.long u), sh, mi, mj, mr) := zr_ret (zD_of zk_174 d_174_96 rfl rfl) rfl rfl rfl rfl rfl rfl
theorem e_174 {x0 x1 : Int32} : zCall 174 [.ref o, .int x0, .int x1] sh mi mj mr = zRun 174 0 [some (.ref o), some (.int x0), some (.int x1)] [] sh mi mj mr := rfl
theorem d_175_0 : decode cX8_trace 0 = .ok (.aload_n 0, 1) := by decide +kernel
theorem d_175_1 : decode cX8_trace 1 = .ok (.iload_n 1, 1) := by decide +kernel
theorem d_175_2 : decode cX8_trace 2 = .ok (.invokevirtual 146, 3) := by decide +kernel
theorem d_175_5 : decode cX8_trace 5 = .ok (.ifCond .eq 22, 3) := by decide +kernel
theorem d_175_8 : decode cX8_trace 8 = .ok (.iload_n 2, 1) := by decide +kernel
theorem d_175_9 : decode cX8_trace 9 = .ok (.iconst 0, 1) := by decide +kernel
theorem d_175_10 : decode cX8_trace 10 = .ok (.aload_n 0, 1) := by decide +kernel
theorem d_175_11 : decode cX8_trace 11 = .ok (.getfield 7, 3) := by decide +kernel
theorem d_175_14 : decode cX8_trace 14 = .ok (.bipush 9, 2) := by decide +kernel
theorem d_175_16 : decode cX8_trace 16 = .ok (.iload_n 1, 1) := by decide +kernel
theorem d_175_17 : decode cX8_trace 17 = .ok (.iadd, 1) := by decide +kernel
theorem d_175_18 : decode cX8_trace 18 = .ok (.iaload, 1) := by decide +kernel
theorem d_175_19 : decode cX8_trace 19 = .ok (.iconst 1, 1) := by decide +kernel
theorem d_175_20 : decode cX8_trace 20 = .ok (.isub, 1) := by decide +kernel
theorem d_175_21 : decode cX8_trace 21 = .ok (.invokestatic 72, 3) := by decide +kernel
theorem d_175_24 : decode cX8_trace 24 = .ok (.ifCond .ne 7, 3) := by decide +kernel
theorem d_175_27 : decode cX8_trace 27 = .ok (.ldc2_w 288, 3) := by decide +kernel
theorem d_175_30 : decode cX8_trace 30 = .ok (.lreturn, 1) := by decide +kernel
theorem d_175_31 : decode cX8_trace 31 = .ok (.iload_n 3, 1) := by decide +kernel
theorem d_175_32 : decode cX8_trace 32 = .ok (.invokestatic 82, 3) := by decide +kernel
theorem d_175_35 : decode cX8_trace 35 = .ok (.ifCond .ne 7, 3) := by decide +kernel
theorem d_175_38 : decode cX8_trace 38 = .ok (.ldc2_w 290, 3) := by decide +kernel
theorem d_175_41 : decode cX8_trace 41 = .ok (.lreturn, 1) := by decide +kernel
theorem d_175_42 : decode cX8_trace 42 = .ok (.aload_n 0, 1) := by decide +kernel
theorem d_175_43 : decode cX8_trace 43 = .ok (.iload_n 1, 1) := by decide +kernel
theorem d_175_44 : decode cX8_trace 44 = .ok (.invokevirtual 285, 3) := by decide +kernel
theorem d_175_47 : decode cX8_trace 47 = .ok (.aload_n 0, 1) := by decide +kernel
theorem d_175_48 : decode cX8_trace 48 = .ok (.getfield 51, 3) := by decide +kernel
theorem d_175_51 : decode cX8_trace 51 = .ok (.iload_n 2, 1) := by decide +kernel
theorem d_175_52 : decode cX8_trace 52 = .ok (.baload, 1) := by decide +kernel
theorem d_175_53 : decode cX8_trace 53 = .ok (.ifCond .eq 9, 3) := by decide +kernel
theorem d_175_56 : decode cX8_trace 56 = .ok (.ldc2_w 292, 3) := by decide +kernel
theorem d_175_59 : decode cX8_trace 59 = .ok (.goto 22, 3) := by decide +kernel
theorem d_175_62 : decode cX8_trace 62 = .ok (.iload_n 3, 1) := by decide +kernel
theorem d_175_63 : decode cX8_trace 63 = .ok (.ifCond .ne 12, 3) := by decide +kernel
theorem d_175_66 : decode cX8_trace 66 = .ok (.aload_n 0, 1) := by decide +kernel
theorem d_175_67 : decode cX8_trace 67 = .ok (.getfield 45, 3) := by decide +kernel
theorem d_175_70 : decode cX8_trace 70 = .ok (.iload_n 2, 1) := by decide +kernel
theorem d_175_71 : decode cX8_trace 71 = .ok (.laload, 1) := by decide +kernel
theorem d_175_72 : decode cX8_trace 72 = .ok (.goto 9, 3) := by decide +kernel
theorem d_175_75 : decode cX8_trace 75 = .ok (.aload_n 0, 1) := by decide +kernel
theorem d_175_76 : decode cX8_trace 76 = .ok (.getfield 48, 3) := by decide +kernel
theorem d_175_79 : decode cX8_trace 79 = .ok (.iload_n 2, 1) := by decide +kernel
theorem d_175_80 : decode cX8_trace 80 = .ok (.laload, 1) := by decide +kernel
theorem d_175_81 : decode cX8_trace 81 = .ok (.lreturn, 1) := by decide +kernel
theorem q_175_0r : zRun 175 0 [some (.ref o), l1, l2, l3] S sh mi mj mr = zRun 175 1 [some (.ref o), l1, l2, l3] (.ref o :: S) sh mi mj mr := zr_l (zD_of zk_175 d_175_0 rfl rfl) rfl rfl rfl
theorem q_175_0n : zRun 175 0 [some (.null), l1, l2, l3] S sh mi mj mr = zRun 175 1 [some (.null), l1, l2, l3] (.null :: S) sh mi mj mr := zr_l (zD_of zk_175 d_175_0 rfl rfl) rfl rfl rfl
theorem q_175_1 : zRun 175 1 [l0, some (.int x), l2, l3] S sh mi mj mr = zRun 175 2 [l0, some (.int x), l2, l3] (.int x :: S) sh mi mj mr := zr_l (zD_of zk_175 d_175_1 rfl rfl) rfl rfl rfl
theorem q_175_2  {x0 : Int32} (hS : zcat S ≤ 8) (h : zIs sh o 0 8) : zRun 175 2 L (.int x0 :: .ref o :: S) sh mi mj mr = (zCall 113 [.ref o, .int x0] sh mi mj mr).bind fun r => zRun 175 5 L (r.1.toList ++ S) r.2.1 r.2.2.1 r.2.2.2.1 r.2.2.2.2 := zr_V (zD_of zk_175 d_175_2 rfl rfl) rfl zk_113 rfl rfl rfl hS h
theorem q_175_5  : zRun 175 5 L (.int x :: S) sh mi mj mr = if x = 0 then zRun 175 27 L S sh mi mj mr else zRun 175 8 L S sh mi mj mr := zr_if (off := 22) (P := x = 0) (zD_of zk_175 d_175_5 rfl rfl) rfl rfl (by decide)
theorem q_175_8 : zRun 175 8 [l0, l1, some (.int x), l3] S sh mi mj mr = zRun 175 9 [l0, l1, some (.int x), l3] (.int x :: S) sh mi mj mr := zr_l (zD_of zk_175 d_175_8 rfl rfl) rfl rfl rfl
theorem q_175_9  : zRun 175 9 L S sh mi mj mr = zRun 175 10 L (.int 0 :: S) sh mi mj mr := zr_p (zD_of zk_175 d_175_9 rfl rfl) rfl
theorem q_175_10r : zRun 175 10 [some (.ref o), l1, l2, l3] S sh mi mj mr = zRun 175 11 [some (.ref o), l1, l2, l3] (.ref o :: S) sh mi mj mr := zr_l (zD_of zk_175 d_175_10 rfl rfl) rfl rfl rfl
theorem q_175_10n : zRun 175 10 [some (.null), l1, l2, l3] S sh mi mj mr = zRun 175 11 [some (.null), l1, l2, l3] (.null :: S) sh mi mj mr := zr_l (zD_of zk_175 d_175_10 rfl rfl) rfl rfl rfl
theorem q_175_11 (h : zIs sh o 0 8) : zRun 175 11 L (.ref o :: S) sh mi mj mr = zRun 175 14 L (va_rf (mr o 0) :: S) sh mi mj mr := zr_getR (zD_of zk_175 d_175_11 rfl rfl) rfl rfl rfl h
theorem q_175_14  : zRun 175 14 L S sh mi mj mr = zRun 175 16 L (.int 9 :: S) sh mi mj mr := zr_p (zD_of zk_175 d_175_14 rfl rfl) rfl
theorem q_175_16 : zRun 175 16 [l0, some (.int x), l2, l3] S sh mi mj mr = zRun 175 17 [l0, some (.int x), l2, l3] (.int x :: S) sh mi mj mr := zr_l (zD_of zk_175 d_175_16 rfl rfl) rfl rfl rfl
theorem q_175_17  : zRun 175 17 L (.int y :: .int x :: S) sh mi mj mr = zRun 175 18 L (.int (x + y) :: S) sh mi mj mr := zr_p (zD_of zk_175 d_175_17 rfl rfl) rfl
theorem q_175_18 (h : zAt sh o 1 x) : zRun 175 18 L (.int x :: .ref o :: S) sh mi mj mr = zRun 175 19 L (.int (mi o x.toNatClampNeg) :: S) sh mi mj mr := zr_iald (zD_of zk_175 d_175_18 rfl rfl) h
theorem q_175_19  : zRun 175 19 L S sh mi mj mr = zRun 175 20 L (.int 1 :: S) sh mi mj mr := zr_p (zD_of zk_175 d_175_19 rfl rfl) rfl
theorem q_175_20  : zRun 175 20 L (.int y :: .int x :: S) sh mi mj mr = zRun 175 21 L (.int (x - y) :: S) sh mi mj mr := zr_p (zD_of zk_175 d_175_20 rfl rfl) rfl
theorem q_175_21  {x0 x1 x2 : Int32} (hS : zcat S ≤ 8) : zRun 175 21 L (.int x2 :: .int x1 :: .int x0 :: S) sh mi mj mr = (zCall 111 [.int x0, .int x1, .int x2] sh mi mj mr).bind fun r => zRun 175 24 L (r.1.toList ++ S) r.2.1 r.2.2.1 r.2.2.2.1 r.2.2.2.2 := zr_S (zD_of zk_175 d_175_21 rfl rfl) rfl zk_111 rfl rfl rfl hS
theorem q_175_24  : zRun 175 24 L (.int x :: S) sh mi mj mr = if ¬ x = 0 then zRun 175 31 L S sh mi mj mr else zRun 175 27 L S sh mi mj mr := zr_if (off := 7) (P := ¬ x = 0) (zD_of zk_175 d_175_24 rfl rfl) rfl rfl (by decide)
theorem q_175_27  : zRun 175 27 L S sh mi mj mr = zRun 175 30 L (.long (-1000000000000000001) :: S) sh mi mj mr := zr_k64 (zD_of zk_175 d_175_27 rfl rfl) rfl
theorem q_175_30  : zRun 175 30 L ([.long u]) sh mi mj mr = some (some (.long u), sh, mi, mj, mr) := zr_ret (zD_of zk_175 d_175_30 rfl rfl) rfl rfl rfl rfl rfl rfl
theorem q_175_31 : zRun 175 31 [l0, l1, l2, some (.int x)] S sh mi mj mr = zRun 175 32 [l0, l1, l2, some (.int x)] (.int x :: S) sh mi mj mr := zr_l (zD_of zk_175 d_175_31 rfl rfl) rfl rfl rfl
theorem q_175_32  {x0 : Int32} (hS : zcat S ≤ 8) : zRun 175 32 L (.int x0 :: S) sh mi mj mr = (zCall 114 [.int x0] sh mi mj mr).bind fun r => zRun 175 35 L (r.1.toList ++ S) r.2.1 r.2.2.1 r.2.2.2.1 r.2.2.2.2 := zr_S (zD_of zk_175 d_175_32 rfl rfl) rfl zk_114 rfl rfl rfl hS
theorem q_175_35  : zRun 175 35 L (.int x :: S) sh mi mj mr = if ¬ x = 0 then zRun 175 42 L S sh mi mj mr else zRun 175 38 L S sh mi mj mr := zr_if (off := 7) (P := ¬ x = 0) (zD_of zk_175 d_175_35 rfl rfl) rfl rfl (by decide)
theorem q_175_38  : zRun 175 38 L S sh mi mj mr = zRun 175 41 L (.long (-1000000000000000002) :: S) sh mi mj mr := zr_k64 (zD_of zk_175 d_175_38 rfl rfl) rfl
theorem q_175_41  : zRun 175 41 L ([.long u]) sh mi mj mr = some (some (.long u), sh, mi, mj, mr) := zr_ret (zD_of zk_175 d_175_41 rfl rfl) rfl rfl rfl rfl rfl rfl
theorem q_175_42r : zRun 175 42 [some (.ref o), l1, l2, l3] S sh mi mj mr = zRun 175 43 [some (.ref o), l1, l2, l3] (.ref o :: S) sh mi mj mr := zr_l (zD_of zk_175 d_175_42 rfl rfl) rfl rfl rfl
theorem q_175_42n : zRun 175 42 [some (.null), l1, l2, l3] S sh mi mj mr = zRun 175 43 [some (.null), l1, l2, l3] (.null :: S) sh mi mj mr := zr_l (zD_of zk_175 d_175_42 rfl rfl) rfl rfl rfl
theorem q_175_43 : zRun 175 43 [l0, some (.int x), l2, l3] S sh mi mj mr = zRun 175 44 [l0, some (.int x), l2, l3] (.int x :: S) sh mi mj mr := zr_l (zD_of zk_175 d_175_43 rfl rfl) rfl rfl rfl
theorem q_175_44  {x0 : Int32} (hS : zcat S ≤ 8) (h : zIs sh o 0 8) : zRun 175 44 L (.int x0 :: .ref o :: S) sh mi mj mr = (zCall 171 [.ref o, .int x0] sh mi mj mr).bind fun r => zRun 175 47 L (r.1.toList ++ S) r.2.1 r.2.2.1 r.2.2.2.1 r.2.2.2.2 := zr_V (zD_of zk_175 d_175_44 rfl rfl) rfl zk_171 rfl rfl rfl hS h
theorem q_175_47r : zRun 175 47 [some (.ref o), l1, l2, l3] S sh mi mj mr = zRun 175 48 [some (.ref o), l1, l2, l3] (.ref o :: S) sh mi mj mr := zr_l (zD_of zk_175 d_175_47 rfl rfl) rfl rfl rfl
theorem q_175_47n : zRun 175 47 [some (.null), l1, l2, l3] S sh mi mj mr = zRun 175 48 [some (.null), l1, l2, l3] (.null :: S) sh mi mj mr := zr_l (zD_of zk_175 d_175_47 rfl rfl) rfl rfl rfl
theorem q_175_48 (h : zIs sh o 0 8) : zRun 175 48 L (.ref o :: S) sh mi mj mr = zRun 175 51 L (va_rf (mr o 20) :: S) sh mi mj mr := zr_getR (zD_of zk_175 d_175_48 rfl rfl) rfl rfl rfl h
theorem q_175_51 : zRun 175 51 [l0, l1, some (.int x), l3] S sh mi mj mr = zRun 175 52 [l0, l1, some (.int x), l3] (.int x :: S) sh mi mj mr := zr_l (zD_of zk_175 d_175_51 rfl rfl) rfl rfl rfl
theorem q_175_52 (h : zAt sh o 4 x) : zRun 175 52 L (.int x :: .ref o :: S) sh mi mj mr = zRun 175 53 L (.int (mi o x.toNatClampNeg) :: S) sh mi mj mr := zr_bald (zD_of zk_175 d_175_52 rfl rfl) h
theorem q_175_53  : zRun 175 53 L (.int x :: S) sh mi mj mr = if x = 0 then zRun 175 62 L S sh mi mj mr else zRun 175 56 L S sh mi mj mr := zr_if (off := 9) (P := x = 0) (zD_of zk_175 d_175_53 rfl rfl) rfl rfl (by decide)
theorem q_175_56  : zRun 175 56 L S sh mi mj mr = zRun 175 59 L (.long (-1000000000000000005) :: S) sh mi mj mr := zr_k64 (zD_of zk_175 d_175_56 rfl rfl) rfl
theorem q_175_59  : zRun 175 59 L S sh mi mj mr = zRun 175 81 L S sh mi mj mr := zr_go (off := 22) (zD_of zk_175 d_175_59 rfl rfl) rfl rfl (by decide)
theorem q_175_62 : zRun 175 62 [l0, l1, l2, some (.int x)] S sh mi mj mr = zRun 175 63 [l0, l1, l2, some (.int x)] (.int x :: S) sh mi mj mr := zr_l (zD_of zk_175 d_175_62 rfl rfl) rfl rfl rfl
theorem q_175_63  : zRun 175 63 L (.int x :: S) sh mi mj mr = if ¬ x = 0 then zRun 175 75 L S sh mi mj mr else zRun 175 66 L S sh mi mj mr := zr_if (off := 12) (P := ¬ x = 0) (zD_of zk_175 d_175_63 rfl rfl) rfl rfl (by decide)
theorem q_175_66r : zRun 175 66 [some (.ref o), l1, l2, l3] S sh mi mj mr = zRun 175 67 [some (.ref o), l1, l2, l3] (.ref o :: S) sh mi mj mr := zr_l (zD_of zk_175 d_175_66 rfl rfl) rfl rfl rfl
theorem q_175_66n : zRun 175 66 [some (.null), l1, l2, l3] S sh mi mj mr = zRun 175 67 [some (.null), l1, l2, l3] (.null :: S) sh mi mj mr := zr_l (zD_of zk_175 d_175_66 rfl rfl) rfl rfl rfl
theorem q_175_67 (h : zIs sh o 0 8) : zRun 175 67 L (.ref o :: S) sh mi mj mr = zRun 175 70 L (va_rf (mr o 18) :: S) sh mi mj mr := zr_getR (zD_of zk_175 d_175_67 rfl rfl) rfl rfl rfl h
theorem q_175_70 : zRun 175 70 [l0, l1, some (.int x), l3] S sh mi mj mr = zRun 175 71 [l0, l1, some (.int x), l3] (.int x :: S) sh mi mj mr := zr_l (zD_of zk_175 d_175_70 rfl rfl) rfl rfl rfl
theorem q_175_71 (h : zAt sh o 2 x) : zRun 175 71 L (.int x :: .ref o :: S) sh mi mj mr = zRun 175 72 L (.long (mj o x.toNatClampNeg) :: S) sh mi mj mr := zr_lald (zD_of zk_175 d_175_71 rfl rfl) h
theorem q_175_72  : zRun 175 72 L S sh mi mj mr = zRun 175 81 L S sh mi mj mr := zr_go (off := 9) (zD_of zk_175 d_175_72 rfl rfl) rfl rfl (by decide)
theorem q_175_75r : zRun 175 75 [some (.ref o), l1, l2, l3] S sh mi mj mr = zRun 175 76 [some (.ref o), l1, l2, l3] (.ref o :: S) sh mi mj mr := zr_l (zD_of zk_175 d_175_75 rfl rfl) rfl rfl rfl
theorem q_175_75n : zRun 175 75 [some (.null), l1, l2, l3] S sh mi mj mr = zRun 175 76 [some (.null), l1, l2, l3] (.null :: S) sh mi mj mr := zr_l (zD_of zk_175 d_175_75 rfl rfl) rfl rfl rfl
theorem q_175_76 (h : zIs sh o 0 8) : zRun 175 76 L (.ref o :: S) sh mi mj mr = zRun 175 79 L (va_rf (mr o 19) :: S) sh mi mj mr := zr_getR (zD_of zk_175 d_175_76 rfl rfl) rfl rfl rfl h
theorem q_175_79 : zRun 175 79 [l0, l1, some (.int x), l3] S sh mi mj mr = zRun 175 80 [l0, l1, some (.int x), l3] (.int x :: S) sh mi mj mr := zr_l (zD_of zk_175 d_175_79 rfl rfl) rfl rfl rfl
theorem q_175_80 (h : zAt sh o 2 x) : zRun 175 80 L (.int x :: .ref o :: S) sh mi mj mr = zRun 175 81 L (.long (mj o x.toNatClampNeg) :: S) sh mi mj mr := zr_lald (zD_of zk_175 d_175_80 rfl rfl) h
theorem q_175_81  : zRun 175 81 L ([.long u]) sh mi mj mr = some (some (.long u), sh, mi, mj, mr) := zr_ret (zD_of zk_175 d_175_81 rfl rfl) rfl rfl rfl rfl rfl rfl
theorem e_175 {x0 x1 x2 : Int32} : zCall 175 [.ref o, .int x0, .int x1, .int x2] sh mi mj mr = zRun 175 0 [some (.ref o), some (.int x0), some (.int x1), some (.int x2)] [] sh mi mj mr := rfl
theorem d_176_0 : decode cX8_dominant 0 = .ok (.aload_n 0, 1) := by decide +kernel
theorem d_176_1 : decode cX8_dominant 1 = .ok (.iload_n 1, 1) := by decide +kernel
theorem d_176_2 : decode cX8_dominant 2 = .ok (.invokevirtual 146, 3) := by decide +kernel
theorem d_176_5 : decode cX8_dominant 5 = .ok (.ifCond .ne 5, 3) := by decide +kernel
theorem d_176_8 : decode cX8_dominant 8 = .ok (.iconst (-1), 1) := by decide +kernel
theorem d_176_9 : decode cX8_dominant 9 = .ok (.ireturn, 1) := by decide +kernel
theorem d_176_10 : decode cX8_dominant 10 = .ok (.aload_n 0, 1) := by decide +kernel
theorem d_176_11 : decode cX8_dominant 11 = .ok (.iload_n 1, 1) := by decide +kernel
theorem d_176_12 : decode cX8_dominant 12 = .ok (.invokevirtual 285, 3) := by decide +kernel
theorem d_176_15 : decode cX8_dominant 15 = .ok (.aload_n 0, 1) := by decide +kernel
theorem d_176_16 : decode cX8_dominant 16 = .ok (.iconst 0, 1) := by decide +kernel
theorem d_176_17 : decode cX8_dominant 17 = .ok (.invokevirtual 251, 3) := by decide +kernel
theorem d_176_20 : decode cX8_dominant 20 = .ok (.ifCond .eq 6, 3) := by decide +kernel
theorem d_176_23 : decode cX8_dominant 23 = .ok (.bipush (-5), 2) := by decide +kernel
theorem d_176_25 : decode cX8_dominant 25 = .ok (.ireturn, 1) := by decide +kernel
theorem d_176_26 : decode cX8_dominant 26 = .ok (.bipush (-6), 2) := by decide +kernel
theorem d_176_28 : decode cX8_dominant 28 = .ok (.istore_n 2, 1) := by decide +kernel
theorem d_176_29 : decode cX8_dominant 29 = .ok (.lconst 0, 1) := by decide +kernel
theorem d_176_30 : decode cX8_dominant 30 = .ok (.lstore_n 3, 1) := by decide +kernel
theorem d_176_31 : decode cX8_dominant 31 = .ok (.iconst 0, 1) := by decide +kernel
theorem d_176_32 : decode cX8_dominant 32 = .ok (.istore 5, 2) := by decide +kernel
theorem d_176_34 : decode cX8_dominant 34 = .ok (.iload 5, 2) := by decide +kernel
theorem d_176_36 : decode cX8_dominant 36 = .ok (.iconst 4, 1) := by decide +kernel
theorem d_176_37 : decode cX8_dominant 37 = .ok (.if_icmp .ge 44, 3) := by decide +kernel
theorem d_176_40 : decode cX8_dominant 40 = .ok (.aload_n 0, 1) := by decide +kernel
theorem d_176_41 : decode cX8_dominant 41 = .ok (.getfield 29, 3) := by decide +kernel
theorem d_176_44 : decode cX8_dominant 44 = .ok (.iconst 1, 1) := by decide +kernel
theorem d_176_45 : decode cX8_dominant 45 = .ok (.iload 5, 2) := by decide +kernel
theorem d_176_47 : decode cX8_dominant 47 = .ok (.iadd, 1) := by decide +kernel
theorem d_176_48 : decode cX8_dominant 48 = .ok (.laload, 1) := by decide +kernel
theorem d_176_49 : decode cX8_dominant 49 = .ok (.invokestatic 149, 3) := by decide +kernel
theorem d_176_52 : decode cX8_dominant 52 = .ok (.lstore 6, 2) := by decide +kernel
theorem d_176_54 : decode cX8_dominant 54 = .ok (.lload 6, 2) := by decide +kernel
theorem d_176_56 : decode cX8_dominant 56 = .ok (.lload_n 3, 1) := by decide +kernel
theorem d_176_57 : decode cX8_dominant 57 = .ok (.lcmp, 1) := by decide +kernel
theorem d_176_58 : decode cX8_dominant 58 = .ok (.ifCond .le 8, 3) := by decide +kernel
theorem d_176_61 : decode cX8_dominant 61 = .ok (.iload 5, 2) := by decide +kernel
theorem d_176_63 : decode cX8_dominant 63 = .ok (.goto 4, 3) := by decide +kernel
theorem d_176_66 : decode cX8_dominant 66 = .ok (.iload_n 2, 1) := by decide +kernel
theorem d_176_67 : decode cX8_dominant 67 = .ok (.istore_n 2, 1) := by decide +kernel
theorem d_176_68 : decode cX8_dominant 68 = .ok (.lload 6, 2) := by decide +kernel
theorem d_176_70 : decode cX8_dominant 70 = .ok (.lload_n 3, 1) := by decide +kernel
theorem d_176_71 : decode cX8_dominant 71 = .ok (.invokestatic 178, 3) := by decide +kernel
theorem d_176_74 : decode cX8_dominant 74 = .ok (.lstore_n 3, 1) := by decide +kernel
theorem d_176_75 : decode cX8_dominant 75 = .ok (.iinc 5 1, 3) := by decide +kernel
theorem d_176_78 : decode cX8_dominant 78 = .ok (.goto (-44), 3) := by decide +kernel
theorem d_176_81 : decode cX8_dominant 81 = .ok (.iload_n 2, 1) := by decide +kernel
theorem d_176_82 : decode cX8_dominant 82 = .ok (.ireturn, 1) := by decide +kernel
theorem q_176_0r : zRun 176 0 [some (.ref o), l1, l2, l3, l4, l5, l6, l7] S sh mi mj mr = zRun 176 1 [some (.ref o), l1, l2, l3, l4, l5, l6, l7] (.ref o :: S) sh mi mj mr := zr_l (zD_of zk_176 d_176_0 rfl rfl) rfl rfl rfl
theorem q_176_0n : zRun 176 0 [some (.null), l1, l2, l3, l4, l5, l6, l7] S sh mi mj mr = zRun 176 1 [some (.null), l1, l2, l3, l4, l5, l6, l7] (.null :: S) sh mi mj mr := zr_l (zD_of zk_176 d_176_0 rfl rfl) rfl rfl rfl
theorem q_176_1 : zRun 176 1 [l0, some (.int x), l2, l3, l4, l5, l6, l7] S sh mi mj mr = zRun 176 2 [l0, some (.int x), l2, l3, l4, l5, l6, l7] (.int x :: S) sh mi mj mr := zr_l (zD_of zk_176 d_176_1 rfl rfl) rfl rfl rfl
theorem q_176_2  {x0 : Int32} (hS : zcat S ≤ 8) (h : zIs sh o 0 8) : zRun 176 2 L (.int x0 :: .ref o :: S) sh mi mj mr = (zCall 113 [.ref o, .int x0] sh mi mj mr).bind fun r => zRun 176 5 L (r.1.toList ++ S) r.2.1 r.2.2.1 r.2.2.2.1 r.2.2.2.2 := zr_V (zD_of zk_176 d_176_2 rfl rfl) rfl zk_113 rfl rfl rfl hS h
theorem q_176_5  : zRun 176 5 L (.int x :: S) sh mi mj mr = if ¬ x = 0 then zRun 176 10 L S sh mi mj mr else zRun 176 8 L S sh mi mj mr := zr_if (off := 5) (P := ¬ x = 0) (zD_of zk_176 d_176_5 rfl rfl) rfl rfl (by decide)
theorem q_176_8  : zRun 176 8 L S sh mi mj mr = zRun 176 9 L (.int (-1) :: S) sh mi mj mr := zr_p (zD_of zk_176 d_176_8 rfl rfl) rfl
theorem q_176_9  : zRun 176 9 L ([.int x]) sh mi mj mr = some (some (.int x), sh, mi, mj, mr) := zr_ret (zD_of zk_176 d_176_9 rfl rfl) rfl rfl rfl rfl rfl (if_pos rfl)
theorem q_176_10r : zRun 176 10 [some (.ref o), l1, l2, l3, l4, l5, l6, l7] S sh mi mj mr = zRun 176 11 [some (.ref o), l1, l2, l3, l4, l5, l6, l7] (.ref o :: S) sh mi mj mr := zr_l (zD_of zk_176 d_176_10 rfl rfl) rfl rfl rfl
theorem q_176_10n : zRun 176 10 [some (.null), l1, l2, l3, l4, l5, l6, l7] S sh mi mj mr = zRun 176 11 [some (.null), l1, l2, l3, l4, l5, l6, l7] (.null :: S) sh mi mj mr := zr_l (zD_of zk_176 d_176_10 rfl rfl) rfl rfl rfl
theorem q_176_11 : zRun 176 11 [l0, some (.int x), l2, l3, l4, l5, l6, l7] S sh mi mj mr = zRun 176 12 [l0, some (.int x), l2, l3, l4, l5, l6, l7] (.int x :: S) sh mi mj mr := zr_l (zD_of zk_176 d_176_11 rfl rfl) rfl rfl rfl
theorem q_176_12  {x0 : Int32} (hS : zcat S ≤ 8) (h : zIs sh o 0 8) : zRun 176 12 L (.int x0 :: .ref o :: S) sh mi mj mr = (zCall 171 [.ref o, .int x0] sh mi mj mr).bind fun r => zRun 176 15 L (r.1.toList ++ S) r.2.1 r.2.2.1 r.2.2.2.1 r.2.2.2.2 := zr_V (zD_of zk_176 d_176_12 rfl rfl) rfl zk_171 rfl rfl rfl hS h
theorem q_176_15r : zRun 176 15 [some (.ref o), l1, l2, l3, l4, l5, l6, l7] S sh mi mj mr = zRun 176 16 [some (.ref o), l1, l2, l3, l4, l5, l6, l7] (.ref o :: S) sh mi mj mr := zr_l (zD_of zk_176 d_176_15 rfl rfl) rfl rfl rfl
theorem q_176_15n : zRun 176 15 [some (.null), l1, l2, l3, l4, l5, l6, l7] S sh mi mj mr = zRun 176 16 [some (.null), l1, l2, l3, l4, l5, l6, l7] (.null :: S) sh mi mj mr := zr_l (zD_of zk_176 d_176_15 rfl rfl) rfl rfl rfl
theorem q_176_16  : zRun 176 16 L S sh mi mj mr = zRun 176 17 L (.int 0 :: S) sh mi mj mr := zr_p (zD_of zk_176 d_176_16 rfl rfl) rfl
theorem q_176_17  {x0 : Int32} (hS : zcat S ≤ 8) (h : zIs sh o 0 8) : zRun 176 17 L (.int x0 :: .ref o :: S) sh mi mj mr = (zCall 141 [.ref o, .int x0] sh mi mj mr).bind fun r => zRun 176 20 L (r.1.toList ++ S) r.2.1 r.2.2.1 r.2.2.2.1 r.2.2.2.2 := zr_V (zD_of zk_176 d_176_17 rfl rfl) rfl zk_141 rfl rfl rfl hS h
theorem q_176_20  : zRun 176 20 L (.int x :: S) sh mi mj mr = if x = 0 then zRun 176 26 L S sh mi mj mr else zRun 176 23 L S sh mi mj mr := zr_if (off := 6) (P := x = 0) (zD_of zk_176 d_176_20 rfl rfl) rfl rfl (by decide)
theorem q_176_23  : zRun 176 23 L S sh mi mj mr = zRun 176 25 L (.int (-5) :: S) sh mi mj mr := zr_p (zD_of zk_176 d_176_23 rfl rfl) rfl
theorem q_176_25  : zRun 176 25 L ([.int x]) sh mi mj mr = some (some (.int x), sh, mi, mj, mr) := zr_ret (zD_of zk_176 d_176_25 rfl rfl) rfl rfl rfl rfl rfl (if_pos rfl)
theorem q_176_26  : zRun 176 26 L S sh mi mj mr = zRun 176 28 L (.int (-6) :: S) sh mi mj mr := zr_p (zD_of zk_176 d_176_26 rfl rfl) rfl
theorem q_176_28 : zRun 176 28 [l0, l1, l2, l3, l4, l5, l6, l7] (.int x :: S) sh mi mj mr = zRun 176 29 [l0, zk2 l1, some (.int x), l3, l4, l5, l6, l7] S sh mi mj mr := zr_s1 (i := 2) (v := .int x) (L := [l0, l1, l2, l3, l4, l5, l6, l7]) (zD_of zk_176 d_176_28 rfl rfl) rfl rfl rfl rfl
theorem q_176_29  : zRun 176 29 L S sh mi mj mr = zRun 176 30 L (.long 0 :: S) sh mi mj mr := zr_p (zD_of zk_176 d_176_29 rfl rfl) rfl
theorem q_176_30 : zRun 176 30 [l0, l1, l2, l3, l4, l5, l6, l7] (.long u :: S) sh mi mj mr = zRun 176 31 [l0, l1, zk2 l2, some (.long u), none, l5, l6, l7] S sh mi mj mr := zr_s2 (i := 3) (v := .long u) (L := [l0, l1, l2, l3, l4, l5, l6, l7]) (zD_of zk_176 d_176_30 rfl rfl) rfl rfl rfl rfl
theorem q_176_31  : zRun 176 31 L S sh mi mj mr = zRun 176 32 L (.int 0 :: S) sh mi mj mr := zr_p (zD_of zk_176 d_176_31 rfl rfl) rfl
theorem q_176_32 : zRun 176 32 [l0, l1, l2, l3, l4, l5, l6, l7] (.int x :: S) sh mi mj mr = zRun 176 34 [l0, l1, l2, l3, zk2 l4, some (.int x), l6, l7] S sh mi mj mr := zr_s1 (i := 5) (v := .int x) (L := [l0, l1, l2, l3, l4, l5, l6, l7]) (zD_of zk_176 d_176_32 rfl rfl) rfl rfl rfl rfl
theorem q_176_34 : zRun 176 34 [l0, l1, l2, l3, l4, some (.int x), l6, l7] S sh mi mj mr = zRun 176 36 [l0, l1, l2, l3, l4, some (.int x), l6, l7] (.int x :: S) sh mi mj mr := zr_l (zD_of zk_176 d_176_34 rfl rfl) rfl rfl rfl
theorem q_176_36  : zRun 176 36 L S sh mi mj mr = zRun 176 37 L (.int 4 :: S) sh mi mj mr := zr_p (zD_of zk_176 d_176_36 rfl rfl) rfl
theorem q_176_37  : zRun 176 37 L (.int y :: .int x :: S) sh mi mj mr = if y ≤ x then zRun 176 81 L S sh mi mj mr else zRun 176 40 L S sh mi mj mr := zr_if (off := 44) (P := y ≤ x) (zD_of zk_176 d_176_37 rfl rfl) rfl rfl (by decide)
theorem q_176_40r : zRun 176 40 [some (.ref o), l1, l2, l3, l4, l5, l6, l7] S sh mi mj mr = zRun 176 41 [some (.ref o), l1, l2, l3, l4, l5, l6, l7] (.ref o :: S) sh mi mj mr := zr_l (zD_of zk_176 d_176_40 rfl rfl) rfl rfl rfl
theorem q_176_40n : zRun 176 40 [some (.null), l1, l2, l3, l4, l5, l6, l7] S sh mi mj mr = zRun 176 41 [some (.null), l1, l2, l3, l4, l5, l6, l7] (.null :: S) sh mi mj mr := zr_l (zD_of zk_176 d_176_40 rfl rfl) rfl rfl rfl
theorem q_176_41 (h : zIs sh o 0 8) : zRun 176 41 L (.ref o :: S) sh mi mj mr = zRun 176 44 L (va_rf (mr o 10) :: S) sh mi mj mr := zr_getR (zD_of zk_176 d_176_41 rfl rfl) rfl rfl rfl h
theorem q_176_44  : zRun 176 44 L S sh mi mj mr = zRun 176 45 L (.int 1 :: S) sh mi mj mr := zr_p (zD_of zk_176 d_176_44 rfl rfl) rfl
theorem q_176_45 : zRun 176 45 [l0, l1, l2, l3, l4, some (.int x), l6, l7] S sh mi mj mr = zRun 176 47 [l0, l1, l2, l3, l4, some (.int x), l6, l7] (.int x :: S) sh mi mj mr := zr_l (zD_of zk_176 d_176_45 rfl rfl) rfl rfl rfl
theorem q_176_47  : zRun 176 47 L (.int y :: .int x :: S) sh mi mj mr = zRun 176 48 L (.int (x + y) :: S) sh mi mj mr := zr_p (zD_of zk_176 d_176_47 rfl rfl) rfl
theorem q_176_48 (h : zAt sh o 2 x) : zRun 176 48 L (.int x :: .ref o :: S) sh mi mj mr = zRun 176 49 L (.long (mj o x.toNatClampNeg) :: S) sh mi mj mr := zr_lald (zD_of zk_176 d_176_48 rfl rfl) h
theorem q_176_49  {u0 : Int64} (hS : zcat S ≤ 8) : zRun 176 49 L (.long u0 :: S) sh mi mj mr = (zCall 137 [.long u0] sh mi mj mr).bind fun r => zRun 176 52 L (r.1.toList ++ S) r.2.1 r.2.2.1 r.2.2.2.1 r.2.2.2.2 := zr_S (zD_of zk_176 d_176_49 rfl rfl) rfl zk_137 rfl rfl rfl hS
theorem q_176_52 : zRun 176 52 [l0, l1, l2, l3, l4, l5, l6, l7] (.long u :: S) sh mi mj mr = zRun 176 54 [l0, l1, l2, l3, l4, zk2 l5, some (.long u), none] S sh mi mj mr := zr_s2 (i := 6) (v := .long u) (L := [l0, l1, l2, l3, l4, l5, l6, l7]) (zD_of zk_176 d_176_52 rfl rfl) rfl rfl rfl rfl
theorem q_176_54 : zRun 176 54 [l0, l1, l2, l3, l4, l5, some (.long u), l7] S sh mi mj mr = zRun 176 56 [l0, l1, l2, l3, l4, l5, some (.long u), l7] (.long u :: S) sh mi mj mr := zr_l (zD_of zk_176 d_176_54 rfl rfl) rfl rfl rfl
theorem q_176_56 : zRun 176 56 [l0, l1, l2, some (.long u), l4, l5, l6, l7] S sh mi mj mr = zRun 176 57 [l0, l1, l2, some (.long u), l4, l5, l6, l7] (.long u :: S) sh mi mj mr := zr_l (zD_of zk_176 d_176_56 rfl rfl) rfl rfl rfl
theorem q_176_57  : zRun 176 57 L (.long v :: .long u :: S) sh mi mj mr = if u ≤ v then zRun 176 66 L S sh mi mj mr else zRun 176 61 L S sh mi mj mr := zr_cmp (off := 8) (zD_of zk_176 d_176_57 rfl rfl) (zD_of zk_176 d_176_58 rfl rfl) rfl rfl (by decide) (lg_cmp_le u v)
theorem q_176_58  : zRun 176 58 L (.int x :: S) sh mi mj mr = if x ≤ 0 then zRun 176 66 L S sh mi mj mr else zRun 176 61 L S sh mi mj mr := zr_if (off := 8) (P := x ≤ 0) (zD_of zk_176 d_176_58 rfl rfl) rfl rfl (by decide)
theorem q_176_61 : zRun 176 61 [l0, l1, l2, l3, l4, some (.int x), l6, l7] S sh mi mj mr = zRun 176 63 [l0, l1, l2, l3, l4, some (.int x), l6, l7] (.int x :: S) sh mi mj mr := zr_l (zD_of zk_176 d_176_61 rfl rfl) rfl rfl rfl
theorem q_176_63  : zRun 176 63 L S sh mi mj mr = zRun 176 67 L S sh mi mj mr := zr_go (off := 4) (zD_of zk_176 d_176_63 rfl rfl) rfl rfl (by decide)
theorem q_176_66 : zRun 176 66 [l0, l1, some (.int x), l3, l4, l5, l6, l7] S sh mi mj mr = zRun 176 67 [l0, l1, some (.int x), l3, l4, l5, l6, l7] (.int x :: S) sh mi mj mr := zr_l (zD_of zk_176 d_176_66 rfl rfl) rfl rfl rfl
theorem q_176_67 : zRun 176 67 [l0, l1, l2, l3, l4, l5, l6, l7] (.int x :: S) sh mi mj mr = zRun 176 68 [l0, zk2 l1, some (.int x), l3, l4, l5, l6, l7] S sh mi mj mr := zr_s1 (i := 2) (v := .int x) (L := [l0, l1, l2, l3, l4, l5, l6, l7]) (zD_of zk_176 d_176_67 rfl rfl) rfl rfl rfl rfl
theorem q_176_68 : zRun 176 68 [l0, l1, l2, l3, l4, l5, some (.long u), l7] S sh mi mj mr = zRun 176 70 [l0, l1, l2, l3, l4, l5, some (.long u), l7] (.long u :: S) sh mi mj mr := zr_l (zD_of zk_176 d_176_68 rfl rfl) rfl rfl rfl
theorem q_176_70 : zRun 176 70 [l0, l1, l2, some (.long u), l4, l5, l6, l7] S sh mi mj mr = zRun 176 71 [l0, l1, l2, some (.long u), l4, l5, l6, l7] (.long u :: S) sh mi mj mr := zr_l (zD_of zk_176 d_176_70 rfl rfl) rfl rfl rfl
theorem q_176_71  {u0 u1 : Int64} (hS : zcat S ≤ 8) : zRun 176 71 L (.long u1 :: .long u0 :: S) sh mi mj mr = (zCall 151 [.long u0, .long u1] sh mi mj mr).bind fun r => zRun 176 74 L (r.1.toList ++ S) r.2.1 r.2.2.1 r.2.2.2.1 r.2.2.2.2 := zr_S (zD_of zk_176 d_176_71 rfl rfl) rfl zk_151 rfl rfl rfl hS
theorem q_176_74 : zRun 176 74 [l0, l1, l2, l3, l4, l5, l6, l7] (.long u :: S) sh mi mj mr = zRun 176 75 [l0, l1, zk2 l2, some (.long u), none, l5, l6, l7] S sh mi mj mr := zr_s2 (i := 3) (v := .long u) (L := [l0, l1, l2, l3, l4, l5, l6, l7]) (zD_of zk_176 d_176_74 rfl rfl) rfl rfl rfl rfl
theorem q_176_75  : zRun 176 75 [l0, l1, l2, l3, l4, some (.int x), l6, l7] S sh mi mj mr = zRun 176 78 [l0, l1, l2, l3, zk2 l4, some (.int (x + 1)), l6, l7] S sh mi mj mr := zr_s1 (i := 5) (v := .int (x + 1)) (L := [l0, l1, l2, l3, l4, some (.int x), l6, l7]) (zD_of zk_176 d_176_75 rfl rfl) rfl rfl rfl rfl
theorem q_176_78  : zRun 176 78 L S sh mi mj mr = zRun 176 34 L S sh mi mj mr := zr_go (off := (-44)) (zD_of zk_176 d_176_78 rfl rfl) rfl rfl (by decide)
theorem q_176_81 : zRun 176 81 [l0, l1, some (.int x), l3, l4, l5, l6, l7] S sh mi mj mr = zRun 176 82 [l0, l1, some (.int x), l3, l4, l5, l6, l7] (.int x :: S) sh mi mj mr := zr_l (zD_of zk_176 d_176_81 rfl rfl) rfl rfl rfl
theorem q_176_82  : zRun 176 82 L ([.int x]) sh mi mj mr = some (some (.int x), sh, mi, mj, mr) := zr_ret (zD_of zk_176 d_176_82 rfl rfl) rfl rfl rfl rfl rfl (if_pos rfl)
theorem e_176 {x0 : Int32} : zCall 176 [.ref o, .int x0] sh mi mj mr = zRun 176 0 [some (.ref o), some (.int x0), none, none, none, none, none, none] [] sh mi mj mr := rfl
theorem d_177_0 : decode cX8_gain 0 = .ok (.aload_n 0, 1) := by decide +kernel
theorem d_177_1 : decode cX8_gain 1 = .ok (.iload_n 1, 1) := by decide +kernel
theorem d_177_2 : decode cX8_gain 2 = .ok (.invokevirtual 146, 3) := by decide +kernel
theorem d_177_5 : decode cX8_gain 5 = .ok (.ifCond .ne 7, 3) := by decide +kernel
theorem d_177_8 : decode cX8_gain 8 = .ok (.ldc2_w 288, 3) := by decide +kernel
theorem d_177_11 : decode cX8_gain 11 = .ok (.lreturn, 1) := by decide +kernel
theorem d_177_12 : decode cX8_gain 12 = .ok (.aload_n 0, 1) := by decide +kernel
theorem d_177_13 : decode cX8_gain 13 = .ok (.iload_n 1, 1) := by decide +kernel
theorem d_177_14 : decode cX8_gain 14 = .ok (.invokevirtual 285, 3) := by decide +kernel
theorem d_177_17 : decode cX8_gain 17 = .ok (.aload_n 0, 1) := by decide +kernel
theorem d_177_18 : decode cX8_gain 18 = .ok (.iconst 0, 1) := by decide +kernel
theorem d_177_19 : decode cX8_gain 19 = .ok (.invokevirtual 251, 3) := by decide +kernel
theorem d_177_22 : decode cX8_gain 22 = .ok (.ifCond .eq 9, 3) := by decide +kernel
theorem d_177_25 : decode cX8_gain 25 = .ok (.ldc2_w 292, 3) := by decide +kernel
theorem d_177_28 : decode cX8_gain 28 = .ok (.goto 28, 3) := by decide +kernel
theorem d_177_31 : decode cX8_gain 31 = .ok (.aload_n 0, 1) := by decide +kernel
theorem d_177_32 : decode cX8_gain 32 = .ok (.getfield 29, 3) := by decide +kernel
theorem d_177_35 : decode cX8_gain 35 = .ok (.bipush 15, 2) := by decide +kernel
theorem d_177_37 : decode cX8_gain 37 = .ok (.laload, 1) := by decide +kernel
theorem d_177_38 : decode cX8_gain 38 = .ok (.aload_n 0, 1) := by decide +kernel
theorem d_177_39 : decode cX8_gain 39 = .ok (.getfield 29, 3) := by decide +kernel
theorem d_177_42 : decode cX8_gain 42 = .ok (.bipush 14, 2) := by decide +kernel
theorem d_177_44 : decode cX8_gain 44 = .ok (.laload, 1) := by decide +kernel
theorem d_177_45 : decode cX8_gain 45 = .ok (.lsub, 1) := by decide +kernel
theorem d_177_46 : decode cX8_gain 46 = .ok (.ldc2_w 185, 3) := by decide +kernel
theorem d_177_49 : decode cX8_gain 49 = .ok (.aload_n 0, 1) := by decide +kernel
theorem d_177_50 : decode cX8_gain 50 = .ok (.iconst 0, 1) := by decide +kernel
theorem d_177_51 : decode cX8_gain 51 = .ok (.invokevirtual 153, 3) := by decide +kernel
theorem d_177_54 : decode cX8_gain 54 = .ok (.lmul, 1) := by decide +kernel
theorem d_177_55 : decode cX8_gain 55 = .ok (.lsub, 1) := by decide +kernel
theorem d_177_56 : decode cX8_gain 56 = .ok (.lreturn, 1) := by decide +kernel
theorem q_177_0r : zRun 177 0 [some (.ref o), l1] S sh mi mj mr = zRun 177 1 [some (.ref o), l1] (.ref o :: S) sh mi mj mr := zr_l (zD_of zk_177 d_177_0 rfl rfl) rfl rfl rfl
theorem q_177_0n : zRun 177 0 [some (.null), l1] S sh mi mj mr = zRun 177 1 [some (.null), l1] (.null :: S) sh mi mj mr := zr_l (zD_of zk_177 d_177_0 rfl rfl) rfl rfl rfl
theorem q_177_1 : zRun 177 1 [l0, some (.int x)] S sh mi mj mr = zRun 177 2 [l0, some (.int x)] (.int x :: S) sh mi mj mr := zr_l (zD_of zk_177 d_177_1 rfl rfl) rfl rfl rfl
theorem q_177_2  {x0 : Int32} (hS : zcat S ≤ 8) (h : zIs sh o 0 8) : zRun 177 2 L (.int x0 :: .ref o :: S) sh mi mj mr = (zCall 113 [.ref o, .int x0] sh mi mj mr).bind fun r => zRun 177 5 L (r.1.toList ++ S) r.2.1 r.2.2.1 r.2.2.2.1 r.2.2.2.2 := zr_V (zD_of zk_177 d_177_2 rfl rfl) rfl zk_113 rfl rfl rfl hS h
theorem q_177_5  : zRun 177 5 L (.int x :: S) sh mi mj mr = if ¬ x = 0 then zRun 177 12 L S sh mi mj mr else zRun 177 8 L S sh mi mj mr := zr_if (off := 7) (P := ¬ x = 0) (zD_of zk_177 d_177_5 rfl rfl) rfl rfl (by decide)
theorem q_177_8  : zRun 177 8 L S sh mi mj mr = zRun 177 11 L (.long (-1000000000000000001) :: S) sh mi mj mr := zr_k64 (zD_of zk_177 d_177_8 rfl rfl) rfl
theorem q_177_11  : zRun 177 11 L ([.long u]) sh mi mj mr = some (some (.long u), sh, mi, mj, mr) := zr_ret (zD_of zk_177 d_177_11 rfl rfl) rfl rfl rfl rfl rfl rfl
theorem q_177_12r : zRun 177 12 [some (.ref o), l1] S sh mi mj mr = zRun 177 13 [some (.ref o), l1] (.ref o :: S) sh mi mj mr := zr_l (zD_of zk_177 d_177_12 rfl rfl) rfl rfl rfl
theorem q_177_12n : zRun 177 12 [some (.null), l1] S sh mi mj mr = zRun 177 13 [some (.null), l1] (.null :: S) sh mi mj mr := zr_l (zD_of zk_177 d_177_12 rfl rfl) rfl rfl rfl
theorem q_177_13 : zRun 177 13 [l0, some (.int x)] S sh mi mj mr = zRun 177 14 [l0, some (.int x)] (.int x :: S) sh mi mj mr := zr_l (zD_of zk_177 d_177_13 rfl rfl) rfl rfl rfl
theorem q_177_14  {x0 : Int32} (hS : zcat S ≤ 8) (h : zIs sh o 0 8) : zRun 177 14 L (.int x0 :: .ref o :: S) sh mi mj mr = (zCall 171 [.ref o, .int x0] sh mi mj mr).bind fun r => zRun 177 17 L (r.1.toList ++ S) r.2.1 r.2.2.1 r.2.2.2.1 r.2.2.2.2 := zr_V (zD_of zk_177 d_177_14 rfl rfl) rfl zk_171 rfl rfl rfl hS h
theorem q_177_17r : zRun 177 17 [some (.ref o), l1] S sh mi mj mr = zRun 177 18 [some (.ref o), l1] (.ref o :: S) sh mi mj mr := zr_l (zD_of zk_177 d_177_17 rfl rfl) rfl rfl rfl
theorem q_177_17n : zRun 177 17 [some (.null), l1] S sh mi mj mr = zRun 177 18 [some (.null), l1] (.null :: S) sh mi mj mr := zr_l (zD_of zk_177 d_177_17 rfl rfl) rfl rfl rfl
theorem q_177_18  : zRun 177 18 L S sh mi mj mr = zRun 177 19 L (.int 0 :: S) sh mi mj mr := zr_p (zD_of zk_177 d_177_18 rfl rfl) rfl
theorem q_177_19  {x0 : Int32} (hS : zcat S ≤ 8) (h : zIs sh o 0 8) : zRun 177 19 L (.int x0 :: .ref o :: S) sh mi mj mr = (zCall 141 [.ref o, .int x0] sh mi mj mr).bind fun r => zRun 177 22 L (r.1.toList ++ S) r.2.1 r.2.2.1 r.2.2.2.1 r.2.2.2.2 := zr_V (zD_of zk_177 d_177_19 rfl rfl) rfl zk_141 rfl rfl rfl hS h
theorem q_177_22  : zRun 177 22 L (.int x :: S) sh mi mj mr = if x = 0 then zRun 177 31 L S sh mi mj mr else zRun 177 25 L S sh mi mj mr := zr_if (off := 9) (P := x = 0) (zD_of zk_177 d_177_22 rfl rfl) rfl rfl (by decide)
theorem q_177_25  : zRun 177 25 L S sh mi mj mr = zRun 177 28 L (.long (-1000000000000000005) :: S) sh mi mj mr := zr_k64 (zD_of zk_177 d_177_25 rfl rfl) rfl
theorem q_177_28  : zRun 177 28 L S sh mi mj mr = zRun 177 56 L S sh mi mj mr := zr_go (off := 28) (zD_of zk_177 d_177_28 rfl rfl) rfl rfl (by decide)
theorem q_177_31r : zRun 177 31 [some (.ref o), l1] S sh mi mj mr = zRun 177 32 [some (.ref o), l1] (.ref o :: S) sh mi mj mr := zr_l (zD_of zk_177 d_177_31 rfl rfl) rfl rfl rfl
theorem q_177_31n : zRun 177 31 [some (.null), l1] S sh mi mj mr = zRun 177 32 [some (.null), l1] (.null :: S) sh mi mj mr := zr_l (zD_of zk_177 d_177_31 rfl rfl) rfl rfl rfl
theorem q_177_32 (h : zIs sh o 0 8) : zRun 177 32 L (.ref o :: S) sh mi mj mr = zRun 177 35 L (va_rf (mr o 10) :: S) sh mi mj mr := zr_getR (zD_of zk_177 d_177_32 rfl rfl) rfl rfl rfl h
theorem q_177_35  : zRun 177 35 L S sh mi mj mr = zRun 177 37 L (.int 15 :: S) sh mi mj mr := zr_p (zD_of zk_177 d_177_35 rfl rfl) rfl
theorem q_177_37 (h : zAt sh o 2 x) : zRun 177 37 L (.int x :: .ref o :: S) sh mi mj mr = zRun 177 38 L (.long (mj o x.toNatClampNeg) :: S) sh mi mj mr := zr_lald (zD_of zk_177 d_177_37 rfl rfl) h
theorem q_177_38r : zRun 177 38 [some (.ref o), l1] S sh mi mj mr = zRun 177 39 [some (.ref o), l1] (.ref o :: S) sh mi mj mr := zr_l (zD_of zk_177 d_177_38 rfl rfl) rfl rfl rfl
theorem q_177_38n : zRun 177 38 [some (.null), l1] S sh mi mj mr = zRun 177 39 [some (.null), l1] (.null :: S) sh mi mj mr := zr_l (zD_of zk_177 d_177_38 rfl rfl) rfl rfl rfl
theorem q_177_39 (h : zIs sh o 0 8) : zRun 177 39 L (.ref o :: S) sh mi mj mr = zRun 177 42 L (va_rf (mr o 10) :: S) sh mi mj mr := zr_getR (zD_of zk_177 d_177_39 rfl rfl) rfl rfl rfl h
theorem q_177_42  : zRun 177 42 L S sh mi mj mr = zRun 177 44 L (.int 14 :: S) sh mi mj mr := zr_p (zD_of zk_177 d_177_42 rfl rfl) rfl
theorem q_177_44 (h : zAt sh o 2 x) : zRun 177 44 L (.int x :: .ref o :: S) sh mi mj mr = zRun 177 45 L (.long (mj o x.toNatClampNeg) :: S) sh mi mj mr := zr_lald (zD_of zk_177 d_177_44 rfl rfl) h
theorem q_177_45  : zRun 177 45 L (.long v :: .long u :: S) sh mi mj mr = zRun 177 46 L (.long (u - v) :: S) sh mi mj mr := zr_p (zD_of zk_177 d_177_45 rfl rfl) rfl
theorem q_177_46  : zRun 177 46 L S sh mi mj mr = zRun 177 49 L (.long 2 :: S) sh mi mj mr := zr_k64 (zD_of zk_177 d_177_46 rfl rfl) rfl
theorem q_177_49r : zRun 177 49 [some (.ref o), l1] S sh mi mj mr = zRun 177 50 [some (.ref o), l1] (.ref o :: S) sh mi mj mr := zr_l (zD_of zk_177 d_177_49 rfl rfl) rfl rfl rfl
theorem q_177_49n : zRun 177 49 [some (.null), l1] S sh mi mj mr = zRun 177 50 [some (.null), l1] (.null :: S) sh mi mj mr := zr_l (zD_of zk_177 d_177_49 rfl rfl) rfl rfl rfl
theorem q_177_50  : zRun 177 50 L S sh mi mj mr = zRun 177 51 L (.int 0 :: S) sh mi mj mr := zr_p (zD_of zk_177 d_177_50 rfl rfl) rfl
theorem q_177_51  {x0 : Int32} (hS : zcat S ≤ 8) (h : zIs sh o 0 8) : zRun 177 51 L (.int x0 :: .ref o :: S) sh mi mj mr = (zCall 138 [.ref o, .int x0] sh mi mj mr).bind fun r => zRun 177 54 L (r.1.toList ++ S) r.2.1 r.2.2.1 r.2.2.2.1 r.2.2.2.2 := zr_V (zD_of zk_177 d_177_51 rfl rfl) rfl zk_138 rfl rfl rfl hS h
theorem q_177_54  : zRun 177 54 L (.long v :: .long u :: S) sh mi mj mr = zRun 177 55 L (.long (u * v) :: S) sh mi mj mr := zr_p (zD_of zk_177 d_177_54 rfl rfl) rfl
theorem q_177_55  : zRun 177 55 L (.long v :: .long u :: S) sh mi mj mr = zRun 177 56 L (.long (u - v) :: S) sh mi mj mr := zr_p (zD_of zk_177 d_177_55 rfl rfl) rfl
theorem q_177_56  : zRun 177 56 L ([.long u]) sh mi mj mr = some (some (.long u), sh, mi, mj, mr) := zr_ret (zD_of zk_177 d_177_56 rfl rfl) rfl rfl rfl rfl rfl rfl
theorem e_177 {x0 : Int32} : zCall 177 [.ref o, .int x0] sh mi mj mr = zRun 177 0 [some (.ref o), some (.int x0)] [] sh mi mj mr := rfl
theorem d_178_0 : decode cX8_sample 0 = .ok (.aload_n 0, 1) := by decide +kernel
theorem d_178_1 : decode cX8_sample 1 = .ok (.iload_n 1, 1) := by decide +kernel
theorem d_178_2 : decode cX8_sample 2 = .ok (.invokevirtual 146, 3) := by decide +kernel
theorem d_178_5 : decode cX8_sample 5 = .ok (.ifCond .ne 7, 3) := by decide +kernel
theorem d_178_8 : decode cX8_sample 8 = .ok (.ldc2_w 288, 3) := by decide +kernel
theorem d_178_11 : decode cX8_sample 11 = .ok (.lreturn, 1) := by decide +kernel
theorem d_178_12 : decode cX8_sample 12 = .ok (.iload_n 2, 1) := by decide +kernel
theorem d_178_13 : decode cX8_sample 13 = .ok (.iconst 0, 1) := by decide +kernel
theorem d_178_14 : decode cX8_sample 14 = .ok (.sipush 255, 3) := by decide +kernel
theorem d_178_17 : decode cX8_sample 17 = .ok (.invokestatic 72, 3) := by decide +kernel
theorem d_178_20 : decode cX8_sample 20 = .ok (.ifCond .eq 10, 3) := by decide +kernel
theorem d_178_23 : decode cX8_sample 23 = .ok (.iload_n 3, 1) := by decide +kernel
theorem d_178_24 : decode cX8_sample 24 = .ok (.invokestatic 82, 3) := by decide +kernel
theorem d_178_27 : decode cX8_sample 27 = .ok (.ifCond .ne 7, 3) := by decide +kernel
theorem d_178_30 : decode cX8_sample 30 = .ok (.ldc2_w 290, 3) := by decide +kernel
theorem d_178_33 : decode cX8_sample 33 = .ok (.lreturn, 1) := by decide +kernel
theorem d_178_34 : decode cX8_sample 34 = .ok (.iconst 0, 1) := by decide +kernel
theorem d_178_35 : decode cX8_sample 35 = .ok (.istore 4, 2) := by decide +kernel
theorem d_178_37 : decode cX8_sample 37 = .ok (.iload 4, 2) := by decide +kernel
theorem d_178_39 : decode cX8_sample 39 = .ok (.iconst 4, 1) := by decide +kernel
theorem d_178_40 : decode cX8_sample 40 = .ok (.if_icmp .ge 108, 3) := by decide +kernel
theorem d_178_43 : decode cX8_sample 43 = .ok (.aload_n 0, 1) := by decide +kernel
theorem d_178_44 : decode cX8_sample 44 = .ok (.getfield 7, 3) := by decide +kernel
theorem d_178_47 : decode cX8_sample 47 = .ok (.iconst 0, 1) := by decide +kernel
theorem d_178_48 : decode cX8_sample 48 = .ok (.iload 4, 2) := by decide +kernel
theorem d_178_50 : decode cX8_sample 50 = .ok (.iadd, 1) := by decide +kernel
theorem d_178_51 : decode cX8_sample 51 = .ok (.iaload, 1) := by decide +kernel
theorem d_178_52 : decode cX8_sample 52 = .ok (.istore 5, 2) := by decide +kernel
theorem d_178_54 : decode cX8_sample 54 = .ok (.aload_n 0, 1) := by decide +kernel
theorem d_178_55 : decode cX8_sample 55 = .ok (.getfield 7, 3) := by decide +kernel
theorem d_178_58 : decode cX8_sample 58 = .ok (.iconst 4, 1) := by decide +kernel
theorem d_178_59 : decode cX8_sample 59 = .ok (.iload 4, 2) := by decide +kernel
theorem d_178_61 : decode cX8_sample 61 = .ok (.iadd, 1) := by decide +kernel
theorem d_178_62 : decode cX8_sample 62 = .ok (.iaload, 1) := by decide +kernel
theorem d_178_63 : decode cX8_sample 63 = .ok (.istore 6, 2) := by decide +kernel
theorem d_178_65 : decode cX8_sample 65 = .ok (.iload_n 2, 1) := by decide +kernel
theorem d_178_66 : decode cX8_sample 66 = .ok (.iconst 2, 1) := by decide +kernel
theorem d_178_67 : decode cX8_sample 67 = .ok (.iload 4, 2) := by decide +kernel
theorem d_178_69 : decode cX8_sample 69 = .ok (.imul, 1) := by decide +kernel
theorem d_178_70 : decode cX8_sample 70 = .ok (.ishr, 1) := by decide +kernel
theorem d_178_71 : decode cX8_sample 71 = .ok (.iconst 3, 1) := by decide +kernel
theorem d_178_72 : decode cX8_sample 72 = .ok (.iand, 1) := by decide +kernel
theorem d_178_73 : decode cX8_sample 73 = .ok (.istore 7, 2) := by decide +kernel
theorem d_178_75 : decode cX8_sample 75 = .ok (.aload_n 0, 1) := by decide +kernel
theorem d_178_76 : decode cX8_sample 76 = .ok (.getfield 39, 3) := by decide +kernel
theorem d_178_79 : decode cX8_sample 79 = .ok (.iload 4, 2) := by decide +kernel
theorem d_178_81 : decode cX8_sample 81 = .ok (.iload 7, 2) := by decide +kernel
theorem d_178_83 : decode cX8_sample 83 = .ok (.ifCond .ne 8, 3) := by decide +kernel
theorem d_178_86 : decode cX8_sample 86 = .ok (.iload 5, 2) := by decide +kernel
theorem d_178_88 : decode cX8_sample 88 = .ok (.goto 39, 3) := by decide +kernel
theorem d_178_91 : decode cX8_sample 91 = .ok (.iload 7, 2) := by decide +kernel
theorem d_178_93 : decode cX8_sample 93 = .ok (.iconst 1, 1) := by decide +kernel
theorem d_178_94 : decode cX8_sample 94 = .ok (.if_icmp .ne 8, 3) := by decide +kernel
theorem d_178_97 : decode cX8_sample 97 = .ok (.iload 6, 2) := by decide +kernel
theorem d_178_99 : decode cX8_sample 99 = .ok (.goto 28, 3) := by decide +kernel
theorem d_178_102 : decode cX8_sample 102 = .ok (.iload 7, 2) := by decide +kernel
theorem d_178_104 : decode cX8_sample 104 = .ok (.iconst 2, 1) := by decide +kernel
theorem d_178_105 : decode cX8_sample 105 = .ok (.if_icmp .ne 13, 3) := by decide +kernel
theorem d_178_108 : decode cX8_sample 108 = .ok (.iload 5, 2) := by decide +kernel
theorem d_178_110 : decode cX8_sample 110 = .ok (.iload 6, 2) := by decide +kernel
theorem d_178_112 : decode cX8_sample 112 = .ok (.iadd, 1) := by decide +kernel
theorem d_178_113 : decode cX8_sample 113 = .ok (.iconst 1, 1) := by decide +kernel
theorem d_178_114 : decode cX8_sample 114 = .ok (.ishr, 1) := by decide +kernel
theorem d_178_115 : decode cX8_sample 115 = .ok (.goto 12, 3) := by decide +kernel
theorem d_178_118 : decode cX8_sample 118 = .ok (.iconst 3, 1) := by decide +kernel
theorem d_178_119 : decode cX8_sample 119 = .ok (.iload 5, 2) := by decide +kernel
theorem d_178_121 : decode cX8_sample 121 = .ok (.imul, 1) := by decide +kernel
theorem d_178_122 : decode cX8_sample 122 = .ok (.iload 6, 2) := by decide +kernel
theorem d_178_124 : decode cX8_sample 124 = .ok (.iadd, 1) := by decide +kernel
theorem d_178_125 : decode cX8_sample 125 = .ok (.iconst 2, 1) := by decide +kernel
theorem d_178_126 : decode cX8_sample 126 = .ok (.ishr, 1) := by decide +kernel
theorem d_178_127 : decode cX8_sample 127 = .ok (.iastore, 1) := by decide +kernel
theorem d_178_128 : decode cX8_sample 128 = .ok (.aload_n 0, 1) := by decide +kernel
theorem d_178_129 : decode cX8_sample 129 = .ok (.getfield 42, 3) := by decide +kernel
theorem d_178_132 : decode cX8_sample 132 = .ok (.iload 4, 2) := by decide +kernel
theorem d_178_134 : decode cX8_sample 134 = .ok (.aload_n 0, 1) := by decide +kernel
theorem d_178_135 : decode cX8_sample 135 = .ok (.getfield 39, 3) := by decide +kernel
theorem d_178_138 : decode cX8_sample 138 = .ok (.iload 4, 2) := by decide +kernel
theorem d_178_140 : decode cX8_sample 140 = .ok (.iaload, 1) := by decide +kernel
theorem d_178_141 : decode cX8_sample 141 = .ok (.iastore, 1) := by decide +kernel
theorem d_178_142 : decode cX8_sample 142 = .ok (.iinc 4 1, 3) := by decide +kernel
theorem d_178_145 : decode cX8_sample 145 = .ok (.goto (-108), 3) := by decide +kernel
theorem d_178_148 : decode cX8_sample 148 = .ok (.aload_n 0, 1) := by decide +kernel
theorem d_178_149 : decode cX8_sample 149 = .ok (.iload_n 1, 1) := by decide +kernel
theorem d_178_150 : decode cX8_sample 150 = .ok (.invokevirtual 282, 3) := by decide +kernel
theorem d_178_153 : decode cX8_sample 153 = .ok (.aload_n 0, 1) := by decide +kernel
theorem d_178_154 : decode cX8_sample 154 = .ok (.iconst 0, 1) := by decide +kernel
theorem d_178_155 : decode cX8_sample 155 = .ok (.invokevirtual 251, 3) := by decide +kernel
theorem d_178_158 : decode cX8_sample 158 = .ok (.ifCond .eq 9, 3) := by decide +kernel
theorem d_178_161 : decode cX8_sample 161 = .ok (.ldc2_w 292, 3) := by decide +kernel
theorem d_178_164 : decode cX8_sample 164 = .ok (.goto 20, 3) := by decide +kernel
theorem d_178_167 : decode cX8_sample 167 = .ok (.iload_n 3, 1) := by decide +kernel
theorem d_178_168 : decode cX8_sample 168 = .ok (.ifCond .ne 11, 3) := by decide +kernel
theorem d_178_171 : decode cX8_sample 171 = .ok (.aload_n 0, 1) := by decide +kernel
theorem d_178_172 : decode cX8_sample 172 = .ok (.iconst 0, 1) := by decide +kernel
theorem d_178_173 : decode cX8_sample 173 = .ok (.invokevirtual 189, 3) := by decide +kernel
theorem d_178_176 : decode cX8_sample 176 = .ok (.goto 8, 3) := by decide +kernel
theorem d_178_179 : decode cX8_sample 179 = .ok (.aload_n 0, 1) := by decide +kernel
theorem d_178_180 : decode cX8_sample 180 = .ok (.iconst 0, 1) := by decide +kernel
theorem d_178_181 : decode cX8_sample 181 = .ok (.invokevirtual 192, 3) := by decide +kernel
theorem d_178_184 : decode cX8_sample 184 = .ok (.lreturn, 1) := by decide +kernel
theorem q_178_0r : zRun 178 0 [some (.ref o), l1, l2, l3, l4, l5, l6, l7] S sh mi mj mr = zRun 178 1 [some (.ref o), l1, l2, l3, l4, l5, l6, l7] (.ref o :: S) sh mi mj mr := zr_l (zD_of zk_178 d_178_0 rfl rfl) rfl rfl rfl
theorem q_178_0n : zRun 178 0 [some (.null), l1, l2, l3, l4, l5, l6, l7] S sh mi mj mr = zRun 178 1 [some (.null), l1, l2, l3, l4, l5, l6, l7] (.null :: S) sh mi mj mr := zr_l (zD_of zk_178 d_178_0 rfl rfl) rfl rfl rfl
theorem q_178_1 : zRun 178 1 [l0, some (.int x), l2, l3, l4, l5, l6, l7] S sh mi mj mr = zRun 178 2 [l0, some (.int x), l2, l3, l4, l5, l6, l7] (.int x :: S) sh mi mj mr := zr_l (zD_of zk_178 d_178_1 rfl rfl) rfl rfl rfl
theorem q_178_2  {x0 : Int32} (hS : zcat S ≤ 8) (h : zIs sh o 0 8) : zRun 178 2 L (.int x0 :: .ref o :: S) sh mi mj mr = (zCall 113 [.ref o, .int x0] sh mi mj mr).bind fun r => zRun 178 5 L (r.1.toList ++ S) r.2.1 r.2.2.1 r.2.2.2.1 r.2.2.2.2 := zr_V (zD_of zk_178 d_178_2 rfl rfl) rfl zk_113 rfl rfl rfl hS h
theorem q_178_5  : zRun 178 5 L (.int x :: S) sh mi mj mr = if ¬ x = 0 then zRun 178 12 L S sh mi mj mr else zRun 178 8 L S sh mi mj mr := zr_if (off := 7) (P := ¬ x = 0) (zD_of zk_178 d_178_5 rfl rfl) rfl rfl (by decide)
theorem q_178_8  : zRun 178 8 L S sh mi mj mr = zRun 178 11 L (.long (-1000000000000000001) :: S) sh mi mj mr := zr_k64 (zD_of zk_178 d_178_8 rfl rfl) rfl
theorem q_178_11  : zRun 178 11 L ([.long u]) sh mi mj mr = some (some (.long u), sh, mi, mj, mr) := zr_ret (zD_of zk_178 d_178_11 rfl rfl) rfl rfl rfl rfl rfl rfl
theorem q_178_12 : zRun 178 12 [l0, l1, some (.int x), l3, l4, l5, l6, l7] S sh mi mj mr = zRun 178 13 [l0, l1, some (.int x), l3, l4, l5, l6, l7] (.int x :: S) sh mi mj mr := zr_l (zD_of zk_178 d_178_12 rfl rfl) rfl rfl rfl
theorem q_178_13  : zRun 178 13 L S sh mi mj mr = zRun 178 14 L (.int 0 :: S) sh mi mj mr := zr_p (zD_of zk_178 d_178_13 rfl rfl) rfl
theorem q_178_14  : zRun 178 14 L S sh mi mj mr = zRun 178 17 L (.int 255 :: S) sh mi mj mr := zr_p (zD_of zk_178 d_178_14 rfl rfl) rfl
theorem q_178_17  {x0 x1 x2 : Int32} (hS : zcat S ≤ 8) : zRun 178 17 L (.int x2 :: .int x1 :: .int x0 :: S) sh mi mj mr = (zCall 111 [.int x0, .int x1, .int x2] sh mi mj mr).bind fun r => zRun 178 20 L (r.1.toList ++ S) r.2.1 r.2.2.1 r.2.2.2.1 r.2.2.2.2 := zr_S (zD_of zk_178 d_178_17 rfl rfl) rfl zk_111 rfl rfl rfl hS
theorem q_178_20  : zRun 178 20 L (.int x :: S) sh mi mj mr = if x = 0 then zRun 178 30 L S sh mi mj mr else zRun 178 23 L S sh mi mj mr := zr_if (off := 10) (P := x = 0) (zD_of zk_178 d_178_20 rfl rfl) rfl rfl (by decide)
theorem q_178_23 : zRun 178 23 [l0, l1, l2, some (.int x), l4, l5, l6, l7] S sh mi mj mr = zRun 178 24 [l0, l1, l2, some (.int x), l4, l5, l6, l7] (.int x :: S) sh mi mj mr := zr_l (zD_of zk_178 d_178_23 rfl rfl) rfl rfl rfl
theorem q_178_24  {x0 : Int32} (hS : zcat S ≤ 8) : zRun 178 24 L (.int x0 :: S) sh mi mj mr = (zCall 114 [.int x0] sh mi mj mr).bind fun r => zRun 178 27 L (r.1.toList ++ S) r.2.1 r.2.2.1 r.2.2.2.1 r.2.2.2.2 := zr_S (zD_of zk_178 d_178_24 rfl rfl) rfl zk_114 rfl rfl rfl hS
theorem q_178_27  : zRun 178 27 L (.int x :: S) sh mi mj mr = if ¬ x = 0 then zRun 178 34 L S sh mi mj mr else zRun 178 30 L S sh mi mj mr := zr_if (off := 7) (P := ¬ x = 0) (zD_of zk_178 d_178_27 rfl rfl) rfl rfl (by decide)
theorem q_178_30  : zRun 178 30 L S sh mi mj mr = zRun 178 33 L (.long (-1000000000000000002) :: S) sh mi mj mr := zr_k64 (zD_of zk_178 d_178_30 rfl rfl) rfl
theorem q_178_33  : zRun 178 33 L ([.long u]) sh mi mj mr = some (some (.long u), sh, mi, mj, mr) := zr_ret (zD_of zk_178 d_178_33 rfl rfl) rfl rfl rfl rfl rfl rfl
theorem q_178_34  : zRun 178 34 L S sh mi mj mr = zRun 178 35 L (.int 0 :: S) sh mi mj mr := zr_p (zD_of zk_178 d_178_34 rfl rfl) rfl
theorem q_178_35 : zRun 178 35 [l0, l1, l2, l3, l4, l5, l6, l7] (.int x :: S) sh mi mj mr = zRun 178 37 [l0, l1, l2, zk2 l3, some (.int x), l5, l6, l7] S sh mi mj mr := zr_s1 (i := 4) (v := .int x) (L := [l0, l1, l2, l3, l4, l5, l6, l7]) (zD_of zk_178 d_178_35 rfl rfl) rfl rfl rfl rfl
theorem q_178_37 : zRun 178 37 [l0, l1, l2, l3, some (.int x), l5, l6, l7] S sh mi mj mr = zRun 178 39 [l0, l1, l2, l3, some (.int x), l5, l6, l7] (.int x :: S) sh mi mj mr := zr_l (zD_of zk_178 d_178_37 rfl rfl) rfl rfl rfl
theorem q_178_39  : zRun 178 39 L S sh mi mj mr = zRun 178 40 L (.int 4 :: S) sh mi mj mr := zr_p (zD_of zk_178 d_178_39 rfl rfl) rfl
theorem q_178_40  : zRun 178 40 L (.int y :: .int x :: S) sh mi mj mr = if y ≤ x then zRun 178 148 L S sh mi mj mr else zRun 178 43 L S sh mi mj mr := zr_if (off := 108) (P := y ≤ x) (zD_of zk_178 d_178_40 rfl rfl) rfl rfl (by decide)
theorem q_178_43r : zRun 178 43 [some (.ref o), l1, l2, l3, l4, l5, l6, l7] S sh mi mj mr = zRun 178 44 [some (.ref o), l1, l2, l3, l4, l5, l6, l7] (.ref o :: S) sh mi mj mr := zr_l (zD_of zk_178 d_178_43 rfl rfl) rfl rfl rfl
theorem q_178_43n : zRun 178 43 [some (.null), l1, l2, l3, l4, l5, l6, l7] S sh mi mj mr = zRun 178 44 [some (.null), l1, l2, l3, l4, l5, l6, l7] (.null :: S) sh mi mj mr := zr_l (zD_of zk_178 d_178_43 rfl rfl) rfl rfl rfl
theorem q_178_44 (h : zIs sh o 0 8) : zRun 178 44 L (.ref o :: S) sh mi mj mr = zRun 178 47 L (va_rf (mr o 0) :: S) sh mi mj mr := zr_getR (zD_of zk_178 d_178_44 rfl rfl) rfl rfl rfl h
theorem q_178_47  : zRun 178 47 L S sh mi mj mr = zRun 178 48 L (.int 0 :: S) sh mi mj mr := zr_p (zD_of zk_178 d_178_47 rfl rfl) rfl
theorem q_178_48 : zRun 178 48 [l0, l1, l2, l3, some (.int x), l5, l6, l7] S sh mi mj mr = zRun 178 50 [l0, l1, l2, l3, some (.int x), l5, l6, l7] (.int x :: S) sh mi mj mr := zr_l (zD_of zk_178 d_178_48 rfl rfl) rfl rfl rfl
theorem q_178_50  : zRun 178 50 L (.int y :: .int x :: S) sh mi mj mr = zRun 178 51 L (.int (x + y) :: S) sh mi mj mr := zr_p (zD_of zk_178 d_178_50 rfl rfl) rfl
theorem q_178_51 (h : zAt sh o 1 x) : zRun 178 51 L (.int x :: .ref o :: S) sh mi mj mr = zRun 178 52 L (.int (mi o x.toNatClampNeg) :: S) sh mi mj mr := zr_iald (zD_of zk_178 d_178_51 rfl rfl) h
theorem q_178_52 : zRun 178 52 [l0, l1, l2, l3, l4, l5, l6, l7] (.int x :: S) sh mi mj mr = zRun 178 54 [l0, l1, l2, l3, zk2 l4, some (.int x), l6, l7] S sh mi mj mr := zr_s1 (i := 5) (v := .int x) (L := [l0, l1, l2, l3, l4, l5, l6, l7]) (zD_of zk_178 d_178_52 rfl rfl) rfl rfl rfl rfl
theorem q_178_54r : zRun 178 54 [some (.ref o), l1, l2, l3, l4, l5, l6, l7] S sh mi mj mr = zRun 178 55 [some (.ref o), l1, l2, l3, l4, l5, l6, l7] (.ref o :: S) sh mi mj mr := zr_l (zD_of zk_178 d_178_54 rfl rfl) rfl rfl rfl
theorem q_178_54n : zRun 178 54 [some (.null), l1, l2, l3, l4, l5, l6, l7] S sh mi mj mr = zRun 178 55 [some (.null), l1, l2, l3, l4, l5, l6, l7] (.null :: S) sh mi mj mr := zr_l (zD_of zk_178 d_178_54 rfl rfl) rfl rfl rfl
theorem q_178_55 (h : zIs sh o 0 8) : zRun 178 55 L (.ref o :: S) sh mi mj mr = zRun 178 58 L (va_rf (mr o 0) :: S) sh mi mj mr := zr_getR (zD_of zk_178 d_178_55 rfl rfl) rfl rfl rfl h
theorem q_178_58  : zRun 178 58 L S sh mi mj mr = zRun 178 59 L (.int 4 :: S) sh mi mj mr := zr_p (zD_of zk_178 d_178_58 rfl rfl) rfl
theorem q_178_59 : zRun 178 59 [l0, l1, l2, l3, some (.int x), l5, l6, l7] S sh mi mj mr = zRun 178 61 [l0, l1, l2, l3, some (.int x), l5, l6, l7] (.int x :: S) sh mi mj mr := zr_l (zD_of zk_178 d_178_59 rfl rfl) rfl rfl rfl
theorem q_178_61  : zRun 178 61 L (.int y :: .int x :: S) sh mi mj mr = zRun 178 62 L (.int (x + y) :: S) sh mi mj mr := zr_p (zD_of zk_178 d_178_61 rfl rfl) rfl
theorem q_178_62 (h : zAt sh o 1 x) : zRun 178 62 L (.int x :: .ref o :: S) sh mi mj mr = zRun 178 63 L (.int (mi o x.toNatClampNeg) :: S) sh mi mj mr := zr_iald (zD_of zk_178 d_178_62 rfl rfl) h
theorem q_178_63 : zRun 178 63 [l0, l1, l2, l3, l4, l5, l6, l7] (.int x :: S) sh mi mj mr = zRun 178 65 [l0, l1, l2, l3, l4, zk2 l5, some (.int x), l7] S sh mi mj mr := zr_s1 (i := 6) (v := .int x) (L := [l0, l1, l2, l3, l4, l5, l6, l7]) (zD_of zk_178 d_178_63 rfl rfl) rfl rfl rfl rfl
theorem q_178_65 : zRun 178 65 [l0, l1, some (.int x), l3, l4, l5, l6, l7] S sh mi mj mr = zRun 178 66 [l0, l1, some (.int x), l3, l4, l5, l6, l7] (.int x :: S) sh mi mj mr := zr_l (zD_of zk_178 d_178_65 rfl rfl) rfl rfl rfl
theorem q_178_66  : zRun 178 66 L S sh mi mj mr = zRun 178 67 L (.int 2 :: S) sh mi mj mr := zr_p (zD_of zk_178 d_178_66 rfl rfl) rfl
theorem q_178_67 : zRun 178 67 [l0, l1, l2, l3, some (.int x), l5, l6, l7] S sh mi mj mr = zRun 178 69 [l0, l1, l2, l3, some (.int x), l5, l6, l7] (.int x :: S) sh mi mj mr := zr_l (zD_of zk_178 d_178_67 rfl rfl) rfl rfl rfl
theorem q_178_69  : zRun 178 69 L (.int y :: .int x :: S) sh mi mj mr = zRun 178 70 L (.int (x * y) :: S) sh mi mj mr := zr_p (zD_of zk_178 d_178_69 rfl rfl) rfl
theorem q_178_70  : zRun 178 70 L (.int y :: .int x :: S) sh mi mj mr = zRun 178 71 L (.int (x >>> (y &&& 31)) :: S) sh mi mj mr := zr_p (zD_of zk_178 d_178_70 rfl rfl) rfl
theorem q_178_71  : zRun 178 71 L S sh mi mj mr = zRun 178 72 L (.int 3 :: S) sh mi mj mr := zr_p (zD_of zk_178 d_178_71 rfl rfl) rfl
theorem q_178_72  : zRun 178 72 L (.int y :: .int x :: S) sh mi mj mr = zRun 178 73 L (.int (x &&& y) :: S) sh mi mj mr := zr_p (zD_of zk_178 d_178_72 rfl rfl) rfl
theorem q_178_73 : zRun 178 73 [l0, l1, l2, l3, l4, l5, l6, l7] (.int x :: S) sh mi mj mr = zRun 178 75 [l0, l1, l2, l3, l4, l5, zk2 l6, some (.int x)] S sh mi mj mr := zr_s1 (i := 7) (v := .int x) (L := [l0, l1, l2, l3, l4, l5, l6, l7]) (zD_of zk_178 d_178_73 rfl rfl) rfl rfl rfl rfl
theorem q_178_75r : zRun 178 75 [some (.ref o), l1, l2, l3, l4, l5, l6, l7] S sh mi mj mr = zRun 178 76 [some (.ref o), l1, l2, l3, l4, l5, l6, l7] (.ref o :: S) sh mi mj mr := zr_l (zD_of zk_178 d_178_75 rfl rfl) rfl rfl rfl
theorem q_178_75n : zRun 178 75 [some (.null), l1, l2, l3, l4, l5, l6, l7] S sh mi mj mr = zRun 178 76 [some (.null), l1, l2, l3, l4, l5, l6, l7] (.null :: S) sh mi mj mr := zr_l (zD_of zk_178 d_178_75 rfl rfl) rfl rfl rfl
theorem q_178_76 (h : zIs sh o 0 8) : zRun 178 76 L (.ref o :: S) sh mi mj mr = zRun 178 79 L (va_rf (mr o 16) :: S) sh mi mj mr := zr_getR (zD_of zk_178 d_178_76 rfl rfl) rfl rfl rfl h
theorem q_178_79 : zRun 178 79 [l0, l1, l2, l3, some (.int x), l5, l6, l7] S sh mi mj mr = zRun 178 81 [l0, l1, l2, l3, some (.int x), l5, l6, l7] (.int x :: S) sh mi mj mr := zr_l (zD_of zk_178 d_178_79 rfl rfl) rfl rfl rfl
theorem q_178_81 : zRun 178 81 [l0, l1, l2, l3, l4, l5, l6, some (.int x)] S sh mi mj mr = zRun 178 83 [l0, l1, l2, l3, l4, l5, l6, some (.int x)] (.int x :: S) sh mi mj mr := zr_l (zD_of zk_178 d_178_81 rfl rfl) rfl rfl rfl
theorem q_178_83  : zRun 178 83 L (.int x :: S) sh mi mj mr = if ¬ x = 0 then zRun 178 91 L S sh mi mj mr else zRun 178 86 L S sh mi mj mr := zr_if (off := 8) (P := ¬ x = 0) (zD_of zk_178 d_178_83 rfl rfl) rfl rfl (by decide)
theorem q_178_86 : zRun 178 86 [l0, l1, l2, l3, l4, some (.int x), l6, l7] S sh mi mj mr = zRun 178 88 [l0, l1, l2, l3, l4, some (.int x), l6, l7] (.int x :: S) sh mi mj mr := zr_l (zD_of zk_178 d_178_86 rfl rfl) rfl rfl rfl
theorem q_178_88  : zRun 178 88 L S sh mi mj mr = zRun 178 127 L S sh mi mj mr := zr_go (off := 39) (zD_of zk_178 d_178_88 rfl rfl) rfl rfl (by decide)
theorem q_178_91 : zRun 178 91 [l0, l1, l2, l3, l4, l5, l6, some (.int x)] S sh mi mj mr = zRun 178 93 [l0, l1, l2, l3, l4, l5, l6, some (.int x)] (.int x :: S) sh mi mj mr := zr_l (zD_of zk_178 d_178_91 rfl rfl) rfl rfl rfl
theorem q_178_93  : zRun 178 93 L S sh mi mj mr = zRun 178 94 L (.int 1 :: S) sh mi mj mr := zr_p (zD_of zk_178 d_178_93 rfl rfl) rfl
theorem q_178_94  : zRun 178 94 L (.int y :: .int x :: S) sh mi mj mr = if ¬ x = y then zRun 178 102 L S sh mi mj mr else zRun 178 97 L S sh mi mj mr := zr_if (off := 8) (P := ¬ x = y) (zD_of zk_178 d_178_94 rfl rfl) rfl rfl (by decide)
theorem q_178_97 : zRun 178 97 [l0, l1, l2, l3, l4, l5, some (.int x), l7] S sh mi mj mr = zRun 178 99 [l0, l1, l2, l3, l4, l5, some (.int x), l7] (.int x :: S) sh mi mj mr := zr_l (zD_of zk_178 d_178_97 rfl rfl) rfl rfl rfl
theorem q_178_99  : zRun 178 99 L S sh mi mj mr = zRun 178 127 L S sh mi mj mr := zr_go (off := 28) (zD_of zk_178 d_178_99 rfl rfl) rfl rfl (by decide)
theorem q_178_102 : zRun 178 102 [l0, l1, l2, l3, l4, l5, l6, some (.int x)] S sh mi mj mr = zRun 178 104 [l0, l1, l2, l3, l4, l5, l6, some (.int x)] (.int x :: S) sh mi mj mr := zr_l (zD_of zk_178 d_178_102 rfl rfl) rfl rfl rfl
theorem q_178_104  : zRun 178 104 L S sh mi mj mr = zRun 178 105 L (.int 2 :: S) sh mi mj mr := zr_p (zD_of zk_178 d_178_104 rfl rfl) rfl
theorem q_178_105  : zRun 178 105 L (.int y :: .int x :: S) sh mi mj mr = if ¬ x = y then zRun 178 118 L S sh mi mj mr else zRun 178 108 L S sh mi mj mr := zr_if (off := 13) (P := ¬ x = y) (zD_of zk_178 d_178_105 rfl rfl) rfl rfl (by decide)
theorem q_178_108 : zRun 178 108 [l0, l1, l2, l3, l4, some (.int x), l6, l7] S sh mi mj mr = zRun 178 110 [l0, l1, l2, l3, l4, some (.int x), l6, l7] (.int x :: S) sh mi mj mr := zr_l (zD_of zk_178 d_178_108 rfl rfl) rfl rfl rfl
theorem q_178_110 : zRun 178 110 [l0, l1, l2, l3, l4, l5, some (.int x), l7] S sh mi mj mr = zRun 178 112 [l0, l1, l2, l3, l4, l5, some (.int x), l7] (.int x :: S) sh mi mj mr := zr_l (zD_of zk_178 d_178_110 rfl rfl) rfl rfl rfl
theorem q_178_112  : zRun 178 112 L (.int y :: .int x :: S) sh mi mj mr = zRun 178 113 L (.int (x + y) :: S) sh mi mj mr := zr_p (zD_of zk_178 d_178_112 rfl rfl) rfl
theorem q_178_113  : zRun 178 113 L S sh mi mj mr = zRun 178 114 L (.int 1 :: S) sh mi mj mr := zr_p (zD_of zk_178 d_178_113 rfl rfl) rfl
theorem q_178_114  : zRun 178 114 L (.int y :: .int x :: S) sh mi mj mr = zRun 178 115 L (.int (x >>> (y &&& 31)) :: S) sh mi mj mr := zr_p (zD_of zk_178 d_178_114 rfl rfl) rfl
theorem q_178_115  : zRun 178 115 L S sh mi mj mr = zRun 178 127 L S sh mi mj mr := zr_go (off := 12) (zD_of zk_178 d_178_115 rfl rfl) rfl rfl (by decide)
theorem q_178_118  : zRun 178 118 L S sh mi mj mr = zRun 178 119 L (.int 3 :: S) sh mi mj mr := zr_p (zD_of zk_178 d_178_118 rfl rfl) rfl
theorem q_178_119 : zRun 178 119 [l0, l1, l2, l3, l4, some (.int x), l6, l7] S sh mi mj mr = zRun 178 121 [l0, l1, l2, l3, l4, some (.int x), l6, l7] (.int x :: S) sh mi mj mr := zr_l (zD_of zk_178 d_178_119 rfl rfl) rfl rfl rfl
theorem q_178_121  : zRun 178 121 L (.int y :: .int x :: S) sh mi mj mr = zRun 178 122 L (.int (x * y) :: S) sh mi mj mr := zr_p (zD_of zk_178 d_178_121 rfl rfl) rfl
theorem q_178_122 : zRun 178 122 [l0, l1, l2, l3, l4, l5, some (.int x), l7] S sh mi mj mr = zRun 178 124 [l0, l1, l2, l3, l4, l5, some (.int x), l7] (.int x :: S) sh mi mj mr := zr_l (zD_of zk_178 d_178_122 rfl rfl) rfl rfl rfl
theorem q_178_124  : zRun 178 124 L (.int y :: .int x :: S) sh mi mj mr = zRun 178 125 L (.int (x + y) :: S) sh mi mj mr := zr_p (zD_of zk_178 d_178_124 rfl rfl) rfl
theorem q_178_125  : zRun 178 125 L S sh mi mj mr = zRun 178 126 L (.int 2 :: S) sh mi mj mr := zr_p (zD_of zk_178 d_178_125 rfl rfl) rfl
theorem q_178_126  : zRun 178 126 L (.int y :: .int x :: S) sh mi mj mr = zRun 178 127 L (.int (x >>> (y &&& 31)) :: S) sh mi mj mr := zr_p (zD_of zk_178 d_178_126 rfl rfl) rfl
theorem q_178_127 (h : zAt sh o 1 x) : zRun 178 127 L (.int y :: .int x :: .ref o :: S) sh mi mj mr = zRun 178 128 L S sh (zup mi o x.toNatClampNeg y) mj mr := zr_iast (zD_of zk_178 d_178_127 rfl rfl) h
theorem q_178_128r : zRun 178 128 [some (.ref o), l1, l2, l3, l4, l5, l6, l7] S sh mi mj mr = zRun 178 129 [some (.ref o), l1, l2, l3, l4, l5, l6, l7] (.ref o :: S) sh mi mj mr := zr_l (zD_of zk_178 d_178_128 rfl rfl) rfl rfl rfl
theorem q_178_128n : zRun 178 128 [some (.null), l1, l2, l3, l4, l5, l6, l7] S sh mi mj mr = zRun 178 129 [some (.null), l1, l2, l3, l4, l5, l6, l7] (.null :: S) sh mi mj mr := zr_l (zD_of zk_178 d_178_128 rfl rfl) rfl rfl rfl
theorem q_178_129 (h : zIs sh o 0 8) : zRun 178 129 L (.ref o :: S) sh mi mj mr = zRun 178 132 L (va_rf (mr o 17) :: S) sh mi mj mr := zr_getR (zD_of zk_178 d_178_129 rfl rfl) rfl rfl rfl h
theorem q_178_132 : zRun 178 132 [l0, l1, l2, l3, some (.int x), l5, l6, l7] S sh mi mj mr = zRun 178 134 [l0, l1, l2, l3, some (.int x), l5, l6, l7] (.int x :: S) sh mi mj mr := zr_l (zD_of zk_178 d_178_132 rfl rfl) rfl rfl rfl
theorem q_178_134r : zRun 178 134 [some (.ref o), l1, l2, l3, l4, l5, l6, l7] S sh mi mj mr = zRun 178 135 [some (.ref o), l1, l2, l3, l4, l5, l6, l7] (.ref o :: S) sh mi mj mr := zr_l (zD_of zk_178 d_178_134 rfl rfl) rfl rfl rfl
theorem q_178_134n : zRun 178 134 [some (.null), l1, l2, l3, l4, l5, l6, l7] S sh mi mj mr = zRun 178 135 [some (.null), l1, l2, l3, l4, l5, l6, l7] (.null :: S) sh mi mj mr := zr_l (zD_of zk_178 d_178_134 rfl rfl) rfl rfl rfl
theorem q_178_135 (h : zIs sh o 0 8) : zRun 178 135 L (.ref o :: S) sh mi mj mr = zRun 178 138 L (va_rf (mr o 16) :: S) sh mi mj mr := zr_getR (zD_of zk_178 d_178_135 rfl rfl) rfl rfl rfl h
theorem q_178_138 : zRun 178 138 [l0, l1, l2, l3, some (.int x), l5, l6, l7] S sh mi mj mr = zRun 178 140 [l0, l1, l2, l3, some (.int x), l5, l6, l7] (.int x :: S) sh mi mj mr := zr_l (zD_of zk_178 d_178_138 rfl rfl) rfl rfl rfl
theorem q_178_140 (h : zAt sh o 1 x) : zRun 178 140 L (.int x :: .ref o :: S) sh mi mj mr = zRun 178 141 L (.int (mi o x.toNatClampNeg) :: S) sh mi mj mr := zr_iald (zD_of zk_178 d_178_140 rfl rfl) h
theorem q_178_141 (h : zAt sh o 1 x) : zRun 178 141 L (.int y :: .int x :: .ref o :: S) sh mi mj mr = zRun 178 142 L S sh (zup mi o x.toNatClampNeg y) mj mr := zr_iast (zD_of zk_178 d_178_141 rfl rfl) h
theorem q_178_142  : zRun 178 142 [l0, l1, l2, l3, some (.int x), l5, l6, l7] S sh mi mj mr = zRun 178 145 [l0, l1, l2, zk2 l3, some (.int (x + 1)), l5, l6, l7] S sh mi mj mr := zr_s1 (i := 4) (v := .int (x + 1)) (L := [l0, l1, l2, l3, some (.int x), l5, l6, l7]) (zD_of zk_178 d_178_142 rfl rfl) rfl rfl rfl rfl
theorem q_178_145  : zRun 178 145 L S sh mi mj mr = zRun 178 37 L S sh mi mj mr := zr_go (off := (-108)) (zD_of zk_178 d_178_145 rfl rfl) rfl rfl (by decide)
theorem q_178_148r : zRun 178 148 [some (.ref o), l1, l2, l3, l4, l5, l6, l7] S sh mi mj mr = zRun 178 149 [some (.ref o), l1, l2, l3, l4, l5, l6, l7] (.ref o :: S) sh mi mj mr := zr_l (zD_of zk_178 d_178_148 rfl rfl) rfl rfl rfl
theorem q_178_148n : zRun 178 148 [some (.null), l1, l2, l3, l4, l5, l6, l7] S sh mi mj mr = zRun 178 149 [some (.null), l1, l2, l3, l4, l5, l6, l7] (.null :: S) sh mi mj mr := zr_l (zD_of zk_178 d_178_148 rfl rfl) rfl rfl rfl
theorem q_178_149 : zRun 178 149 [l0, some (.int x), l2, l3, l4, l5, l6, l7] S sh mi mj mr = zRun 178 150 [l0, some (.int x), l2, l3, l4, l5, l6, l7] (.int x :: S) sh mi mj mr := zr_l (zD_of zk_178 d_178_149 rfl rfl) rfl rfl rfl
theorem q_178_150  {x0 : Int32} (hS : zcat S ≤ 8) (h : zIs sh o 0 8) : zRun 178 150 L (.int x0 :: .ref o :: S) sh mi mj mr = (zCall 170 [.ref o, .int x0] sh mi mj mr).bind fun r => zRun 178 153 L (r.1.toList ++ S) r.2.1 r.2.2.1 r.2.2.2.1 r.2.2.2.2 := zr_V (zD_of zk_178 d_178_150 rfl rfl) rfl zk_170 rfl rfl rfl hS h
theorem q_178_153r : zRun 178 153 [some (.ref o), l1, l2, l3, l4, l5, l6, l7] S sh mi mj mr = zRun 178 154 [some (.ref o), l1, l2, l3, l4, l5, l6, l7] (.ref o :: S) sh mi mj mr := zr_l (zD_of zk_178 d_178_153 rfl rfl) rfl rfl rfl
theorem q_178_153n : zRun 178 153 [some (.null), l1, l2, l3, l4, l5, l6, l7] S sh mi mj mr = zRun 178 154 [some (.null), l1, l2, l3, l4, l5, l6, l7] (.null :: S) sh mi mj mr := zr_l (zD_of zk_178 d_178_153 rfl rfl) rfl rfl rfl
theorem q_178_154  : zRun 178 154 L S sh mi mj mr = zRun 178 155 L (.int 0 :: S) sh mi mj mr := zr_p (zD_of zk_178 d_178_154 rfl rfl) rfl
theorem q_178_155  {x0 : Int32} (hS : zcat S ≤ 8) (h : zIs sh o 0 8) : zRun 178 155 L (.int x0 :: .ref o :: S) sh mi mj mr = (zCall 141 [.ref o, .int x0] sh mi mj mr).bind fun r => zRun 178 158 L (r.1.toList ++ S) r.2.1 r.2.2.1 r.2.2.2.1 r.2.2.2.2 := zr_V (zD_of zk_178 d_178_155 rfl rfl) rfl zk_141 rfl rfl rfl hS h
theorem q_178_158  : zRun 178 158 L (.int x :: S) sh mi mj mr = if x = 0 then zRun 178 167 L S sh mi mj mr else zRun 178 161 L S sh mi mj mr := zr_if (off := 9) (P := x = 0) (zD_of zk_178 d_178_158 rfl rfl) rfl rfl (by decide)
theorem q_178_161  : zRun 178 161 L S sh mi mj mr = zRun 178 164 L (.long (-1000000000000000005) :: S) sh mi mj mr := zr_k64 (zD_of zk_178 d_178_161 rfl rfl) rfl
theorem q_178_164  : zRun 178 164 L S sh mi mj mr = zRun 178 184 L S sh mi mj mr := zr_go (off := 20) (zD_of zk_178 d_178_164 rfl rfl) rfl rfl (by decide)
theorem q_178_167 : zRun 178 167 [l0, l1, l2, some (.int x), l4, l5, l6, l7] S sh mi mj mr = zRun 178 168 [l0, l1, l2, some (.int x), l4, l5, l6, l7] (.int x :: S) sh mi mj mr := zr_l (zD_of zk_178 d_178_167 rfl rfl) rfl rfl rfl
theorem q_178_168  : zRun 178 168 L (.int x :: S) sh mi mj mr = if ¬ x = 0 then zRun 178 179 L S sh mi mj mr else zRun 178 171 L S sh mi mj mr := zr_if (off := 11) (P := ¬ x = 0) (zD_of zk_178 d_178_168 rfl rfl) rfl rfl (by decide)
theorem q_178_171r : zRun 178 171 [some (.ref o), l1, l2, l3, l4, l5, l6, l7] S sh mi mj mr = zRun 178 172 [some (.ref o), l1, l2, l3, l4, l5, l6, l7] (.ref o :: S) sh mi mj mr := zr_l (zD_of zk_178 d_178_171 rfl rfl) rfl rfl rfl
theorem q_178_171n : zRun 178 171 [some (.null), l1, l2, l3, l4, l5, l6, l7] S sh mi mj mr = zRun 178 172 [some (.null), l1, l2, l3, l4, l5, l6, l7] (.null :: S) sh mi mj mr := zr_l (zD_of zk_178 d_178_171 rfl rfl) rfl rfl rfl
theorem q_178_172  : zRun 178 172 L S sh mi mj mr = zRun 178 173 L (.int 0 :: S) sh mi mj mr := zr_p (zD_of zk_178 d_178_172 rfl rfl) rfl
theorem q_178_173  {x0 : Int32} (hS : zcat S ≤ 8) (h : zIs sh o 0 8) : zRun 178 173 L (.int x0 :: .ref o :: S) sh mi mj mr = (zCall 139 [.ref o, .int x0] sh mi mj mr).bind fun r => zRun 178 176 L (r.1.toList ++ S) r.2.1 r.2.2.1 r.2.2.2.1 r.2.2.2.2 := zr_V (zD_of zk_178 d_178_173 rfl rfl) rfl zk_139 rfl rfl rfl hS h
theorem q_178_176  : zRun 178 176 L S sh mi mj mr = zRun 178 184 L S sh mi mj mr := zr_go (off := 8) (zD_of zk_178 d_178_176 rfl rfl) rfl rfl (by decide)
theorem q_178_179r : zRun 178 179 [some (.ref o), l1, l2, l3, l4, l5, l6, l7] S sh mi mj mr = zRun 178 180 [some (.ref o), l1, l2, l3, l4, l5, l6, l7] (.ref o :: S) sh mi mj mr := zr_l (zD_of zk_178 d_178_179 rfl rfl) rfl rfl rfl
theorem q_178_179n : zRun 178 179 [some (.null), l1, l2, l3, l4, l5, l6, l7] S sh mi mj mr = zRun 178 180 [some (.null), l1, l2, l3, l4, l5, l6, l7] (.null :: S) sh mi mj mr := zr_l (zD_of zk_178 d_178_179 rfl rfl) rfl rfl rfl
theorem q_178_180  : zRun 178 180 L S sh mi mj mr = zRun 178 181 L (.int 0 :: S) sh mi mj mr := zr_p (zD_of zk_178 d_178_180 rfl rfl) rfl
theorem q_178_181  {x0 : Int32} (hS : zcat S ≤ 8) (h : zIs sh o 0 8) : zRun 178 181 L (.int x0 :: .ref o :: S) sh mi mj mr = (zCall 140 [.ref o, .int x0] sh mi mj mr).bind fun r => zRun 178 184 L (r.1.toList ++ S) r.2.1 r.2.2.1 r.2.2.2.1 r.2.2.2.2 := zr_V (zD_of zk_178 d_178_181 rfl rfl) rfl zk_140 rfl rfl rfl hS h
theorem q_178_184  : zRun 178 184 L ([.long u]) sh mi mj mr = some (some (.long u), sh, mi, mj, mr) := zr_ret (zD_of zk_178 d_178_184 rfl rfl) rfl rfl rfl rfl rfl rfl
theorem e_178 {x0 x1 x2 : Int32} : zCall 178 [.ref o, .int x0, .int x1, .int x2] sh mi mj mr = zRun 178 0 [some (.ref o), some (.int x0), some (.int x1), some (.int x2), none, none, none, none] [] sh mi mj mr := rfl
theorem d_179_0 : decode cX8_compare 0 = .ok (.aload_n 0, 1) := by decide +kernel
theorem d_179_1 : decode cX8_compare 1 = .ok (.iload_n 1, 1) := by decide +kernel
theorem d_179_2 : decode cX8_compare 2 = .ok (.invokevirtual 146, 3) := by decide +kernel
theorem d_179_5 : decode cX8_compare 5 = .ok (.ifCond .eq 11, 3) := by decide +kernel
theorem d_179_8 : decode cX8_compare 8 = .ok (.aload_n 0, 1) := by decide +kernel
theorem d_179_9 : decode cX8_compare 9 = .ok (.iload_n 2, 1) := by decide +kernel
theorem d_179_10 : decode cX8_compare 10 = .ok (.invokevirtual 146, 3) := by decide +kernel
theorem d_179_13 : decode cX8_compare 13 = .ok (.ifCond .ne 5, 3) := by decide +kernel
theorem d_179_16 : decode cX8_compare 16 = .ok (.iconst (-1), 1) := by decide +kernel
theorem d_179_17 : decode cX8_compare 17 = .ok (.ireturn, 1) := by decide +kernel
theorem d_179_18 : decode cX8_compare 18 = .ok (.aload_n 0, 1) := by decide +kernel
theorem d_179_19 : decode cX8_compare 19 = .ok (.invokevirtual 279, 3) := by decide +kernel
theorem d_179_22 : decode cX8_compare 22 = .ok (.aload_n 0, 1) := by decide +kernel
theorem d_179_23 : decode cX8_compare 23 = .ok (.iconst 0, 1) := by decide +kernel
theorem d_179_24 : decode cX8_compare 24 = .ok (.putfield 224, 3) := by decide +kernel
theorem d_179_27 : decode cX8_compare 27 = .ok (.aload_n 0, 1) := by decide +kernel
theorem d_179_28 : decode cX8_compare 28 = .ok (.iload_n 1, 1) := by decide +kernel
theorem d_179_29 : decode cX8_compare 29 = .ok (.invokevirtual 273, 3) := by decide +kernel
theorem d_179_32 : decode cX8_compare 32 = .ok (.aload_n 0, 1) := by decide +kernel
theorem d_179_33 : decode cX8_compare 33 = .ok (.iload_n 2, 1) := by decide +kernel
theorem d_179_34 : decode cX8_compare 34 = .ok (.invokevirtual 273, 3) := by decide +kernel
theorem d_179_37 : decode cX8_compare 37 = .ok (.aload_n 0, 1) := by decide +kernel
theorem d_179_38 : decode cX8_compare 38 = .ok (.getfield 33, 3) := by decide +kernel
theorem d_179_41 : decode cX8_compare 41 = .ok (.aload_n 0, 1) := by decide +kernel
theorem d_179_42 : decode cX8_compare 42 = .ok (.getfield 224, 3) := by decide +kernel
theorem d_179_45 : decode cX8_compare 45 = .ok (.bipush 6, 2) := by decide +kernel
theorem d_179_47 : decode cX8_compare 47 = .ok (.iastore, 1) := by decide +kernel
theorem d_179_48 : decode cX8_compare 48 = .ok (.aload_n 0, 1) := by decide +kernel
theorem d_179_49 : decode cX8_compare 49 = .ok (.dup, 1) := by decide +kernel
theorem d_179_50 : decode cX8_compare 50 = .ok (.getfield 224, 3) := by decide +kernel
theorem d_179_53 : decode cX8_compare 53 = .ok (.iconst 1, 1) := by decide +kernel
theorem d_179_54 : decode cX8_compare 54 = .ok (.iadd, 1) := by decide +kernel
theorem d_179_55 : decode cX8_compare 55 = .ok (.putfield 224, 3) := by decide +kernel
theorem d_179_58 : decode cX8_compare 58 = .ok (.aload_n 0, 1) := by decide +kernel
theorem d_179_59 : decode cX8_compare 59 = .ok (.invokevirtual 276, 3) := by decide +kernel
theorem d_179_62 : decode cX8_compare 62 = .ok (.aload_n 0, 1) := by decide +kernel
theorem d_179_63 : decode cX8_compare 63 = .ok (.iconst 0, 1) := by decide +kernel
theorem d_179_64 : decode cX8_compare 64 = .ok (.invokevirtual 251, 3) := by decide +kernel
theorem d_179_67 : decode cX8_compare 67 = .ok (.ifCond .eq 6, 3) := by decide +kernel
theorem d_179_70 : decode cX8_compare 70 = .ok (.bipush (-5), 2) := by decide +kernel
theorem d_179_72 : decode cX8_compare 72 = .ok (.ireturn, 1) := by decide +kernel
theorem d_179_73 : decode cX8_compare 73 = .ok (.aload_n 0, 1) := by decide +kernel
theorem d_179_74 : decode cX8_compare 74 = .ok (.iconst 0, 1) := by decide +kernel
theorem d_179_75 : decode cX8_compare 75 = .ok (.invokevirtual 189, 3) := by decide +kernel
theorem d_179_78 : decode cX8_compare 78 = .ok (.lstore_n 3, 1) := by decide +kernel
theorem d_179_79 : decode cX8_compare 79 = .ok (.aload_n 0, 1) := by decide +kernel
theorem d_179_80 : decode cX8_compare 80 = .ok (.iconst 0, 1) := by decide +kernel
theorem d_179_81 : decode cX8_compare 81 = .ok (.invokevirtual 192, 3) := by decide +kernel
theorem d_179_84 : decode cX8_compare 84 = .ok (.lstore 5, 2) := by decide +kernel
theorem d_179_86 : decode cX8_compare 86 = .ok (.lload_n 3, 1) := by decide +kernel
theorem d_179_87 : decode cX8_compare 87 = .ok (.lconst 0, 1) := by decide +kernel
theorem d_179_88 : decode cX8_compare 88 = .ok (.lcmp, 1) := by decide +kernel
theorem d_179_89 : decode cX8_compare 89 = .ok (.ifCond .le 7, 3) := by decide +kernel
theorem d_179_92 : decode cX8_compare 92 = .ok (.iconst 1, 1) := by decide +kernel
theorem d_179_93 : decode cX8_compare 93 = .ok (.goto 32, 3) := by decide +kernel
theorem d_179_96 : decode cX8_compare 96 = .ok (.lload 5, 2) := by decide +kernel
theorem d_179_98 : decode cX8_compare 98 = .ok (.lconst 0, 1) := by decide +kernel
theorem d_179_99 : decode cX8_compare 99 = .ok (.lcmp, 1) := by decide +kernel
theorem d_179_100 : decode cX8_compare 100 = .ok (.ifCond .ge 7, 3) := by decide +kernel
theorem d_179_103 : decode cX8_compare 103 = .ok (.iconst 2, 1) := by decide +kernel
theorem d_179_104 : decode cX8_compare 104 = .ok (.goto 21, 3) := by decide +kernel
theorem d_179_107 : decode cX8_compare 107 = .ok (.lload_n 3, 1) := by decide +kernel
theorem d_179_108 : decode cX8_compare 108 = .ok (.lconst 0, 1) := by decide +kernel
theorem d_179_109 : decode cX8_compare 109 = .ok (.lcmp, 1) := by decide +kernel
theorem d_179_110 : decode cX8_compare 110 = .ok (.ifCond .ne 14, 3) := by decide +kernel
theorem d_179_113 : decode cX8_compare 113 = .ok (.lload 5, 2) := by decide +kernel
theorem d_179_115 : decode cX8_compare 115 = .ok (.lconst 0, 1) := by decide +kernel
theorem d_179_116 : decode cX8_compare 116 = .ok (.lcmp, 1) := by decide +kernel
theorem d_179_117 : decode cX8_compare 117 = .ok (.ifCond .ne 7, 3) := by decide +kernel
theorem d_179_120 : decode cX8_compare 120 = .ok (.iconst 3, 1) := by decide +kernel
theorem d_179_121 : decode cX8_compare 121 = .ok (.goto 4, 3) := by decide +kernel
theorem d_179_124 : decode cX8_compare 124 = .ok (.iconst 0, 1) := by decide +kernel
theorem d_179_125 : decode cX8_compare 125 = .ok (.ireturn, 1) := by decide +kernel
theorem q_179_0r : zRun 179 0 [some (.ref o), l1, l2, l3, l4, l5, l6] S sh mi mj mr = zRun 179 1 [some (.ref o), l1, l2, l3, l4, l5, l6] (.ref o :: S) sh mi mj mr := zr_l (zD_of zk_179 d_179_0 rfl rfl) rfl rfl rfl
theorem q_179_0n : zRun 179 0 [some (.null), l1, l2, l3, l4, l5, l6] S sh mi mj mr = zRun 179 1 [some (.null), l1, l2, l3, l4, l5, l6] (.null :: S) sh mi mj mr := zr_l (zD_of zk_179 d_179_0 rfl rfl) rfl rfl rfl
theorem q_179_1 : zRun 179 1 [l0, some (.int x), l2, l3, l4, l5, l6] S sh mi mj mr = zRun 179 2 [l0, some (.int x), l2, l3, l4, l5, l6] (.int x :: S) sh mi mj mr := zr_l (zD_of zk_179 d_179_1 rfl rfl) rfl rfl rfl
theorem q_179_2  {x0 : Int32} (hS : zcat S ≤ 8) (h : zIs sh o 0 8) : zRun 179 2 L (.int x0 :: .ref o :: S) sh mi mj mr = (zCall 113 [.ref o, .int x0] sh mi mj mr).bind fun r => zRun 179 5 L (r.1.toList ++ S) r.2.1 r.2.2.1 r.2.2.2.1 r.2.2.2.2 := zr_V (zD_of zk_179 d_179_2 rfl rfl) rfl zk_113 rfl rfl rfl hS h
theorem q_179_5  : zRun 179 5 L (.int x :: S) sh mi mj mr = if x = 0 then zRun 179 16 L S sh mi mj mr else zRun 179 8 L S sh mi mj mr := zr_if (off := 11) (P := x = 0) (zD_of zk_179 d_179_5 rfl rfl) rfl rfl (by decide)
theorem q_179_8r : zRun 179 8 [some (.ref o), l1, l2, l3, l4, l5, l6] S sh mi mj mr = zRun 179 9 [some (.ref o), l1, l2, l3, l4, l5, l6] (.ref o :: S) sh mi mj mr := zr_l (zD_of zk_179 d_179_8 rfl rfl) rfl rfl rfl
theorem q_179_8n : zRun 179 8 [some (.null), l1, l2, l3, l4, l5, l6] S sh mi mj mr = zRun 179 9 [some (.null), l1, l2, l3, l4, l5, l6] (.null :: S) sh mi mj mr := zr_l (zD_of zk_179 d_179_8 rfl rfl) rfl rfl rfl
theorem q_179_9 : zRun 179 9 [l0, l1, some (.int x), l3, l4, l5, l6] S sh mi mj mr = zRun 179 10 [l0, l1, some (.int x), l3, l4, l5, l6] (.int x :: S) sh mi mj mr := zr_l (zD_of zk_179 d_179_9 rfl rfl) rfl rfl rfl
theorem q_179_10  {x0 : Int32} (hS : zcat S ≤ 8) (h : zIs sh o 0 8) : zRun 179 10 L (.int x0 :: .ref o :: S) sh mi mj mr = (zCall 113 [.ref o, .int x0] sh mi mj mr).bind fun r => zRun 179 13 L (r.1.toList ++ S) r.2.1 r.2.2.1 r.2.2.2.1 r.2.2.2.2 := zr_V (zD_of zk_179 d_179_10 rfl rfl) rfl zk_113 rfl rfl rfl hS h
theorem q_179_13  : zRun 179 13 L (.int x :: S) sh mi mj mr = if ¬ x = 0 then zRun 179 18 L S sh mi mj mr else zRun 179 16 L S sh mi mj mr := zr_if (off := 5) (P := ¬ x = 0) (zD_of zk_179 d_179_13 rfl rfl) rfl rfl (by decide)
theorem q_179_16  : zRun 179 16 L S sh mi mj mr = zRun 179 17 L (.int (-1) :: S) sh mi mj mr := zr_p (zD_of zk_179 d_179_16 rfl rfl) rfl
theorem q_179_17  : zRun 179 17 L ([.int x]) sh mi mj mr = some (some (.int x), sh, mi, mj, mr) := zr_ret (zD_of zk_179 d_179_17 rfl rfl) rfl rfl rfl rfl rfl (if_pos rfl)
theorem q_179_18r : zRun 179 18 [some (.ref o), l1, l2, l3, l4, l5, l6] S sh mi mj mr = zRun 179 19 [some (.ref o), l1, l2, l3, l4, l5, l6] (.ref o :: S) sh mi mj mr := zr_l (zD_of zk_179 d_179_18 rfl rfl) rfl rfl rfl
theorem q_179_18n : zRun 179 18 [some (.null), l1, l2, l3, l4, l5, l6] S sh mi mj mr = zRun 179 19 [some (.null), l1, l2, l3, l4, l5, l6] (.null :: S) sh mi mj mr := zr_l (zD_of zk_179 d_179_18 rfl rfl) rfl rfl rfl
theorem q_179_19  (hS : zcat S ≤ 8) (h : zIs sh o 0 8) : zRun 179 19 L (.ref o :: S) sh mi mj mr = (zCall 163 [.ref o] sh mi mj mr).bind fun r => zRun 179 22 L (r.1.toList ++ S) r.2.1 r.2.2.1 r.2.2.2.1 r.2.2.2.2 := zr_V (zD_of zk_179 d_179_19 rfl rfl) rfl zk_163 rfl rfl rfl hS h
theorem q_179_22r : zRun 179 22 [some (.ref o), l1, l2, l3, l4, l5, l6] S sh mi mj mr = zRun 179 23 [some (.ref o), l1, l2, l3, l4, l5, l6] (.ref o :: S) sh mi mj mr := zr_l (zD_of zk_179 d_179_22 rfl rfl) rfl rfl rfl
theorem q_179_22n : zRun 179 22 [some (.null), l1, l2, l3, l4, l5, l6] S sh mi mj mr = zRun 179 23 [some (.null), l1, l2, l3, l4, l5, l6] (.null :: S) sh mi mj mr := zr_l (zD_of zk_179 d_179_22 rfl rfl) rfl rfl rfl
theorem q_179_23  : zRun 179 23 L S sh mi mj mr = zRun 179 24 L (.int 0 :: S) sh mi mj mr := zr_p (zD_of zk_179 d_179_23 rfl rfl) rfl
theorem q_179_24 (h : zIs sh o 0 8) : zRun 179 24 L (.int x :: .ref o :: S) sh mi mj mr = zRun 179 27 L S sh (zup mi o 15 x) mj mr := zr_putI (zD_of zk_179 d_179_24 rfl rfl) rfl rfl rfl (Or.inl rfl) h
theorem q_179_27r : zRun 179 27 [some (.ref o), l1, l2, l3, l4, l5, l6] S sh mi mj mr = zRun 179 28 [some (.ref o), l1, l2, l3, l4, l5, l6] (.ref o :: S) sh mi mj mr := zr_l (zD_of zk_179 d_179_27 rfl rfl) rfl rfl rfl
theorem q_179_27n : zRun 179 27 [some (.null), l1, l2, l3, l4, l5, l6] S sh mi mj mr = zRun 179 28 [some (.null), l1, l2, l3, l4, l5, l6] (.null :: S) sh mi mj mr := zr_l (zD_of zk_179 d_179_27 rfl rfl) rfl rfl rfl
theorem q_179_28 : zRun 179 28 [l0, some (.int x), l2, l3, l4, l5, l6] S sh mi mj mr = zRun 179 29 [l0, some (.int x), l2, l3, l4, l5, l6] (.int x :: S) sh mi mj mr := zr_l (zD_of zk_179 d_179_28 rfl rfl) rfl rfl rfl
theorem q_179_29  {x0 : Int32} (hS : zcat S ≤ 8) (h : zIs sh o 0 8) : zRun 179 29 L (.int x0 :: .ref o :: S) sh mi mj mr = (zCall 162 [.ref o, .int x0] sh mi mj mr).bind fun r => zRun 179 32 L (r.1.toList ++ S) r.2.1 r.2.2.1 r.2.2.2.1 r.2.2.2.2 := zr_V (zD_of zk_179 d_179_29 rfl rfl) rfl zk_162 rfl rfl rfl hS h
theorem q_179_32r : zRun 179 32 [some (.ref o), l1, l2, l3, l4, l5, l6] S sh mi mj mr = zRun 179 33 [some (.ref o), l1, l2, l3, l4, l5, l6] (.ref o :: S) sh mi mj mr := zr_l (zD_of zk_179 d_179_32 rfl rfl) rfl rfl rfl
theorem q_179_32n : zRun 179 32 [some (.null), l1, l2, l3, l4, l5, l6] S sh mi mj mr = zRun 179 33 [some (.null), l1, l2, l3, l4, l5, l6] (.null :: S) sh mi mj mr := zr_l (zD_of zk_179 d_179_32 rfl rfl) rfl rfl rfl
theorem q_179_33 : zRun 179 33 [l0, l1, some (.int x), l3, l4, l5, l6] S sh mi mj mr = zRun 179 34 [l0, l1, some (.int x), l3, l4, l5, l6] (.int x :: S) sh mi mj mr := zr_l (zD_of zk_179 d_179_33 rfl rfl) rfl rfl rfl
theorem q_179_34  {x0 : Int32} (hS : zcat S ≤ 8) (h : zIs sh o 0 8) : zRun 179 34 L (.int x0 :: .ref o :: S) sh mi mj mr = (zCall 162 [.ref o, .int x0] sh mi mj mr).bind fun r => zRun 179 37 L (r.1.toList ++ S) r.2.1 r.2.2.1 r.2.2.2.1 r.2.2.2.2 := zr_V (zD_of zk_179 d_179_34 rfl rfl) rfl zk_162 rfl rfl rfl hS h
theorem q_179_37r : zRun 179 37 [some (.ref o), l1, l2, l3, l4, l5, l6] S sh mi mj mr = zRun 179 38 [some (.ref o), l1, l2, l3, l4, l5, l6] (.ref o :: S) sh mi mj mr := zr_l (zD_of zk_179 d_179_37 rfl rfl) rfl rfl rfl
theorem q_179_37n : zRun 179 37 [some (.null), l1, l2, l3, l4, l5, l6] S sh mi mj mr = zRun 179 38 [some (.null), l1, l2, l3, l4, l5, l6] (.null :: S) sh mi mj mr := zr_l (zD_of zk_179 d_179_37 rfl rfl) rfl rfl rfl
theorem q_179_38 (h : zIs sh o 0 8) : zRun 179 38 L (.ref o :: S) sh mi mj mr = zRun 179 41 L (va_rf (mr o 13) :: S) sh mi mj mr := zr_getR (zD_of zk_179 d_179_38 rfl rfl) rfl rfl rfl h
theorem q_179_41r : zRun 179 41 [some (.ref o), l1, l2, l3, l4, l5, l6] S sh mi mj mr = zRun 179 42 [some (.ref o), l1, l2, l3, l4, l5, l6] (.ref o :: S) sh mi mj mr := zr_l (zD_of zk_179 d_179_41 rfl rfl) rfl rfl rfl
theorem q_179_41n : zRun 179 41 [some (.null), l1, l2, l3, l4, l5, l6] S sh mi mj mr = zRun 179 42 [some (.null), l1, l2, l3, l4, l5, l6] (.null :: S) sh mi mj mr := zr_l (zD_of zk_179 d_179_41 rfl rfl) rfl rfl rfl
theorem q_179_42 (h : zIs sh o 0 8) : zRun 179 42 L (.ref o :: S) sh mi mj mr = zRun 179 45 L (.int (mi o 15) :: S) sh mi mj mr := zr_getI (zD_of zk_179 d_179_42 rfl rfl) rfl rfl (Or.inl rfl) h
theorem q_179_45  : zRun 179 45 L S sh mi mj mr = zRun 179 47 L (.int 6 :: S) sh mi mj mr := zr_p (zD_of zk_179 d_179_45 rfl rfl) rfl
theorem q_179_47 (h : zAt sh o 1 x) : zRun 179 47 L (.int y :: .int x :: .ref o :: S) sh mi mj mr = zRun 179 48 L S sh (zup mi o x.toNatClampNeg y) mj mr := zr_iast (zD_of zk_179 d_179_47 rfl rfl) h
theorem q_179_48r : zRun 179 48 [some (.ref o), l1, l2, l3, l4, l5, l6] S sh mi mj mr = zRun 179 49 [some (.ref o), l1, l2, l3, l4, l5, l6] (.ref o :: S) sh mi mj mr := zr_l (zD_of zk_179 d_179_48 rfl rfl) rfl rfl rfl
theorem q_179_48n : zRun 179 48 [some (.null), l1, l2, l3, l4, l5, l6] S sh mi mj mr = zRun 179 49 [some (.null), l1, l2, l3, l4, l5, l6] (.null :: S) sh mi mj mr := zr_l (zD_of zk_179 d_179_48 rfl rfl) rfl rfl rfl
theorem q_179_49r : zRun 179 49 L (.ref o :: S) sh mi mj mr = zRun 179 50 L (.ref o :: .ref o :: S) sh mi mj mr := zr_p (zD_of zk_179 d_179_49 rfl rfl) rfl
theorem q_179_49i : zRun 179 49 L (.int x :: S) sh mi mj mr = zRun 179 50 L (.int x :: .int x :: S) sh mi mj mr := zr_p (zD_of zk_179 d_179_49 rfl rfl) rfl
theorem q_179_50 (h : zIs sh o 0 8) : zRun 179 50 L (.ref o :: S) sh mi mj mr = zRun 179 53 L (.int (mi o 15) :: S) sh mi mj mr := zr_getI (zD_of zk_179 d_179_50 rfl rfl) rfl rfl (Or.inl rfl) h
theorem q_179_53  : zRun 179 53 L S sh mi mj mr = zRun 179 54 L (.int 1 :: S) sh mi mj mr := zr_p (zD_of zk_179 d_179_53 rfl rfl) rfl
theorem q_179_54  : zRun 179 54 L (.int y :: .int x :: S) sh mi mj mr = zRun 179 55 L (.int (x + y) :: S) sh mi mj mr := zr_p (zD_of zk_179 d_179_54 rfl rfl) rfl
theorem q_179_55 (h : zIs sh o 0 8) : zRun 179 55 L (.int x :: .ref o :: S) sh mi mj mr = zRun 179 58 L S sh (zup mi o 15 x) mj mr := zr_putI (zD_of zk_179 d_179_55 rfl rfl) rfl rfl rfl (Or.inl rfl) h
theorem q_179_58r : zRun 179 58 [some (.ref o), l1, l2, l3, l4, l5, l6] S sh mi mj mr = zRun 179 59 [some (.ref o), l1, l2, l3, l4, l5, l6] (.ref o :: S) sh mi mj mr := zr_l (zD_of zk_179 d_179_58 rfl rfl) rfl rfl rfl
theorem q_179_58n : zRun 179 58 [some (.null), l1, l2, l3, l4, l5, l6] S sh mi mj mr = zRun 179 59 [some (.null), l1, l2, l3, l4, l5, l6] (.null :: S) sh mi mj mr := zr_l (zD_of zk_179 d_179_58 rfl rfl) rfl rfl rfl
theorem q_179_59  (hS : zcat S ≤ 8) (h : zIs sh o 0 8) : zRun 179 59 L (.ref o :: S) sh mi mj mr = (zCall 169 [.ref o] sh mi mj mr).bind fun r => zRun 179 62 L (r.1.toList ++ S) r.2.1 r.2.2.1 r.2.2.2.1 r.2.2.2.2 := zr_V (zD_of zk_179 d_179_59 rfl rfl) rfl zk_169 rfl rfl rfl hS h
theorem q_179_62r : zRun 179 62 [some (.ref o), l1, l2, l3, l4, l5, l6] S sh mi mj mr = zRun 179 63 [some (.ref o), l1, l2, l3, l4, l5, l6] (.ref o :: S) sh mi mj mr := zr_l (zD_of zk_179 d_179_62 rfl rfl) rfl rfl rfl
theorem q_179_62n : zRun 179 62 [some (.null), l1, l2, l3, l4, l5, l6] S sh mi mj mr = zRun 179 63 [some (.null), l1, l2, l3, l4, l5, l6] (.null :: S) sh mi mj mr := zr_l (zD_of zk_179 d_179_62 rfl rfl) rfl rfl rfl
theorem q_179_63  : zRun 179 63 L S sh mi mj mr = zRun 179 64 L (.int 0 :: S) sh mi mj mr := zr_p (zD_of zk_179 d_179_63 rfl rfl) rfl
theorem q_179_64  {x0 : Int32} (hS : zcat S ≤ 8) (h : zIs sh o 0 8) : zRun 179 64 L (.int x0 :: .ref o :: S) sh mi mj mr = (zCall 141 [.ref o, .int x0] sh mi mj mr).bind fun r => zRun 179 67 L (r.1.toList ++ S) r.2.1 r.2.2.1 r.2.2.2.1 r.2.2.2.2 := zr_V (zD_of zk_179 d_179_64 rfl rfl) rfl zk_141 rfl rfl rfl hS h
theorem q_179_67  : zRun 179 67 L (.int x :: S) sh mi mj mr = if x = 0 then zRun 179 73 L S sh mi mj mr else zRun 179 70 L S sh mi mj mr := zr_if (off := 6) (P := x = 0) (zD_of zk_179 d_179_67 rfl rfl) rfl rfl (by decide)
theorem q_179_70  : zRun 179 70 L S sh mi mj mr = zRun 179 72 L (.int (-5) :: S) sh mi mj mr := zr_p (zD_of zk_179 d_179_70 rfl rfl) rfl
theorem q_179_72  : zRun 179 72 L ([.int x]) sh mi mj mr = some (some (.int x), sh, mi, mj, mr) := zr_ret (zD_of zk_179 d_179_72 rfl rfl) rfl rfl rfl rfl rfl (if_pos rfl)
theorem q_179_73r : zRun 179 73 [some (.ref o), l1, l2, l3, l4, l5, l6] S sh mi mj mr = zRun 179 74 [some (.ref o), l1, l2, l3, l4, l5, l6] (.ref o :: S) sh mi mj mr := zr_l (zD_of zk_179 d_179_73 rfl rfl) rfl rfl rfl
theorem q_179_73n : zRun 179 73 [some (.null), l1, l2, l3, l4, l5, l6] S sh mi mj mr = zRun 179 74 [some (.null), l1, l2, l3, l4, l5, l6] (.null :: S) sh mi mj mr := zr_l (zD_of zk_179 d_179_73 rfl rfl) rfl rfl rfl
theorem q_179_74  : zRun 179 74 L S sh mi mj mr = zRun 179 75 L (.int 0 :: S) sh mi mj mr := zr_p (zD_of zk_179 d_179_74 rfl rfl) rfl
theorem q_179_75  {x0 : Int32} (hS : zcat S ≤ 8) (h : zIs sh o 0 8) : zRun 179 75 L (.int x0 :: .ref o :: S) sh mi mj mr = (zCall 139 [.ref o, .int x0] sh mi mj mr).bind fun r => zRun 179 78 L (r.1.toList ++ S) r.2.1 r.2.2.1 r.2.2.2.1 r.2.2.2.2 := zr_V (zD_of zk_179 d_179_75 rfl rfl) rfl zk_139 rfl rfl rfl hS h
theorem q_179_78 : zRun 179 78 [l0, l1, l2, l3, l4, l5, l6] (.long u :: S) sh mi mj mr = zRun 179 79 [l0, l1, zk2 l2, some (.long u), none, l5, l6] S sh mi mj mr := zr_s2 (i := 3) (v := .long u) (L := [l0, l1, l2, l3, l4, l5, l6]) (zD_of zk_179 d_179_78 rfl rfl) rfl rfl rfl rfl
theorem q_179_79r : zRun 179 79 [some (.ref o), l1, l2, l3, l4, l5, l6] S sh mi mj mr = zRun 179 80 [some (.ref o), l1, l2, l3, l4, l5, l6] (.ref o :: S) sh mi mj mr := zr_l (zD_of zk_179 d_179_79 rfl rfl) rfl rfl rfl
theorem q_179_79n : zRun 179 79 [some (.null), l1, l2, l3, l4, l5, l6] S sh mi mj mr = zRun 179 80 [some (.null), l1, l2, l3, l4, l5, l6] (.null :: S) sh mi mj mr := zr_l (zD_of zk_179 d_179_79 rfl rfl) rfl rfl rfl
theorem q_179_80  : zRun 179 80 L S sh mi mj mr = zRun 179 81 L (.int 0 :: S) sh mi mj mr := zr_p (zD_of zk_179 d_179_80 rfl rfl) rfl
theorem q_179_81  {x0 : Int32} (hS : zcat S ≤ 8) (h : zIs sh o 0 8) : zRun 179 81 L (.int x0 :: .ref o :: S) sh mi mj mr = (zCall 140 [.ref o, .int x0] sh mi mj mr).bind fun r => zRun 179 84 L (r.1.toList ++ S) r.2.1 r.2.2.1 r.2.2.2.1 r.2.2.2.2 := zr_V (zD_of zk_179 d_179_81 rfl rfl) rfl zk_140 rfl rfl rfl hS h
theorem q_179_84 : zRun 179 84 [l0, l1, l2, l3, l4, l5, l6] (.long u :: S) sh mi mj mr = zRun 179 86 [l0, l1, l2, l3, zk2 l4, some (.long u), none] S sh mi mj mr := zr_s2 (i := 5) (v := .long u) (L := [l0, l1, l2, l3, l4, l5, l6]) (zD_of zk_179 d_179_84 rfl rfl) rfl rfl rfl rfl
theorem q_179_86 : zRun 179 86 [l0, l1, l2, some (.long u), l4, l5, l6] S sh mi mj mr = zRun 179 87 [l0, l1, l2, some (.long u), l4, l5, l6] (.long u :: S) sh mi mj mr := zr_l (zD_of zk_179 d_179_86 rfl rfl) rfl rfl rfl
theorem q_179_87  : zRun 179 87 L S sh mi mj mr = zRun 179 88 L (.long 0 :: S) sh mi mj mr := zr_p (zD_of zk_179 d_179_87 rfl rfl) rfl
theorem q_179_88  : zRun 179 88 L (.long v :: .long u :: S) sh mi mj mr = if u ≤ v then zRun 179 96 L S sh mi mj mr else zRun 179 92 L S sh mi mj mr := zr_cmp (off := 7) (zD_of zk_179 d_179_88 rfl rfl) (zD_of zk_179 d_179_89 rfl rfl) rfl rfl (by decide) (lg_cmp_le u v)
theorem q_179_89  : zRun 179 89 L (.int x :: S) sh mi mj mr = if x ≤ 0 then zRun 179 96 L S sh mi mj mr else zRun 179 92 L S sh mi mj mr := zr_if (off := 7) (P := x ≤ 0) (zD_of zk_179 d_179_89 rfl rfl) rfl rfl (by decide)
theorem q_179_92  : zRun 179 92 L S sh mi mj mr = zRun 179 93 L (.int 1 :: S) sh mi mj mr := zr_p (zD_of zk_179 d_179_92 rfl rfl) rfl
theorem q_179_93  : zRun 179 93 L S sh mi mj mr = zRun 179 125 L S sh mi mj mr := zr_go (off := 32) (zD_of zk_179 d_179_93 rfl rfl) rfl rfl (by decide)
theorem q_179_96 : zRun 179 96 [l0, l1, l2, l3, l4, some (.long u), l6] S sh mi mj mr = zRun 179 98 [l0, l1, l2, l3, l4, some (.long u), l6] (.long u :: S) sh mi mj mr := zr_l (zD_of zk_179 d_179_96 rfl rfl) rfl rfl rfl
theorem q_179_98  : zRun 179 98 L S sh mi mj mr = zRun 179 99 L (.long 0 :: S) sh mi mj mr := zr_p (zD_of zk_179 d_179_98 rfl rfl) rfl
theorem q_179_99  : zRun 179 99 L (.long v :: .long u :: S) sh mi mj mr = if v ≤ u then zRun 179 107 L S sh mi mj mr else zRun 179 103 L S sh mi mj mr := zr_cmp (off := 7) (zD_of zk_179 d_179_99 rfl rfl) (zD_of zk_179 d_179_100 rfl rfl) rfl rfl (by decide) (lg_cmp_ge u v)
theorem q_179_100  : zRun 179 100 L (.int x :: S) sh mi mj mr = if 0 ≤ x then zRun 179 107 L S sh mi mj mr else zRun 179 103 L S sh mi mj mr := zr_if (off := 7) (P := 0 ≤ x) (zD_of zk_179 d_179_100 rfl rfl) rfl rfl (by decide)
theorem q_179_103  : zRun 179 103 L S sh mi mj mr = zRun 179 104 L (.int 2 :: S) sh mi mj mr := zr_p (zD_of zk_179 d_179_103 rfl rfl) rfl
theorem q_179_104  : zRun 179 104 L S sh mi mj mr = zRun 179 125 L S sh mi mj mr := zr_go (off := 21) (zD_of zk_179 d_179_104 rfl rfl) rfl rfl (by decide)
theorem q_179_107 : zRun 179 107 [l0, l1, l2, some (.long u), l4, l5, l6] S sh mi mj mr = zRun 179 108 [l0, l1, l2, some (.long u), l4, l5, l6] (.long u :: S) sh mi mj mr := zr_l (zD_of zk_179 d_179_107 rfl rfl) rfl rfl rfl
theorem q_179_108  : zRun 179 108 L S sh mi mj mr = zRun 179 109 L (.long 0 :: S) sh mi mj mr := zr_p (zD_of zk_179 d_179_108 rfl rfl) rfl
theorem q_179_109  : zRun 179 109 L (.long v :: .long u :: S) sh mi mj mr = if ¬ u = v then zRun 179 124 L S sh mi mj mr else zRun 179 113 L S sh mi mj mr := zr_cmp (off := 14) (zD_of zk_179 d_179_109 rfl rfl) (zD_of zk_179 d_179_110 rfl rfl) rfl rfl (by decide) (not_congr (lg_cmp_eq u v))
theorem q_179_110  : zRun 179 110 L (.int x :: S) sh mi mj mr = if ¬ x = 0 then zRun 179 124 L S sh mi mj mr else zRun 179 113 L S sh mi mj mr := zr_if (off := 14) (P := ¬ x = 0) (zD_of zk_179 d_179_110 rfl rfl) rfl rfl (by decide)
theorem q_179_113 : zRun 179 113 [l0, l1, l2, l3, l4, some (.long u), l6] S sh mi mj mr = zRun 179 115 [l0, l1, l2, l3, l4, some (.long u), l6] (.long u :: S) sh mi mj mr := zr_l (zD_of zk_179 d_179_113 rfl rfl) rfl rfl rfl
theorem q_179_115  : zRun 179 115 L S sh mi mj mr = zRun 179 116 L (.long 0 :: S) sh mi mj mr := zr_p (zD_of zk_179 d_179_115 rfl rfl) rfl
theorem q_179_116  : zRun 179 116 L (.long v :: .long u :: S) sh mi mj mr = if ¬ u = v then zRun 179 124 L S sh mi mj mr else zRun 179 120 L S sh mi mj mr := zr_cmp (off := 7) (zD_of zk_179 d_179_116 rfl rfl) (zD_of zk_179 d_179_117 rfl rfl) rfl rfl (by decide) (not_congr (lg_cmp_eq u v))
theorem q_179_117  : zRun 179 117 L (.int x :: S) sh mi mj mr = if ¬ x = 0 then zRun 179 124 L S sh mi mj mr else zRun 179 120 L S sh mi mj mr := zr_if (off := 7) (P := ¬ x = 0) (zD_of zk_179 d_179_117 rfl rfl) rfl rfl (by decide)
theorem q_179_120  : zRun 179 120 L S sh mi mj mr = zRun 179 121 L (.int 3 :: S) sh mi mj mr := zr_p (zD_of zk_179 d_179_120 rfl rfl) rfl
theorem q_179_121  : zRun 179 121 L S sh mi mj mr = zRun 179 125 L S sh mi mj mr := zr_go (off := 4) (zD_of zk_179 d_179_121 rfl rfl) rfl rfl (by decide)
theorem q_179_124  : zRun 179 124 L S sh mi mj mr = zRun 179 125 L (.int 0 :: S) sh mi mj mr := zr_p (zD_of zk_179 d_179_124 rfl rfl) rfl
theorem q_179_125  : zRun 179 125 L ([.int x]) sh mi mj mr = some (some (.int x), sh, mi, mj, mr) := zr_ret (zD_of zk_179 d_179_125 rfl rfl) rfl rfl rfl rfl rfl (if_pos rfl)
theorem e_179 {x0 x1 : Int32} : zCall 179 [.ref o, .int x0, .int x1] sh mi mj mr = zRun 179 0 [some (.ref o), some (.int x0), some (.int x1), none, none, none, none] [] sh mi mj mr := rfl
theorem d_180_0 : decode cX8_keepBox 0 = .ok (.iconst 0, 1) := by decide +kernel
theorem d_180_1 : decode cX8_keepBox 1 = .ok (.istore_n 2, 1) := by decide +kernel
theorem d_180_2 : decode cX8_keepBox 2 = .ok (.iload_n 2, 1) := by decide +kernel
theorem d_180_3 : decode cX8_keepBox 3 = .ok (.iconst 4, 1) := by decide +kernel
theorem d_180_4 : decode cX8_keepBox 4 = .ok (.if_icmp .ge 45, 3) := by decide +kernel
theorem d_180_7 : decode cX8_keepBox 7 = .ok (.aload_n 0, 1) := by decide +kernel
theorem d_180_8 : decode cX8_keepBox 8 = .ok (.getfield 54, 3) := by decide +kernel
theorem d_180_11 : decode cX8_keepBox 11 = .ok (.bipush 8, 2) := by decide +kernel
theorem d_180_13 : decode cX8_keepBox 13 = .ok (.iload_n 1, 1) := by decide +kernel
theorem d_180_14 : decode cX8_keepBox 14 = .ok (.imul, 1) := by decide +kernel
theorem d_180_15 : decode cX8_keepBox 15 = .ok (.iload_n 2, 1) := by decide +kernel
theorem d_180_16 : decode cX8_keepBox 16 = .ok (.iadd, 1) := by decide +kernel
theorem d_180_17 : decode cX8_keepBox 17 = .ok (.aload_n 0, 1) := by decide +kernel
theorem d_180_18 : decode cX8_keepBox 18 = .ok (.getfield 39, 3) := by decide +kernel
theorem d_180_21 : decode cX8_keepBox 21 = .ok (.iload_n 2, 1) := by decide +kernel
theorem d_180_22 : decode cX8_keepBox 22 = .ok (.iaload, 1) := by decide +kernel
theorem d_180_23 : decode cX8_keepBox 23 = .ok (.iastore, 1) := by decide +kernel
theorem d_180_24 : decode cX8_keepBox 24 = .ok (.aload_n 0, 1) := by decide +kernel
theorem d_180_25 : decode cX8_keepBox 25 = .ok (.getfield 54, 3) := by decide +kernel
theorem d_180_28 : decode cX8_keepBox 28 = .ok (.bipush 8, 2) := by decide +kernel
theorem d_180_30 : decode cX8_keepBox 30 = .ok (.iload_n 1, 1) := by decide +kernel
theorem d_180_31 : decode cX8_keepBox 31 = .ok (.imul, 1) := by decide +kernel
theorem d_180_32 : decode cX8_keepBox 32 = .ok (.iconst 4, 1) := by decide +kernel
theorem d_180_33 : decode cX8_keepBox 33 = .ok (.iadd, 1) := by decide +kernel
theorem d_180_34 : decode cX8_keepBox 34 = .ok (.iload_n 2, 1) := by decide +kernel
theorem d_180_35 : decode cX8_keepBox 35 = .ok (.iadd, 1) := by decide +kernel
theorem d_180_36 : decode cX8_keepBox 36 = .ok (.aload_n 0, 1) := by decide +kernel
theorem d_180_37 : decode cX8_keepBox 37 = .ok (.getfield 42, 3) := by decide +kernel
theorem d_180_40 : decode cX8_keepBox 40 = .ok (.iload_n 2, 1) := by decide +kernel
theorem d_180_41 : decode cX8_keepBox 41 = .ok (.iaload, 1) := by decide +kernel
theorem d_180_42 : decode cX8_keepBox 42 = .ok (.iastore, 1) := by decide +kernel
theorem d_180_43 : decode cX8_keepBox 43 = .ok (.iinc 2 1, 3) := by decide +kernel
theorem d_180_46 : decode cX8_keepBox 46 = .ok (.goto (-44), 3) := by decide +kernel
theorem d_180_49 : decode cX8_keepBox 49 = .ok (.return_, 1) := by decide +kernel
theorem q_180_0  : zRun 180 0 L S sh mi mj mr = zRun 180 1 L (.int 0 :: S) sh mi mj mr := zr_p (zD_of zk_180 d_180_0 rfl rfl) rfl
theorem q_180_1 : zRun 180 1 [l0, l1, l2] (.int x :: S) sh mi mj mr = zRun 180 2 [l0, zk2 l1, some (.int x)] S sh mi mj mr := zr_s1 (i := 2) (v := .int x) (L := [l0, l1, l2]) (zD_of zk_180 d_180_1 rfl rfl) rfl rfl rfl rfl
theorem q_180_2 : zRun 180 2 [l0, l1, some (.int x)] S sh mi mj mr = zRun 180 3 [l0, l1, some (.int x)] (.int x :: S) sh mi mj mr := zr_l (zD_of zk_180 d_180_2 rfl rfl) rfl rfl rfl
theorem q_180_3  : zRun 180 3 L S sh mi mj mr = zRun 180 4 L (.int 4 :: S) sh mi mj mr := zr_p (zD_of zk_180 d_180_3 rfl rfl) rfl
theorem q_180_4  : zRun 180 4 L (.int y :: .int x :: S) sh mi mj mr = if y ≤ x then zRun 180 49 L S sh mi mj mr else zRun 180 7 L S sh mi mj mr := zr_if (off := 45) (P := y ≤ x) (zD_of zk_180 d_180_4 rfl rfl) rfl rfl (by decide)
theorem q_180_7r : zRun 180 7 [some (.ref o), l1, l2] S sh mi mj mr = zRun 180 8 [some (.ref o), l1, l2] (.ref o :: S) sh mi mj mr := zr_l (zD_of zk_180 d_180_7 rfl rfl) rfl rfl rfl
theorem q_180_7n : zRun 180 7 [some (.null), l1, l2] S sh mi mj mr = zRun 180 8 [some (.null), l1, l2] (.null :: S) sh mi mj mr := zr_l (zD_of zk_180 d_180_7 rfl rfl) rfl rfl rfl
theorem q_180_8 (h : zIs sh o 0 8) : zRun 180 8 L (.ref o :: S) sh mi mj mr = zRun 180 11 L (va_rf (mr o 21) :: S) sh mi mj mr := zr_getR (zD_of zk_180 d_180_8 rfl rfl) rfl rfl rfl h
theorem q_180_11  : zRun 180 11 L S sh mi mj mr = zRun 180 13 L (.int 8 :: S) sh mi mj mr := zr_p (zD_of zk_180 d_180_11 rfl rfl) rfl
theorem q_180_13 : zRun 180 13 [l0, some (.int x), l2] S sh mi mj mr = zRun 180 14 [l0, some (.int x), l2] (.int x :: S) sh mi mj mr := zr_l (zD_of zk_180 d_180_13 rfl rfl) rfl rfl rfl
theorem q_180_14  : zRun 180 14 L (.int y :: .int x :: S) sh mi mj mr = zRun 180 15 L (.int (x * y) :: S) sh mi mj mr := zr_p (zD_of zk_180 d_180_14 rfl rfl) rfl
theorem q_180_15 : zRun 180 15 [l0, l1, some (.int x)] S sh mi mj mr = zRun 180 16 [l0, l1, some (.int x)] (.int x :: S) sh mi mj mr := zr_l (zD_of zk_180 d_180_15 rfl rfl) rfl rfl rfl
theorem q_180_16  : zRun 180 16 L (.int y :: .int x :: S) sh mi mj mr = zRun 180 17 L (.int (x + y) :: S) sh mi mj mr := zr_p (zD_of zk_180 d_180_16 rfl rfl) rfl
theorem q_180_17r : zRun 180 17 [some (.ref o), l1, l2] S sh mi mj mr = zRun 180 18 [some (.ref o), l1, l2] (.ref o :: S) sh mi mj mr := zr_l (zD_of zk_180 d_180_17 rfl rfl) rfl rfl rfl
theorem q_180_17n : zRun 180 17 [some (.null), l1, l2] S sh mi mj mr = zRun 180 18 [some (.null), l1, l2] (.null :: S) sh mi mj mr := zr_l (zD_of zk_180 d_180_17 rfl rfl) rfl rfl rfl
theorem q_180_18 (h : zIs sh o 0 8) : zRun 180 18 L (.ref o :: S) sh mi mj mr = zRun 180 21 L (va_rf (mr o 16) :: S) sh mi mj mr := zr_getR (zD_of zk_180 d_180_18 rfl rfl) rfl rfl rfl h
theorem q_180_21 : zRun 180 21 [l0, l1, some (.int x)] S sh mi mj mr = zRun 180 22 [l0, l1, some (.int x)] (.int x :: S) sh mi mj mr := zr_l (zD_of zk_180 d_180_21 rfl rfl) rfl rfl rfl
theorem q_180_22 (h : zAt sh o 1 x) : zRun 180 22 L (.int x :: .ref o :: S) sh mi mj mr = zRun 180 23 L (.int (mi o x.toNatClampNeg) :: S) sh mi mj mr := zr_iald (zD_of zk_180 d_180_22 rfl rfl) h
theorem q_180_23 (h : zAt sh o 1 x) : zRun 180 23 L (.int y :: .int x :: .ref o :: S) sh mi mj mr = zRun 180 24 L S sh (zup mi o x.toNatClampNeg y) mj mr := zr_iast (zD_of zk_180 d_180_23 rfl rfl) h
theorem q_180_24r : zRun 180 24 [some (.ref o), l1, l2] S sh mi mj mr = zRun 180 25 [some (.ref o), l1, l2] (.ref o :: S) sh mi mj mr := zr_l (zD_of zk_180 d_180_24 rfl rfl) rfl rfl rfl
theorem q_180_24n : zRun 180 24 [some (.null), l1, l2] S sh mi mj mr = zRun 180 25 [some (.null), l1, l2] (.null :: S) sh mi mj mr := zr_l (zD_of zk_180 d_180_24 rfl rfl) rfl rfl rfl
theorem q_180_25 (h : zIs sh o 0 8) : zRun 180 25 L (.ref o :: S) sh mi mj mr = zRun 180 28 L (va_rf (mr o 21) :: S) sh mi mj mr := zr_getR (zD_of zk_180 d_180_25 rfl rfl) rfl rfl rfl h
theorem q_180_28  : zRun 180 28 L S sh mi mj mr = zRun 180 30 L (.int 8 :: S) sh mi mj mr := zr_p (zD_of zk_180 d_180_28 rfl rfl) rfl
theorem q_180_30 : zRun 180 30 [l0, some (.int x), l2] S sh mi mj mr = zRun 180 31 [l0, some (.int x), l2] (.int x :: S) sh mi mj mr := zr_l (zD_of zk_180 d_180_30 rfl rfl) rfl rfl rfl
theorem q_180_31  : zRun 180 31 L (.int y :: .int x :: S) sh mi mj mr = zRun 180 32 L (.int (x * y) :: S) sh mi mj mr := zr_p (zD_of zk_180 d_180_31 rfl rfl) rfl
theorem q_180_32  : zRun 180 32 L S sh mi mj mr = zRun 180 33 L (.int 4 :: S) sh mi mj mr := zr_p (zD_of zk_180 d_180_32 rfl rfl) rfl
theorem q_180_33  : zRun 180 33 L (.int y :: .int x :: S) sh mi mj mr = zRun 180 34 L (.int (x + y) :: S) sh mi mj mr := zr_p (zD_of zk_180 d_180_33 rfl rfl) rfl
theorem q_180_34 : zRun 180 34 [l0, l1, some (.int x)] S sh mi mj mr = zRun 180 35 [l0, l1, some (.int x)] (.int x :: S) sh mi mj mr := zr_l (zD_of zk_180 d_180_34 rfl rfl) rfl rfl rfl
theorem q_180_35  : zRun 180 35 L (.int y :: .int x :: S) sh mi mj mr = zRun 180 36 L (.int (x + y) :: S) sh mi mj mr := zr_p (zD_of zk_180 d_180_35 rfl rfl) rfl
theorem q_180_36r : zRun 180 36 [some (.ref o), l1, l2] S sh mi mj mr = zRun 180 37 [some (.ref o), l1, l2] (.ref o :: S) sh mi mj mr := zr_l (zD_of zk_180 d_180_36 rfl rfl) rfl rfl rfl
theorem q_180_36n : zRun 180 36 [some (.null), l1, l2] S sh mi mj mr = zRun 180 37 [some (.null), l1, l2] (.null :: S) sh mi mj mr := zr_l (zD_of zk_180 d_180_36 rfl rfl) rfl rfl rfl
theorem q_180_37 (h : zIs sh o 0 8) : zRun 180 37 L (.ref o :: S) sh mi mj mr = zRun 180 40 L (va_rf (mr o 17) :: S) sh mi mj mr := zr_getR (zD_of zk_180 d_180_37 rfl rfl) rfl rfl rfl h
theorem q_180_40 : zRun 180 40 [l0, l1, some (.int x)] S sh mi mj mr = zRun 180 41 [l0, l1, some (.int x)] (.int x :: S) sh mi mj mr := zr_l (zD_of zk_180 d_180_40 rfl rfl) rfl rfl rfl
theorem q_180_41 (h : zAt sh o 1 x) : zRun 180 41 L (.int x :: .ref o :: S) sh mi mj mr = zRun 180 42 L (.int (mi o x.toNatClampNeg) :: S) sh mi mj mr := zr_iald (zD_of zk_180 d_180_41 rfl rfl) h
theorem q_180_42 (h : zAt sh o 1 x) : zRun 180 42 L (.int y :: .int x :: .ref o :: S) sh mi mj mr = zRun 180 43 L S sh (zup mi o x.toNatClampNeg y) mj mr := zr_iast (zD_of zk_180 d_180_42 rfl rfl) h
theorem q_180_43  : zRun 180 43 [l0, l1, some (.int x)] S sh mi mj mr = zRun 180 46 [l0, zk2 l1, some (.int (x + 1))] S sh mi mj mr := zr_s1 (i := 2) (v := .int (x + 1)) (L := [l0, l1, some (.int x)]) (zD_of zk_180 d_180_43 rfl rfl) rfl rfl rfl rfl
theorem q_180_46  : zRun 180 46 L S sh mi mj mr = zRun 180 2 L S sh mi mj mr := zr_go (off := (-44)) (zD_of zk_180 d_180_46 rfl rfl) rfl rfl (by decide)
theorem q_180_49  : zRun 180 49 L [] sh mi mj mr = some (none, sh, mi, mj, mr) := zr_ret (zD_of zk_180 d_180_49 rfl rfl) rfl rfl rfl rfl rfl rfl
theorem e_180 {x0 : Int32} : zCall 180 [.ref o, .int x0] sh mi mj mr = zRun 180 0 [some (.ref o), some (.int x0), none] [] sh mi mj mr := rfl
theorem d_181_0 : decode cX8_takeBox 0 = .ok (.iconst 0, 1) := by decide +kernel
theorem d_181_1 : decode cX8_takeBox 1 = .ok (.istore_n 2, 1) := by decide +kernel
theorem d_181_2 : decode cX8_takeBox 2 = .ok (.iload_n 2, 1) := by decide +kernel
theorem d_181_3 : decode cX8_takeBox 3 = .ok (.iconst 4, 1) := by decide +kernel
theorem d_181_4 : decode cX8_takeBox 4 = .ok (.if_icmp .ge 45, 3) := by decide +kernel
theorem d_181_7 : decode cX8_takeBox 7 = .ok (.aload_n 0, 1) := by decide +kernel
theorem d_181_8 : decode cX8_takeBox 8 = .ok (.getfield 39, 3) := by decide +kernel
theorem d_181_11 : decode cX8_takeBox 11 = .ok (.iload_n 2, 1) := by decide +kernel
theorem d_181_12 : decode cX8_takeBox 12 = .ok (.aload_n 0, 1) := by decide +kernel
theorem d_181_13 : decode cX8_takeBox 13 = .ok (.getfield 54, 3) := by decide +kernel
theorem d_181_16 : decode cX8_takeBox 16 = .ok (.bipush 8, 2) := by decide +kernel
theorem d_181_18 : decode cX8_takeBox 18 = .ok (.iload_n 1, 1) := by decide +kernel
theorem d_181_19 : decode cX8_takeBox 19 = .ok (.imul, 1) := by decide +kernel
theorem d_181_20 : decode cX8_takeBox 20 = .ok (.iload_n 2, 1) := by decide +kernel
theorem d_181_21 : decode cX8_takeBox 21 = .ok (.iadd, 1) := by decide +kernel
theorem d_181_22 : decode cX8_takeBox 22 = .ok (.iaload, 1) := by decide +kernel
theorem d_181_23 : decode cX8_takeBox 23 = .ok (.iastore, 1) := by decide +kernel
theorem d_181_24 : decode cX8_takeBox 24 = .ok (.aload_n 0, 1) := by decide +kernel
theorem d_181_25 : decode cX8_takeBox 25 = .ok (.getfield 42, 3) := by decide +kernel
theorem d_181_28 : decode cX8_takeBox 28 = .ok (.iload_n 2, 1) := by decide +kernel
theorem d_181_29 : decode cX8_takeBox 29 = .ok (.aload_n 0, 1) := by decide +kernel
theorem d_181_30 : decode cX8_takeBox 30 = .ok (.getfield 54, 3) := by decide +kernel
theorem d_181_33 : decode cX8_takeBox 33 = .ok (.bipush 8, 2) := by decide +kernel
theorem d_181_35 : decode cX8_takeBox 35 = .ok (.iload_n 1, 1) := by decide +kernel
theorem d_181_36 : decode cX8_takeBox 36 = .ok (.imul, 1) := by decide +kernel
theorem d_181_37 : decode cX8_takeBox 37 = .ok (.iconst 4, 1) := by decide +kernel
theorem d_181_38 : decode cX8_takeBox 38 = .ok (.iadd, 1) := by decide +kernel
theorem d_181_39 : decode cX8_takeBox 39 = .ok (.iload_n 2, 1) := by decide +kernel
theorem d_181_40 : decode cX8_takeBox 40 = .ok (.iadd, 1) := by decide +kernel
theorem d_181_41 : decode cX8_takeBox 41 = .ok (.iaload, 1) := by decide +kernel
theorem d_181_42 : decode cX8_takeBox 42 = .ok (.iastore, 1) := by decide +kernel
theorem d_181_43 : decode cX8_takeBox 43 = .ok (.iinc 2 1, 3) := by decide +kernel
theorem d_181_46 : decode cX8_takeBox 46 = .ok (.goto (-44), 3) := by decide +kernel
theorem d_181_49 : decode cX8_takeBox 49 = .ok (.return_, 1) := by decide +kernel
theorem q_181_0  : zRun 181 0 L S sh mi mj mr = zRun 181 1 L (.int 0 :: S) sh mi mj mr := zr_p (zD_of zk_181 d_181_0 rfl rfl) rfl
theorem q_181_1 : zRun 181 1 [l0, l1, l2] (.int x :: S) sh mi mj mr = zRun 181 2 [l0, zk2 l1, some (.int x)] S sh mi mj mr := zr_s1 (i := 2) (v := .int x) (L := [l0, l1, l2]) (zD_of zk_181 d_181_1 rfl rfl) rfl rfl rfl rfl
theorem q_181_2 : zRun 181 2 [l0, l1, some (.int x)] S sh mi mj mr = zRun 181 3 [l0, l1, some (.int x)] (.int x :: S) sh mi mj mr := zr_l (zD_of zk_181 d_181_2 rfl rfl) rfl rfl rfl
theorem q_181_3  : zRun 181 3 L S sh mi mj mr = zRun 181 4 L (.int 4 :: S) sh mi mj mr := zr_p (zD_of zk_181 d_181_3 rfl rfl) rfl
theorem q_181_4  : zRun 181 4 L (.int y :: .int x :: S) sh mi mj mr = if y ≤ x then zRun 181 49 L S sh mi mj mr else zRun 181 7 L S sh mi mj mr := zr_if (off := 45) (P := y ≤ x) (zD_of zk_181 d_181_4 rfl rfl) rfl rfl (by decide)
theorem q_181_7r : zRun 181 7 [some (.ref o), l1, l2] S sh mi mj mr = zRun 181 8 [some (.ref o), l1, l2] (.ref o :: S) sh mi mj mr := zr_l (zD_of zk_181 d_181_7 rfl rfl) rfl rfl rfl
theorem q_181_7n : zRun 181 7 [some (.null), l1, l2] S sh mi mj mr = zRun 181 8 [some (.null), l1, l2] (.null :: S) sh mi mj mr := zr_l (zD_of zk_181 d_181_7 rfl rfl) rfl rfl rfl
theorem q_181_8 (h : zIs sh o 0 8) : zRun 181 8 L (.ref o :: S) sh mi mj mr = zRun 181 11 L (va_rf (mr o 16) :: S) sh mi mj mr := zr_getR (zD_of zk_181 d_181_8 rfl rfl) rfl rfl rfl h
theorem q_181_11 : zRun 181 11 [l0, l1, some (.int x)] S sh mi mj mr = zRun 181 12 [l0, l1, some (.int x)] (.int x :: S) sh mi mj mr := zr_l (zD_of zk_181 d_181_11 rfl rfl) rfl rfl rfl
theorem q_181_12r : zRun 181 12 [some (.ref o), l1, l2] S sh mi mj mr = zRun 181 13 [some (.ref o), l1, l2] (.ref o :: S) sh mi mj mr := zr_l (zD_of zk_181 d_181_12 rfl rfl) rfl rfl rfl
theorem q_181_12n : zRun 181 12 [some (.null), l1, l2] S sh mi mj mr = zRun 181 13 [some (.null), l1, l2] (.null :: S) sh mi mj mr := zr_l (zD_of zk_181 d_181_12 rfl rfl) rfl rfl rfl
theorem q_181_13 (h : zIs sh o 0 8) : zRun 181 13 L (.ref o :: S) sh mi mj mr = zRun 181 16 L (va_rf (mr o 21) :: S) sh mi mj mr := zr_getR (zD_of zk_181 d_181_13 rfl rfl) rfl rfl rfl h
theorem q_181_16  : zRun 181 16 L S sh mi mj mr = zRun 181 18 L (.int 8 :: S) sh mi mj mr := zr_p (zD_of zk_181 d_181_16 rfl rfl) rfl
theorem q_181_18 : zRun 181 18 [l0, some (.int x), l2] S sh mi mj mr = zRun 181 19 [l0, some (.int x), l2] (.int x :: S) sh mi mj mr := zr_l (zD_of zk_181 d_181_18 rfl rfl) rfl rfl rfl
theorem q_181_19  : zRun 181 19 L (.int y :: .int x :: S) sh mi mj mr = zRun 181 20 L (.int (x * y) :: S) sh mi mj mr := zr_p (zD_of zk_181 d_181_19 rfl rfl) rfl
theorem q_181_20 : zRun 181 20 [l0, l1, some (.int x)] S sh mi mj mr = zRun 181 21 [l0, l1, some (.int x)] (.int x :: S) sh mi mj mr := zr_l (zD_of zk_181 d_181_20 rfl rfl) rfl rfl rfl
theorem q_181_21  : zRun 181 21 L (.int y :: .int x :: S) sh mi mj mr = zRun 181 22 L (.int (x + y) :: S) sh mi mj mr := zr_p (zD_of zk_181 d_181_21 rfl rfl) rfl
theorem q_181_22 (h : zAt sh o 1 x) : zRun 181 22 L (.int x :: .ref o :: S) sh mi mj mr = zRun 181 23 L (.int (mi o x.toNatClampNeg) :: S) sh mi mj mr := zr_iald (zD_of zk_181 d_181_22 rfl rfl) h
theorem q_181_23 (h : zAt sh o 1 x) : zRun 181 23 L (.int y :: .int x :: .ref o :: S) sh mi mj mr = zRun 181 24 L S sh (zup mi o x.toNatClampNeg y) mj mr := zr_iast (zD_of zk_181 d_181_23 rfl rfl) h
theorem q_181_24r : zRun 181 24 [some (.ref o), l1, l2] S sh mi mj mr = zRun 181 25 [some (.ref o), l1, l2] (.ref o :: S) sh mi mj mr := zr_l (zD_of zk_181 d_181_24 rfl rfl) rfl rfl rfl
theorem q_181_24n : zRun 181 24 [some (.null), l1, l2] S sh mi mj mr = zRun 181 25 [some (.null), l1, l2] (.null :: S) sh mi mj mr := zr_l (zD_of zk_181 d_181_24 rfl rfl) rfl rfl rfl
theorem q_181_25 (h : zIs sh o 0 8) : zRun 181 25 L (.ref o :: S) sh mi mj mr = zRun 181 28 L (va_rf (mr o 17) :: S) sh mi mj mr := zr_getR (zD_of zk_181 d_181_25 rfl rfl) rfl rfl rfl h
theorem q_181_28 : zRun 181 28 [l0, l1, some (.int x)] S sh mi mj mr = zRun 181 29 [l0, l1, some (.int x)] (.int x :: S) sh mi mj mr := zr_l (zD_of zk_181 d_181_28 rfl rfl) rfl rfl rfl
theorem q_181_29r : zRun 181 29 [some (.ref o), l1, l2] S sh mi mj mr = zRun 181 30 [some (.ref o), l1, l2] (.ref o :: S) sh mi mj mr := zr_l (zD_of zk_181 d_181_29 rfl rfl) rfl rfl rfl
theorem q_181_29n : zRun 181 29 [some (.null), l1, l2] S sh mi mj mr = zRun 181 30 [some (.null), l1, l2] (.null :: S) sh mi mj mr := zr_l (zD_of zk_181 d_181_29 rfl rfl) rfl rfl rfl
theorem q_181_30 (h : zIs sh o 0 8) : zRun 181 30 L (.ref o :: S) sh mi mj mr = zRun 181 33 L (va_rf (mr o 21) :: S) sh mi mj mr := zr_getR (zD_of zk_181 d_181_30 rfl rfl) rfl rfl rfl h
theorem q_181_33  : zRun 181 33 L S sh mi mj mr = zRun 181 35 L (.int 8 :: S) sh mi mj mr := zr_p (zD_of zk_181 d_181_33 rfl rfl) rfl
theorem q_181_35 : zRun 181 35 [l0, some (.int x), l2] S sh mi mj mr = zRun 181 36 [l0, some (.int x), l2] (.int x :: S) sh mi mj mr := zr_l (zD_of zk_181 d_181_35 rfl rfl) rfl rfl rfl
theorem q_181_36  : zRun 181 36 L (.int y :: .int x :: S) sh mi mj mr = zRun 181 37 L (.int (x * y) :: S) sh mi mj mr := zr_p (zD_of zk_181 d_181_36 rfl rfl) rfl
theorem q_181_37  : zRun 181 37 L S sh mi mj mr = zRun 181 38 L (.int 4 :: S) sh mi mj mr := zr_p (zD_of zk_181 d_181_37 rfl rfl) rfl
theorem q_181_38  : zRun 181 38 L (.int y :: .int x :: S) sh mi mj mr = zRun 181 39 L (.int (x + y) :: S) sh mi mj mr := zr_p (zD_of zk_181 d_181_38 rfl rfl) rfl
theorem q_181_39 : zRun 181 39 [l0, l1, some (.int x)] S sh mi mj mr = zRun 181 40 [l0, l1, some (.int x)] (.int x :: S) sh mi mj mr := zr_l (zD_of zk_181 d_181_39 rfl rfl) rfl rfl rfl
theorem q_181_40  : zRun 181 40 L (.int y :: .int x :: S) sh mi mj mr = zRun 181 41 L (.int (x + y) :: S) sh mi mj mr := zr_p (zD_of zk_181 d_181_40 rfl rfl) rfl
theorem q_181_41 (h : zAt sh o 1 x) : zRun 181 41 L (.int x :: .ref o :: S) sh mi mj mr = zRun 181 42 L (.int (mi o x.toNatClampNeg) :: S) sh mi mj mr := zr_iald (zD_of zk_181 d_181_41 rfl rfl) h
theorem q_181_42 (h : zAt sh o 1 x) : zRun 181 42 L (.int y :: .int x :: .ref o :: S) sh mi mj mr = zRun 181 43 L S sh (zup mi o x.toNatClampNeg y) mj mr := zr_iast (zD_of zk_181 d_181_42 rfl rfl) h
theorem q_181_43  : zRun 181 43 [l0, l1, some (.int x)] S sh mi mj mr = zRun 181 46 [l0, zk2 l1, some (.int (x + 1))] S sh mi mj mr := zr_s1 (i := 2) (v := .int (x + 1)) (L := [l0, l1, some (.int x)]) (zD_of zk_181 d_181_43 rfl rfl) rfl rfl rfl rfl
theorem q_181_46  : zRun 181 46 L S sh mi mj mr = zRun 181 2 L S sh mi mj mr := zr_go (off := (-44)) (zD_of zk_181 d_181_46 rfl rfl) rfl rfl (by decide)
theorem q_181_49  : zRun 181 49 L [] sh mi mj mr = some (none, sh, mi, mj, mr) := zr_ret (zD_of zk_181 d_181_49 rfl rfl) rfl rfl rfl rfl rfl rfl
theorem e_181 {x0 : Int32} : zCall 181 [.ref o, .int x0] sh mi mj mr = zRun 181 0 [some (.ref o), some (.int x0), none] [] sh mi mj mr := rfl
theorem d_182_0 : decode cX8_splitInput 0 = .ok (.bipush (-6), 2) := by decide +kernel
theorem d_182_2 : decode cX8_splitInput 2 = .ok (.istore_n 1, 1) := by decide +kernel
theorem d_182_3 : decode cX8_splitInput 3 = .ok (.lconst 0, 1) := by decide +kernel
theorem d_182_4 : decode cX8_splitInput 4 = .ok (.lstore_n 2, 1) := by decide +kernel
theorem d_182_5 : decode cX8_splitInput 5 = .ok (.iconst 0, 1) := by decide +kernel
theorem d_182_6 : decode cX8_splitInput 6 = .ok (.istore 4, 2) := by decide +kernel
theorem d_182_8 : decode cX8_splitInput 8 = .ok (.iload 4, 2) := by decide +kernel
theorem d_182_10 : decode cX8_splitInput 10 = .ok (.iconst 4, 1) := by decide +kernel
theorem d_182_11 : decode cX8_splitInput 11 = .ok (.if_icmp .ge 73, 3) := by decide +kernel
theorem d_182_14 : decode cX8_splitInput 14 = .ok (.aload_n 0, 1) := by decide +kernel
theorem d_182_15 : decode cX8_splitInput 15 = .ok (.iconst 0, 1) := by decide +kernel
theorem d_182_16 : decode cX8_splitInput 16 = .ok (.invokevirtual 251, 3) := by decide +kernel
theorem d_182_19 : decode cX8_splitInput 19 = .ok (.ifCond .ne 65, 3) := by decide +kernel
theorem d_182_22 : decode cX8_splitInput 22 = .ok (.aload_n 0, 1) := by decide +kernel
theorem d_182_23 : decode cX8_splitInput 23 = .ok (.getfield 39, 3) := by decide +kernel
theorem d_182_26 : decode cX8_splitInput 26 = .ok (.iload 4, 2) := by decide +kernel
theorem d_182_28 : decode cX8_splitInput 28 = .ok (.iaload, 1) := by decide +kernel
theorem d_182_29 : decode cX8_splitInput 29 = .ok (.aload_n 0, 1) := by decide +kernel
theorem d_182_30 : decode cX8_splitInput 30 = .ok (.getfield 42, 3) := by decide +kernel
theorem d_182_33 : decode cX8_splitInput 33 = .ok (.iload 4, 2) := by decide +kernel
theorem d_182_35 : decode cX8_splitInput 35 = .ok (.iaload, 1) := by decide +kernel
theorem d_182_36 : decode cX8_splitInput 36 = .ok (.if_icmp .ge 18, 3) := by decide +kernel
theorem d_182_39 : decode cX8_splitInput 39 = .ok (.aload_n 0, 1) := by decide +kernel
theorem d_182_40 : decode cX8_splitInput 40 = .ok (.getfield 29, 3) := by decide +kernel
theorem d_182_43 : decode cX8_splitInput 43 = .ok (.iconst 1, 1) := by decide +kernel
theorem d_182_44 : decode cX8_splitInput 44 = .ok (.iload 4, 2) := by decide +kernel
theorem d_182_46 : decode cX8_splitInput 46 = .ok (.iadd, 1) := by decide +kernel
theorem d_182_47 : decode cX8_splitInput 47 = .ok (.laload, 1) := by decide +kernel
theorem d_182_48 : decode cX8_splitInput 48 = .ok (.invokestatic 149, 3) := by decide +kernel
theorem d_182_51 : decode cX8_splitInput 51 = .ok (.goto 4, 3) := by decide +kernel
theorem d_182_54 : decode cX8_splitInput 54 = .ok (.lconst 0, 1) := by decide +kernel
theorem d_182_55 : decode cX8_splitInput 55 = .ok (.lstore 5, 2) := by decide +kernel
theorem d_182_57 : decode cX8_splitInput 57 = .ok (.lload 5, 2) := by decide +kernel
theorem d_182_59 : decode cX8_splitInput 59 = .ok (.lload_n 2, 1) := by decide +kernel
theorem d_182_60 : decode cX8_splitInput 60 = .ok (.lcmp, 1) := by decide +kernel
theorem d_182_61 : decode cX8_splitInput 61 = .ok (.ifCond .le 8, 3) := by decide +kernel
theorem d_182_64 : decode cX8_splitInput 64 = .ok (.iload 4, 2) := by decide +kernel
theorem d_182_66 : decode cX8_splitInput 66 = .ok (.goto 4, 3) := by decide +kernel
theorem d_182_69 : decode cX8_splitInput 69 = .ok (.iload_n 1, 1) := by decide +kernel
theorem d_182_70 : decode cX8_splitInput 70 = .ok (.istore_n 1, 1) := by decide +kernel
theorem d_182_71 : decode cX8_splitInput 71 = .ok (.lload 5, 2) := by decide +kernel
theorem d_182_73 : decode cX8_splitInput 73 = .ok (.lload_n 2, 1) := by decide +kernel
theorem d_182_74 : decode cX8_splitInput 74 = .ok (.invokestatic 178, 3) := by decide +kernel
theorem d_182_77 : decode cX8_splitInput 77 = .ok (.lstore_n 2, 1) := by decide +kernel
theorem d_182_78 : decode cX8_splitInput 78 = .ok (.iinc 4 1, 3) := by decide +kernel
theorem d_182_81 : decode cX8_splitInput 81 = .ok (.goto (-73), 3) := by decide +kernel
theorem d_182_84 : decode cX8_splitInput 84 = .ok (.iload_n 1, 1) := by decide +kernel
theorem d_182_85 : decode cX8_splitInput 85 = .ok (.ifCond .ge 7, 3) := by decide +kernel
theorem d_182_88 : decode cX8_splitInput 88 = .ok (.iconst 1, 1) := by decide +kernel
theorem d_182_89 : decode cX8_splitInput 89 = .ok (.goto 4, 3) := by decide +kernel
theorem d_182_92 : decode cX8_splitInput 92 = .ok (.iconst 0, 1) := by decide +kernel
theorem d_182_93 : decode cX8_splitInput 93 = .ok (.istore 4, 2) := by decide +kernel
theorem d_182_95 : decode cX8_splitInput 95 = .ok (.iconst 0, 1) := by decide +kernel
theorem d_182_96 : decode cX8_splitInput 96 = .ok (.istore 5, 2) := by decide +kernel
theorem d_182_98 : decode cX8_splitInput 98 = .ok (.iload 5, 2) := by decide +kernel
theorem d_182_100 : decode cX8_splitInput 100 = .ok (.iconst 4, 1) := by decide +kernel
theorem d_182_101 : decode cX8_splitInput 101 = .ok (.if_icmp .ge 53, 3) := by decide +kernel
theorem d_182_104 : decode cX8_splitInput 104 = .ok (.iload 4, 2) := by decide +kernel
theorem d_182_106 : decode cX8_splitInput 106 = .ok (.ifCond .eq 48, 3) := by decide +kernel
theorem d_182_109 : decode cX8_splitInput 109 = .ok (.aload_n 0, 1) := by decide +kernel
theorem d_182_110 : decode cX8_splitInput 110 = .ok (.getfield 42, 3) := by decide +kernel
theorem d_182_113 : decode cX8_splitInput 113 = .ok (.iload 5, 2) := by decide +kernel
theorem d_182_115 : decode cX8_splitInput 115 = .ok (.iaload, 1) := by decide +kernel
theorem d_182_116 : decode cX8_splitInput 116 = .ok (.aload_n 0, 1) := by decide +kernel
theorem d_182_117 : decode cX8_splitInput 117 = .ok (.getfield 39, 3) := by decide +kernel
theorem d_182_120 : decode cX8_splitInput 120 = .ok (.iload 5, 2) := by decide +kernel
theorem d_182_122 : decode cX8_splitInput 122 = .ok (.iaload, 1) := by decide +kernel
theorem d_182_123 : decode cX8_splitInput 123 = .ok (.isub, 1) := by decide +kernel
theorem d_182_124 : decode cX8_splitInput 124 = .ok (.i2l, 1) := by decide +kernel
theorem d_182_125 : decode cX8_splitInput 125 = .ok (.lstore 6, 2) := by decide +kernel
theorem d_182_127 : decode cX8_splitInput 127 = .ok (.lload 6, 2) := by decide +kernel
theorem d_182_129 : decode cX8_splitInput 129 = .ok (.lload_n 2, 1) := by decide +kernel
theorem d_182_130 : decode cX8_splitInput 130 = .ok (.lcmp, 1) := by decide +kernel
theorem d_182_131 : decode cX8_splitInput 131 = .ok (.ifCond .le 8, 3) := by decide +kernel
theorem d_182_134 : decode cX8_splitInput 134 = .ok (.iload 5, 2) := by decide +kernel
theorem d_182_136 : decode cX8_splitInput 136 = .ok (.goto 4, 3) := by decide +kernel
theorem d_182_139 : decode cX8_splitInput 139 = .ok (.iload_n 1, 1) := by decide +kernel
theorem d_182_140 : decode cX8_splitInput 140 = .ok (.istore_n 1, 1) := by decide +kernel
theorem d_182_141 : decode cX8_splitInput 141 = .ok (.lload 6, 2) := by decide +kernel
theorem d_182_143 : decode cX8_splitInput 143 = .ok (.lload_n 2, 1) := by decide +kernel
theorem d_182_144 : decode cX8_splitInput 144 = .ok (.invokestatic 178, 3) := by decide +kernel
theorem d_182_147 : decode cX8_splitInput 147 = .ok (.lstore_n 2, 1) := by decide +kernel
theorem d_182_148 : decode cX8_splitInput 148 = .ok (.iinc 5 1, 3) := by decide +kernel
theorem d_182_151 : decode cX8_splitInput 151 = .ok (.goto (-53), 3) := by decide +kernel
theorem d_182_154 : decode cX8_splitInput 154 = .ok (.iload_n 1, 1) := by decide +kernel
theorem d_182_155 : decode cX8_splitInput 155 = .ok (.ireturn, 1) := by decide +kernel
theorem q_182_0  : zRun 182 0 L S sh mi mj mr = zRun 182 2 L (.int (-6) :: S) sh mi mj mr := zr_p (zD_of zk_182 d_182_0 rfl rfl) rfl
theorem q_182_2 : zRun 182 2 [l0, l1, l2, l3, l4, l5, l6, l7] (.int x :: S) sh mi mj mr = zRun 182 3 [zk2 l0, some (.int x), l2, l3, l4, l5, l6, l7] S sh mi mj mr := zr_s1 (i := 1) (v := .int x) (L := [l0, l1, l2, l3, l4, l5, l6, l7]) (zD_of zk_182 d_182_2 rfl rfl) rfl rfl rfl rfl
theorem q_182_3  : zRun 182 3 L S sh mi mj mr = zRun 182 4 L (.long 0 :: S) sh mi mj mr := zr_p (zD_of zk_182 d_182_3 rfl rfl) rfl
theorem q_182_4 : zRun 182 4 [l0, l1, l2, l3, l4, l5, l6, l7] (.long u :: S) sh mi mj mr = zRun 182 5 [l0, zk2 l1, some (.long u), none, l4, l5, l6, l7] S sh mi mj mr := zr_s2 (i := 2) (v := .long u) (L := [l0, l1, l2, l3, l4, l5, l6, l7]) (zD_of zk_182 d_182_4 rfl rfl) rfl rfl rfl rfl
theorem q_182_5  : zRun 182 5 L S sh mi mj mr = zRun 182 6 L (.int 0 :: S) sh mi mj mr := zr_p (zD_of zk_182 d_182_5 rfl rfl) rfl
theorem q_182_6 : zRun 182 6 [l0, l1, l2, l3, l4, l5, l6, l7] (.int x :: S) sh mi mj mr = zRun 182 8 [l0, l1, l2, zk2 l3, some (.int x), l5, l6, l7] S sh mi mj mr := zr_s1 (i := 4) (v := .int x) (L := [l0, l1, l2, l3, l4, l5, l6, l7]) (zD_of zk_182 d_182_6 rfl rfl) rfl rfl rfl rfl
theorem q_182_8 : zRun 182 8 [l0, l1, l2, l3, some (.int x), l5, l6, l7] S sh mi mj mr = zRun 182 10 [l0, l1, l2, l3, some (.int x), l5, l6, l7] (.int x :: S) sh mi mj mr := zr_l (zD_of zk_182 d_182_8 rfl rfl) rfl rfl rfl
theorem q_182_10  : zRun 182 10 L S sh mi mj mr = zRun 182 11 L (.int 4 :: S) sh mi mj mr := zr_p (zD_of zk_182 d_182_10 rfl rfl) rfl
theorem q_182_11  : zRun 182 11 L (.int y :: .int x :: S) sh mi mj mr = if y ≤ x then zRun 182 84 L S sh mi mj mr else zRun 182 14 L S sh mi mj mr := zr_if (off := 73) (P := y ≤ x) (zD_of zk_182 d_182_11 rfl rfl) rfl rfl (by decide)
theorem q_182_14r : zRun 182 14 [some (.ref o), l1, l2, l3, l4, l5, l6, l7] S sh mi mj mr = zRun 182 15 [some (.ref o), l1, l2, l3, l4, l5, l6, l7] (.ref o :: S) sh mi mj mr := zr_l (zD_of zk_182 d_182_14 rfl rfl) rfl rfl rfl
theorem q_182_14n : zRun 182 14 [some (.null), l1, l2, l3, l4, l5, l6, l7] S sh mi mj mr = zRun 182 15 [some (.null), l1, l2, l3, l4, l5, l6, l7] (.null :: S) sh mi mj mr := zr_l (zD_of zk_182 d_182_14 rfl rfl) rfl rfl rfl
theorem q_182_15  : zRun 182 15 L S sh mi mj mr = zRun 182 16 L (.int 0 :: S) sh mi mj mr := zr_p (zD_of zk_182 d_182_15 rfl rfl) rfl
theorem q_182_16  {x0 : Int32} (hS : zcat S ≤ 8) (h : zIs sh o 0 8) : zRun 182 16 L (.int x0 :: .ref o :: S) sh mi mj mr = (zCall 141 [.ref o, .int x0] sh mi mj mr).bind fun r => zRun 182 19 L (r.1.toList ++ S) r.2.1 r.2.2.1 r.2.2.2.1 r.2.2.2.2 := zr_V (zD_of zk_182 d_182_16 rfl rfl) rfl zk_141 rfl rfl rfl hS h
theorem q_182_19  : zRun 182 19 L (.int x :: S) sh mi mj mr = if ¬ x = 0 then zRun 182 84 L S sh mi mj mr else zRun 182 22 L S sh mi mj mr := zr_if (off := 65) (P := ¬ x = 0) (zD_of zk_182 d_182_19 rfl rfl) rfl rfl (by decide)
theorem q_182_22r : zRun 182 22 [some (.ref o), l1, l2, l3, l4, l5, l6, l7] S sh mi mj mr = zRun 182 23 [some (.ref o), l1, l2, l3, l4, l5, l6, l7] (.ref o :: S) sh mi mj mr := zr_l (zD_of zk_182 d_182_22 rfl rfl) rfl rfl rfl
theorem q_182_22n : zRun 182 22 [some (.null), l1, l2, l3, l4, l5, l6, l7] S sh mi mj mr = zRun 182 23 [some (.null), l1, l2, l3, l4, l5, l6, l7] (.null :: S) sh mi mj mr := zr_l (zD_of zk_182 d_182_22 rfl rfl) rfl rfl rfl
theorem q_182_23 (h : zIs sh o 0 8) : zRun 182 23 L (.ref o :: S) sh mi mj mr = zRun 182 26 L (va_rf (mr o 16) :: S) sh mi mj mr := zr_getR (zD_of zk_182 d_182_23 rfl rfl) rfl rfl rfl h
theorem q_182_26 : zRun 182 26 [l0, l1, l2, l3, some (.int x), l5, l6, l7] S sh mi mj mr = zRun 182 28 [l0, l1, l2, l3, some (.int x), l5, l6, l7] (.int x :: S) sh mi mj mr := zr_l (zD_of zk_182 d_182_26 rfl rfl) rfl rfl rfl
theorem q_182_28 (h : zAt sh o 1 x) : zRun 182 28 L (.int x :: .ref o :: S) sh mi mj mr = zRun 182 29 L (.int (mi o x.toNatClampNeg) :: S) sh mi mj mr := zr_iald (zD_of zk_182 d_182_28 rfl rfl) h
theorem q_182_29r : zRun 182 29 [some (.ref o), l1, l2, l3, l4, l5, l6, l7] S sh mi mj mr = zRun 182 30 [some (.ref o), l1, l2, l3, l4, l5, l6, l7] (.ref o :: S) sh mi mj mr := zr_l (zD_of zk_182 d_182_29 rfl rfl) rfl rfl rfl
theorem q_182_29n : zRun 182 29 [some (.null), l1, l2, l3, l4, l5, l6, l7] S sh mi mj mr = zRun 182 30 [some (.null), l1, l2, l3, l4, l5, l6, l7] (.null :: S) sh mi mj mr := zr_l (zD_of zk_182 d_182_29 rfl rfl) rfl rfl rfl
theorem q_182_30 (h : zIs sh o 0 8) : zRun 182 30 L (.ref o :: S) sh mi mj mr = zRun 182 33 L (va_rf (mr o 17) :: S) sh mi mj mr := zr_getR (zD_of zk_182 d_182_30 rfl rfl) rfl rfl rfl h
theorem q_182_33 : zRun 182 33 [l0, l1, l2, l3, some (.int x), l5, l6, l7] S sh mi mj mr = zRun 182 35 [l0, l1, l2, l3, some (.int x), l5, l6, l7] (.int x :: S) sh mi mj mr := zr_l (zD_of zk_182 d_182_33 rfl rfl) rfl rfl rfl
theorem q_182_35 (h : zAt sh o 1 x) : zRun 182 35 L (.int x :: .ref o :: S) sh mi mj mr = zRun 182 36 L (.int (mi o x.toNatClampNeg) :: S) sh mi mj mr := zr_iald (zD_of zk_182 d_182_35 rfl rfl) h
theorem q_182_36  : zRun 182 36 L (.int y :: .int x :: S) sh mi mj mr = if y ≤ x then zRun 182 54 L S sh mi mj mr else zRun 182 39 L S sh mi mj mr := zr_if (off := 18) (P := y ≤ x) (zD_of zk_182 d_182_36 rfl rfl) rfl rfl (by decide)
theorem q_182_39r : zRun 182 39 [some (.ref o), l1, l2, l3, l4, l5, l6, l7] S sh mi mj mr = zRun 182 40 [some (.ref o), l1, l2, l3, l4, l5, l6, l7] (.ref o :: S) sh mi mj mr := zr_l (zD_of zk_182 d_182_39 rfl rfl) rfl rfl rfl
theorem q_182_39n : zRun 182 39 [some (.null), l1, l2, l3, l4, l5, l6, l7] S sh mi mj mr = zRun 182 40 [some (.null), l1, l2, l3, l4, l5, l6, l7] (.null :: S) sh mi mj mr := zr_l (zD_of zk_182 d_182_39 rfl rfl) rfl rfl rfl
theorem q_182_40 (h : zIs sh o 0 8) : zRun 182 40 L (.ref o :: S) sh mi mj mr = zRun 182 43 L (va_rf (mr o 10) :: S) sh mi mj mr := zr_getR (zD_of zk_182 d_182_40 rfl rfl) rfl rfl rfl h
theorem q_182_43  : zRun 182 43 L S sh mi mj mr = zRun 182 44 L (.int 1 :: S) sh mi mj mr := zr_p (zD_of zk_182 d_182_43 rfl rfl) rfl
theorem q_182_44 : zRun 182 44 [l0, l1, l2, l3, some (.int x), l5, l6, l7] S sh mi mj mr = zRun 182 46 [l0, l1, l2, l3, some (.int x), l5, l6, l7] (.int x :: S) sh mi mj mr := zr_l (zD_of zk_182 d_182_44 rfl rfl) rfl rfl rfl
theorem q_182_46  : zRun 182 46 L (.int y :: .int x :: S) sh mi mj mr = zRun 182 47 L (.int (x + y) :: S) sh mi mj mr := zr_p (zD_of zk_182 d_182_46 rfl rfl) rfl
theorem q_182_47 (h : zAt sh o 2 x) : zRun 182 47 L (.int x :: .ref o :: S) sh mi mj mr = zRun 182 48 L (.long (mj o x.toNatClampNeg) :: S) sh mi mj mr := zr_lald (zD_of zk_182 d_182_47 rfl rfl) h
theorem q_182_48  {u0 : Int64} (hS : zcat S ≤ 8) : zRun 182 48 L (.long u0 :: S) sh mi mj mr = (zCall 137 [.long u0] sh mi mj mr).bind fun r => zRun 182 51 L (r.1.toList ++ S) r.2.1 r.2.2.1 r.2.2.2.1 r.2.2.2.2 := zr_S (zD_of zk_182 d_182_48 rfl rfl) rfl zk_137 rfl rfl rfl hS
theorem q_182_51  : zRun 182 51 L S sh mi mj mr = zRun 182 55 L S sh mi mj mr := zr_go (off := 4) (zD_of zk_182 d_182_51 rfl rfl) rfl rfl (by decide)
theorem q_182_54  : zRun 182 54 L S sh mi mj mr = zRun 182 55 L (.long 0 :: S) sh mi mj mr := zr_p (zD_of zk_182 d_182_54 rfl rfl) rfl
theorem q_182_55 : zRun 182 55 [l0, l1, l2, l3, l4, l5, l6, l7] (.long u :: S) sh mi mj mr = zRun 182 57 [l0, l1, l2, l3, zk2 l4, some (.long u), none, l7] S sh mi mj mr := zr_s2 (i := 5) (v := .long u) (L := [l0, l1, l2, l3, l4, l5, l6, l7]) (zD_of zk_182 d_182_55 rfl rfl) rfl rfl rfl rfl
theorem q_182_57 : zRun 182 57 [l0, l1, l2, l3, l4, some (.long u), l6, l7] S sh mi mj mr = zRun 182 59 [l0, l1, l2, l3, l4, some (.long u), l6, l7] (.long u :: S) sh mi mj mr := zr_l (zD_of zk_182 d_182_57 rfl rfl) rfl rfl rfl
theorem q_182_59 : zRun 182 59 [l0, l1, some (.long u), l3, l4, l5, l6, l7] S sh mi mj mr = zRun 182 60 [l0, l1, some (.long u), l3, l4, l5, l6, l7] (.long u :: S) sh mi mj mr := zr_l (zD_of zk_182 d_182_59 rfl rfl) rfl rfl rfl
theorem q_182_60  : zRun 182 60 L (.long v :: .long u :: S) sh mi mj mr = if u ≤ v then zRun 182 69 L S sh mi mj mr else zRun 182 64 L S sh mi mj mr := zr_cmp (off := 8) (zD_of zk_182 d_182_60 rfl rfl) (zD_of zk_182 d_182_61 rfl rfl) rfl rfl (by decide) (lg_cmp_le u v)
theorem q_182_61  : zRun 182 61 L (.int x :: S) sh mi mj mr = if x ≤ 0 then zRun 182 69 L S sh mi mj mr else zRun 182 64 L S sh mi mj mr := zr_if (off := 8) (P := x ≤ 0) (zD_of zk_182 d_182_61 rfl rfl) rfl rfl (by decide)
theorem q_182_64 : zRun 182 64 [l0, l1, l2, l3, some (.int x), l5, l6, l7] S sh mi mj mr = zRun 182 66 [l0, l1, l2, l3, some (.int x), l5, l6, l7] (.int x :: S) sh mi mj mr := zr_l (zD_of zk_182 d_182_64 rfl rfl) rfl rfl rfl
theorem q_182_66  : zRun 182 66 L S sh mi mj mr = zRun 182 70 L S sh mi mj mr := zr_go (off := 4) (zD_of zk_182 d_182_66 rfl rfl) rfl rfl (by decide)
theorem q_182_69 : zRun 182 69 [l0, some (.int x), l2, l3, l4, l5, l6, l7] S sh mi mj mr = zRun 182 70 [l0, some (.int x), l2, l3, l4, l5, l6, l7] (.int x :: S) sh mi mj mr := zr_l (zD_of zk_182 d_182_69 rfl rfl) rfl rfl rfl
theorem q_182_70 : zRun 182 70 [l0, l1, l2, l3, l4, l5, l6, l7] (.int x :: S) sh mi mj mr = zRun 182 71 [zk2 l0, some (.int x), l2, l3, l4, l5, l6, l7] S sh mi mj mr := zr_s1 (i := 1) (v := .int x) (L := [l0, l1, l2, l3, l4, l5, l6, l7]) (zD_of zk_182 d_182_70 rfl rfl) rfl rfl rfl rfl
theorem q_182_71 : zRun 182 71 [l0, l1, l2, l3, l4, some (.long u), l6, l7] S sh mi mj mr = zRun 182 73 [l0, l1, l2, l3, l4, some (.long u), l6, l7] (.long u :: S) sh mi mj mr := zr_l (zD_of zk_182 d_182_71 rfl rfl) rfl rfl rfl
theorem q_182_73 : zRun 182 73 [l0, l1, some (.long u), l3, l4, l5, l6, l7] S sh mi mj mr = zRun 182 74 [l0, l1, some (.long u), l3, l4, l5, l6, l7] (.long u :: S) sh mi mj mr := zr_l (zD_of zk_182 d_182_73 rfl rfl) rfl rfl rfl
theorem q_182_74  {u0 u1 : Int64} (hS : zcat S ≤ 8) : zRun 182 74 L (.long u1 :: .long u0 :: S) sh mi mj mr = (zCall 151 [.long u0, .long u1] sh mi mj mr).bind fun r => zRun 182 77 L (r.1.toList ++ S) r.2.1 r.2.2.1 r.2.2.2.1 r.2.2.2.2 := zr_S (zD_of zk_182 d_182_74 rfl rfl) rfl zk_151 rfl rfl rfl hS
theorem q_182_77 : zRun 182 77 [l0, l1, l2, l3, l4, l5, l6, l7] (.long u :: S) sh mi mj mr = zRun 182 78 [l0, zk2 l1, some (.long u), none, l4, l5, l6, l7] S sh mi mj mr := zr_s2 (i := 2) (v := .long u) (L := [l0, l1, l2, l3, l4, l5, l6, l7]) (zD_of zk_182 d_182_77 rfl rfl) rfl rfl rfl rfl
theorem q_182_78  : zRun 182 78 [l0, l1, l2, l3, some (.int x), l5, l6, l7] S sh mi mj mr = zRun 182 81 [l0, l1, l2, zk2 l3, some (.int (x + 1)), l5, l6, l7] S sh mi mj mr := zr_s1 (i := 4) (v := .int (x + 1)) (L := [l0, l1, l2, l3, some (.int x), l5, l6, l7]) (zD_of zk_182 d_182_78 rfl rfl) rfl rfl rfl rfl
theorem q_182_81  : zRun 182 81 L S sh mi mj mr = zRun 182 8 L S sh mi mj mr := zr_go (off := (-73)) (zD_of zk_182 d_182_81 rfl rfl) rfl rfl (by decide)
theorem q_182_84 : zRun 182 84 [l0, some (.int x), l2, l3, l4, l5, l6, l7] S sh mi mj mr = zRun 182 85 [l0, some (.int x), l2, l3, l4, l5, l6, l7] (.int x :: S) sh mi mj mr := zr_l (zD_of zk_182 d_182_84 rfl rfl) rfl rfl rfl
theorem q_182_85  : zRun 182 85 L (.int x :: S) sh mi mj mr = if 0 ≤ x then zRun 182 92 L S sh mi mj mr else zRun 182 88 L S sh mi mj mr := zr_if (off := 7) (P := 0 ≤ x) (zD_of zk_182 d_182_85 rfl rfl) rfl rfl (by decide)
theorem q_182_88  : zRun 182 88 L S sh mi mj mr = zRun 182 89 L (.int 1 :: S) sh mi mj mr := zr_p (zD_of zk_182 d_182_88 rfl rfl) rfl
theorem q_182_89  : zRun 182 89 L S sh mi mj mr = zRun 182 93 L S sh mi mj mr := zr_go (off := 4) (zD_of zk_182 d_182_89 rfl rfl) rfl rfl (by decide)
theorem q_182_92  : zRun 182 92 L S sh mi mj mr = zRun 182 93 L (.int 0 :: S) sh mi mj mr := zr_p (zD_of zk_182 d_182_92 rfl rfl) rfl
theorem q_182_93 : zRun 182 93 [l0, l1, l2, l3, l4, l5, l6, l7] (.int x :: S) sh mi mj mr = zRun 182 95 [l0, l1, l2, zk2 l3, some (.int x), l5, l6, l7] S sh mi mj mr := zr_s1 (i := 4) (v := .int x) (L := [l0, l1, l2, l3, l4, l5, l6, l7]) (zD_of zk_182 d_182_93 rfl rfl) rfl rfl rfl rfl
theorem q_182_95  : zRun 182 95 L S sh mi mj mr = zRun 182 96 L (.int 0 :: S) sh mi mj mr := zr_p (zD_of zk_182 d_182_95 rfl rfl) rfl
theorem q_182_96 : zRun 182 96 [l0, l1, l2, l3, l4, l5, l6, l7] (.int x :: S) sh mi mj mr = zRun 182 98 [l0, l1, l2, l3, zk2 l4, some (.int x), l6, l7] S sh mi mj mr := zr_s1 (i := 5) (v := .int x) (L := [l0, l1, l2, l3, l4, l5, l6, l7]) (zD_of zk_182 d_182_96 rfl rfl) rfl rfl rfl rfl
theorem q_182_98 : zRun 182 98 [l0, l1, l2, l3, l4, some (.int x), l6, l7] S sh mi mj mr = zRun 182 100 [l0, l1, l2, l3, l4, some (.int x), l6, l7] (.int x :: S) sh mi mj mr := zr_l (zD_of zk_182 d_182_98 rfl rfl) rfl rfl rfl
theorem q_182_100  : zRun 182 100 L S sh mi mj mr = zRun 182 101 L (.int 4 :: S) sh mi mj mr := zr_p (zD_of zk_182 d_182_100 rfl rfl) rfl
theorem q_182_101  : zRun 182 101 L (.int y :: .int x :: S) sh mi mj mr = if y ≤ x then zRun 182 154 L S sh mi mj mr else zRun 182 104 L S sh mi mj mr := zr_if (off := 53) (P := y ≤ x) (zD_of zk_182 d_182_101 rfl rfl) rfl rfl (by decide)
theorem q_182_104 : zRun 182 104 [l0, l1, l2, l3, some (.int x), l5, l6, l7] S sh mi mj mr = zRun 182 106 [l0, l1, l2, l3, some (.int x), l5, l6, l7] (.int x :: S) sh mi mj mr := zr_l (zD_of zk_182 d_182_104 rfl rfl) rfl rfl rfl
theorem q_182_106  : zRun 182 106 L (.int x :: S) sh mi mj mr = if x = 0 then zRun 182 154 L S sh mi mj mr else zRun 182 109 L S sh mi mj mr := zr_if (off := 48) (P := x = 0) (zD_of zk_182 d_182_106 rfl rfl) rfl rfl (by decide)
theorem q_182_109r : zRun 182 109 [some (.ref o), l1, l2, l3, l4, l5, l6, l7] S sh mi mj mr = zRun 182 110 [some (.ref o), l1, l2, l3, l4, l5, l6, l7] (.ref o :: S) sh mi mj mr := zr_l (zD_of zk_182 d_182_109 rfl rfl) rfl rfl rfl
theorem q_182_109n : zRun 182 109 [some (.null), l1, l2, l3, l4, l5, l6, l7] S sh mi mj mr = zRun 182 110 [some (.null), l1, l2, l3, l4, l5, l6, l7] (.null :: S) sh mi mj mr := zr_l (zD_of zk_182 d_182_109 rfl rfl) rfl rfl rfl
theorem q_182_110 (h : zIs sh o 0 8) : zRun 182 110 L (.ref o :: S) sh mi mj mr = zRun 182 113 L (va_rf (mr o 17) :: S) sh mi mj mr := zr_getR (zD_of zk_182 d_182_110 rfl rfl) rfl rfl rfl h
theorem q_182_113 : zRun 182 113 [l0, l1, l2, l3, l4, some (.int x), l6, l7] S sh mi mj mr = zRun 182 115 [l0, l1, l2, l3, l4, some (.int x), l6, l7] (.int x :: S) sh mi mj mr := zr_l (zD_of zk_182 d_182_113 rfl rfl) rfl rfl rfl
theorem q_182_115 (h : zAt sh o 1 x) : zRun 182 115 L (.int x :: .ref o :: S) sh mi mj mr = zRun 182 116 L (.int (mi o x.toNatClampNeg) :: S) sh mi mj mr := zr_iald (zD_of zk_182 d_182_115 rfl rfl) h
theorem q_182_116r : zRun 182 116 [some (.ref o), l1, l2, l3, l4, l5, l6, l7] S sh mi mj mr = zRun 182 117 [some (.ref o), l1, l2, l3, l4, l5, l6, l7] (.ref o :: S) sh mi mj mr := zr_l (zD_of zk_182 d_182_116 rfl rfl) rfl rfl rfl
theorem q_182_116n : zRun 182 116 [some (.null), l1, l2, l3, l4, l5, l6, l7] S sh mi mj mr = zRun 182 117 [some (.null), l1, l2, l3, l4, l5, l6, l7] (.null :: S) sh mi mj mr := zr_l (zD_of zk_182 d_182_116 rfl rfl) rfl rfl rfl
theorem q_182_117 (h : zIs sh o 0 8) : zRun 182 117 L (.ref o :: S) sh mi mj mr = zRun 182 120 L (va_rf (mr o 16) :: S) sh mi mj mr := zr_getR (zD_of zk_182 d_182_117 rfl rfl) rfl rfl rfl h
theorem q_182_120 : zRun 182 120 [l0, l1, l2, l3, l4, some (.int x), l6, l7] S sh mi mj mr = zRun 182 122 [l0, l1, l2, l3, l4, some (.int x), l6, l7] (.int x :: S) sh mi mj mr := zr_l (zD_of zk_182 d_182_120 rfl rfl) rfl rfl rfl
theorem q_182_122 (h : zAt sh o 1 x) : zRun 182 122 L (.int x :: .ref o :: S) sh mi mj mr = zRun 182 123 L (.int (mi o x.toNatClampNeg) :: S) sh mi mj mr := zr_iald (zD_of zk_182 d_182_122 rfl rfl) h
theorem q_182_123  : zRun 182 123 L (.int y :: .int x :: S) sh mi mj mr = zRun 182 124 L (.int (x - y) :: S) sh mi mj mr := zr_p (zD_of zk_182 d_182_123 rfl rfl) rfl
theorem q_182_124  : zRun 182 124 L (.int x :: S) sh mi mj mr = zRun 182 125 L (.long x.toInt64 :: S) sh mi mj mr := zr_p (zD_of zk_182 d_182_124 rfl rfl) rfl
theorem q_182_125 : zRun 182 125 [l0, l1, l2, l3, l4, l5, l6, l7] (.long u :: S) sh mi mj mr = zRun 182 127 [l0, l1, l2, l3, l4, zk2 l5, some (.long u), none] S sh mi mj mr := zr_s2 (i := 6) (v := .long u) (L := [l0, l1, l2, l3, l4, l5, l6, l7]) (zD_of zk_182 d_182_125 rfl rfl) rfl rfl rfl rfl
theorem q_182_127 : zRun 182 127 [l0, l1, l2, l3, l4, l5, some (.long u), l7] S sh mi mj mr = zRun 182 129 [l0, l1, l2, l3, l4, l5, some (.long u), l7] (.long u :: S) sh mi mj mr := zr_l (zD_of zk_182 d_182_127 rfl rfl) rfl rfl rfl
theorem q_182_129 : zRun 182 129 [l0, l1, some (.long u), l3, l4, l5, l6, l7] S sh mi mj mr = zRun 182 130 [l0, l1, some (.long u), l3, l4, l5, l6, l7] (.long u :: S) sh mi mj mr := zr_l (zD_of zk_182 d_182_129 rfl rfl) rfl rfl rfl
theorem q_182_130  : zRun 182 130 L (.long v :: .long u :: S) sh mi mj mr = if u ≤ v then zRun 182 139 L S sh mi mj mr else zRun 182 134 L S sh mi mj mr := zr_cmp (off := 8) (zD_of zk_182 d_182_130 rfl rfl) (zD_of zk_182 d_182_131 rfl rfl) rfl rfl (by decide) (lg_cmp_le u v)
theorem q_182_131  : zRun 182 131 L (.int x :: S) sh mi mj mr = if x ≤ 0 then zRun 182 139 L S sh mi mj mr else zRun 182 134 L S sh mi mj mr := zr_if (off := 8) (P := x ≤ 0) (zD_of zk_182 d_182_131 rfl rfl) rfl rfl (by decide)
theorem q_182_134 : zRun 182 134 [l0, l1, l2, l3, l4, some (.int x), l6, l7] S sh mi mj mr = zRun 182 136 [l0, l1, l2, l3, l4, some (.int x), l6, l7] (.int x :: S) sh mi mj mr := zr_l (zD_of zk_182 d_182_134 rfl rfl) rfl rfl rfl
theorem q_182_136  : zRun 182 136 L S sh mi mj mr = zRun 182 140 L S sh mi mj mr := zr_go (off := 4) (zD_of zk_182 d_182_136 rfl rfl) rfl rfl (by decide)
theorem q_182_139 : zRun 182 139 [l0, some (.int x), l2, l3, l4, l5, l6, l7] S sh mi mj mr = zRun 182 140 [l0, some (.int x), l2, l3, l4, l5, l6, l7] (.int x :: S) sh mi mj mr := zr_l (zD_of zk_182 d_182_139 rfl rfl) rfl rfl rfl
theorem q_182_140 : zRun 182 140 [l0, l1, l2, l3, l4, l5, l6, l7] (.int x :: S) sh mi mj mr = zRun 182 141 [zk2 l0, some (.int x), l2, l3, l4, l5, l6, l7] S sh mi mj mr := zr_s1 (i := 1) (v := .int x) (L := [l0, l1, l2, l3, l4, l5, l6, l7]) (zD_of zk_182 d_182_140 rfl rfl) rfl rfl rfl rfl
theorem q_182_141 : zRun 182 141 [l0, l1, l2, l3, l4, l5, some (.long u), l7] S sh mi mj mr = zRun 182 143 [l0, l1, l2, l3, l4, l5, some (.long u), l7] (.long u :: S) sh mi mj mr := zr_l (zD_of zk_182 d_182_141 rfl rfl) rfl rfl rfl
theorem q_182_143 : zRun 182 143 [l0, l1, some (.long u), l3, l4, l5, l6, l7] S sh mi mj mr = zRun 182 144 [l0, l1, some (.long u), l3, l4, l5, l6, l7] (.long u :: S) sh mi mj mr := zr_l (zD_of zk_182 d_182_143 rfl rfl) rfl rfl rfl
theorem q_182_144  {u0 u1 : Int64} (hS : zcat S ≤ 8) : zRun 182 144 L (.long u1 :: .long u0 :: S) sh mi mj mr = (zCall 151 [.long u0, .long u1] sh mi mj mr).bind fun r => zRun 182 147 L (r.1.toList ++ S) r.2.1 r.2.2.1 r.2.2.2.1 r.2.2.2.2 := zr_S (zD_of zk_182 d_182_144 rfl rfl) rfl zk_151 rfl rfl rfl hS
theorem q_182_147 : zRun 182 147 [l0, l1, l2, l3, l4, l5, l6, l7] (.long u :: S) sh mi mj mr = zRun 182 148 [l0, zk2 l1, some (.long u), none, l4, l5, l6, l7] S sh mi mj mr := zr_s2 (i := 2) (v := .long u) (L := [l0, l1, l2, l3, l4, l5, l6, l7]) (zD_of zk_182 d_182_147 rfl rfl) rfl rfl rfl rfl
theorem q_182_148  : zRun 182 148 [l0, l1, l2, l3, l4, some (.int x), l6, l7] S sh mi mj mr = zRun 182 151 [l0, l1, l2, l3, zk2 l4, some (.int (x + 1)), l6, l7] S sh mi mj mr := zr_s1 (i := 5) (v := .int (x + 1)) (L := [l0, l1, l2, l3, l4, some (.int x), l6, l7]) (zD_of zk_182 d_182_148 rfl rfl) rfl rfl rfl rfl
theorem q_182_151  : zRun 182 151 L S sh mi mj mr = zRun 182 98 L S sh mi mj mr := zr_go (off := (-53)) (zD_of zk_182 d_182_151 rfl rfl) rfl rfl (by decide)
theorem q_182_154 : zRun 182 154 [l0, some (.int x), l2, l3, l4, l5, l6, l7] S sh mi mj mr = zRun 182 155 [l0, some (.int x), l2, l3, l4, l5, l6, l7] (.int x :: S) sh mi mj mr := zr_l (zD_of zk_182 d_182_154 rfl rfl) rfl rfl rfl
theorem q_182_155  : zRun 182 155 L ([.int x]) sh mi mj mr = some (some (.int x), sh, mi, mj, mr) := zr_ret (zD_of zk_182 d_182_155 rfl rfl) rfl rfl rfl rfl rfl (if_pos rfl)
theorem e_182 : zCall 182 [.ref o] sh mi mj mr = zRun 182 0 [some (.ref o), none, none, none, none, none, none, none] [] sh mi mj mr := rfl
theorem d_183_0 : decode cX8_half 0 = .ok (.aload_n 0, 1) := by decide +kernel
theorem d_183_1 : decode cX8_half 1 = .ok (.getfield 39, 3) := by decide +kernel
theorem d_183_4 : decode cX8_half 4 = .ok (.iload_n 1, 1) := by decide +kernel
theorem d_183_5 : decode cX8_half 5 = .ok (.iaload, 1) := by decide +kernel
theorem d_183_6 : decode cX8_half 6 = .ok (.istore_n 3, 1) := by decide +kernel
theorem d_183_7 : decode cX8_half 7 = .ok (.aload_n 0, 1) := by decide +kernel
theorem d_183_8 : decode cX8_half 8 = .ok (.getfield 42, 3) := by decide +kernel
theorem d_183_11 : decode cX8_half 11 = .ok (.iload_n 1, 1) := by decide +kernel
theorem d_183_12 : decode cX8_half 12 = .ok (.iaload, 1) := by decide +kernel
theorem d_183_13 : decode cX8_half 13 = .ok (.istore 4, 2) := by decide +kernel
theorem d_183_15 : decode cX8_half 15 = .ok (.aload_n 0, 1) := by decide +kernel
theorem d_183_16 : decode cX8_half 16 = .ok (.iload_n 3, 1) := by decide +kernel
theorem d_183_17 : decode cX8_half 17 = .ok (.iload 4, 2) := by decide +kernel
theorem d_183_19 : decode cX8_half 19 = .ok (.iadd, 1) := by decide +kernel
theorem d_183_20 : decode cX8_half 20 = .ok (.iconst 1, 1) := by decide +kernel
theorem d_183_21 : decode cX8_half 21 = .ok (.ishr, 1) := by decide +kernel
theorem d_183_22 : decode cX8_half 22 = .ok (.putfield 294, 3) := by decide +kernel
theorem d_183_25 : decode cX8_half 25 = .ok (.iload_n 2, 1) := by decide +kernel
theorem d_183_26 : decode cX8_half 26 = .ok (.ifCond .eq 16, 3) := by decide +kernel
theorem d_183_29 : decode cX8_half 29 = .ok (.aload_n 0, 1) := by decide +kernel
theorem d_183_30 : decode cX8_half 30 = .ok (.getfield 42, 3) := by decide +kernel
theorem d_183_33 : decode cX8_half 33 = .ok (.iload_n 1, 1) := by decide +kernel
theorem d_183_34 : decode cX8_half 34 = .ok (.aload_n 0, 1) := by decide +kernel
theorem d_183_35 : decode cX8_half 35 = .ok (.getfield 294, 3) := by decide +kernel
theorem d_183_38 : decode cX8_half 38 = .ok (.iastore, 1) := by decide +kernel
theorem d_183_39 : decode cX8_half 39 = .ok (.goto 26, 3) := by decide +kernel
theorem d_183_42 : decode cX8_half 42 = .ok (.aload_n 0, 1) := by decide +kernel
theorem d_183_43 : decode cX8_half 43 = .ok (.getfield 39, 3) := by decide +kernel
theorem d_183_46 : decode cX8_half 46 = .ok (.iload_n 1, 1) := by decide +kernel
theorem d_183_47 : decode cX8_half 47 = .ok (.iload 4, 2) := by decide +kernel
theorem d_183_49 : decode cX8_half 49 = .ok (.iload_n 3, 1) := by decide +kernel
theorem d_183_50 : decode cX8_half 50 = .ok (.iconst 1, 1) := by decide +kernel
theorem d_183_51 : decode cX8_half 51 = .ok (.iadd, 1) := by decide +kernel
theorem d_183_52 : decode cX8_half 52 = .ok (.if_icmp .ne 8, 3) := by decide +kernel
theorem d_183_55 : decode cX8_half 55 = .ok (.iload 4, 2) := by decide +kernel
theorem d_183_57 : decode cX8_half 57 = .ok (.goto 7, 3) := by decide +kernel
theorem d_183_60 : decode cX8_half 60 = .ok (.aload_n 0, 1) := by decide +kernel
theorem d_183_61 : decode cX8_half 61 = .ok (.getfield 294, 3) := by decide +kernel
theorem d_183_64 : decode cX8_half 64 = .ok (.iastore, 1) := by decide +kernel
theorem d_183_65 : decode cX8_half 65 = .ok (.return_, 1) := by decide +kernel
theorem q_183_0r : zRun 183 0 [some (.ref o), l1, l2, l3, l4] S sh mi mj mr = zRun 183 1 [some (.ref o), l1, l2, l3, l4] (.ref o :: S) sh mi mj mr := zr_l (zD_of zk_183 d_183_0 rfl rfl) rfl rfl rfl
theorem q_183_0n : zRun 183 0 [some (.null), l1, l2, l3, l4] S sh mi mj mr = zRun 183 1 [some (.null), l1, l2, l3, l4] (.null :: S) sh mi mj mr := zr_l (zD_of zk_183 d_183_0 rfl rfl) rfl rfl rfl
theorem q_183_1 (h : zIs sh o 0 8) : zRun 183 1 L (.ref o :: S) sh mi mj mr = zRun 183 4 L (va_rf (mr o 16) :: S) sh mi mj mr := zr_getR (zD_of zk_183 d_183_1 rfl rfl) rfl rfl rfl h
theorem q_183_4 : zRun 183 4 [l0, some (.int x), l2, l3, l4] S sh mi mj mr = zRun 183 5 [l0, some (.int x), l2, l3, l4] (.int x :: S) sh mi mj mr := zr_l (zD_of zk_183 d_183_4 rfl rfl) rfl rfl rfl
theorem q_183_5 (h : zAt sh o 1 x) : zRun 183 5 L (.int x :: .ref o :: S) sh mi mj mr = zRun 183 6 L (.int (mi o x.toNatClampNeg) :: S) sh mi mj mr := zr_iald (zD_of zk_183 d_183_5 rfl rfl) h
theorem q_183_6 : zRun 183 6 [l0, l1, l2, l3, l4] (.int x :: S) sh mi mj mr = zRun 183 7 [l0, l1, zk2 l2, some (.int x), l4] S sh mi mj mr := zr_s1 (i := 3) (v := .int x) (L := [l0, l1, l2, l3, l4]) (zD_of zk_183 d_183_6 rfl rfl) rfl rfl rfl rfl
theorem q_183_7r : zRun 183 7 [some (.ref o), l1, l2, l3, l4] S sh mi mj mr = zRun 183 8 [some (.ref o), l1, l2, l3, l4] (.ref o :: S) sh mi mj mr := zr_l (zD_of zk_183 d_183_7 rfl rfl) rfl rfl rfl
theorem q_183_7n : zRun 183 7 [some (.null), l1, l2, l3, l4] S sh mi mj mr = zRun 183 8 [some (.null), l1, l2, l3, l4] (.null :: S) sh mi mj mr := zr_l (zD_of zk_183 d_183_7 rfl rfl) rfl rfl rfl
theorem q_183_8 (h : zIs sh o 0 8) : zRun 183 8 L (.ref o :: S) sh mi mj mr = zRun 183 11 L (va_rf (mr o 17) :: S) sh mi mj mr := zr_getR (zD_of zk_183 d_183_8 rfl rfl) rfl rfl rfl h
theorem q_183_11 : zRun 183 11 [l0, some (.int x), l2, l3, l4] S sh mi mj mr = zRun 183 12 [l0, some (.int x), l2, l3, l4] (.int x :: S) sh mi mj mr := zr_l (zD_of zk_183 d_183_11 rfl rfl) rfl rfl rfl
theorem q_183_12 (h : zAt sh o 1 x) : zRun 183 12 L (.int x :: .ref o :: S) sh mi mj mr = zRun 183 13 L (.int (mi o x.toNatClampNeg) :: S) sh mi mj mr := zr_iald (zD_of zk_183 d_183_12 rfl rfl) h
theorem q_183_13 : zRun 183 13 [l0, l1, l2, l3, l4] (.int x :: S) sh mi mj mr = zRun 183 15 [l0, l1, l2, zk2 l3, some (.int x)] S sh mi mj mr := zr_s1 (i := 4) (v := .int x) (L := [l0, l1, l2, l3, l4]) (zD_of zk_183 d_183_13 rfl rfl) rfl rfl rfl rfl
theorem q_183_15r : zRun 183 15 [some (.ref o), l1, l2, l3, l4] S sh mi mj mr = zRun 183 16 [some (.ref o), l1, l2, l3, l4] (.ref o :: S) sh mi mj mr := zr_l (zD_of zk_183 d_183_15 rfl rfl) rfl rfl rfl
theorem q_183_15n : zRun 183 15 [some (.null), l1, l2, l3, l4] S sh mi mj mr = zRun 183 16 [some (.null), l1, l2, l3, l4] (.null :: S) sh mi mj mr := zr_l (zD_of zk_183 d_183_15 rfl rfl) rfl rfl rfl
theorem q_183_16 : zRun 183 16 [l0, l1, l2, some (.int x), l4] S sh mi mj mr = zRun 183 17 [l0, l1, l2, some (.int x), l4] (.int x :: S) sh mi mj mr := zr_l (zD_of zk_183 d_183_16 rfl rfl) rfl rfl rfl
theorem q_183_17 : zRun 183 17 [l0, l1, l2, l3, some (.int x)] S sh mi mj mr = zRun 183 19 [l0, l1, l2, l3, some (.int x)] (.int x :: S) sh mi mj mr := zr_l (zD_of zk_183 d_183_17 rfl rfl) rfl rfl rfl
theorem q_183_19  : zRun 183 19 L (.int y :: .int x :: S) sh mi mj mr = zRun 183 20 L (.int (x + y) :: S) sh mi mj mr := zr_p (zD_of zk_183 d_183_19 rfl rfl) rfl
theorem q_183_20  : zRun 183 20 L S sh mi mj mr = zRun 183 21 L (.int 1 :: S) sh mi mj mr := zr_p (zD_of zk_183 d_183_20 rfl rfl) rfl
theorem q_183_21  : zRun 183 21 L (.int y :: .int x :: S) sh mi mj mr = zRun 183 22 L (.int (x >>> (y &&& 31)) :: S) sh mi mj mr := zr_p (zD_of zk_183 d_183_21 rfl rfl) rfl
theorem q_183_22 (h : zIs sh o 0 8) : zRun 183 22 L (.int x :: .ref o :: S) sh mi mj mr = zRun 183 25 L S sh (zup mi o 23 x) mj mr := zr_putI (zD_of zk_183 d_183_22 rfl rfl) rfl rfl rfl (Or.inl rfl) h
theorem q_183_25 : zRun 183 25 [l0, l1, some (.int x), l3, l4] S sh mi mj mr = zRun 183 26 [l0, l1, some (.int x), l3, l4] (.int x :: S) sh mi mj mr := zr_l (zD_of zk_183 d_183_25 rfl rfl) rfl rfl rfl
theorem q_183_26  : zRun 183 26 L (.int x :: S) sh mi mj mr = if x = 0 then zRun 183 42 L S sh mi mj mr else zRun 183 29 L S sh mi mj mr := zr_if (off := 16) (P := x = 0) (zD_of zk_183 d_183_26 rfl rfl) rfl rfl (by decide)
theorem q_183_29r : zRun 183 29 [some (.ref o), l1, l2, l3, l4] S sh mi mj mr = zRun 183 30 [some (.ref o), l1, l2, l3, l4] (.ref o :: S) sh mi mj mr := zr_l (zD_of zk_183 d_183_29 rfl rfl) rfl rfl rfl
theorem q_183_29n : zRun 183 29 [some (.null), l1, l2, l3, l4] S sh mi mj mr = zRun 183 30 [some (.null), l1, l2, l3, l4] (.null :: S) sh mi mj mr := zr_l (zD_of zk_183 d_183_29 rfl rfl) rfl rfl rfl
theorem q_183_30 (h : zIs sh o 0 8) : zRun 183 30 L (.ref o :: S) sh mi mj mr = zRun 183 33 L (va_rf (mr o 17) :: S) sh mi mj mr := zr_getR (zD_of zk_183 d_183_30 rfl rfl) rfl rfl rfl h
theorem q_183_33 : zRun 183 33 [l0, some (.int x), l2, l3, l4] S sh mi mj mr = zRun 183 34 [l0, some (.int x), l2, l3, l4] (.int x :: S) sh mi mj mr := zr_l (zD_of zk_183 d_183_33 rfl rfl) rfl rfl rfl
theorem q_183_34r : zRun 183 34 [some (.ref o), l1, l2, l3, l4] S sh mi mj mr = zRun 183 35 [some (.ref o), l1, l2, l3, l4] (.ref o :: S) sh mi mj mr := zr_l (zD_of zk_183 d_183_34 rfl rfl) rfl rfl rfl
theorem q_183_34n : zRun 183 34 [some (.null), l1, l2, l3, l4] S sh mi mj mr = zRun 183 35 [some (.null), l1, l2, l3, l4] (.null :: S) sh mi mj mr := zr_l (zD_of zk_183 d_183_34 rfl rfl) rfl rfl rfl
theorem q_183_35 (h : zIs sh o 0 8) : zRun 183 35 L (.ref o :: S) sh mi mj mr = zRun 183 38 L (.int (mi o 23) :: S) sh mi mj mr := zr_getI (zD_of zk_183 d_183_35 rfl rfl) rfl rfl (Or.inl rfl) h
theorem q_183_38 (h : zAt sh o 1 x) : zRun 183 38 L (.int y :: .int x :: .ref o :: S) sh mi mj mr = zRun 183 39 L S sh (zup mi o x.toNatClampNeg y) mj mr := zr_iast (zD_of zk_183 d_183_38 rfl rfl) h
theorem q_183_39  : zRun 183 39 L S sh mi mj mr = zRun 183 65 L S sh mi mj mr := zr_go (off := 26) (zD_of zk_183 d_183_39 rfl rfl) rfl rfl (by decide)
theorem q_183_42r : zRun 183 42 [some (.ref o), l1, l2, l3, l4] S sh mi mj mr = zRun 183 43 [some (.ref o), l1, l2, l3, l4] (.ref o :: S) sh mi mj mr := zr_l (zD_of zk_183 d_183_42 rfl rfl) rfl rfl rfl
theorem q_183_42n : zRun 183 42 [some (.null), l1, l2, l3, l4] S sh mi mj mr = zRun 183 43 [some (.null), l1, l2, l3, l4] (.null :: S) sh mi mj mr := zr_l (zD_of zk_183 d_183_42 rfl rfl) rfl rfl rfl
theorem q_183_43 (h : zIs sh o 0 8) : zRun 183 43 L (.ref o :: S) sh mi mj mr = zRun 183 46 L (va_rf (mr o 16) :: S) sh mi mj mr := zr_getR (zD_of zk_183 d_183_43 rfl rfl) rfl rfl rfl h
theorem q_183_46 : zRun 183 46 [l0, some (.int x), l2, l3, l4] S sh mi mj mr = zRun 183 47 [l0, some (.int x), l2, l3, l4] (.int x :: S) sh mi mj mr := zr_l (zD_of zk_183 d_183_46 rfl rfl) rfl rfl rfl
theorem q_183_47 : zRun 183 47 [l0, l1, l2, l3, some (.int x)] S sh mi mj mr = zRun 183 49 [l0, l1, l2, l3, some (.int x)] (.int x :: S) sh mi mj mr := zr_l (zD_of zk_183 d_183_47 rfl rfl) rfl rfl rfl
theorem q_183_49 : zRun 183 49 [l0, l1, l2, some (.int x), l4] S sh mi mj mr = zRun 183 50 [l0, l1, l2, some (.int x), l4] (.int x :: S) sh mi mj mr := zr_l (zD_of zk_183 d_183_49 rfl rfl) rfl rfl rfl
theorem q_183_50  : zRun 183 50 L S sh mi mj mr = zRun 183 51 L (.int 1 :: S) sh mi mj mr := zr_p (zD_of zk_183 d_183_50 rfl rfl) rfl
theorem q_183_51  : zRun 183 51 L (.int y :: .int x :: S) sh mi mj mr = zRun 183 52 L (.int (x + y) :: S) sh mi mj mr := zr_p (zD_of zk_183 d_183_51 rfl rfl) rfl
theorem q_183_52  : zRun 183 52 L (.int y :: .int x :: S) sh mi mj mr = if ¬ x = y then zRun 183 60 L S sh mi mj mr else zRun 183 55 L S sh mi mj mr := zr_if (off := 8) (P := ¬ x = y) (zD_of zk_183 d_183_52 rfl rfl) rfl rfl (by decide)
theorem q_183_55 : zRun 183 55 [l0, l1, l2, l3, some (.int x)] S sh mi mj mr = zRun 183 57 [l0, l1, l2, l3, some (.int x)] (.int x :: S) sh mi mj mr := zr_l (zD_of zk_183 d_183_55 rfl rfl) rfl rfl rfl
theorem q_183_57  : zRun 183 57 L S sh mi mj mr = zRun 183 64 L S sh mi mj mr := zr_go (off := 7) (zD_of zk_183 d_183_57 rfl rfl) rfl rfl (by decide)
theorem q_183_60r : zRun 183 60 [some (.ref o), l1, l2, l3, l4] S sh mi mj mr = zRun 183 61 [some (.ref o), l1, l2, l3, l4] (.ref o :: S) sh mi mj mr := zr_l (zD_of zk_183 d_183_60 rfl rfl) rfl rfl rfl
theorem q_183_60n : zRun 183 60 [some (.null), l1, l2, l3, l4] S sh mi mj mr = zRun 183 61 [some (.null), l1, l2, l3, l4] (.null :: S) sh mi mj mr := zr_l (zD_of zk_183 d_183_60 rfl rfl) rfl rfl rfl
theorem q_183_61 (h : zIs sh o 0 8) : zRun 183 61 L (.ref o :: S) sh mi mj mr = zRun 183 64 L (.int (mi o 23) :: S) sh mi mj mr := zr_getI (zD_of zk_183 d_183_61 rfl rfl) rfl rfl (Or.inl rfl) h
theorem q_183_64 (h : zAt sh o 1 x) : zRun 183 64 L (.int y :: .int x :: .ref o :: S) sh mi mj mr = zRun 183 65 L S sh (zup mi o x.toNatClampNeg y) mj mr := zr_iast (zD_of zk_183 d_183_64 rfl rfl) h
theorem q_183_65  : zRun 183 65 L [] sh mi mj mr = some (none, sh, mi, mj, mr) := zr_ret (zD_of zk_183 d_183_65 rfl rfl) rfl rfl rfl rfl rfl rfl
theorem e_183 {x0 x1 : Int32} : zCall 183 [.ref o, .int x0, .int x1] sh mi mj mr = zRun 183 0 [some (.ref o), some (.int x0), some (.int x1), none, none] [] sh mi mj mr := rfl
theorem d_184_0 : decode cX8_noteProof 0 = .ok (.aload_n 0, 1) := by decide +kernel
theorem d_184_1 : decode cX8_noteProof 1 = .ok (.iconst 1, 1) := by decide +kernel
theorem d_184_2 : decode cX8_noteProof 2 = .ok (.putfield 297, 3) := by decide +kernel
theorem d_184_5 : decode cX8_noteProof 5 = .ok (.aload_n 0, 1) := by decide +kernel
theorem d_184_6 : decode cX8_noteProof 6 = .ok (.getfield 57, 3) := by decide +kernel
theorem d_184_9 : decode cX8_noteProof 9 = .ok (.iconst 0, 1) := by decide +kernel
theorem d_184_10 : decode cX8_noteProof 10 = .ok (.iload_n 1, 1) := by decide +kernel
theorem d_184_11 : decode cX8_noteProof 11 = .ok (.i2l, 1) := by decide +kernel
theorem d_184_12 : decode cX8_noteProof 12 = .ok (.lastore, 1) := by decide +kernel
theorem d_184_13 : decode cX8_noteProof 13 = .ok (.iconst 0, 1) := by decide +kernel
theorem d_184_14 : decode cX8_noteProof 14 = .ok (.istore_n 3, 1) := by decide +kernel
theorem d_184_15 : decode cX8_noteProof 15 = .ok (.iload_n 3, 1) := by decide +kernel
theorem d_184_16 : decode cX8_noteProof 16 = .ok (.bipush 8, 2) := by decide +kernel
theorem d_184_18 : decode cX8_noteProof 18 = .ok (.if_icmp .ge 29, 3) := by decide +kernel
theorem d_184_21 : decode cX8_noteProof 21 = .ok (.aload_n 0, 1) := by decide +kernel
theorem d_184_22 : decode cX8_noteProof 22 = .ok (.getfield 57, 3) := by decide +kernel
theorem d_184_25 : decode cX8_noteProof 25 = .ok (.iconst 1, 1) := by decide +kernel
theorem d_184_26 : decode cX8_noteProof 26 = .ok (.iload_n 3, 1) := by decide +kernel
theorem d_184_27 : decode cX8_noteProof 27 = .ok (.iadd, 1) := by decide +kernel
theorem d_184_28 : decode cX8_noteProof 28 = .ok (.aload_n 0, 1) := by decide +kernel
theorem d_184_29 : decode cX8_noteProof 29 = .ok (.getfield 54, 3) := by decide +kernel
theorem d_184_32 : decode cX8_noteProof 32 = .ok (.bipush 8, 2) := by decide +kernel
theorem d_184_34 : decode cX8_noteProof 34 = .ok (.iload_n 2, 1) := by decide +kernel
theorem d_184_35 : decode cX8_noteProof 35 = .ok (.imul, 1) := by decide +kernel
theorem d_184_36 : decode cX8_noteProof 36 = .ok (.iload_n 3, 1) := by decide +kernel
theorem d_184_37 : decode cX8_noteProof 37 = .ok (.iadd, 1) := by decide +kernel
theorem d_184_38 : decode cX8_noteProof 38 = .ok (.iaload, 1) := by decide +kernel
theorem d_184_39 : decode cX8_noteProof 39 = .ok (.i2l, 1) := by decide +kernel
theorem d_184_40 : decode cX8_noteProof 40 = .ok (.lastore, 1) := by decide +kernel
theorem d_184_41 : decode cX8_noteProof 41 = .ok (.iinc 3 1, 3) := by decide +kernel
theorem d_184_44 : decode cX8_noteProof 44 = .ok (.goto (-29), 3) := by decide +kernel
theorem d_184_47 : decode cX8_noteProof 47 = .ok (.return_, 1) := by decide +kernel
theorem q_184_0r : zRun 184 0 [some (.ref o), l1, l2, l3] S sh mi mj mr = zRun 184 1 [some (.ref o), l1, l2, l3] (.ref o :: S) sh mi mj mr := zr_l (zD_of zk_184 d_184_0 rfl rfl) rfl rfl rfl
theorem q_184_0n : zRun 184 0 [some (.null), l1, l2, l3] S sh mi mj mr = zRun 184 1 [some (.null), l1, l2, l3] (.null :: S) sh mi mj mr := zr_l (zD_of zk_184 d_184_0 rfl rfl) rfl rfl rfl
theorem q_184_1  : zRun 184 1 L S sh mi mj mr = zRun 184 2 L (.int 1 :: S) sh mi mj mr := zr_p (zD_of zk_184 d_184_1 rfl rfl) rfl
theorem q_184_2 (h : zIs sh o 0 8) (hx : x = 0 ∨ x = 1) : zRun 184 2 L (.int x :: .ref o :: S) sh mi mj mr = zRun 184 5 L S sh (zup mi o 25 x) mj mr := zr_putB (zD_of zk_184 d_184_2 rfl rfl) rfl rfl rfl (Or.inl rfl) h hx
theorem q_184_5r : zRun 184 5 [some (.ref o), l1, l2, l3] S sh mi mj mr = zRun 184 6 [some (.ref o), l1, l2, l3] (.ref o :: S) sh mi mj mr := zr_l (zD_of zk_184 d_184_5 rfl rfl) rfl rfl rfl
theorem q_184_5n : zRun 184 5 [some (.null), l1, l2, l3] S sh mi mj mr = zRun 184 6 [some (.null), l1, l2, l3] (.null :: S) sh mi mj mr := zr_l (zD_of zk_184 d_184_5 rfl rfl) rfl rfl rfl
theorem q_184_6 (h : zIs sh o 0 8) : zRun 184 6 L (.ref o :: S) sh mi mj mr = zRun 184 9 L (va_rf (mr o 24) :: S) sh mi mj mr := zr_getR (zD_of zk_184 d_184_6 rfl rfl) rfl rfl rfl h
theorem q_184_9  : zRun 184 9 L S sh mi mj mr = zRun 184 10 L (.int 0 :: S) sh mi mj mr := zr_p (zD_of zk_184 d_184_9 rfl rfl) rfl
theorem q_184_10 : zRun 184 10 [l0, some (.int x), l2, l3] S sh mi mj mr = zRun 184 11 [l0, some (.int x), l2, l3] (.int x :: S) sh mi mj mr := zr_l (zD_of zk_184 d_184_10 rfl rfl) rfl rfl rfl
theorem q_184_11  : zRun 184 11 L (.int x :: S) sh mi mj mr = zRun 184 12 L (.long x.toInt64 :: S) sh mi mj mr := zr_p (zD_of zk_184 d_184_11 rfl rfl) rfl
theorem q_184_12 (h : zAt sh o 2 x) : zRun 184 12 L (.long u :: .int x :: .ref o :: S) sh mi mj mr = zRun 184 13 L S sh mi (zup mj o x.toNatClampNeg u) mr := zr_last (zD_of zk_184 d_184_12 rfl rfl) h
theorem q_184_13  : zRun 184 13 L S sh mi mj mr = zRun 184 14 L (.int 0 :: S) sh mi mj mr := zr_p (zD_of zk_184 d_184_13 rfl rfl) rfl
theorem q_184_14 : zRun 184 14 [l0, l1, l2, l3] (.int x :: S) sh mi mj mr = zRun 184 15 [l0, l1, zk2 l2, some (.int x)] S sh mi mj mr := zr_s1 (i := 3) (v := .int x) (L := [l0, l1, l2, l3]) (zD_of zk_184 d_184_14 rfl rfl) rfl rfl rfl rfl
theorem q_184_15 : zRun 184 15 [l0, l1, l2, some (.int x)] S sh mi mj mr = zRun 184 16 [l0, l1, l2, some (.int x)] (.int x :: S) sh mi mj mr := zr_l (zD_of zk_184 d_184_15 rfl rfl) rfl rfl rfl
theorem q_184_16  : zRun 184 16 L S sh mi mj mr = zRun 184 18 L (.int 8 :: S) sh mi mj mr := zr_p (zD_of zk_184 d_184_16 rfl rfl) rfl
theorem q_184_18  : zRun 184 18 L (.int y :: .int x :: S) sh mi mj mr = if y ≤ x then zRun 184 47 L S sh mi mj mr else zRun 184 21 L S sh mi mj mr := zr_if (off := 29) (P := y ≤ x) (zD_of zk_184 d_184_18 rfl rfl) rfl rfl (by decide)
theorem q_184_21r : zRun 184 21 [some (.ref o), l1, l2, l3] S sh mi mj mr = zRun 184 22 [some (.ref o), l1, l2, l3] (.ref o :: S) sh mi mj mr := zr_l (zD_of zk_184 d_184_21 rfl rfl) rfl rfl rfl
theorem q_184_21n : zRun 184 21 [some (.null), l1, l2, l3] S sh mi mj mr = zRun 184 22 [some (.null), l1, l2, l3] (.null :: S) sh mi mj mr := zr_l (zD_of zk_184 d_184_21 rfl rfl) rfl rfl rfl
theorem q_184_22 (h : zIs sh o 0 8) : zRun 184 22 L (.ref o :: S) sh mi mj mr = zRun 184 25 L (va_rf (mr o 24) :: S) sh mi mj mr := zr_getR (zD_of zk_184 d_184_22 rfl rfl) rfl rfl rfl h
theorem q_184_25  : zRun 184 25 L S sh mi mj mr = zRun 184 26 L (.int 1 :: S) sh mi mj mr := zr_p (zD_of zk_184 d_184_25 rfl rfl) rfl
theorem q_184_26 : zRun 184 26 [l0, l1, l2, some (.int x)] S sh mi mj mr = zRun 184 27 [l0, l1, l2, some (.int x)] (.int x :: S) sh mi mj mr := zr_l (zD_of zk_184 d_184_26 rfl rfl) rfl rfl rfl
theorem q_184_27  : zRun 184 27 L (.int y :: .int x :: S) sh mi mj mr = zRun 184 28 L (.int (x + y) :: S) sh mi mj mr := zr_p (zD_of zk_184 d_184_27 rfl rfl) rfl
theorem q_184_28r : zRun 184 28 [some (.ref o), l1, l2, l3] S sh mi mj mr = zRun 184 29 [some (.ref o), l1, l2, l3] (.ref o :: S) sh mi mj mr := zr_l (zD_of zk_184 d_184_28 rfl rfl) rfl rfl rfl
theorem q_184_28n : zRun 184 28 [some (.null), l1, l2, l3] S sh mi mj mr = zRun 184 29 [some (.null), l1, l2, l3] (.null :: S) sh mi mj mr := zr_l (zD_of zk_184 d_184_28 rfl rfl) rfl rfl rfl
theorem q_184_29 (h : zIs sh o 0 8) : zRun 184 29 L (.ref o :: S) sh mi mj mr = zRun 184 32 L (va_rf (mr o 21) :: S) sh mi mj mr := zr_getR (zD_of zk_184 d_184_29 rfl rfl) rfl rfl rfl h
theorem q_184_32  : zRun 184 32 L S sh mi mj mr = zRun 184 34 L (.int 8 :: S) sh mi mj mr := zr_p (zD_of zk_184 d_184_32 rfl rfl) rfl
theorem q_184_34 : zRun 184 34 [l0, l1, some (.int x), l3] S sh mi mj mr = zRun 184 35 [l0, l1, some (.int x), l3] (.int x :: S) sh mi mj mr := zr_l (zD_of zk_184 d_184_34 rfl rfl) rfl rfl rfl
theorem q_184_35  : zRun 184 35 L (.int y :: .int x :: S) sh mi mj mr = zRun 184 36 L (.int (x * y) :: S) sh mi mj mr := zr_p (zD_of zk_184 d_184_35 rfl rfl) rfl
theorem q_184_36 : zRun 184 36 [l0, l1, l2, some (.int x)] S sh mi mj mr = zRun 184 37 [l0, l1, l2, some (.int x)] (.int x :: S) sh mi mj mr := zr_l (zD_of zk_184 d_184_36 rfl rfl) rfl rfl rfl
theorem q_184_37  : zRun 184 37 L (.int y :: .int x :: S) sh mi mj mr = zRun 184 38 L (.int (x + y) :: S) sh mi mj mr := zr_p (zD_of zk_184 d_184_37 rfl rfl) rfl
theorem q_184_38 (h : zAt sh o 1 x) : zRun 184 38 L (.int x :: .ref o :: S) sh mi mj mr = zRun 184 39 L (.int (mi o x.toNatClampNeg) :: S) sh mi mj mr := zr_iald (zD_of zk_184 d_184_38 rfl rfl) h
theorem q_184_39  : zRun 184 39 L (.int x :: S) sh mi mj mr = zRun 184 40 L (.long x.toInt64 :: S) sh mi mj mr := zr_p (zD_of zk_184 d_184_39 rfl rfl) rfl
theorem q_184_40 (h : zAt sh o 2 x) : zRun 184 40 L (.long u :: .int x :: .ref o :: S) sh mi mj mr = zRun 184 41 L S sh mi (zup mj o x.toNatClampNeg u) mr := zr_last (zD_of zk_184 d_184_40 rfl rfl) h
theorem q_184_41  : zRun 184 41 [l0, l1, l2, some (.int x)] S sh mi mj mr = zRun 184 44 [l0, l1, zk2 l2, some (.int (x + 1))] S sh mi mj mr := zr_s1 (i := 3) (v := .int (x + 1)) (L := [l0, l1, l2, some (.int x)]) (zD_of zk_184 d_184_41 rfl rfl) rfl rfl rfl rfl
theorem q_184_44  : zRun 184 44 L S sh mi mj mr = zRun 184 15 L S sh mi mj mr := zr_go (off := (-29)) (zD_of zk_184 d_184_44 rfl rfl) rfl rfl (by decide)
theorem q_184_47  : zRun 184 47 L [] sh mi mj mr = some (none, sh, mi, mj, mr) := zr_ret (zD_of zk_184 d_184_47 rfl rfl) rfl rfl rfl rfl rfl rfl
theorem e_184 {x0 x1 : Int32} : zCall 184 [.ref o, .int x0, .int x1] sh mi mj mr = zRun 184 0 [some (.ref o), some (.int x0), some (.int x1), none] [] sh mi mj mr := rfl
theorem d_185_0 : decode cX8_isRefuted 0 = .ok (.iconst 0, 1) := by decide +kernel
theorem d_185_1 : decode cX8_isRefuted 1 = .ok (.istore_n 3, 1) := by decide +kernel
theorem d_185_2 : decode cX8_isRefuted 2 = .ok (.iload_n 3, 1) := by decide +kernel
theorem d_185_3 : decode cX8_isRefuted 3 = .ok (.iconst 4, 1) := by decide +kernel
theorem d_185_4 : decode cX8_isRefuted 4 = .ok (.if_icmp .ge 42, 3) := by decide +kernel
theorem d_185_7 : decode cX8_isRefuted 7 = .ok (.aload_n 0, 1) := by decide +kernel
theorem d_185_8 : decode cX8_isRefuted 8 = .ok (.getfield 39, 3) := by decide +kernel
theorem d_185_11 : decode cX8_isRefuted 11 = .ok (.iload_n 3, 1) := by decide +kernel
theorem d_185_12 : decode cX8_isRefuted 12 = .ok (.aload_n 0, 1) := by decide +kernel
theorem d_185_13 : decode cX8_isRefuted 13 = .ok (.getfield 39, 3) := by decide +kernel
theorem d_185_16 : decode cX8_isRefuted 16 = .ok (.iload_n 3, 1) := by decide +kernel
theorem d_185_17 : decode cX8_isRefuted 17 = .ok (.iaload, 1) := by decide +kernel
theorem d_185_18 : decode cX8_isRefuted 18 = .ok (.aload_n 0, 1) := by decide +kernel
theorem d_185_19 : decode cX8_isRefuted 19 = .ok (.getfield 42, 3) := by decide +kernel
theorem d_185_22 : decode cX8_isRefuted 22 = .ok (.iload_n 3, 1) := by decide +kernel
theorem d_185_23 : decode cX8_isRefuted 23 = .ok (.iaload, 1) := by decide +kernel
theorem d_185_24 : decode cX8_isRefuted 24 = .ok (.iadd, 1) := by decide +kernel
theorem d_185_25 : decode cX8_isRefuted 25 = .ok (.iconst 1, 1) := by decide +kernel
theorem d_185_26 : decode cX8_isRefuted 26 = .ok (.ishr, 1) := by decide +kernel
theorem d_185_27 : decode cX8_isRefuted 27 = .ok (.iastore, 1) := by decide +kernel
theorem d_185_28 : decode cX8_isRefuted 28 = .ok (.aload_n 0, 1) := by decide +kernel
theorem d_185_29 : decode cX8_isRefuted 29 = .ok (.getfield 42, 3) := by decide +kernel
theorem d_185_32 : decode cX8_isRefuted 32 = .ok (.iload_n 3, 1) := by decide +kernel
theorem d_185_33 : decode cX8_isRefuted 33 = .ok (.aload_n 0, 1) := by decide +kernel
theorem d_185_34 : decode cX8_isRefuted 34 = .ok (.getfield 39, 3) := by decide +kernel
theorem d_185_37 : decode cX8_isRefuted 37 = .ok (.iload_n 3, 1) := by decide +kernel
theorem d_185_38 : decode cX8_isRefuted 38 = .ok (.iaload, 1) := by decide +kernel
theorem d_185_39 : decode cX8_isRefuted 39 = .ok (.iastore, 1) := by decide +kernel
theorem d_185_40 : decode cX8_isRefuted 40 = .ok (.iinc 3 1, 3) := by decide +kernel
theorem d_185_43 : decode cX8_isRefuted 43 = .ok (.goto (-41), 3) := by decide +kernel
theorem d_185_46 : decode cX8_isRefuted 46 = .ok (.aload_n 0, 1) := by decide +kernel
theorem d_185_47 : decode cX8_isRefuted 47 = .ok (.iload_n 1, 1) := by decide +kernel
theorem d_185_48 : decode cX8_isRefuted 48 = .ok (.invokevirtual 282, 3) := by decide +kernel
theorem d_185_51 : decode cX8_isRefuted 51 = .ok (.aload_n 0, 1) := by decide +kernel
theorem d_185_52 : decode cX8_isRefuted 52 = .ok (.iconst 0, 1) := by decide +kernel
theorem d_185_53 : decode cX8_isRefuted 53 = .ok (.invokevirtual 251, 3) := by decide +kernel
theorem d_185_56 : decode cX8_isRefuted 56 = .ok (.ifCond .ne 18, 3) := by decide +kernel
theorem d_185_59 : decode cX8_isRefuted 59 = .ok (.aload_n 0, 1) := by decide +kernel
theorem d_185_60 : decode cX8_isRefuted 60 = .ok (.iconst 0, 1) := by decide +kernel
theorem d_185_61 : decode cX8_isRefuted 61 = .ok (.invokevirtual 192, 3) := by decide +kernel
theorem d_185_64 : decode cX8_isRefuted 64 = .ok (.iload_n 2, 1) := by decide +kernel
theorem d_185_65 : decode cX8_isRefuted 65 = .ok (.i2l, 1) := by decide +kernel
theorem d_185_66 : decode cX8_isRefuted 66 = .ok (.lcmp, 1) := by decide +kernel
theorem d_185_67 : decode cX8_isRefuted 67 = .ok (.ifCond .gt 7, 3) := by decide +kernel
theorem d_185_70 : decode cX8_isRefuted 70 = .ok (.iconst 1, 1) := by decide +kernel
theorem d_185_71 : decode cX8_isRefuted 71 = .ok (.goto 4, 3) := by decide +kernel
theorem d_185_74 : decode cX8_isRefuted 74 = .ok (.iconst 0, 1) := by decide +kernel
theorem d_185_75 : decode cX8_isRefuted 75 = .ok (.ireturn, 1) := by decide +kernel
theorem q_185_0  : zRun 185 0 L S sh mi mj mr = zRun 185 1 L (.int 0 :: S) sh mi mj mr := zr_p (zD_of zk_185 d_185_0 rfl rfl) rfl
theorem q_185_1 : zRun 185 1 [l0, l1, l2, l3] (.int x :: S) sh mi mj mr = zRun 185 2 [l0, l1, zk2 l2, some (.int x)] S sh mi mj mr := zr_s1 (i := 3) (v := .int x) (L := [l0, l1, l2, l3]) (zD_of zk_185 d_185_1 rfl rfl) rfl rfl rfl rfl
theorem q_185_2 : zRun 185 2 [l0, l1, l2, some (.int x)] S sh mi mj mr = zRun 185 3 [l0, l1, l2, some (.int x)] (.int x :: S) sh mi mj mr := zr_l (zD_of zk_185 d_185_2 rfl rfl) rfl rfl rfl
theorem q_185_3  : zRun 185 3 L S sh mi mj mr = zRun 185 4 L (.int 4 :: S) sh mi mj mr := zr_p (zD_of zk_185 d_185_3 rfl rfl) rfl
theorem q_185_4  : zRun 185 4 L (.int y :: .int x :: S) sh mi mj mr = if y ≤ x then zRun 185 46 L S sh mi mj mr else zRun 185 7 L S sh mi mj mr := zr_if (off := 42) (P := y ≤ x) (zD_of zk_185 d_185_4 rfl rfl) rfl rfl (by decide)
theorem q_185_7r : zRun 185 7 [some (.ref o), l1, l2, l3] S sh mi mj mr = zRun 185 8 [some (.ref o), l1, l2, l3] (.ref o :: S) sh mi mj mr := zr_l (zD_of zk_185 d_185_7 rfl rfl) rfl rfl rfl
theorem q_185_7n : zRun 185 7 [some (.null), l1, l2, l3] S sh mi mj mr = zRun 185 8 [some (.null), l1, l2, l3] (.null :: S) sh mi mj mr := zr_l (zD_of zk_185 d_185_7 rfl rfl) rfl rfl rfl
theorem q_185_8 (h : zIs sh o 0 8) : zRun 185 8 L (.ref o :: S) sh mi mj mr = zRun 185 11 L (va_rf (mr o 16) :: S) sh mi mj mr := zr_getR (zD_of zk_185 d_185_8 rfl rfl) rfl rfl rfl h
theorem q_185_11 : zRun 185 11 [l0, l1, l2, some (.int x)] S sh mi mj mr = zRun 185 12 [l0, l1, l2, some (.int x)] (.int x :: S) sh mi mj mr := zr_l (zD_of zk_185 d_185_11 rfl rfl) rfl rfl rfl
theorem q_185_12r : zRun 185 12 [some (.ref o), l1, l2, l3] S sh mi mj mr = zRun 185 13 [some (.ref o), l1, l2, l3] (.ref o :: S) sh mi mj mr := zr_l (zD_of zk_185 d_185_12 rfl rfl) rfl rfl rfl
theorem q_185_12n : zRun 185 12 [some (.null), l1, l2, l3] S sh mi mj mr = zRun 185 13 [some (.null), l1, l2, l3] (.null :: S) sh mi mj mr := zr_l (zD_of zk_185 d_185_12 rfl rfl) rfl rfl rfl
theorem q_185_13 (h : zIs sh o 0 8) : zRun 185 13 L (.ref o :: S) sh mi mj mr = zRun 185 16 L (va_rf (mr o 16) :: S) sh mi mj mr := zr_getR (zD_of zk_185 d_185_13 rfl rfl) rfl rfl rfl h
theorem q_185_16 : zRun 185 16 [l0, l1, l2, some (.int x)] S sh mi mj mr = zRun 185 17 [l0, l1, l2, some (.int x)] (.int x :: S) sh mi mj mr := zr_l (zD_of zk_185 d_185_16 rfl rfl) rfl rfl rfl
theorem q_185_17 (h : zAt sh o 1 x) : zRun 185 17 L (.int x :: .ref o :: S) sh mi mj mr = zRun 185 18 L (.int (mi o x.toNatClampNeg) :: S) sh mi mj mr := zr_iald (zD_of zk_185 d_185_17 rfl rfl) h
theorem q_185_18r : zRun 185 18 [some (.ref o), l1, l2, l3] S sh mi mj mr = zRun 185 19 [some (.ref o), l1, l2, l3] (.ref o :: S) sh mi mj mr := zr_l (zD_of zk_185 d_185_18 rfl rfl) rfl rfl rfl
theorem q_185_18n : zRun 185 18 [some (.null), l1, l2, l3] S sh mi mj mr = zRun 185 19 [some (.null), l1, l2, l3] (.null :: S) sh mi mj mr := zr_l (zD_of zk_185 d_185_18 rfl rfl) rfl rfl rfl
theorem q_185_19 (h : zIs sh o 0 8) : zRun 185 19 L (.ref o :: S) sh mi mj mr = zRun 185 22 L (va_rf (mr o 17) :: S) sh mi mj mr := zr_getR (zD_of zk_185 d_185_19 rfl rfl) rfl rfl rfl h
theorem q_185_22 : zRun 185 22 [l0, l1, l2, some (.int x)] S sh mi mj mr = zRun 185 23 [l0, l1, l2, some (.int x)] (.int x :: S) sh mi mj mr := zr_l (zD_of zk_185 d_185_22 rfl rfl) rfl rfl rfl
theorem q_185_23 (h : zAt sh o 1 x) : zRun 185 23 L (.int x :: .ref o :: S) sh mi mj mr = zRun 185 24 L (.int (mi o x.toNatClampNeg) :: S) sh mi mj mr := zr_iald (zD_of zk_185 d_185_23 rfl rfl) h
theorem q_185_24  : zRun 185 24 L (.int y :: .int x :: S) sh mi mj mr = zRun 185 25 L (.int (x + y) :: S) sh mi mj mr := zr_p (zD_of zk_185 d_185_24 rfl rfl) rfl
theorem q_185_25  : zRun 185 25 L S sh mi mj mr = zRun 185 26 L (.int 1 :: S) sh mi mj mr := zr_p (zD_of zk_185 d_185_25 rfl rfl) rfl
theorem q_185_26  : zRun 185 26 L (.int y :: .int x :: S) sh mi mj mr = zRun 185 27 L (.int (x >>> (y &&& 31)) :: S) sh mi mj mr := zr_p (zD_of zk_185 d_185_26 rfl rfl) rfl
theorem q_185_27 (h : zAt sh o 1 x) : zRun 185 27 L (.int y :: .int x :: .ref o :: S) sh mi mj mr = zRun 185 28 L S sh (zup mi o x.toNatClampNeg y) mj mr := zr_iast (zD_of zk_185 d_185_27 rfl rfl) h
theorem q_185_28r : zRun 185 28 [some (.ref o), l1, l2, l3] S sh mi mj mr = zRun 185 29 [some (.ref o), l1, l2, l3] (.ref o :: S) sh mi mj mr := zr_l (zD_of zk_185 d_185_28 rfl rfl) rfl rfl rfl
theorem q_185_28n : zRun 185 28 [some (.null), l1, l2, l3] S sh mi mj mr = zRun 185 29 [some (.null), l1, l2, l3] (.null :: S) sh mi mj mr := zr_l (zD_of zk_185 d_185_28 rfl rfl) rfl rfl rfl
theorem q_185_29 (h : zIs sh o 0 8) : zRun 185 29 L (.ref o :: S) sh mi mj mr = zRun 185 32 L (va_rf (mr o 17) :: S) sh mi mj mr := zr_getR (zD_of zk_185 d_185_29 rfl rfl) rfl rfl rfl h
theorem q_185_32 : zRun 185 32 [l0, l1, l2, some (.int x)] S sh mi mj mr = zRun 185 33 [l0, l1, l2, some (.int x)] (.int x :: S) sh mi mj mr := zr_l (zD_of zk_185 d_185_32 rfl rfl) rfl rfl rfl
theorem q_185_33r : zRun 185 33 [some (.ref o), l1, l2, l3] S sh mi mj mr = zRun 185 34 [some (.ref o), l1, l2, l3] (.ref o :: S) sh mi mj mr := zr_l (zD_of zk_185 d_185_33 rfl rfl) rfl rfl rfl
theorem q_185_33n : zRun 185 33 [some (.null), l1, l2, l3] S sh mi mj mr = zRun 185 34 [some (.null), l1, l2, l3] (.null :: S) sh mi mj mr := zr_l (zD_of zk_185 d_185_33 rfl rfl) rfl rfl rfl
theorem q_185_34 (h : zIs sh o 0 8) : zRun 185 34 L (.ref o :: S) sh mi mj mr = zRun 185 37 L (va_rf (mr o 16) :: S) sh mi mj mr := zr_getR (zD_of zk_185 d_185_34 rfl rfl) rfl rfl rfl h
theorem q_185_37 : zRun 185 37 [l0, l1, l2, some (.int x)] S sh mi mj mr = zRun 185 38 [l0, l1, l2, some (.int x)] (.int x :: S) sh mi mj mr := zr_l (zD_of zk_185 d_185_37 rfl rfl) rfl rfl rfl
theorem q_185_38 (h : zAt sh o 1 x) : zRun 185 38 L (.int x :: .ref o :: S) sh mi mj mr = zRun 185 39 L (.int (mi o x.toNatClampNeg) :: S) sh mi mj mr := zr_iald (zD_of zk_185 d_185_38 rfl rfl) h
theorem q_185_39 (h : zAt sh o 1 x) : zRun 185 39 L (.int y :: .int x :: .ref o :: S) sh mi mj mr = zRun 185 40 L S sh (zup mi o x.toNatClampNeg y) mj mr := zr_iast (zD_of zk_185 d_185_39 rfl rfl) h
theorem q_185_40  : zRun 185 40 [l0, l1, l2, some (.int x)] S sh mi mj mr = zRun 185 43 [l0, l1, zk2 l2, some (.int (x + 1))] S sh mi mj mr := zr_s1 (i := 3) (v := .int (x + 1)) (L := [l0, l1, l2, some (.int x)]) (zD_of zk_185 d_185_40 rfl rfl) rfl rfl rfl rfl
theorem q_185_43  : zRun 185 43 L S sh mi mj mr = zRun 185 2 L S sh mi mj mr := zr_go (off := (-41)) (zD_of zk_185 d_185_43 rfl rfl) rfl rfl (by decide)
theorem q_185_46r : zRun 185 46 [some (.ref o), l1, l2, l3] S sh mi mj mr = zRun 185 47 [some (.ref o), l1, l2, l3] (.ref o :: S) sh mi mj mr := zr_l (zD_of zk_185 d_185_46 rfl rfl) rfl rfl rfl
theorem q_185_46n : zRun 185 46 [some (.null), l1, l2, l3] S sh mi mj mr = zRun 185 47 [some (.null), l1, l2, l3] (.null :: S) sh mi mj mr := zr_l (zD_of zk_185 d_185_46 rfl rfl) rfl rfl rfl
theorem q_185_47 : zRun 185 47 [l0, some (.int x), l2, l3] S sh mi mj mr = zRun 185 48 [l0, some (.int x), l2, l3] (.int x :: S) sh mi mj mr := zr_l (zD_of zk_185 d_185_47 rfl rfl) rfl rfl rfl
theorem q_185_48  {x0 : Int32} (hS : zcat S ≤ 8) (h : zIs sh o 0 8) : zRun 185 48 L (.int x0 :: .ref o :: S) sh mi mj mr = (zCall 170 [.ref o, .int x0] sh mi mj mr).bind fun r => zRun 185 51 L (r.1.toList ++ S) r.2.1 r.2.2.1 r.2.2.2.1 r.2.2.2.2 := zr_V (zD_of zk_185 d_185_48 rfl rfl) rfl zk_170 rfl rfl rfl hS h
theorem q_185_51r : zRun 185 51 [some (.ref o), l1, l2, l3] S sh mi mj mr = zRun 185 52 [some (.ref o), l1, l2, l3] (.ref o :: S) sh mi mj mr := zr_l (zD_of zk_185 d_185_51 rfl rfl) rfl rfl rfl
theorem q_185_51n : zRun 185 51 [some (.null), l1, l2, l3] S sh mi mj mr = zRun 185 52 [some (.null), l1, l2, l3] (.null :: S) sh mi mj mr := zr_l (zD_of zk_185 d_185_51 rfl rfl) rfl rfl rfl
theorem q_185_52  : zRun 185 52 L S sh mi mj mr = zRun 185 53 L (.int 0 :: S) sh mi mj mr := zr_p (zD_of zk_185 d_185_52 rfl rfl) rfl
theorem q_185_53  {x0 : Int32} (hS : zcat S ≤ 8) (h : zIs sh o 0 8) : zRun 185 53 L (.int x0 :: .ref o :: S) sh mi mj mr = (zCall 141 [.ref o, .int x0] sh mi mj mr).bind fun r => zRun 185 56 L (r.1.toList ++ S) r.2.1 r.2.2.1 r.2.2.2.1 r.2.2.2.2 := zr_V (zD_of zk_185 d_185_53 rfl rfl) rfl zk_141 rfl rfl rfl hS h
theorem q_185_56  : zRun 185 56 L (.int x :: S) sh mi mj mr = if ¬ x = 0 then zRun 185 74 L S sh mi mj mr else zRun 185 59 L S sh mi mj mr := zr_if (off := 18) (P := ¬ x = 0) (zD_of zk_185 d_185_56 rfl rfl) rfl rfl (by decide)
theorem q_185_59r : zRun 185 59 [some (.ref o), l1, l2, l3] S sh mi mj mr = zRun 185 60 [some (.ref o), l1, l2, l3] (.ref o :: S) sh mi mj mr := zr_l (zD_of zk_185 d_185_59 rfl rfl) rfl rfl rfl
theorem q_185_59n : zRun 185 59 [some (.null), l1, l2, l3] S sh mi mj mr = zRun 185 60 [some (.null), l1, l2, l3] (.null :: S) sh mi mj mr := zr_l (zD_of zk_185 d_185_59 rfl rfl) rfl rfl rfl
theorem q_185_60  : zRun 185 60 L S sh mi mj mr = zRun 185 61 L (.int 0 :: S) sh mi mj mr := zr_p (zD_of zk_185 d_185_60 rfl rfl) rfl
theorem q_185_61  {x0 : Int32} (hS : zcat S ≤ 8) (h : zIs sh o 0 8) : zRun 185 61 L (.int x0 :: .ref o :: S) sh mi mj mr = (zCall 140 [.ref o, .int x0] sh mi mj mr).bind fun r => zRun 185 64 L (r.1.toList ++ S) r.2.1 r.2.2.1 r.2.2.2.1 r.2.2.2.2 := zr_V (zD_of zk_185 d_185_61 rfl rfl) rfl zk_140 rfl rfl rfl hS h
theorem q_185_64 : zRun 185 64 [l0, l1, some (.int x), l3] S sh mi mj mr = zRun 185 65 [l0, l1, some (.int x), l3] (.int x :: S) sh mi mj mr := zr_l (zD_of zk_185 d_185_64 rfl rfl) rfl rfl rfl
theorem q_185_65  : zRun 185 65 L (.int x :: S) sh mi mj mr = zRun 185 66 L (.long x.toInt64 :: S) sh mi mj mr := zr_p (zD_of zk_185 d_185_65 rfl rfl) rfl
theorem q_185_66  : zRun 185 66 L (.long v :: .long u :: S) sh mi mj mr = if v < u then zRun 185 74 L S sh mi mj mr else zRun 185 70 L S sh mi mj mr := zr_cmp (off := 7) (zD_of zk_185 d_185_66 rfl rfl) (zD_of zk_185 d_185_67 rfl rfl) rfl rfl (by decide) (lg_cmp_gt u v)
theorem q_185_67  : zRun 185 67 L (.int x :: S) sh mi mj mr = if 0 < x then zRun 185 74 L S sh mi mj mr else zRun 185 70 L S sh mi mj mr := zr_if (off := 7) (P := 0 < x) (zD_of zk_185 d_185_67 rfl rfl) rfl rfl (by decide)
theorem q_185_70  : zRun 185 70 L S sh mi mj mr = zRun 185 71 L (.int 1 :: S) sh mi mj mr := zr_p (zD_of zk_185 d_185_70 rfl rfl) rfl
theorem q_185_71  : zRun 185 71 L S sh mi mj mr = zRun 185 75 L S sh mi mj mr := zr_go (off := 4) (zD_of zk_185 d_185_71 rfl rfl) rfl rfl (by decide)
theorem q_185_74  : zRun 185 74 L S sh mi mj mr = zRun 185 75 L (.int 0 :: S) sh mi mj mr := zr_p (zD_of zk_185 d_185_74 rfl rfl) rfl
theorem q_185_75 (h : x = 0 ∨ x = 1) : zRun 185 75 L ([.int x]) sh mi mj mr = some (some (.int x), sh, mi, mj, mr) := zr_ret (zD_of zk_185 d_185_75 rfl rfl) rfl rfl rfl rfl rfl (if_pos (zna_b h))
theorem e_185 {x0 x1 : Int32} : zCall 185 [.ref o, .int x0, .int x1] sh mi mj mr = zRun 185 0 [some (.ref o), some (.int x0), some (.int x1), none] [] sh mi mj mr := rfl
theorem d_186_0 : decode cX8_prove 0 = .ok (.aload_n 0, 1) := by decide +kernel
theorem d_186_1 : decode cX8_prove 1 = .ok (.iload_n 1, 1) := by decide +kernel
theorem d_186_2 : decode cX8_prove 2 = .ok (.invokevirtual 146, 3) := by decide +kernel
theorem d_186_5 : decode cX8_prove 5 = .ok (.ifCond .ne 5, 3) := by decide +kernel
theorem d_186_8 : decode cX8_prove 8 = .ok (.iconst (-1), 1) := by decide +kernel
theorem d_186_9 : decode cX8_prove 9 = .ok (.ireturn, 1) := by decide +kernel
theorem d_186_10 : decode cX8_prove 10 = .ok (.iload_n 2, 1) := by decide +kernel
theorem d_186_11 : decode cX8_prove 11 = .ok (.ldc_w 301, 3) := by decide +kernel
theorem d_186_14 : decode cX8_prove 14 = .ok (.ldc 85, 2) := by decide +kernel
theorem d_186_16 : decode cX8_prove 16 = .ok (.invokestatic 72, 3) := by decide +kernel
theorem d_186_19 : decode cX8_prove 19 = .ok (.ifCond .eq 14, 3) := by decide +kernel
theorem d_186_22 : decode cX8_prove 22 = .ok (.iload_n 3, 1) := by decide +kernel
theorem d_186_23 : decode cX8_prove 23 = .ok (.iconst 1, 1) := by decide +kernel
theorem d_186_24 : decode cX8_prove 24 = .ok (.sipush 200, 3) := by decide +kernel
theorem d_186_27 : decode cX8_prove 27 = .ok (.invokestatic 72, 3) := by decide +kernel
theorem d_186_30 : decode cX8_prove 30 = .ok (.ifCond .ne 6, 3) := by decide +kernel
theorem d_186_33 : decode cX8_prove 33 = .ok (.bipush (-2), 2) := by decide +kernel
theorem d_186_35 : decode cX8_prove 35 = .ok (.ireturn, 1) := by decide +kernel
theorem d_186_36 : decode cX8_prove 36 = .ok (.aload_n 0, 1) := by decide +kernel
theorem d_186_37 : decode cX8_prove 37 = .ok (.invokevirtual 279, 3) := by decide +kernel
theorem d_186_40 : decode cX8_prove 40 = .ok (.aload_n 0, 1) := by decide +kernel
theorem d_186_41 : decode cX8_prove 41 = .ok (.iconst 0, 1) := by decide +kernel
theorem d_186_42 : decode cX8_prove 42 = .ok (.invokevirtual 302, 3) := by decide +kernel
theorem d_186_45 : decode cX8_prove 45 = .ok (.aload_n 0, 1) := by decide +kernel
theorem d_186_46 : decode cX8_prove 46 = .ok (.iconst 1, 1) := by decide +kernel
theorem d_186_47 : decode cX8_prove 47 = .ok (.putfield 305, 3) := by decide +kernel
theorem d_186_50 : decode cX8_prove 50 = .ok (.iconst 0, 1) := by decide +kernel
theorem d_186_51 : decode cX8_prove 51 = .ok (.istore 4, 2) := by decide +kernel
theorem d_186_53 : decode cX8_prove 53 = .ok (.aload_n 0, 1) := by decide +kernel
theorem d_186_54 : decode cX8_prove 54 = .ok (.getfield 305, 3) := by decide +kernel
theorem d_186_57 : decode cX8_prove 57 = .ok (.ifCond .le 129, 3) := by decide +kernel
theorem d_186_60 : decode cX8_prove 60 = .ok (.aload_n 0, 1) := by decide +kernel
theorem d_186_61 : decode cX8_prove 61 = .ok (.dup, 1) := by decide +kernel
theorem d_186_62 : decode cX8_prove 62 = .ok (.getfield 305, 3) := by decide +kernel
theorem d_186_65 : decode cX8_prove 65 = .ok (.iconst 1, 1) := by decide +kernel
theorem d_186_66 : decode cX8_prove 66 = .ok (.isub, 1) := by decide +kernel
theorem d_186_67 : decode cX8_prove 67 = .ok (.putfield 305, 3) := by decide +kernel
theorem d_186_70 : decode cX8_prove 70 = .ok (.aload_n 0, 1) := by decide +kernel
theorem d_186_71 : decode cX8_prove 71 = .ok (.getfield 305, 3) := by decide +kernel
theorem d_186_74 : decode cX8_prove 74 = .ok (.istore 5, 2) := by decide +kernel
theorem d_186_76 : decode cX8_prove 76 = .ok (.aload_n 0, 1) := by decide +kernel
theorem d_186_77 : decode cX8_prove 77 = .ok (.iload 5, 2) := by decide +kernel
theorem d_186_79 : decode cX8_prove 79 = .ok (.invokevirtual 308, 3) := by decide +kernel
theorem d_186_82 : decode cX8_prove 82 = .ok (.aload_n 0, 1) := by decide +kernel
theorem d_186_83 : decode cX8_prove 83 = .ok (.iload_n 1, 1) := by decide +kernel
theorem d_186_84 : decode cX8_prove 84 = .ok (.invokevirtual 282, 3) := by decide +kernel
theorem d_186_87 : decode cX8_prove 87 = .ok (.iinc 4 1, 3) := by decide +kernel
theorem d_186_90 : decode cX8_prove 90 = .ok (.aload_n 0, 1) := by decide +kernel
theorem d_186_91 : decode cX8_prove 91 = .ok (.iload 4, 2) := by decide +kernel
theorem d_186_93 : decode cX8_prove 93 = .ok (.iload 5, 2) := by decide +kernel
theorem d_186_95 : decode cX8_prove 95 = .ok (.invokevirtual 311, 3) := by decide +kernel
theorem d_186_98 : decode cX8_prove 98 = .ok (.aload_n 0, 1) := by decide +kernel
theorem d_186_99 : decode cX8_prove 99 = .ok (.iconst 0, 1) := by decide +kernel
theorem d_186_100 : decode cX8_prove 100 = .ok (.invokevirtual 251, 3) := by decide +kernel
theorem d_186_103 : decode cX8_prove 103 = .ok (.ifCond .ne 14, 3) := by decide +kernel
theorem d_186_106 : decode cX8_prove 106 = .ok (.aload_n 0, 1) := by decide +kernel
theorem d_186_107 : decode cX8_prove 107 = .ok (.iconst 0, 1) := by decide +kernel
theorem d_186_108 : decode cX8_prove 108 = .ok (.invokevirtual 189, 3) := by decide +kernel
theorem d_186_111 : decode cX8_prove 111 = .ok (.iload_n 2, 1) := by decide +kernel
theorem d_186_112 : decode cX8_prove 112 = .ok (.i2l, 1) := by decide +kernel
theorem d_186_113 : decode cX8_prove 113 = .ok (.lcmp, 1) := by decide +kernel
theorem d_186_114 : decode cX8_prove 114 = .ok (.ifCond .gt 69, 3) := by decide +kernel
theorem d_186_117 : decode cX8_prove 117 = .ok (.aload_n 0, 1) := by decide +kernel
theorem d_186_118 : decode cX8_prove 118 = .ok (.invokevirtual 314, 3) := by decide +kernel
theorem d_186_121 : decode cX8_prove 121 = .ok (.istore 6, 2) := by decide +kernel
theorem d_186_123 : decode cX8_prove 123 = .ok (.aload_n 0, 1) := by decide +kernel
theorem d_186_124 : decode cX8_prove 124 = .ok (.iload_n 1, 1) := by decide +kernel
theorem d_186_125 : decode cX8_prove 125 = .ok (.iload_n 2, 1) := by decide +kernel
theorem d_186_126 : decode cX8_prove 126 = .ok (.invokevirtual 317, 3) := by decide +kernel
theorem d_186_129 : decode cX8_prove 129 = .ok (.ifCond .eq 5, 3) := by decide +kernel
theorem d_186_132 : decode cX8_prove 132 = .ok (.iconst 2, 1) := by decide +kernel
theorem d_186_133 : decode cX8_prove 133 = .ok (.ireturn, 1) := by decide +kernel
theorem d_186_134 : decode cX8_prove 134 = .ok (.iload 4, 2) := by decide +kernel
theorem d_186_136 : decode cX8_prove 136 = .ok (.iload_n 3, 1) := by decide +kernel
theorem d_186_137 : decode cX8_prove 137 = .ok (.if_icmp .ge 8, 3) := by decide +kernel
theorem d_186_140 : decode cX8_prove 140 = .ok (.iload 6, 2) := by decide +kernel
theorem d_186_142 : decode cX8_prove 142 = .ok (.ifCond .ge 5, 3) := by decide +kernel
theorem d_186_145 : decode cX8_prove 145 = .ok (.iconst 3, 1) := by decide +kernel
theorem d_186_146 : decode cX8_prove 146 = .ok (.ireturn, 1) := by decide +kernel
theorem d_186_147 : decode cX8_prove 147 = .ok (.aload_n 0, 1) := by decide +kernel
theorem d_186_148 : decode cX8_prove 148 = .ok (.iload 5, 2) := by decide +kernel
theorem d_186_150 : decode cX8_prove 150 = .ok (.invokevirtual 308, 3) := by decide +kernel
theorem d_186_153 : decode cX8_prove 153 = .ok (.aload_n 0, 1) := by decide +kernel
theorem d_186_154 : decode cX8_prove 154 = .ok (.iload 6, 2) := by decide +kernel
theorem d_186_156 : decode cX8_prove 156 = .ok (.iconst 0, 1) := by decide +kernel
theorem d_186_157 : decode cX8_prove 157 = .ok (.invokevirtual 321, 3) := by decide +kernel
theorem d_186_160 : decode cX8_prove 160 = .ok (.aload_n 0, 1) := by decide +kernel
theorem d_186_161 : decode cX8_prove 161 = .ok (.invokevirtual 325, 3) := by decide +kernel
theorem d_186_164 : decode cX8_prove 164 = .ok (.aload_n 0, 1) := by decide +kernel
theorem d_186_165 : decode cX8_prove 165 = .ok (.iload 5, 2) := by decide +kernel
theorem d_186_167 : decode cX8_prove 167 = .ok (.invokevirtual 308, 3) := by decide +kernel
theorem d_186_170 : decode cX8_prove 170 = .ok (.aload_n 0, 1) := by decide +kernel
theorem d_186_171 : decode cX8_prove 171 = .ok (.iload 6, 2) := by decide +kernel
theorem d_186_173 : decode cX8_prove 173 = .ok (.iconst 1, 1) := by decide +kernel
theorem d_186_174 : decode cX8_prove 174 = .ok (.invokevirtual 321, 3) := by decide +kernel
theorem d_186_177 : decode cX8_prove 177 = .ok (.aload_n 0, 1) := by decide +kernel
theorem d_186_178 : decode cX8_prove 178 = .ok (.iload 5, 2) := by decide +kernel
theorem d_186_180 : decode cX8_prove 180 = .ok (.invokevirtual 328, 3) := by decide +kernel
theorem d_186_183 : decode cX8_prove 183 = .ok (.goto (-130), 3) := by decide +kernel
theorem d_186_186 : decode cX8_prove 186 = .ok (.iconst 1, 1) := by decide +kernel
theorem d_186_187 : decode cX8_prove 187 = .ok (.ireturn, 1) := by decide +kernel
theorem q_186_0r : zRun 186 0 [some (.ref o), l1, l2, l3, l4, l5, l6] S sh mi mj mr = zRun 186 1 [some (.ref o), l1, l2, l3, l4, l5, l6] (.ref o :: S) sh mi mj mr := zr_l (zD_of zk_186 d_186_0 rfl rfl) rfl rfl rfl
theorem q_186_0n : zRun 186 0 [some (.null), l1, l2, l3, l4, l5, l6] S sh mi mj mr = zRun 186 1 [some (.null), l1, l2, l3, l4, l5, l6] (.null :: S) sh mi mj mr := zr_l (zD_of zk_186 d_186_0 rfl rfl) rfl rfl rfl
theorem q_186_1 : zRun 186 1 [l0, some (.int x), l2, l3, l4, l5, l6] S sh mi mj mr = zRun 186 2 [l0, some (.int x), l2, l3, l4, l5, l6] (.int x :: S) sh mi mj mr := zr_l (zD_of zk_186 d_186_1 rfl rfl) rfl rfl rfl
theorem q_186_2  {x0 : Int32} (hS : zcat S ≤ 8) (h : zIs sh o 0 8) : zRun 186 2 L (.int x0 :: .ref o :: S) sh mi mj mr = (zCall 113 [.ref o, .int x0] sh mi mj mr).bind fun r => zRun 186 5 L (r.1.toList ++ S) r.2.1 r.2.2.1 r.2.2.2.1 r.2.2.2.2 := zr_V (zD_of zk_186 d_186_2 rfl rfl) rfl zk_113 rfl rfl rfl hS h
theorem q_186_5  : zRun 186 5 L (.int x :: S) sh mi mj mr = if ¬ x = 0 then zRun 186 10 L S sh mi mj mr else zRun 186 8 L S sh mi mj mr := zr_if (off := 5) (P := ¬ x = 0) (zD_of zk_186 d_186_5 rfl rfl) rfl rfl (by decide)
theorem q_186_8  : zRun 186 8 L S sh mi mj mr = zRun 186 9 L (.int (-1) :: S) sh mi mj mr := zr_p (zD_of zk_186 d_186_8 rfl rfl) rfl
theorem q_186_9  : zRun 186 9 L ([.int x]) sh mi mj mr = some (some (.int x), sh, mi, mj, mr) := zr_ret (zD_of zk_186 d_186_9 rfl rfl) rfl rfl rfl rfl rfl (if_pos rfl)
theorem q_186_10 : zRun 186 10 [l0, l1, some (.int x), l3, l4, l5, l6] S sh mi mj mr = zRun 186 11 [l0, l1, some (.int x), l3, l4, l5, l6] (.int x :: S) sh mi mj mr := zr_l (zD_of zk_186 d_186_10 rfl rfl) rfl rfl rfl
theorem q_186_11  : zRun 186 11 L S sh mi mj mr = zRun 186 14 L (.int (-1000000) :: S) sh mi mj mr := zr_k32 (zD_of zk_186 d_186_11 rfl rfl) (by first | exact Or.inl rfl | exact Or.inr rfl) rfl
theorem q_186_14  : zRun 186 14 L S sh mi mj mr = zRun 186 16 L (.int 1000000 :: S) sh mi mj mr := zr_k32 (zD_of zk_186 d_186_14 rfl rfl) (by first | exact Or.inl rfl | exact Or.inr rfl) rfl
theorem q_186_16  {x0 x1 x2 : Int32} (hS : zcat S ≤ 8) : zRun 186 16 L (.int x2 :: .int x1 :: .int x0 :: S) sh mi mj mr = (zCall 111 [.int x0, .int x1, .int x2] sh mi mj mr).bind fun r => zRun 186 19 L (r.1.toList ++ S) r.2.1 r.2.2.1 r.2.2.2.1 r.2.2.2.2 := zr_S (zD_of zk_186 d_186_16 rfl rfl) rfl zk_111 rfl rfl rfl hS
theorem q_186_19  : zRun 186 19 L (.int x :: S) sh mi mj mr = if x = 0 then zRun 186 33 L S sh mi mj mr else zRun 186 22 L S sh mi mj mr := zr_if (off := 14) (P := x = 0) (zD_of zk_186 d_186_19 rfl rfl) rfl rfl (by decide)
theorem q_186_22 : zRun 186 22 [l0, l1, l2, some (.int x), l4, l5, l6] S sh mi mj mr = zRun 186 23 [l0, l1, l2, some (.int x), l4, l5, l6] (.int x :: S) sh mi mj mr := zr_l (zD_of zk_186 d_186_22 rfl rfl) rfl rfl rfl
theorem q_186_23  : zRun 186 23 L S sh mi mj mr = zRun 186 24 L (.int 1 :: S) sh mi mj mr := zr_p (zD_of zk_186 d_186_23 rfl rfl) rfl
theorem q_186_24  : zRun 186 24 L S sh mi mj mr = zRun 186 27 L (.int 200 :: S) sh mi mj mr := zr_p (zD_of zk_186 d_186_24 rfl rfl) rfl
theorem q_186_27  {x0 x1 x2 : Int32} (hS : zcat S ≤ 8) : zRun 186 27 L (.int x2 :: .int x1 :: .int x0 :: S) sh mi mj mr = (zCall 111 [.int x0, .int x1, .int x2] sh mi mj mr).bind fun r => zRun 186 30 L (r.1.toList ++ S) r.2.1 r.2.2.1 r.2.2.2.1 r.2.2.2.2 := zr_S (zD_of zk_186 d_186_27 rfl rfl) rfl zk_111 rfl rfl rfl hS
theorem q_186_30  : zRun 186 30 L (.int x :: S) sh mi mj mr = if ¬ x = 0 then zRun 186 36 L S sh mi mj mr else zRun 186 33 L S sh mi mj mr := zr_if (off := 6) (P := ¬ x = 0) (zD_of zk_186 d_186_30 rfl rfl) rfl rfl (by decide)
theorem q_186_33  : zRun 186 33 L S sh mi mj mr = zRun 186 35 L (.int (-2) :: S) sh mi mj mr := zr_p (zD_of zk_186 d_186_33 rfl rfl) rfl
theorem q_186_35  : zRun 186 35 L ([.int x]) sh mi mj mr = some (some (.int x), sh, mi, mj, mr) := zr_ret (zD_of zk_186 d_186_35 rfl rfl) rfl rfl rfl rfl rfl (if_pos rfl)
theorem q_186_36r : zRun 186 36 [some (.ref o), l1, l2, l3, l4, l5, l6] S sh mi mj mr = zRun 186 37 [some (.ref o), l1, l2, l3, l4, l5, l6] (.ref o :: S) sh mi mj mr := zr_l (zD_of zk_186 d_186_36 rfl rfl) rfl rfl rfl
theorem q_186_36n : zRun 186 36 [some (.null), l1, l2, l3, l4, l5, l6] S sh mi mj mr = zRun 186 37 [some (.null), l1, l2, l3, l4, l5, l6] (.null :: S) sh mi mj mr := zr_l (zD_of zk_186 d_186_36 rfl rfl) rfl rfl rfl
theorem q_186_37  (hS : zcat S ≤ 8) (h : zIs sh o 0 8) : zRun 186 37 L (.ref o :: S) sh mi mj mr = (zCall 163 [.ref o] sh mi mj mr).bind fun r => zRun 186 40 L (r.1.toList ++ S) r.2.1 r.2.2.1 r.2.2.2.1 r.2.2.2.2 := zr_V (zD_of zk_186 d_186_37 rfl rfl) rfl zk_163 rfl rfl rfl hS h
theorem q_186_40r : zRun 186 40 [some (.ref o), l1, l2, l3, l4, l5, l6] S sh mi mj mr = zRun 186 41 [some (.ref o), l1, l2, l3, l4, l5, l6] (.ref o :: S) sh mi mj mr := zr_l (zD_of zk_186 d_186_40 rfl rfl) rfl rfl rfl
theorem q_186_40n : zRun 186 40 [some (.null), l1, l2, l3, l4, l5, l6] S sh mi mj mr = zRun 186 41 [some (.null), l1, l2, l3, l4, l5, l6] (.null :: S) sh mi mj mr := zr_l (zD_of zk_186 d_186_40 rfl rfl) rfl rfl rfl
theorem q_186_41  : zRun 186 41 L S sh mi mj mr = zRun 186 42 L (.int 0 :: S) sh mi mj mr := zr_p (zD_of zk_186 d_186_41 rfl rfl) rfl
theorem q_186_42  {x0 : Int32} (hS : zcat S ≤ 8) (h : zIs sh o 0 8) : zRun 186 42 L (.int x0 :: .ref o :: S) sh mi mj mr = (zCall 180 [.ref o, .int x0] sh mi mj mr).bind fun r => zRun 186 45 L (r.1.toList ++ S) r.2.1 r.2.2.1 r.2.2.2.1 r.2.2.2.2 := zr_V (zD_of zk_186 d_186_42 rfl rfl) rfl zk_180 rfl rfl rfl hS h
theorem q_186_45r : zRun 186 45 [some (.ref o), l1, l2, l3, l4, l5, l6] S sh mi mj mr = zRun 186 46 [some (.ref o), l1, l2, l3, l4, l5, l6] (.ref o :: S) sh mi mj mr := zr_l (zD_of zk_186 d_186_45 rfl rfl) rfl rfl rfl
theorem q_186_45n : zRun 186 45 [some (.null), l1, l2, l3, l4, l5, l6] S sh mi mj mr = zRun 186 46 [some (.null), l1, l2, l3, l4, l5, l6] (.null :: S) sh mi mj mr := zr_l (zD_of zk_186 d_186_45 rfl rfl) rfl rfl rfl
theorem q_186_46  : zRun 186 46 L S sh mi mj mr = zRun 186 47 L (.int 1 :: S) sh mi mj mr := zr_p (zD_of zk_186 d_186_46 rfl rfl) rfl
theorem q_186_47 (h : zIs sh o 0 8) : zRun 186 47 L (.int x :: .ref o :: S) sh mi mj mr = zRun 186 50 L S sh (zup mi o 22 x) mj mr := zr_putI (zD_of zk_186 d_186_47 rfl rfl) rfl rfl rfl (Or.inl rfl) h
theorem q_186_50  : zRun 186 50 L S sh mi mj mr = zRun 186 51 L (.int 0 :: S) sh mi mj mr := zr_p (zD_of zk_186 d_186_50 rfl rfl) rfl
theorem q_186_51 : zRun 186 51 [l0, l1, l2, l3, l4, l5, l6] (.int x :: S) sh mi mj mr = zRun 186 53 [l0, l1, l2, zk2 l3, some (.int x), l5, l6] S sh mi mj mr := zr_s1 (i := 4) (v := .int x) (L := [l0, l1, l2, l3, l4, l5, l6]) (zD_of zk_186 d_186_51 rfl rfl) rfl rfl rfl rfl
theorem q_186_53r : zRun 186 53 [some (.ref o), l1, l2, l3, l4, l5, l6] S sh mi mj mr = zRun 186 54 [some (.ref o), l1, l2, l3, l4, l5, l6] (.ref o :: S) sh mi mj mr := zr_l (zD_of zk_186 d_186_53 rfl rfl) rfl rfl rfl
theorem q_186_53n : zRun 186 53 [some (.null), l1, l2, l3, l4, l5, l6] S sh mi mj mr = zRun 186 54 [some (.null), l1, l2, l3, l4, l5, l6] (.null :: S) sh mi mj mr := zr_l (zD_of zk_186 d_186_53 rfl rfl) rfl rfl rfl
theorem q_186_54 (h : zIs sh o 0 8) : zRun 186 54 L (.ref o :: S) sh mi mj mr = zRun 186 57 L (.int (mi o 22) :: S) sh mi mj mr := zr_getI (zD_of zk_186 d_186_54 rfl rfl) rfl rfl (Or.inl rfl) h
theorem q_186_57  : zRun 186 57 L (.int x :: S) sh mi mj mr = if x ≤ 0 then zRun 186 186 L S sh mi mj mr else zRun 186 60 L S sh mi mj mr := zr_if (off := 129) (P := x ≤ 0) (zD_of zk_186 d_186_57 rfl rfl) rfl rfl (by decide)
theorem q_186_60r : zRun 186 60 [some (.ref o), l1, l2, l3, l4, l5, l6] S sh mi mj mr = zRun 186 61 [some (.ref o), l1, l2, l3, l4, l5, l6] (.ref o :: S) sh mi mj mr := zr_l (zD_of zk_186 d_186_60 rfl rfl) rfl rfl rfl
theorem q_186_60n : zRun 186 60 [some (.null), l1, l2, l3, l4, l5, l6] S sh mi mj mr = zRun 186 61 [some (.null), l1, l2, l3, l4, l5, l6] (.null :: S) sh mi mj mr := zr_l (zD_of zk_186 d_186_60 rfl rfl) rfl rfl rfl
theorem q_186_61r : zRun 186 61 L (.ref o :: S) sh mi mj mr = zRun 186 62 L (.ref o :: .ref o :: S) sh mi mj mr := zr_p (zD_of zk_186 d_186_61 rfl rfl) rfl
theorem q_186_61i : zRun 186 61 L (.int x :: S) sh mi mj mr = zRun 186 62 L (.int x :: .int x :: S) sh mi mj mr := zr_p (zD_of zk_186 d_186_61 rfl rfl) rfl
theorem q_186_62 (h : zIs sh o 0 8) : zRun 186 62 L (.ref o :: S) sh mi mj mr = zRun 186 65 L (.int (mi o 22) :: S) sh mi mj mr := zr_getI (zD_of zk_186 d_186_62 rfl rfl) rfl rfl (Or.inl rfl) h
theorem q_186_65  : zRun 186 65 L S sh mi mj mr = zRun 186 66 L (.int 1 :: S) sh mi mj mr := zr_p (zD_of zk_186 d_186_65 rfl rfl) rfl
theorem q_186_66  : zRun 186 66 L (.int y :: .int x :: S) sh mi mj mr = zRun 186 67 L (.int (x - y) :: S) sh mi mj mr := zr_p (zD_of zk_186 d_186_66 rfl rfl) rfl
theorem q_186_67 (h : zIs sh o 0 8) : zRun 186 67 L (.int x :: .ref o :: S) sh mi mj mr = zRun 186 70 L S sh (zup mi o 22 x) mj mr := zr_putI (zD_of zk_186 d_186_67 rfl rfl) rfl rfl rfl (Or.inl rfl) h
theorem q_186_70r : zRun 186 70 [some (.ref o), l1, l2, l3, l4, l5, l6] S sh mi mj mr = zRun 186 71 [some (.ref o), l1, l2, l3, l4, l5, l6] (.ref o :: S) sh mi mj mr := zr_l (zD_of zk_186 d_186_70 rfl rfl) rfl rfl rfl
theorem q_186_70n : zRun 186 70 [some (.null), l1, l2, l3, l4, l5, l6] S sh mi mj mr = zRun 186 71 [some (.null), l1, l2, l3, l4, l5, l6] (.null :: S) sh mi mj mr := zr_l (zD_of zk_186 d_186_70 rfl rfl) rfl rfl rfl
theorem q_186_71 (h : zIs sh o 0 8) : zRun 186 71 L (.ref o :: S) sh mi mj mr = zRun 186 74 L (.int (mi o 22) :: S) sh mi mj mr := zr_getI (zD_of zk_186 d_186_71 rfl rfl) rfl rfl (Or.inl rfl) h
theorem q_186_74 : zRun 186 74 [l0, l1, l2, l3, l4, l5, l6] (.int x :: S) sh mi mj mr = zRun 186 76 [l0, l1, l2, l3, zk2 l4, some (.int x), l6] S sh mi mj mr := zr_s1 (i := 5) (v := .int x) (L := [l0, l1, l2, l3, l4, l5, l6]) (zD_of zk_186 d_186_74 rfl rfl) rfl rfl rfl rfl
theorem q_186_76r : zRun 186 76 [some (.ref o), l1, l2, l3, l4, l5, l6] S sh mi mj mr = zRun 186 77 [some (.ref o), l1, l2, l3, l4, l5, l6] (.ref o :: S) sh mi mj mr := zr_l (zD_of zk_186 d_186_76 rfl rfl) rfl rfl rfl
theorem q_186_76n : zRun 186 76 [some (.null), l1, l2, l3, l4, l5, l6] S sh mi mj mr = zRun 186 77 [some (.null), l1, l2, l3, l4, l5, l6] (.null :: S) sh mi mj mr := zr_l (zD_of zk_186 d_186_76 rfl rfl) rfl rfl rfl
theorem q_186_77 : zRun 186 77 [l0, l1, l2, l3, l4, some (.int x), l6] S sh mi mj mr = zRun 186 79 [l0, l1, l2, l3, l4, some (.int x), l6] (.int x :: S) sh mi mj mr := zr_l (zD_of zk_186 d_186_77 rfl rfl) rfl rfl rfl
theorem q_186_79  {x0 : Int32} (hS : zcat S ≤ 8) (h : zIs sh o 0 8) : zRun 186 79 L (.int x0 :: .ref o :: S) sh mi mj mr = (zCall 181 [.ref o, .int x0] sh mi mj mr).bind fun r => zRun 186 82 L (r.1.toList ++ S) r.2.1 r.2.2.1 r.2.2.2.1 r.2.2.2.2 := zr_V (zD_of zk_186 d_186_79 rfl rfl) rfl zk_181 rfl rfl rfl hS h
theorem q_186_82r : zRun 186 82 [some (.ref o), l1, l2, l3, l4, l5, l6] S sh mi mj mr = zRun 186 83 [some (.ref o), l1, l2, l3, l4, l5, l6] (.ref o :: S) sh mi mj mr := zr_l (zD_of zk_186 d_186_82 rfl rfl) rfl rfl rfl
theorem q_186_82n : zRun 186 82 [some (.null), l1, l2, l3, l4, l5, l6] S sh mi mj mr = zRun 186 83 [some (.null), l1, l2, l3, l4, l5, l6] (.null :: S) sh mi mj mr := zr_l (zD_of zk_186 d_186_82 rfl rfl) rfl rfl rfl
theorem q_186_83 : zRun 186 83 [l0, some (.int x), l2, l3, l4, l5, l6] S sh mi mj mr = zRun 186 84 [l0, some (.int x), l2, l3, l4, l5, l6] (.int x :: S) sh mi mj mr := zr_l (zD_of zk_186 d_186_83 rfl rfl) rfl rfl rfl
theorem q_186_84  {x0 : Int32} (hS : zcat S ≤ 8) (h : zIs sh o 0 8) : zRun 186 84 L (.int x0 :: .ref o :: S) sh mi mj mr = (zCall 170 [.ref o, .int x0] sh mi mj mr).bind fun r => zRun 186 87 L (r.1.toList ++ S) r.2.1 r.2.2.1 r.2.2.2.1 r.2.2.2.2 := zr_V (zD_of zk_186 d_186_84 rfl rfl) rfl zk_170 rfl rfl rfl hS h
theorem q_186_87  : zRun 186 87 [l0, l1, l2, l3, some (.int x), l5, l6] S sh mi mj mr = zRun 186 90 [l0, l1, l2, zk2 l3, some (.int (x + 1)), l5, l6] S sh mi mj mr := zr_s1 (i := 4) (v := .int (x + 1)) (L := [l0, l1, l2, l3, some (.int x), l5, l6]) (zD_of zk_186 d_186_87 rfl rfl) rfl rfl rfl rfl
theorem q_186_90r : zRun 186 90 [some (.ref o), l1, l2, l3, l4, l5, l6] S sh mi mj mr = zRun 186 91 [some (.ref o), l1, l2, l3, l4, l5, l6] (.ref o :: S) sh mi mj mr := zr_l (zD_of zk_186 d_186_90 rfl rfl) rfl rfl rfl
theorem q_186_90n : zRun 186 90 [some (.null), l1, l2, l3, l4, l5, l6] S sh mi mj mr = zRun 186 91 [some (.null), l1, l2, l3, l4, l5, l6] (.null :: S) sh mi mj mr := zr_l (zD_of zk_186 d_186_90 rfl rfl) rfl rfl rfl
theorem q_186_91 : zRun 186 91 [l0, l1, l2, l3, some (.int x), l5, l6] S sh mi mj mr = zRun 186 93 [l0, l1, l2, l3, some (.int x), l5, l6] (.int x :: S) sh mi mj mr := zr_l (zD_of zk_186 d_186_91 rfl rfl) rfl rfl rfl
theorem q_186_93 : zRun 186 93 [l0, l1, l2, l3, l4, some (.int x), l6] S sh mi mj mr = zRun 186 95 [l0, l1, l2, l3, l4, some (.int x), l6] (.int x :: S) sh mi mj mr := zr_l (zD_of zk_186 d_186_93 rfl rfl) rfl rfl rfl
theorem q_186_95  {x0 x1 : Int32} (hS : zcat S ≤ 8) (h : zIs sh o 0 8) : zRun 186 95 L (.int x1 :: .int x0 :: .ref o :: S) sh mi mj mr = (zCall 184 [.ref o, .int x0, .int x1] sh mi mj mr).bind fun r => zRun 186 98 L (r.1.toList ++ S) r.2.1 r.2.2.1 r.2.2.2.1 r.2.2.2.2 := zr_V (zD_of zk_186 d_186_95 rfl rfl) rfl zk_184 rfl rfl rfl hS h
theorem q_186_98r : zRun 186 98 [some (.ref o), l1, l2, l3, l4, l5, l6] S sh mi mj mr = zRun 186 99 [some (.ref o), l1, l2, l3, l4, l5, l6] (.ref o :: S) sh mi mj mr := zr_l (zD_of zk_186 d_186_98 rfl rfl) rfl rfl rfl
theorem q_186_98n : zRun 186 98 [some (.null), l1, l2, l3, l4, l5, l6] S sh mi mj mr = zRun 186 99 [some (.null), l1, l2, l3, l4, l5, l6] (.null :: S) sh mi mj mr := zr_l (zD_of zk_186 d_186_98 rfl rfl) rfl rfl rfl
theorem q_186_99  : zRun 186 99 L S sh mi mj mr = zRun 186 100 L (.int 0 :: S) sh mi mj mr := zr_p (zD_of zk_186 d_186_99 rfl rfl) rfl
theorem q_186_100  {x0 : Int32} (hS : zcat S ≤ 8) (h : zIs sh o 0 8) : zRun 186 100 L (.int x0 :: .ref o :: S) sh mi mj mr = (zCall 141 [.ref o, .int x0] sh mi mj mr).bind fun r => zRun 186 103 L (r.1.toList ++ S) r.2.1 r.2.2.1 r.2.2.2.1 r.2.2.2.2 := zr_V (zD_of zk_186 d_186_100 rfl rfl) rfl zk_141 rfl rfl rfl hS h
theorem q_186_103  : zRun 186 103 L (.int x :: S) sh mi mj mr = if ¬ x = 0 then zRun 186 117 L S sh mi mj mr else zRun 186 106 L S sh mi mj mr := zr_if (off := 14) (P := ¬ x = 0) (zD_of zk_186 d_186_103 rfl rfl) rfl rfl (by decide)
theorem q_186_106r : zRun 186 106 [some (.ref o), l1, l2, l3, l4, l5, l6] S sh mi mj mr = zRun 186 107 [some (.ref o), l1, l2, l3, l4, l5, l6] (.ref o :: S) sh mi mj mr := zr_l (zD_of zk_186 d_186_106 rfl rfl) rfl rfl rfl
theorem q_186_106n : zRun 186 106 [some (.null), l1, l2, l3, l4, l5, l6] S sh mi mj mr = zRun 186 107 [some (.null), l1, l2, l3, l4, l5, l6] (.null :: S) sh mi mj mr := zr_l (zD_of zk_186 d_186_106 rfl rfl) rfl rfl rfl
theorem q_186_107  : zRun 186 107 L S sh mi mj mr = zRun 186 108 L (.int 0 :: S) sh mi mj mr := zr_p (zD_of zk_186 d_186_107 rfl rfl) rfl
theorem q_186_108  {x0 : Int32} (hS : zcat S ≤ 8) (h : zIs sh o 0 8) : zRun 186 108 L (.int x0 :: .ref o :: S) sh mi mj mr = (zCall 139 [.ref o, .int x0] sh mi mj mr).bind fun r => zRun 186 111 L (r.1.toList ++ S) r.2.1 r.2.2.1 r.2.2.2.1 r.2.2.2.2 := zr_V (zD_of zk_186 d_186_108 rfl rfl) rfl zk_139 rfl rfl rfl hS h
theorem q_186_111 : zRun 186 111 [l0, l1, some (.int x), l3, l4, l5, l6] S sh mi mj mr = zRun 186 112 [l0, l1, some (.int x), l3, l4, l5, l6] (.int x :: S) sh mi mj mr := zr_l (zD_of zk_186 d_186_111 rfl rfl) rfl rfl rfl
theorem q_186_112  : zRun 186 112 L (.int x :: S) sh mi mj mr = zRun 186 113 L (.long x.toInt64 :: S) sh mi mj mr := zr_p (zD_of zk_186 d_186_112 rfl rfl) rfl
theorem q_186_113  : zRun 186 113 L (.long v :: .long u :: S) sh mi mj mr = if v < u then zRun 186 183 L S sh mi mj mr else zRun 186 117 L S sh mi mj mr := zr_cmp (off := 69) (zD_of zk_186 d_186_113 rfl rfl) (zD_of zk_186 d_186_114 rfl rfl) rfl rfl (by decide) (lg_cmp_gt u v)
theorem q_186_114  : zRun 186 114 L (.int x :: S) sh mi mj mr = if 0 < x then zRun 186 183 L S sh mi mj mr else zRun 186 117 L S sh mi mj mr := zr_if (off := 69) (P := 0 < x) (zD_of zk_186 d_186_114 rfl rfl) rfl rfl (by decide)
theorem q_186_117r : zRun 186 117 [some (.ref o), l1, l2, l3, l4, l5, l6] S sh mi mj mr = zRun 186 118 [some (.ref o), l1, l2, l3, l4, l5, l6] (.ref o :: S) sh mi mj mr := zr_l (zD_of zk_186 d_186_117 rfl rfl) rfl rfl rfl
theorem q_186_117n : zRun 186 117 [some (.null), l1, l2, l3, l4, l5, l6] S sh mi mj mr = zRun 186 118 [some (.null), l1, l2, l3, l4, l5, l6] (.null :: S) sh mi mj mr := zr_l (zD_of zk_186 d_186_117 rfl rfl) rfl rfl rfl
theorem q_186_118  (hS : zcat S ≤ 8) (h : zIs sh o 0 8) : zRun 186 118 L (.ref o :: S) sh mi mj mr = (zCall 182 [.ref o] sh mi mj mr).bind fun r => zRun 186 121 L (r.1.toList ++ S) r.2.1 r.2.2.1 r.2.2.2.1 r.2.2.2.2 := zr_V (zD_of zk_186 d_186_118 rfl rfl) rfl zk_182 rfl rfl rfl hS h
theorem q_186_121 : zRun 186 121 [l0, l1, l2, l3, l4, l5, l6] (.int x :: S) sh mi mj mr = zRun 186 123 [l0, l1, l2, l3, l4, zk2 l5, some (.int x)] S sh mi mj mr := zr_s1 (i := 6) (v := .int x) (L := [l0, l1, l2, l3, l4, l5, l6]) (zD_of zk_186 d_186_121 rfl rfl) rfl rfl rfl rfl
theorem q_186_123r : zRun 186 123 [some (.ref o), l1, l2, l3, l4, l5, l6] S sh mi mj mr = zRun 186 124 [some (.ref o), l1, l2, l3, l4, l5, l6] (.ref o :: S) sh mi mj mr := zr_l (zD_of zk_186 d_186_123 rfl rfl) rfl rfl rfl
theorem q_186_123n : zRun 186 123 [some (.null), l1, l2, l3, l4, l5, l6] S sh mi mj mr = zRun 186 124 [some (.null), l1, l2, l3, l4, l5, l6] (.null :: S) sh mi mj mr := zr_l (zD_of zk_186 d_186_123 rfl rfl) rfl rfl rfl
theorem q_186_124 : zRun 186 124 [l0, some (.int x), l2, l3, l4, l5, l6] S sh mi mj mr = zRun 186 125 [l0, some (.int x), l2, l3, l4, l5, l6] (.int x :: S) sh mi mj mr := zr_l (zD_of zk_186 d_186_124 rfl rfl) rfl rfl rfl
theorem q_186_125 : zRun 186 125 [l0, l1, some (.int x), l3, l4, l5, l6] S sh mi mj mr = zRun 186 126 [l0, l1, some (.int x), l3, l4, l5, l6] (.int x :: S) sh mi mj mr := zr_l (zD_of zk_186 d_186_125 rfl rfl) rfl rfl rfl
theorem q_186_126  {x0 x1 : Int32} (hS : zcat S ≤ 8) (h : zIs sh o 0 8) : zRun 186 126 L (.int x1 :: .int x0 :: .ref o :: S) sh mi mj mr = (zCall 185 [.ref o, .int x0, .int x1] sh mi mj mr).bind fun r => zRun 186 129 L (r.1.toList ++ S) r.2.1 r.2.2.1 r.2.2.2.1 r.2.2.2.2 := zr_V (zD_of zk_186 d_186_126 rfl rfl) rfl zk_185 rfl rfl rfl hS h
theorem q_186_129  : zRun 186 129 L (.int x :: S) sh mi mj mr = if x = 0 then zRun 186 134 L S sh mi mj mr else zRun 186 132 L S sh mi mj mr := zr_if (off := 5) (P := x = 0) (zD_of zk_186 d_186_129 rfl rfl) rfl rfl (by decide)
theorem q_186_132  : zRun 186 132 L S sh mi mj mr = zRun 186 133 L (.int 2 :: S) sh mi mj mr := zr_p (zD_of zk_186 d_186_132 rfl rfl) rfl
theorem q_186_133  : zRun 186 133 L ([.int x]) sh mi mj mr = some (some (.int x), sh, mi, mj, mr) := zr_ret (zD_of zk_186 d_186_133 rfl rfl) rfl rfl rfl rfl rfl (if_pos rfl)
theorem q_186_134 : zRun 186 134 [l0, l1, l2, l3, some (.int x), l5, l6] S sh mi mj mr = zRun 186 136 [l0, l1, l2, l3, some (.int x), l5, l6] (.int x :: S) sh mi mj mr := zr_l (zD_of zk_186 d_186_134 rfl rfl) rfl rfl rfl
theorem q_186_136 : zRun 186 136 [l0, l1, l2, some (.int x), l4, l5, l6] S sh mi mj mr = zRun 186 137 [l0, l1, l2, some (.int x), l4, l5, l6] (.int x :: S) sh mi mj mr := zr_l (zD_of zk_186 d_186_136 rfl rfl) rfl rfl rfl
theorem q_186_137  : zRun 186 137 L (.int y :: .int x :: S) sh mi mj mr = if y ≤ x then zRun 186 145 L S sh mi mj mr else zRun 186 140 L S sh mi mj mr := zr_if (off := 8) (P := y ≤ x) (zD_of zk_186 d_186_137 rfl rfl) rfl rfl (by decide)
theorem q_186_140 : zRun 186 140 [l0, l1, l2, l3, l4, l5, some (.int x)] S sh mi mj mr = zRun 186 142 [l0, l1, l2, l3, l4, l5, some (.int x)] (.int x :: S) sh mi mj mr := zr_l (zD_of zk_186 d_186_140 rfl rfl) rfl rfl rfl
theorem q_186_142  : zRun 186 142 L (.int x :: S) sh mi mj mr = if 0 ≤ x then zRun 186 147 L S sh mi mj mr else zRun 186 145 L S sh mi mj mr := zr_if (off := 5) (P := 0 ≤ x) (zD_of zk_186 d_186_142 rfl rfl) rfl rfl (by decide)
theorem q_186_145  : zRun 186 145 L S sh mi mj mr = zRun 186 146 L (.int 3 :: S) sh mi mj mr := zr_p (zD_of zk_186 d_186_145 rfl rfl) rfl
theorem q_186_146  : zRun 186 146 L ([.int x]) sh mi mj mr = some (some (.int x), sh, mi, mj, mr) := zr_ret (zD_of zk_186 d_186_146 rfl rfl) rfl rfl rfl rfl rfl (if_pos rfl)
theorem q_186_147r : zRun 186 147 [some (.ref o), l1, l2, l3, l4, l5, l6] S sh mi mj mr = zRun 186 148 [some (.ref o), l1, l2, l3, l4, l5, l6] (.ref o :: S) sh mi mj mr := zr_l (zD_of zk_186 d_186_147 rfl rfl) rfl rfl rfl
theorem q_186_147n : zRun 186 147 [some (.null), l1, l2, l3, l4, l5, l6] S sh mi mj mr = zRun 186 148 [some (.null), l1, l2, l3, l4, l5, l6] (.null :: S) sh mi mj mr := zr_l (zD_of zk_186 d_186_147 rfl rfl) rfl rfl rfl
theorem q_186_148 : zRun 186 148 [l0, l1, l2, l3, l4, some (.int x), l6] S sh mi mj mr = zRun 186 150 [l0, l1, l2, l3, l4, some (.int x), l6] (.int x :: S) sh mi mj mr := zr_l (zD_of zk_186 d_186_148 rfl rfl) rfl rfl rfl
theorem q_186_150  {x0 : Int32} (hS : zcat S ≤ 8) (h : zIs sh o 0 8) : zRun 186 150 L (.int x0 :: .ref o :: S) sh mi mj mr = (zCall 181 [.ref o, .int x0] sh mi mj mr).bind fun r => zRun 186 153 L (r.1.toList ++ S) r.2.1 r.2.2.1 r.2.2.2.1 r.2.2.2.2 := zr_V (zD_of zk_186 d_186_150 rfl rfl) rfl zk_181 rfl rfl rfl hS h
theorem q_186_153r : zRun 186 153 [some (.ref o), l1, l2, l3, l4, l5, l6] S sh mi mj mr = zRun 186 154 [some (.ref o), l1, l2, l3, l4, l5, l6] (.ref o :: S) sh mi mj mr := zr_l (zD_of zk_186 d_186_153 rfl rfl) rfl rfl rfl
theorem q_186_153n : zRun 186 153 [some (.null), l1, l2, l3, l4, l5, l6] S sh mi mj mr = zRun 186 154 [some (.null), l1, l2, l3, l4, l5, l6] (.null :: S) sh mi mj mr := zr_l (zD_of zk_186 d_186_153 rfl rfl) rfl rfl rfl
theorem q_186_154 : zRun 186 154 [l0, l1, l2, l3, l4, l5, some (.int x)] S sh mi mj mr = zRun 186 156 [l0, l1, l2, l3, l4, l5, some (.int x)] (.int x :: S) sh mi mj mr := zr_l (zD_of zk_186 d_186_154 rfl rfl) rfl rfl rfl
theorem q_186_156  : zRun 186 156 L S sh mi mj mr = zRun 186 157 L (.int 0 :: S) sh mi mj mr := zr_p (zD_of zk_186 d_186_156 rfl rfl) rfl
theorem q_186_157  {x0 x1 : Int32} (hS : zcat S ≤ 8) (h : zIs sh o 0 8) : zRun 186 157 L (.int x1 :: .int x0 :: .ref o :: S) sh mi mj mr = (zCall 183 [.ref o, .int x0, .int x1] sh mi mj mr).bind fun r => zRun 186 160 L (r.1.toList ++ S) r.2.1 r.2.2.1 r.2.2.2.1 r.2.2.2.2 := zr_V (zD_of zk_186 d_186_157 rfl rfl) rfl zk_183 rfl rfl rfl hS h
theorem q_186_160r : zRun 186 160 [some (.ref o), l1, l2, l3, l4, l5, l6] S sh mi mj mr = zRun 186 161 [some (.ref o), l1, l2, l3, l4, l5, l6] (.ref o :: S) sh mi mj mr := zr_l (zD_of zk_186 d_186_160 rfl rfl) rfl rfl rfl
theorem q_186_160n : zRun 186 160 [some (.null), l1, l2, l3, l4, l5, l6] S sh mi mj mr = zRun 186 161 [some (.null), l1, l2, l3, l4, l5, l6] (.null :: S) sh mi mj mr := zr_l (zD_of zk_186 d_186_160 rfl rfl) rfl rfl rfl
theorem q_186_161  (hS : zcat S ≤ 8) (h : zIs sh o 0 8) : zRun 186 161 L (.ref o :: S) sh mi mj mr = (zCall 187 [.ref o] sh mi mj mr).bind fun r => zRun 186 164 L (r.1.toList ++ S) r.2.1 r.2.2.1 r.2.2.2.1 r.2.2.2.2 := zr_V (zD_of zk_186 d_186_161 rfl rfl) rfl zk_187 rfl rfl rfl hS h
theorem q_186_164r : zRun 186 164 [some (.ref o), l1, l2, l3, l4, l5, l6] S sh mi mj mr = zRun 186 165 [some (.ref o), l1, l2, l3, l4, l5, l6] (.ref o :: S) sh mi mj mr := zr_l (zD_of zk_186 d_186_164 rfl rfl) rfl rfl rfl
theorem q_186_164n : zRun 186 164 [some (.null), l1, l2, l3, l4, l5, l6] S sh mi mj mr = zRun 186 165 [some (.null), l1, l2, l3, l4, l5, l6] (.null :: S) sh mi mj mr := zr_l (zD_of zk_186 d_186_164 rfl rfl) rfl rfl rfl
theorem q_186_165 : zRun 186 165 [l0, l1, l2, l3, l4, some (.int x), l6] S sh mi mj mr = zRun 186 167 [l0, l1, l2, l3, l4, some (.int x), l6] (.int x :: S) sh mi mj mr := zr_l (zD_of zk_186 d_186_165 rfl rfl) rfl rfl rfl
theorem q_186_167  {x0 : Int32} (hS : zcat S ≤ 8) (h : zIs sh o 0 8) : zRun 186 167 L (.int x0 :: .ref o :: S) sh mi mj mr = (zCall 181 [.ref o, .int x0] sh mi mj mr).bind fun r => zRun 186 170 L (r.1.toList ++ S) r.2.1 r.2.2.1 r.2.2.2.1 r.2.2.2.2 := zr_V (zD_of zk_186 d_186_167 rfl rfl) rfl zk_181 rfl rfl rfl hS h
theorem q_186_170r : zRun 186 170 [some (.ref o), l1, l2, l3, l4, l5, l6] S sh mi mj mr = zRun 186 171 [some (.ref o), l1, l2, l3, l4, l5, l6] (.ref o :: S) sh mi mj mr := zr_l (zD_of zk_186 d_186_170 rfl rfl) rfl rfl rfl
theorem q_186_170n : zRun 186 170 [some (.null), l1, l2, l3, l4, l5, l6] S sh mi mj mr = zRun 186 171 [some (.null), l1, l2, l3, l4, l5, l6] (.null :: S) sh mi mj mr := zr_l (zD_of zk_186 d_186_170 rfl rfl) rfl rfl rfl
theorem q_186_171 : zRun 186 171 [l0, l1, l2, l3, l4, l5, some (.int x)] S sh mi mj mr = zRun 186 173 [l0, l1, l2, l3, l4, l5, some (.int x)] (.int x :: S) sh mi mj mr := zr_l (zD_of zk_186 d_186_171 rfl rfl) rfl rfl rfl
theorem q_186_173  : zRun 186 173 L S sh mi mj mr = zRun 186 174 L (.int 1 :: S) sh mi mj mr := zr_p (zD_of zk_186 d_186_173 rfl rfl) rfl
theorem q_186_174  {x0 x1 : Int32} (hS : zcat S ≤ 8) (h : zIs sh o 0 8) : zRun 186 174 L (.int x1 :: .int x0 :: .ref o :: S) sh mi mj mr = (zCall 183 [.ref o, .int x0, .int x1] sh mi mj mr).bind fun r => zRun 186 177 L (r.1.toList ++ S) r.2.1 r.2.2.1 r.2.2.2.1 r.2.2.2.2 := zr_V (zD_of zk_186 d_186_174 rfl rfl) rfl zk_183 rfl rfl rfl hS h
theorem q_186_177r : zRun 186 177 [some (.ref o), l1, l2, l3, l4, l5, l6] S sh mi mj mr = zRun 186 178 [some (.ref o), l1, l2, l3, l4, l5, l6] (.ref o :: S) sh mi mj mr := zr_l (zD_of zk_186 d_186_177 rfl rfl) rfl rfl rfl
theorem q_186_177n : zRun 186 177 [some (.null), l1, l2, l3, l4, l5, l6] S sh mi mj mr = zRun 186 178 [some (.null), l1, l2, l3, l4, l5, l6] (.null :: S) sh mi mj mr := zr_l (zD_of zk_186 d_186_177 rfl rfl) rfl rfl rfl
theorem q_186_178 : zRun 186 178 [l0, l1, l2, l3, l4, some (.int x), l6] S sh mi mj mr = zRun 186 180 [l0, l1, l2, l3, l4, some (.int x), l6] (.int x :: S) sh mi mj mr := zr_l (zD_of zk_186 d_186_178 rfl rfl) rfl rfl rfl
theorem q_186_180  {x0 : Int32} (hS : zcat S ≤ 8) (h : zIs sh o 0 8) : zRun 186 180 L (.int x0 :: .ref o :: S) sh mi mj mr = (zCall 188 [.ref o, .int x0] sh mi mj mr).bind fun r => zRun 186 183 L (r.1.toList ++ S) r.2.1 r.2.2.1 r.2.2.2.1 r.2.2.2.2 := zr_V (zD_of zk_186 d_186_180 rfl rfl) rfl zk_188 rfl rfl rfl hS h
theorem q_186_183  : zRun 186 183 L S sh mi mj mr = zRun 186 53 L S sh mi mj mr := zr_go (off := (-130)) (zD_of zk_186 d_186_183 rfl rfl) rfl rfl (by decide)
theorem q_186_186  : zRun 186 186 L S sh mi mj mr = zRun 186 187 L (.int 1 :: S) sh mi mj mr := zr_p (zD_of zk_186 d_186_186 rfl rfl) rfl
theorem q_186_187  : zRun 186 187 L ([.int x]) sh mi mj mr = some (some (.int x), sh, mi, mj, mr) := zr_ret (zD_of zk_186 d_186_187 rfl rfl) rfl rfl rfl rfl rfl (if_pos rfl)
theorem e_186 {x0 x1 x2 : Int32} : zCall 186 [.ref o, .int x0, .int x1, .int x2] sh mi mj mr = zRun 186 0 [some (.ref o), some (.int x0), some (.int x1), some (.int x2), none, none, none] [] sh mi mj mr := rfl
theorem d_187_0 : decode cX8_takeBoxAside 0 = .ok (.iconst 0, 1) := by decide +kernel
theorem d_187_1 : decode cX8_takeBoxAside 1 = .ok (.istore_n 1, 1) := by decide +kernel
theorem d_187_2 : decode cX8_takeBoxAside 2 = .ok (.iload_n 1, 1) := by decide +kernel
theorem d_187_3 : decode cX8_takeBoxAside 3 = .ok (.iconst 4, 1) := by decide +kernel
theorem d_187_4 : decode cX8_takeBoxAside 4 = .ok (.if_icmp .ge 35, 3) := by decide +kernel
theorem d_187_7 : decode cX8_takeBoxAside 7 = .ok (.aload_n 0, 1) := by decide +kernel
theorem d_187_8 : decode cX8_takeBoxAside 8 = .ok (.getfield 60, 3) := by decide +kernel
theorem d_187_11 : decode cX8_takeBoxAside 11 = .ok (.iload_n 1, 1) := by decide +kernel
theorem d_187_12 : decode cX8_takeBoxAside 12 = .ok (.aload_n 0, 1) := by decide +kernel
theorem d_187_13 : decode cX8_takeBoxAside 13 = .ok (.getfield 39, 3) := by decide +kernel
theorem d_187_16 : decode cX8_takeBoxAside 16 = .ok (.iload_n 1, 1) := by decide +kernel
theorem d_187_17 : decode cX8_takeBoxAside 17 = .ok (.iaload, 1) := by decide +kernel
theorem d_187_18 : decode cX8_takeBoxAside 18 = .ok (.iastore, 1) := by decide +kernel
theorem d_187_19 : decode cX8_takeBoxAside 19 = .ok (.aload_n 0, 1) := by decide +kernel
theorem d_187_20 : decode cX8_takeBoxAside 20 = .ok (.getfield 60, 3) := by decide +kernel
theorem d_187_23 : decode cX8_takeBoxAside 23 = .ok (.iconst 4, 1) := by decide +kernel
theorem d_187_24 : decode cX8_takeBoxAside 24 = .ok (.iload_n 1, 1) := by decide +kernel
theorem d_187_25 : decode cX8_takeBoxAside 25 = .ok (.iadd, 1) := by decide +kernel
theorem d_187_26 : decode cX8_takeBoxAside 26 = .ok (.aload_n 0, 1) := by decide +kernel
theorem d_187_27 : decode cX8_takeBoxAside 27 = .ok (.getfield 42, 3) := by decide +kernel
theorem d_187_30 : decode cX8_takeBoxAside 30 = .ok (.iload_n 1, 1) := by decide +kernel
theorem d_187_31 : decode cX8_takeBoxAside 31 = .ok (.iaload, 1) := by decide +kernel
theorem d_187_32 : decode cX8_takeBoxAside 32 = .ok (.iastore, 1) := by decide +kernel
theorem d_187_33 : decode cX8_takeBoxAside 33 = .ok (.iinc 1 1, 3) := by decide +kernel
theorem d_187_36 : decode cX8_takeBoxAside 36 = .ok (.goto (-34), 3) := by decide +kernel
theorem d_187_39 : decode cX8_takeBoxAside 39 = .ok (.return_, 1) := by decide +kernel
theorem q_187_0  : zRun 187 0 L S sh mi mj mr = zRun 187 1 L (.int 0 :: S) sh mi mj mr := zr_p (zD_of zk_187 d_187_0 rfl rfl) rfl
theorem q_187_1 : zRun 187 1 [l0, l1] (.int x :: S) sh mi mj mr = zRun 187 2 [zk2 l0, some (.int x)] S sh mi mj mr := zr_s1 (i := 1) (v := .int x) (L := [l0, l1]) (zD_of zk_187 d_187_1 rfl rfl) rfl rfl rfl rfl
theorem q_187_2 : zRun 187 2 [l0, some (.int x)] S sh mi mj mr = zRun 187 3 [l0, some (.int x)] (.int x :: S) sh mi mj mr := zr_l (zD_of zk_187 d_187_2 rfl rfl) rfl rfl rfl
theorem q_187_3  : zRun 187 3 L S sh mi mj mr = zRun 187 4 L (.int 4 :: S) sh mi mj mr := zr_p (zD_of zk_187 d_187_3 rfl rfl) rfl
theorem q_187_4  : zRun 187 4 L (.int y :: .int x :: S) sh mi mj mr = if y ≤ x then zRun 187 39 L S sh mi mj mr else zRun 187 7 L S sh mi mj mr := zr_if (off := 35) (P := y ≤ x) (zD_of zk_187 d_187_4 rfl rfl) rfl rfl (by decide)
theorem q_187_7r : zRun 187 7 [some (.ref o), l1] S sh mi mj mr = zRun 187 8 [some (.ref o), l1] (.ref o :: S) sh mi mj mr := zr_l (zD_of zk_187 d_187_7 rfl rfl) rfl rfl rfl
theorem q_187_7n : zRun 187 7 [some (.null), l1] S sh mi mj mr = zRun 187 8 [some (.null), l1] (.null :: S) sh mi mj mr := zr_l (zD_of zk_187 d_187_7 rfl rfl) rfl rfl rfl
theorem q_187_8 (h : zIs sh o 0 8) : zRun 187 8 L (.ref o :: S) sh mi mj mr = zRun 187 11 L (va_rf (mr o 26) :: S) sh mi mj mr := zr_getR (zD_of zk_187 d_187_8 rfl rfl) rfl rfl rfl h
theorem q_187_11 : zRun 187 11 [l0, some (.int x)] S sh mi mj mr = zRun 187 12 [l0, some (.int x)] (.int x :: S) sh mi mj mr := zr_l (zD_of zk_187 d_187_11 rfl rfl) rfl rfl rfl
theorem q_187_12r : zRun 187 12 [some (.ref o), l1] S sh mi mj mr = zRun 187 13 [some (.ref o), l1] (.ref o :: S) sh mi mj mr := zr_l (zD_of zk_187 d_187_12 rfl rfl) rfl rfl rfl
theorem q_187_12n : zRun 187 12 [some (.null), l1] S sh mi mj mr = zRun 187 13 [some (.null), l1] (.null :: S) sh mi mj mr := zr_l (zD_of zk_187 d_187_12 rfl rfl) rfl rfl rfl
theorem q_187_13 (h : zIs sh o 0 8) : zRun 187 13 L (.ref o :: S) sh mi mj mr = zRun 187 16 L (va_rf (mr o 16) :: S) sh mi mj mr := zr_getR (zD_of zk_187 d_187_13 rfl rfl) rfl rfl rfl h
theorem q_187_16 : zRun 187 16 [l0, some (.int x)] S sh mi mj mr = zRun 187 17 [l0, some (.int x)] (.int x :: S) sh mi mj mr := zr_l (zD_of zk_187 d_187_16 rfl rfl) rfl rfl rfl
theorem q_187_17 (h : zAt sh o 1 x) : zRun 187 17 L (.int x :: .ref o :: S) sh mi mj mr = zRun 187 18 L (.int (mi o x.toNatClampNeg) :: S) sh mi mj mr := zr_iald (zD_of zk_187 d_187_17 rfl rfl) h
theorem q_187_18 (h : zAt sh o 1 x) : zRun 187 18 L (.int y :: .int x :: .ref o :: S) sh mi mj mr = zRun 187 19 L S sh (zup mi o x.toNatClampNeg y) mj mr := zr_iast (zD_of zk_187 d_187_18 rfl rfl) h
theorem q_187_19r : zRun 187 19 [some (.ref o), l1] S sh mi mj mr = zRun 187 20 [some (.ref o), l1] (.ref o :: S) sh mi mj mr := zr_l (zD_of zk_187 d_187_19 rfl rfl) rfl rfl rfl
theorem q_187_19n : zRun 187 19 [some (.null), l1] S sh mi mj mr = zRun 187 20 [some (.null), l1] (.null :: S) sh mi mj mr := zr_l (zD_of zk_187 d_187_19 rfl rfl) rfl rfl rfl
theorem q_187_20 (h : zIs sh o 0 8) : zRun 187 20 L (.ref o :: S) sh mi mj mr = zRun 187 23 L (va_rf (mr o 26) :: S) sh mi mj mr := zr_getR (zD_of zk_187 d_187_20 rfl rfl) rfl rfl rfl h
theorem q_187_23  : zRun 187 23 L S sh mi mj mr = zRun 187 24 L (.int 4 :: S) sh mi mj mr := zr_p (zD_of zk_187 d_187_23 rfl rfl) rfl
theorem q_187_24 : zRun 187 24 [l0, some (.int x)] S sh mi mj mr = zRun 187 25 [l0, some (.int x)] (.int x :: S) sh mi mj mr := zr_l (zD_of zk_187 d_187_24 rfl rfl) rfl rfl rfl
theorem q_187_25  : zRun 187 25 L (.int y :: .int x :: S) sh mi mj mr = zRun 187 26 L (.int (x + y) :: S) sh mi mj mr := zr_p (zD_of zk_187 d_187_25 rfl rfl) rfl
theorem q_187_26r : zRun 187 26 [some (.ref o), l1] S sh mi mj mr = zRun 187 27 [some (.ref o), l1] (.ref o :: S) sh mi mj mr := zr_l (zD_of zk_187 d_187_26 rfl rfl) rfl rfl rfl
theorem q_187_26n : zRun 187 26 [some (.null), l1] S sh mi mj mr = zRun 187 27 [some (.null), l1] (.null :: S) sh mi mj mr := zr_l (zD_of zk_187 d_187_26 rfl rfl) rfl rfl rfl
theorem q_187_27 (h : zIs sh o 0 8) : zRun 187 27 L (.ref o :: S) sh mi mj mr = zRun 187 30 L (va_rf (mr o 17) :: S) sh mi mj mr := zr_getR (zD_of zk_187 d_187_27 rfl rfl) rfl rfl rfl h
theorem q_187_30 : zRun 187 30 [l0, some (.int x)] S sh mi mj mr = zRun 187 31 [l0, some (.int x)] (.int x :: S) sh mi mj mr := zr_l (zD_of zk_187 d_187_30 rfl rfl) rfl rfl rfl
theorem q_187_31 (h : zAt sh o 1 x) : zRun 187 31 L (.int x :: .ref o :: S) sh mi mj mr = zRun 187 32 L (.int (mi o x.toNatClampNeg) :: S) sh mi mj mr := zr_iald (zD_of zk_187 d_187_31 rfl rfl) h
theorem q_187_32 (h : zAt sh o 1 x) : zRun 187 32 L (.int y :: .int x :: .ref o :: S) sh mi mj mr = zRun 187 33 L S sh (zup mi o x.toNatClampNeg y) mj mr := zr_iast (zD_of zk_187 d_187_32 rfl rfl) h
theorem q_187_33  : zRun 187 33 [l0, some (.int x)] S sh mi mj mr = zRun 187 36 [zk2 l0, some (.int (x + 1))] S sh mi mj mr := zr_s1 (i := 1) (v := .int (x + 1)) (L := [l0, some (.int x)]) (zD_of zk_187 d_187_33 rfl rfl) rfl rfl rfl rfl
theorem q_187_36  : zRun 187 36 L S sh mi mj mr = zRun 187 2 L S sh mi mj mr := zr_go (off := (-34)) (zD_of zk_187 d_187_36 rfl rfl) rfl rfl (by decide)
theorem q_187_39  : zRun 187 39 L [] sh mi mj mr = some (none, sh, mi, mj, mr) := zr_ret (zD_of zk_187 d_187_39 rfl rfl) rfl rfl rfl rfl rfl rfl
theorem e_187 : zCall 187 [.ref o] sh mi mj mr = zRun 187 0 [some (.ref o), none] [] sh mi mj mr := rfl
theorem d_188_0 : decode cX8_putBothBack 0 = .ok (.iconst 0, 1) := by decide +kernel
theorem d_188_1 : decode cX8_putBothBack 1 = .ok (.istore_n 2, 1) := by decide +kernel
theorem d_188_2 : decode cX8_putBothBack 2 = .ok (.iload_n 2, 1) := by decide +kernel
theorem d_188_3 : decode cX8_putBothBack 3 = .ok (.bipush 8, 2) := by decide +kernel
theorem d_188_5 : decode cX8_putBothBack 5 = .ok (.if_icmp .ge 26, 3) := by decide +kernel
theorem d_188_8 : decode cX8_putBothBack 8 = .ok (.aload_n 0, 1) := by decide +kernel
theorem d_188_9 : decode cX8_putBothBack 9 = .ok (.getfield 54, 3) := by decide +kernel
theorem d_188_12 : decode cX8_putBothBack 12 = .ok (.bipush 8, 2) := by decide +kernel
theorem d_188_14 : decode cX8_putBothBack 14 = .ok (.iload_n 1, 1) := by decide +kernel
theorem d_188_15 : decode cX8_putBothBack 15 = .ok (.imul, 1) := by decide +kernel
theorem d_188_16 : decode cX8_putBothBack 16 = .ok (.iload_n 2, 1) := by decide +kernel
theorem d_188_17 : decode cX8_putBothBack 17 = .ok (.iadd, 1) := by decide +kernel
theorem d_188_18 : decode cX8_putBothBack 18 = .ok (.aload_n 0, 1) := by decide +kernel
theorem d_188_19 : decode cX8_putBothBack 19 = .ok (.getfield 60, 3) := by decide +kernel
theorem d_188_22 : decode cX8_putBothBack 22 = .ok (.iload_n 2, 1) := by decide +kernel
theorem d_188_23 : decode cX8_putBothBack 23 = .ok (.iaload, 1) := by decide +kernel
theorem d_188_24 : decode cX8_putBothBack 24 = .ok (.iastore, 1) := by decide +kernel
theorem d_188_25 : decode cX8_putBothBack 25 = .ok (.iinc 2 1, 3) := by decide +kernel
theorem d_188_28 : decode cX8_putBothBack 28 = .ok (.goto (-26), 3) := by decide +kernel
theorem d_188_31 : decode cX8_putBothBack 31 = .ok (.aload_n 0, 1) := by decide +kernel
theorem d_188_32 : decode cX8_putBothBack 32 = .ok (.iload_n 1, 1) := by decide +kernel
theorem d_188_33 : decode cX8_putBothBack 33 = .ok (.iconst 1, 1) := by decide +kernel
theorem d_188_34 : decode cX8_putBothBack 34 = .ok (.iadd, 1) := by decide +kernel
theorem d_188_35 : decode cX8_putBothBack 35 = .ok (.invokevirtual 302, 3) := by decide +kernel
theorem d_188_38 : decode cX8_putBothBack 38 = .ok (.aload_n 0, 1) := by decide +kernel
theorem d_188_39 : decode cX8_putBothBack 39 = .ok (.iload_n 1, 1) := by decide +kernel
theorem d_188_40 : decode cX8_putBothBack 40 = .ok (.iconst 2, 1) := by decide +kernel
theorem d_188_41 : decode cX8_putBothBack 41 = .ok (.iadd, 1) := by decide +kernel
theorem d_188_42 : decode cX8_putBothBack 42 = .ok (.putfield 305, 3) := by decide +kernel
theorem d_188_45 : decode cX8_putBothBack 45 = .ok (.return_, 1) := by decide +kernel
theorem q_188_0  : zRun 188 0 L S sh mi mj mr = zRun 188 1 L (.int 0 :: S) sh mi mj mr := zr_p (zD_of zk_188 d_188_0 rfl rfl) rfl
theorem q_188_1 : zRun 188 1 [l0, l1, l2] (.int x :: S) sh mi mj mr = zRun 188 2 [l0, zk2 l1, some (.int x)] S sh mi mj mr := zr_s1 (i := 2) (v := .int x) (L := [l0, l1, l2]) (zD_of zk_188 d_188_1 rfl rfl) rfl rfl rfl rfl
theorem q_188_2 : zRun 188 2 [l0, l1, some (.int x)] S sh mi mj mr = zRun 188 3 [l0, l1, some (.int x)] (.int x :: S) sh mi mj mr := zr_l (zD_of zk_188 d_188_2 rfl rfl) rfl rfl rfl
theorem q_188_3  : zRun 188 3 L S sh mi mj mr = zRun 188 5 L (.int 8 :: S) sh mi mj mr := zr_p (zD_of zk_188 d_188_3 rfl rfl) rfl
theorem q_188_5  : zRun 188 5 L (.int y :: .int x :: S) sh mi mj mr = if y ≤ x then zRun 188 31 L S sh mi mj mr else zRun 188 8 L S sh mi mj mr := zr_if (off := 26) (P := y ≤ x) (zD_of zk_188 d_188_5 rfl rfl) rfl rfl (by decide)
theorem q_188_8r : zRun 188 8 [some (.ref o), l1, l2] S sh mi mj mr = zRun 188 9 [some (.ref o), l1, l2] (.ref o :: S) sh mi mj mr := zr_l (zD_of zk_188 d_188_8 rfl rfl) rfl rfl rfl
theorem q_188_8n : zRun 188 8 [some (.null), l1, l2] S sh mi mj mr = zRun 188 9 [some (.null), l1, l2] (.null :: S) sh mi mj mr := zr_l (zD_of zk_188 d_188_8 rfl rfl) rfl rfl rfl
theorem q_188_9 (h : zIs sh o 0 8) : zRun 188 9 L (.ref o :: S) sh mi mj mr = zRun 188 12 L (va_rf (mr o 21) :: S) sh mi mj mr := zr_getR (zD_of zk_188 d_188_9 rfl rfl) rfl rfl rfl h
theorem q_188_12  : zRun 188 12 L S sh mi mj mr = zRun 188 14 L (.int 8 :: S) sh mi mj mr := zr_p (zD_of zk_188 d_188_12 rfl rfl) rfl
theorem q_188_14 : zRun 188 14 [l0, some (.int x), l2] S sh mi mj mr = zRun 188 15 [l0, some (.int x), l2] (.int x :: S) sh mi mj mr := zr_l (zD_of zk_188 d_188_14 rfl rfl) rfl rfl rfl
theorem q_188_15  : zRun 188 15 L (.int y :: .int x :: S) sh mi mj mr = zRun 188 16 L (.int (x * y) :: S) sh mi mj mr := zr_p (zD_of zk_188 d_188_15 rfl rfl) rfl
theorem q_188_16 : zRun 188 16 [l0, l1, some (.int x)] S sh mi mj mr = zRun 188 17 [l0, l1, some (.int x)] (.int x :: S) sh mi mj mr := zr_l (zD_of zk_188 d_188_16 rfl rfl) rfl rfl rfl
theorem q_188_17  : zRun 188 17 L (.int y :: .int x :: S) sh mi mj mr = zRun 188 18 L (.int (x + y) :: S) sh mi mj mr := zr_p (zD_of zk_188 d_188_17 rfl rfl) rfl
theorem q_188_18r : zRun 188 18 [some (.ref o), l1, l2] S sh mi mj mr = zRun 188 19 [some (.ref o), l1, l2] (.ref o :: S) sh mi mj mr := zr_l (zD_of zk_188 d_188_18 rfl rfl) rfl rfl rfl
theorem q_188_18n : zRun 188 18 [some (.null), l1, l2] S sh mi mj mr = zRun 188 19 [some (.null), l1, l2] (.null :: S) sh mi mj mr := zr_l (zD_of zk_188 d_188_18 rfl rfl) rfl rfl rfl
theorem q_188_19 (h : zIs sh o 0 8) : zRun 188 19 L (.ref o :: S) sh mi mj mr = zRun 188 22 L (va_rf (mr o 26) :: S) sh mi mj mr := zr_getR (zD_of zk_188 d_188_19 rfl rfl) rfl rfl rfl h
theorem q_188_22 : zRun 188 22 [l0, l1, some (.int x)] S sh mi mj mr = zRun 188 23 [l0, l1, some (.int x)] (.int x :: S) sh mi mj mr := zr_l (zD_of zk_188 d_188_22 rfl rfl) rfl rfl rfl
theorem q_188_23 (h : zAt sh o 1 x) : zRun 188 23 L (.int x :: .ref o :: S) sh mi mj mr = zRun 188 24 L (.int (mi o x.toNatClampNeg) :: S) sh mi mj mr := zr_iald (zD_of zk_188 d_188_23 rfl rfl) h
theorem q_188_24 (h : zAt sh o 1 x) : zRun 188 24 L (.int y :: .int x :: .ref o :: S) sh mi mj mr = zRun 188 25 L S sh (zup mi o x.toNatClampNeg y) mj mr := zr_iast (zD_of zk_188 d_188_24 rfl rfl) h
theorem q_188_25  : zRun 188 25 [l0, l1, some (.int x)] S sh mi mj mr = zRun 188 28 [l0, zk2 l1, some (.int (x + 1))] S sh mi mj mr := zr_s1 (i := 2) (v := .int (x + 1)) (L := [l0, l1, some (.int x)]) (zD_of zk_188 d_188_25 rfl rfl) rfl rfl rfl rfl
theorem q_188_28  : zRun 188 28 L S sh mi mj mr = zRun 188 2 L S sh mi mj mr := zr_go (off := (-26)) (zD_of zk_188 d_188_28 rfl rfl) rfl rfl (by decide)
theorem q_188_31r : zRun 188 31 [some (.ref o), l1, l2] S sh mi mj mr = zRun 188 32 [some (.ref o), l1, l2] (.ref o :: S) sh mi mj mr := zr_l (zD_of zk_188 d_188_31 rfl rfl) rfl rfl rfl
theorem q_188_31n : zRun 188 31 [some (.null), l1, l2] S sh mi mj mr = zRun 188 32 [some (.null), l1, l2] (.null :: S) sh mi mj mr := zr_l (zD_of zk_188 d_188_31 rfl rfl) rfl rfl rfl
theorem q_188_32 : zRun 188 32 [l0, some (.int x), l2] S sh mi mj mr = zRun 188 33 [l0, some (.int x), l2] (.int x :: S) sh mi mj mr := zr_l (zD_of zk_188 d_188_32 rfl rfl) rfl rfl rfl
theorem q_188_33  : zRun 188 33 L S sh mi mj mr = zRun 188 34 L (.int 1 :: S) sh mi mj mr := zr_p (zD_of zk_188 d_188_33 rfl rfl) rfl
theorem q_188_34  : zRun 188 34 L (.int y :: .int x :: S) sh mi mj mr = zRun 188 35 L (.int (x + y) :: S) sh mi mj mr := zr_p (zD_of zk_188 d_188_34 rfl rfl) rfl
theorem q_188_35  {x0 : Int32} (hS : zcat S ≤ 8) (h : zIs sh o 0 8) : zRun 188 35 L (.int x0 :: .ref o :: S) sh mi mj mr = (zCall 180 [.ref o, .int x0] sh mi mj mr).bind fun r => zRun 188 38 L (r.1.toList ++ S) r.2.1 r.2.2.1 r.2.2.2.1 r.2.2.2.2 := zr_V (zD_of zk_188 d_188_35 rfl rfl) rfl zk_180 rfl rfl rfl hS h
theorem q_188_38r : zRun 188 38 [some (.ref o), l1, l2] S sh mi mj mr = zRun 188 39 [some (.ref o), l1, l2] (.ref o :: S) sh mi mj mr := zr_l (zD_of zk_188 d_188_38 rfl rfl) rfl rfl rfl
theorem q_188_38n : zRun 188 38 [some (.null), l1, l2] S sh mi mj mr = zRun 188 39 [some (.null), l1, l2] (.null :: S) sh mi mj mr := zr_l (zD_of zk_188 d_188_38 rfl rfl) rfl rfl rfl
theorem q_188_39 : zRun 188 39 [l0, some (.int x), l2] S sh mi mj mr = zRun 188 40 [l0, some (.int x), l2] (.int x :: S) sh mi mj mr := zr_l (zD_of zk_188 d_188_39 rfl rfl) rfl rfl rfl
theorem q_188_40  : zRun 188 40 L S sh mi mj mr = zRun 188 41 L (.int 2 :: S) sh mi mj mr := zr_p (zD_of zk_188 d_188_40 rfl rfl) rfl
theorem q_188_41  : zRun 188 41 L (.int y :: .int x :: S) sh mi mj mr = zRun 188 42 L (.int (x + y) :: S) sh mi mj mr := zr_p (zD_of zk_188 d_188_41 rfl rfl) rfl
theorem q_188_42 (h : zIs sh o 0 8) : zRun 188 42 L (.int x :: .ref o :: S) sh mi mj mr = zRun 188 45 L S sh (zup mi o 22 x) mj mr := zr_putI (zD_of zk_188 d_188_42 rfl rfl) rfl rfl rfl (Or.inl rfl) h
theorem q_188_45  : zRun 188 45 L [] sh mi mj mr = some (none, sh, mi, mj, mr) := zr_ret (zD_of zk_188 d_188_45 rfl rfl) rfl rfl rfl rfl rfl rfl
theorem e_188 {x0 : Int32} : zCall 188 [.ref o, .int x0] sh mi mj mr = zRun 188 0 [some (.ref o), some (.int x0), none] [] sh mi mj mr := rfl
theorem d_189_0 : decode cX8_proof 0 = .ok (.iload_n 1, 1) := by decide +kernel
theorem d_189_1 : decode cX8_proof 1 = .ok (.iconst 0, 1) := by decide +kernel
theorem d_189_2 : decode cX8_proof 2 = .ok (.bipush 8, 2) := by decide +kernel
theorem d_189_4 : decode cX8_proof 4 = .ok (.invokestatic 72, 3) := by decide +kernel
theorem d_189_7 : decode cX8_proof 7 = .ok (.ifCond .ne 7, 3) := by decide +kernel
theorem d_189_10 : decode cX8_proof 10 = .ok (.ldc2_w 290, 3) := by decide +kernel
theorem d_189_13 : decode cX8_proof 13 = .ok (.lreturn, 1) := by decide +kernel
theorem d_189_14 : decode cX8_proof 14 = .ok (.aload_n 0, 1) := by decide +kernel
theorem d_189_15 : decode cX8_proof 15 = .ok (.getfield 297, 3) := by decide +kernel
theorem d_189_18 : decode cX8_proof 18 = .ok (.ifCond .eq 12, 3) := by decide +kernel
theorem d_189_21 : decode cX8_proof 21 = .ok (.aload_n 0, 1) := by decide +kernel
theorem d_189_22 : decode cX8_proof 22 = .ok (.getfield 57, 3) := by decide +kernel
theorem d_189_25 : decode cX8_proof 25 = .ok (.iload_n 1, 1) := by decide +kernel
theorem d_189_26 : decode cX8_proof 26 = .ok (.laload, 1) := by decide +kernel
theorem d_189_27 : decode cX8_proof 27 = .ok (.goto 6, 3) := by decide +kernel
theorem d_189_30 : decode cX8_proof 30 = .ok (.ldc2_w 331, 3) := by decide +kernel
theorem d_189_33 : decode cX8_proof 33 = .ok (.lreturn, 1) := by decide +kernel
theorem q_189_0 : zRun 189 0 [l0, some (.int x)] S sh mi mj mr = zRun 189 1 [l0, some (.int x)] (.int x :: S) sh mi mj mr := zr_l (zD_of zk_189 d_189_0 rfl rfl) rfl rfl rfl
theorem q_189_1  : zRun 189 1 L S sh mi mj mr = zRun 189 2 L (.int 0 :: S) sh mi mj mr := zr_p (zD_of zk_189 d_189_1 rfl rfl) rfl
theorem q_189_2  : zRun 189 2 L S sh mi mj mr = zRun 189 4 L (.int 8 :: S) sh mi mj mr := zr_p (zD_of zk_189 d_189_2 rfl rfl) rfl
theorem q_189_4  {x0 x1 x2 : Int32} (hS : zcat S ≤ 8) : zRun 189 4 L (.int x2 :: .int x1 :: .int x0 :: S) sh mi mj mr = (zCall 111 [.int x0, .int x1, .int x2] sh mi mj mr).bind fun r => zRun 189 7 L (r.1.toList ++ S) r.2.1 r.2.2.1 r.2.2.2.1 r.2.2.2.2 := zr_S (zD_of zk_189 d_189_4 rfl rfl) rfl zk_111 rfl rfl rfl hS
theorem q_189_7  : zRun 189 7 L (.int x :: S) sh mi mj mr = if ¬ x = 0 then zRun 189 14 L S sh mi mj mr else zRun 189 10 L S sh mi mj mr := zr_if (off := 7) (P := ¬ x = 0) (zD_of zk_189 d_189_7 rfl rfl) rfl rfl (by decide)
theorem q_189_10  : zRun 189 10 L S sh mi mj mr = zRun 189 13 L (.long (-1000000000000000002) :: S) sh mi mj mr := zr_k64 (zD_of zk_189 d_189_10 rfl rfl) rfl
theorem q_189_13  : zRun 189 13 L ([.long u]) sh mi mj mr = some (some (.long u), sh, mi, mj, mr) := zr_ret (zD_of zk_189 d_189_13 rfl rfl) rfl rfl rfl rfl rfl rfl
theorem q_189_14r : zRun 189 14 [some (.ref o), l1] S sh mi mj mr = zRun 189 15 [some (.ref o), l1] (.ref o :: S) sh mi mj mr := zr_l (zD_of zk_189 d_189_14 rfl rfl) rfl rfl rfl
theorem q_189_14n : zRun 189 14 [some (.null), l1] S sh mi mj mr = zRun 189 15 [some (.null), l1] (.null :: S) sh mi mj mr := zr_l (zD_of zk_189 d_189_14 rfl rfl) rfl rfl rfl
theorem q_189_15 (h : zIs sh o 0 8) : zRun 189 15 L (.ref o :: S) sh mi mj mr = zRun 189 18 L (.int (mi o 25) :: S) sh mi mj mr := zr_getI (zD_of zk_189 d_189_15 rfl rfl) rfl rfl (Or.inr rfl) h
theorem q_189_18  : zRun 189 18 L (.int x :: S) sh mi mj mr = if x = 0 then zRun 189 30 L S sh mi mj mr else zRun 189 21 L S sh mi mj mr := zr_if (off := 12) (P := x = 0) (zD_of zk_189 d_189_18 rfl rfl) rfl rfl (by decide)
theorem q_189_21r : zRun 189 21 [some (.ref o), l1] S sh mi mj mr = zRun 189 22 [some (.ref o), l1] (.ref o :: S) sh mi mj mr := zr_l (zD_of zk_189 d_189_21 rfl rfl) rfl rfl rfl
theorem q_189_21n : zRun 189 21 [some (.null), l1] S sh mi mj mr = zRun 189 22 [some (.null), l1] (.null :: S) sh mi mj mr := zr_l (zD_of zk_189 d_189_21 rfl rfl) rfl rfl rfl
theorem q_189_22 (h : zIs sh o 0 8) : zRun 189 22 L (.ref o :: S) sh mi mj mr = zRun 189 25 L (va_rf (mr o 24) :: S) sh mi mj mr := zr_getR (zD_of zk_189 d_189_22 rfl rfl) rfl rfl rfl h
theorem q_189_25 : zRun 189 25 [l0, some (.int x)] S sh mi mj mr = zRun 189 26 [l0, some (.int x)] (.int x :: S) sh mi mj mr := zr_l (zD_of zk_189 d_189_25 rfl rfl) rfl rfl rfl
theorem q_189_26 (h : zAt sh o 2 x) : zRun 189 26 L (.int x :: .ref o :: S) sh mi mj mr = zRun 189 27 L (.long (mj o x.toNatClampNeg) :: S) sh mi mj mr := zr_lald (zD_of zk_189 d_189_26 rfl rfl) h
theorem q_189_27  : zRun 189 27 L S sh mi mj mr = zRun 189 33 L S sh mi mj mr := zr_go (off := 6) (zD_of zk_189 d_189_27 rfl rfl) rfl rfl (by decide)
theorem q_189_30  : zRun 189 30 L S sh mi mj mr = zRun 189 33 L (.long (-1000000000000000006) :: S) sh mi mj mr := zr_k64 (zD_of zk_189 d_189_30 rfl rfl) rfl
theorem q_189_33  : zRun 189 33 L ([.long u]) sh mi mj mr = some (some (.long u), sh, mi, mj, mr) := zr_ret (zD_of zk_189 d_189_33 rfl rfl) rfl rfl rfl rfl rfl rfl
theorem e_189 {x0 : Int32} : zCall 189 [.ref o, .int x0] sh mi mj mr = zRun 189 0 [some (.ref o), some (.int x0)] [] sh mi mj mr := rfl
theorem d_190_0 : decode cX8_keepFound 0 = .ok (.aload_n 0, 1) := by decide +kernel
theorem d_190_1 : decode cX8_keepFound 1 = .ok (.iload_n 2, 1) := by decide +kernel
theorem d_190_2 : decode cX8_keepFound 2 = .ok (.invokevirtual 302, 3) := by decide +kernel
theorem d_190_5 : decode cX8_keepFound 5 = .ok (.aload_n 0, 1) := by decide +kernel
theorem d_190_6 : decode cX8_keepFound 6 = .ok (.iload_n 1, 1) := by decide +kernel
theorem d_190_7 : decode cX8_keepFound 7 = .ok (.invokevirtual 282, 3) := by decide +kernel
theorem d_190_10 : decode cX8_keepFound 10 = .ok (.aload_n 0, 1) := by decide +kernel
theorem d_190_11 : decode cX8_keepFound 11 = .ok (.getfield 63, 3) := by decide +kernel
theorem d_190_14 : decode cX8_keepFound 14 = .ok (.iload_n 2, 1) := by decide +kernel
theorem d_190_15 : decode cX8_keepFound 15 = .ok (.aload_n 0, 1) := by decide +kernel
theorem d_190_16 : decode cX8_keepFound 16 = .ok (.iconst 0, 1) := by decide +kernel
theorem d_190_17 : decode cX8_keepFound 17 = .ok (.invokevirtual 251, 3) := by decide +kernel
theorem d_190_20 : decode cX8_keepFound 20 = .ok (.bastore, 1) := by decide +kernel
theorem d_190_21 : decode cX8_keepFound 21 = .ok (.aload_n 0, 1) := by decide +kernel
theorem d_190_22 : decode cX8_keepFound 22 = .ok (.getfield 66, 3) := by decide +kernel
theorem d_190_25 : decode cX8_keepFound 25 = .ok (.iload_n 2, 1) := by decide +kernel
theorem d_190_26 : decode cX8_keepFound 26 = .ok (.aload_n 0, 1) := by decide +kernel
theorem d_190_27 : decode cX8_keepFound 27 = .ok (.iconst 0, 1) := by decide +kernel
theorem d_190_28 : decode cX8_keepFound 28 = .ok (.invokevirtual 251, 3) := by decide +kernel
theorem d_190_31 : decode cX8_keepFound 31 = .ok (.ifCond .eq 7, 3) := by decide +kernel
theorem d_190_34 : decode cX8_keepFound 34 = .ok (.lconst 0, 1) := by decide +kernel
theorem d_190_35 : decode cX8_keepFound 35 = .ok (.goto 8, 3) := by decide +kernel
theorem d_190_38 : decode cX8_keepFound 38 = .ok (.aload_n 0, 1) := by decide +kernel
theorem d_190_39 : decode cX8_keepFound 39 = .ok (.iconst 0, 1) := by decide +kernel
theorem d_190_40 : decode cX8_keepFound 40 = .ok (.invokevirtual 189, 3) := by decide +kernel
theorem d_190_43 : decode cX8_keepFound 43 = .ok (.lastore, 1) := by decide +kernel
theorem d_190_44 : decode cX8_keepFound 44 = .ok (.aload_n 0, 1) := by decide +kernel
theorem d_190_45 : decode cX8_keepFound 45 = .ok (.getfield 69, 3) := by decide +kernel
theorem d_190_48 : decode cX8_keepFound 48 = .ok (.iload_n 2, 1) := by decide +kernel
theorem d_190_49 : decode cX8_keepFound 49 = .ok (.aload_n 0, 1) := by decide +kernel
theorem d_190_50 : decode cX8_keepFound 50 = .ok (.iconst 0, 1) := by decide +kernel
theorem d_190_51 : decode cX8_keepFound 51 = .ok (.invokevirtual 251, 3) := by decide +kernel
theorem d_190_54 : decode cX8_keepFound 54 = .ok (.ifCond .eq 7, 3) := by decide +kernel
theorem d_190_57 : decode cX8_keepFound 57 = .ok (.lconst 0, 1) := by decide +kernel
theorem d_190_58 : decode cX8_keepFound 58 = .ok (.goto 8, 3) := by decide +kernel
theorem d_190_61 : decode cX8_keepFound 61 = .ok (.aload_n 0, 1) := by decide +kernel
theorem d_190_62 : decode cX8_keepFound 62 = .ok (.iconst 0, 1) := by decide +kernel
theorem d_190_63 : decode cX8_keepFound 63 = .ok (.invokevirtual 192, 3) := by decide +kernel
theorem d_190_66 : decode cX8_keepFound 66 = .ok (.lastore, 1) := by decide +kernel
theorem d_190_67 : decode cX8_keepFound 67 = .ok (.return_, 1) := by decide +kernel
theorem q_190_0r : zRun 190 0 [some (.ref o), l1, l2] S sh mi mj mr = zRun 190 1 [some (.ref o), l1, l2] (.ref o :: S) sh mi mj mr := zr_l (zD_of zk_190 d_190_0 rfl rfl) rfl rfl rfl
theorem q_190_0n : zRun 190 0 [some (.null), l1, l2] S sh mi mj mr = zRun 190 1 [some (.null), l1, l2] (.null :: S) sh mi mj mr := zr_l (zD_of zk_190 d_190_0 rfl rfl) rfl rfl rfl
theorem q_190_1 : zRun 190 1 [l0, l1, some (.int x)] S sh mi mj mr = zRun 190 2 [l0, l1, some (.int x)] (.int x :: S) sh mi mj mr := zr_l (zD_of zk_190 d_190_1 rfl rfl) rfl rfl rfl
theorem q_190_2  {x0 : Int32} (hS : zcat S ≤ 8) (h : zIs sh o 0 8) : zRun 190 2 L (.int x0 :: .ref o :: S) sh mi mj mr = (zCall 180 [.ref o, .int x0] sh mi mj mr).bind fun r => zRun 190 5 L (r.1.toList ++ S) r.2.1 r.2.2.1 r.2.2.2.1 r.2.2.2.2 := zr_V (zD_of zk_190 d_190_2 rfl rfl) rfl zk_180 rfl rfl rfl hS h
theorem q_190_5r : zRun 190 5 [some (.ref o), l1, l2] S sh mi mj mr = zRun 190 6 [some (.ref o), l1, l2] (.ref o :: S) sh mi mj mr := zr_l (zD_of zk_190 d_190_5 rfl rfl) rfl rfl rfl
theorem q_190_5n : zRun 190 5 [some (.null), l1, l2] S sh mi mj mr = zRun 190 6 [some (.null), l1, l2] (.null :: S) sh mi mj mr := zr_l (zD_of zk_190 d_190_5 rfl rfl) rfl rfl rfl
theorem q_190_6 : zRun 190 6 [l0, some (.int x), l2] S sh mi mj mr = zRun 190 7 [l0, some (.int x), l2] (.int x :: S) sh mi mj mr := zr_l (zD_of zk_190 d_190_6 rfl rfl) rfl rfl rfl
theorem q_190_7  {x0 : Int32} (hS : zcat S ≤ 8) (h : zIs sh o 0 8) : zRun 190 7 L (.int x0 :: .ref o :: S) sh mi mj mr = (zCall 170 [.ref o, .int x0] sh mi mj mr).bind fun r => zRun 190 10 L (r.1.toList ++ S) r.2.1 r.2.2.1 r.2.2.2.1 r.2.2.2.2 := zr_V (zD_of zk_190 d_190_7 rfl rfl) rfl zk_170 rfl rfl rfl hS h
theorem q_190_10r : zRun 190 10 [some (.ref o), l1, l2] S sh mi mj mr = zRun 190 11 [some (.ref o), l1, l2] (.ref o :: S) sh mi mj mr := zr_l (zD_of zk_190 d_190_10 rfl rfl) rfl rfl rfl
theorem q_190_10n : zRun 190 10 [some (.null), l1, l2] S sh mi mj mr = zRun 190 11 [some (.null), l1, l2] (.null :: S) sh mi mj mr := zr_l (zD_of zk_190 d_190_10 rfl rfl) rfl rfl rfl
theorem q_190_11 (h : zIs sh o 0 8) : zRun 190 11 L (.ref o :: S) sh mi mj mr = zRun 190 14 L (va_rf (mr o 27) :: S) sh mi mj mr := zr_getR (zD_of zk_190 d_190_11 rfl rfl) rfl rfl rfl h
theorem q_190_14 : zRun 190 14 [l0, l1, some (.int x)] S sh mi mj mr = zRun 190 15 [l0, l1, some (.int x)] (.int x :: S) sh mi mj mr := zr_l (zD_of zk_190 d_190_14 rfl rfl) rfl rfl rfl
theorem q_190_15r : zRun 190 15 [some (.ref o), l1, l2] S sh mi mj mr = zRun 190 16 [some (.ref o), l1, l2] (.ref o :: S) sh mi mj mr := zr_l (zD_of zk_190 d_190_15 rfl rfl) rfl rfl rfl
theorem q_190_15n : zRun 190 15 [some (.null), l1, l2] S sh mi mj mr = zRun 190 16 [some (.null), l1, l2] (.null :: S) sh mi mj mr := zr_l (zD_of zk_190 d_190_15 rfl rfl) rfl rfl rfl
theorem q_190_16  : zRun 190 16 L S sh mi mj mr = zRun 190 17 L (.int 0 :: S) sh mi mj mr := zr_p (zD_of zk_190 d_190_16 rfl rfl) rfl
theorem q_190_17  {x0 : Int32} (hS : zcat S ≤ 8) (h : zIs sh o 0 8) : zRun 190 17 L (.int x0 :: .ref o :: S) sh mi mj mr = (zCall 141 [.ref o, .int x0] sh mi mj mr).bind fun r => zRun 190 20 L (r.1.toList ++ S) r.2.1 r.2.2.1 r.2.2.2.1 r.2.2.2.2 := zr_V (zD_of zk_190 d_190_17 rfl rfl) rfl zk_141 rfl rfl rfl hS h
theorem q_190_20 (h : zAt sh o 4 x) : zRun 190 20 L (.int y :: .int x :: .ref o :: S) sh mi mj mr = zRun 190 21 L S sh (zup mi o x.toNatClampNeg (vp_nar .boolean y)) mj mr := zr_bast (zD_of zk_190 d_190_20 rfl rfl) h
theorem q_190_21r : zRun 190 21 [some (.ref o), l1, l2] S sh mi mj mr = zRun 190 22 [some (.ref o), l1, l2] (.ref o :: S) sh mi mj mr := zr_l (zD_of zk_190 d_190_21 rfl rfl) rfl rfl rfl
theorem q_190_21n : zRun 190 21 [some (.null), l1, l2] S sh mi mj mr = zRun 190 22 [some (.null), l1, l2] (.null :: S) sh mi mj mr := zr_l (zD_of zk_190 d_190_21 rfl rfl) rfl rfl rfl
theorem q_190_22 (h : zIs sh o 0 8) : zRun 190 22 L (.ref o :: S) sh mi mj mr = zRun 190 25 L (va_rf (mr o 28) :: S) sh mi mj mr := zr_getR (zD_of zk_190 d_190_22 rfl rfl) rfl rfl rfl h
theorem q_190_25 : zRun 190 25 [l0, l1, some (.int x)] S sh mi mj mr = zRun 190 26 [l0, l1, some (.int x)] (.int x :: S) sh mi mj mr := zr_l (zD_of zk_190 d_190_25 rfl rfl) rfl rfl rfl
theorem q_190_26r : zRun 190 26 [some (.ref o), l1, l2] S sh mi mj mr = zRun 190 27 [some (.ref o), l1, l2] (.ref o :: S) sh mi mj mr := zr_l (zD_of zk_190 d_190_26 rfl rfl) rfl rfl rfl
theorem q_190_26n : zRun 190 26 [some (.null), l1, l2] S sh mi mj mr = zRun 190 27 [some (.null), l1, l2] (.null :: S) sh mi mj mr := zr_l (zD_of zk_190 d_190_26 rfl rfl) rfl rfl rfl
theorem q_190_27  : zRun 190 27 L S sh mi mj mr = zRun 190 28 L (.int 0 :: S) sh mi mj mr := zr_p (zD_of zk_190 d_190_27 rfl rfl) rfl
theorem q_190_28  {x0 : Int32} (hS : zcat S ≤ 8) (h : zIs sh o 0 8) : zRun 190 28 L (.int x0 :: .ref o :: S) sh mi mj mr = (zCall 141 [.ref o, .int x0] sh mi mj mr).bind fun r => zRun 190 31 L (r.1.toList ++ S) r.2.1 r.2.2.1 r.2.2.2.1 r.2.2.2.2 := zr_V (zD_of zk_190 d_190_28 rfl rfl) rfl zk_141 rfl rfl rfl hS h
theorem q_190_31  : zRun 190 31 L (.int x :: S) sh mi mj mr = if x = 0 then zRun 190 38 L S sh mi mj mr else zRun 190 34 L S sh mi mj mr := zr_if (off := 7) (P := x = 0) (zD_of zk_190 d_190_31 rfl rfl) rfl rfl (by decide)
theorem q_190_34  : zRun 190 34 L S sh mi mj mr = zRun 190 35 L (.long 0 :: S) sh mi mj mr := zr_p (zD_of zk_190 d_190_34 rfl rfl) rfl
theorem q_190_35  : zRun 190 35 L S sh mi mj mr = zRun 190 43 L S sh mi mj mr := zr_go (off := 8) (zD_of zk_190 d_190_35 rfl rfl) rfl rfl (by decide)
theorem q_190_38r : zRun 190 38 [some (.ref o), l1, l2] S sh mi mj mr = zRun 190 39 [some (.ref o), l1, l2] (.ref o :: S) sh mi mj mr := zr_l (zD_of zk_190 d_190_38 rfl rfl) rfl rfl rfl
theorem q_190_38n : zRun 190 38 [some (.null), l1, l2] S sh mi mj mr = zRun 190 39 [some (.null), l1, l2] (.null :: S) sh mi mj mr := zr_l (zD_of zk_190 d_190_38 rfl rfl) rfl rfl rfl
theorem q_190_39  : zRun 190 39 L S sh mi mj mr = zRun 190 40 L (.int 0 :: S) sh mi mj mr := zr_p (zD_of zk_190 d_190_39 rfl rfl) rfl
theorem q_190_40  {x0 : Int32} (hS : zcat S ≤ 8) (h : zIs sh o 0 8) : zRun 190 40 L (.int x0 :: .ref o :: S) sh mi mj mr = (zCall 139 [.ref o, .int x0] sh mi mj mr).bind fun r => zRun 190 43 L (r.1.toList ++ S) r.2.1 r.2.2.1 r.2.2.2.1 r.2.2.2.2 := zr_V (zD_of zk_190 d_190_40 rfl rfl) rfl zk_139 rfl rfl rfl hS h
theorem q_190_43 (h : zAt sh o 2 x) : zRun 190 43 L (.long u :: .int x :: .ref o :: S) sh mi mj mr = zRun 190 44 L S sh mi (zup mj o x.toNatClampNeg u) mr := zr_last (zD_of zk_190 d_190_43 rfl rfl) h
theorem q_190_44r : zRun 190 44 [some (.ref o), l1, l2] S sh mi mj mr = zRun 190 45 [some (.ref o), l1, l2] (.ref o :: S) sh mi mj mr := zr_l (zD_of zk_190 d_190_44 rfl rfl) rfl rfl rfl
theorem q_190_44n : zRun 190 44 [some (.null), l1, l2] S sh mi mj mr = zRun 190 45 [some (.null), l1, l2] (.null :: S) sh mi mj mr := zr_l (zD_of zk_190 d_190_44 rfl rfl) rfl rfl rfl
theorem q_190_45 (h : zIs sh o 0 8) : zRun 190 45 L (.ref o :: S) sh mi mj mr = zRun 190 48 L (va_rf (mr o 29) :: S) sh mi mj mr := zr_getR (zD_of zk_190 d_190_45 rfl rfl) rfl rfl rfl h
theorem q_190_48 : zRun 190 48 [l0, l1, some (.int x)] S sh mi mj mr = zRun 190 49 [l0, l1, some (.int x)] (.int x :: S) sh mi mj mr := zr_l (zD_of zk_190 d_190_48 rfl rfl) rfl rfl rfl
theorem q_190_49r : zRun 190 49 [some (.ref o), l1, l2] S sh mi mj mr = zRun 190 50 [some (.ref o), l1, l2] (.ref o :: S) sh mi mj mr := zr_l (zD_of zk_190 d_190_49 rfl rfl) rfl rfl rfl
theorem q_190_49n : zRun 190 49 [some (.null), l1, l2] S sh mi mj mr = zRun 190 50 [some (.null), l1, l2] (.null :: S) sh mi mj mr := zr_l (zD_of zk_190 d_190_49 rfl rfl) rfl rfl rfl
theorem q_190_50  : zRun 190 50 L S sh mi mj mr = zRun 190 51 L (.int 0 :: S) sh mi mj mr := zr_p (zD_of zk_190 d_190_50 rfl rfl) rfl
theorem q_190_51  {x0 : Int32} (hS : zcat S ≤ 8) (h : zIs sh o 0 8) : zRun 190 51 L (.int x0 :: .ref o :: S) sh mi mj mr = (zCall 141 [.ref o, .int x0] sh mi mj mr).bind fun r => zRun 190 54 L (r.1.toList ++ S) r.2.1 r.2.2.1 r.2.2.2.1 r.2.2.2.2 := zr_V (zD_of zk_190 d_190_51 rfl rfl) rfl zk_141 rfl rfl rfl hS h
theorem q_190_54  : zRun 190 54 L (.int x :: S) sh mi mj mr = if x = 0 then zRun 190 61 L S sh mi mj mr else zRun 190 57 L S sh mi mj mr := zr_if (off := 7) (P := x = 0) (zD_of zk_190 d_190_54 rfl rfl) rfl rfl (by decide)
theorem q_190_57  : zRun 190 57 L S sh mi mj mr = zRun 190 58 L (.long 0 :: S) sh mi mj mr := zr_p (zD_of zk_190 d_190_57 rfl rfl) rfl
theorem q_190_58  : zRun 190 58 L S sh mi mj mr = zRun 190 66 L S sh mi mj mr := zr_go (off := 8) (zD_of zk_190 d_190_58 rfl rfl) rfl rfl (by decide)
theorem q_190_61r : zRun 190 61 [some (.ref o), l1, l2] S sh mi mj mr = zRun 190 62 [some (.ref o), l1, l2] (.ref o :: S) sh mi mj mr := zr_l (zD_of zk_190 d_190_61 rfl rfl) rfl rfl rfl
theorem q_190_61n : zRun 190 61 [some (.null), l1, l2] S sh mi mj mr = zRun 190 62 [some (.null), l1, l2] (.null :: S) sh mi mj mr := zr_l (zD_of zk_190 d_190_61 rfl rfl) rfl rfl rfl
theorem q_190_62  : zRun 190 62 L S sh mi mj mr = zRun 190 63 L (.int 0 :: S) sh mi mj mr := zr_p (zD_of zk_190 d_190_62 rfl rfl) rfl
theorem q_190_63  {x0 : Int32} (hS : zcat S ≤ 8) (h : zIs sh o 0 8) : zRun 190 63 L (.int x0 :: .ref o :: S) sh mi mj mr = (zCall 140 [.ref o, .int x0] sh mi mj mr).bind fun r => zRun 190 66 L (r.1.toList ++ S) r.2.1 r.2.2.1 r.2.2.2.1 r.2.2.2.2 := zr_V (zD_of zk_190 d_190_63 rfl rfl) rfl zk_140 rfl rfl rfl hS h
theorem q_190_66 (h : zAt sh o 2 x) : zRun 190 66 L (.long u :: .int x :: .ref o :: S) sh mi mj mr = zRun 190 67 L S sh mi (zup mj o x.toNatClampNeg u) mr := zr_last (zD_of zk_190 d_190_66 rfl rfl) h
theorem q_190_67  : zRun 190 67 L [] sh mi mj mr = some (none, sh, mi, mj, mr) := zr_ret (zD_of zk_190 d_190_67 rfl rfl) rfl rfl rfl rfl rfl rfl
theorem e_190 {x0 x1 : Int32} : zCall 190 [.ref o, .int x0, .int x1] sh mi mj mr = zRun 190 0 [some (.ref o), some (.int x0), some (.int x1)] [] sh mi mj mr := rfl
theorem d_191_0 : decode cX8_worst 0 = .ok (.iconst 0, 1) := by decide +kernel
theorem d_191_1 : decode cX8_worst 1 = .ok (.istore_n 2, 1) := by decide +kernel
theorem d_191_2 : decode cX8_worst 2 = .ok (.iconst 0, 1) := by decide +kernel
theorem d_191_3 : decode cX8_worst 3 = .ok (.istore_n 3, 1) := by decide +kernel
theorem d_191_4 : decode cX8_worst 4 = .ok (.iload_n 3, 1) := by decide +kernel
theorem d_191_5 : decode cX8_worst 5 = .ok (.aload_n 0, 1) := by decide +kernel
theorem d_191_6 : decode cX8_worst 6 = .ok (.getfield 305, 3) := by decide +kernel
theorem d_191_9 : decode cX8_worst 9 = .ok (.if_icmp .ge 82, 3) := by decide +kernel
theorem d_191_12 : decode cX8_worst 12 = .ok (.aload_n 0, 1) := by decide +kernel
theorem d_191_13 : decode cX8_worst 13 = .ok (.getfield 63, 3) := by decide +kernel
theorem d_191_16 : decode cX8_worst 16 = .ok (.iload_n 3, 1) := by decide +kernel
theorem d_191_17 : decode cX8_worst 17 = .ok (.baload, 1) := by decide +kernel
theorem d_191_18 : decode cX8_worst 18 = .ok (.ifCond .eq 5, 3) := by decide +kernel
theorem d_191_21 : decode cX8_worst 21 = .ok (.iload_n 3, 1) := by decide +kernel
theorem d_191_22 : decode cX8_worst 22 = .ok (.ireturn, 1) := by decide +kernel
theorem d_191_23 : decode cX8_worst 23 = .ok (.iload_n 1, 1) := by decide +kernel
theorem d_191_24 : decode cX8_worst 24 = .ok (.ifCond .ne 27, 3) := by decide +kernel
theorem d_191_27 : decode cX8_worst 27 = .ok (.aload_n 0, 1) := by decide +kernel
theorem d_191_28 : decode cX8_worst 28 = .ok (.getfield 66, 3) := by decide +kernel
theorem d_191_31 : decode cX8_worst 31 = .ok (.iload_n 3, 1) := by decide +kernel
theorem d_191_32 : decode cX8_worst 32 = .ok (.laload, 1) := by decide +kernel
theorem d_191_33 : decode cX8_worst 33 = .ok (.aload_n 0, 1) := by decide +kernel
theorem d_191_34 : decode cX8_worst 34 = .ok (.getfield 66, 3) := by decide +kernel
theorem d_191_37 : decode cX8_worst 37 = .ok (.iload_n 2, 1) := by decide +kernel
theorem d_191_38 : decode cX8_worst 38 = .ok (.laload, 1) := by decide +kernel
theorem d_191_39 : decode cX8_worst 39 = .ok (.lcmp, 1) := by decide +kernel
theorem d_191_40 : decode cX8_worst 40 = .ok (.ifCond .ge 7, 3) := by decide +kernel
theorem d_191_43 : decode cX8_worst 43 = .ok (.iconst 1, 1) := by decide +kernel
theorem d_191_44 : decode cX8_worst 44 = .ok (.goto 28, 3) := by decide +kernel
theorem d_191_47 : decode cX8_worst 47 = .ok (.iconst 0, 1) := by decide +kernel
theorem d_191_48 : decode cX8_worst 48 = .ok (.goto 24, 3) := by decide +kernel
theorem d_191_51 : decode cX8_worst 51 = .ok (.aload_n 0, 1) := by decide +kernel
theorem d_191_52 : decode cX8_worst 52 = .ok (.getfield 69, 3) := by decide +kernel
theorem d_191_55 : decode cX8_worst 55 = .ok (.iload_n 3, 1) := by decide +kernel
theorem d_191_56 : decode cX8_worst 56 = .ok (.laload, 1) := by decide +kernel
theorem d_191_57 : decode cX8_worst 57 = .ok (.aload_n 0, 1) := by decide +kernel
theorem d_191_58 : decode cX8_worst 58 = .ok (.getfield 69, 3) := by decide +kernel
theorem d_191_61 : decode cX8_worst 61 = .ok (.iload_n 2, 1) := by decide +kernel
theorem d_191_62 : decode cX8_worst 62 = .ok (.laload, 1) := by decide +kernel
theorem d_191_63 : decode cX8_worst 63 = .ok (.lcmp, 1) := by decide +kernel
theorem d_191_64 : decode cX8_worst 64 = .ok (.ifCond .le 7, 3) := by decide +kernel
theorem d_191_67 : decode cX8_worst 67 = .ok (.iconst 1, 1) := by decide +kernel
theorem d_191_68 : decode cX8_worst 68 = .ok (.goto 4, 3) := by decide +kernel
theorem d_191_71 : decode cX8_worst 71 = .ok (.iconst 0, 1) := by decide +kernel
theorem d_191_72 : decode cX8_worst 72 = .ok (.istore 4, 2) := by decide +kernel
theorem d_191_74 : decode cX8_worst 74 = .ok (.iload 4, 2) := by decide +kernel
theorem d_191_76 : decode cX8_worst 76 = .ok (.ifCond .eq 7, 3) := by decide +kernel
theorem d_191_79 : decode cX8_worst 79 = .ok (.iload_n 3, 1) := by decide +kernel
theorem d_191_80 : decode cX8_worst 80 = .ok (.goto 4, 3) := by decide +kernel
theorem d_191_83 : decode cX8_worst 83 = .ok (.iload_n 2, 1) := by decide +kernel
theorem d_191_84 : decode cX8_worst 84 = .ok (.istore_n 2, 1) := by decide +kernel
theorem d_191_85 : decode cX8_worst 85 = .ok (.iinc 3 1, 3) := by decide +kernel
theorem d_191_88 : decode cX8_worst 88 = .ok (.goto (-84), 3) := by decide +kernel
theorem d_191_91 : decode cX8_worst 91 = .ok (.iload_n 2, 1) := by decide +kernel
theorem d_191_92 : decode cX8_worst 92 = .ok (.ireturn, 1) := by decide +kernel
theorem q_191_0  : zRun 191 0 L S sh mi mj mr = zRun 191 1 L (.int 0 :: S) sh mi mj mr := zr_p (zD_of zk_191 d_191_0 rfl rfl) rfl
theorem q_191_1 : zRun 191 1 [l0, l1, l2, l3, l4] (.int x :: S) sh mi mj mr = zRun 191 2 [l0, zk2 l1, some (.int x), l3, l4] S sh mi mj mr := zr_s1 (i := 2) (v := .int x) (L := [l0, l1, l2, l3, l4]) (zD_of zk_191 d_191_1 rfl rfl) rfl rfl rfl rfl
theorem q_191_2  : zRun 191 2 L S sh mi mj mr = zRun 191 3 L (.int 0 :: S) sh mi mj mr := zr_p (zD_of zk_191 d_191_2 rfl rfl) rfl
theorem q_191_3 : zRun 191 3 [l0, l1, l2, l3, l4] (.int x :: S) sh mi mj mr = zRun 191 4 [l0, l1, zk2 l2, some (.int x), l4] S sh mi mj mr := zr_s1 (i := 3) (v := .int x) (L := [l0, l1, l2, l3, l4]) (zD_of zk_191 d_191_3 rfl rfl) rfl rfl rfl rfl
theorem q_191_4 : zRun 191 4 [l0, l1, l2, some (.int x), l4] S sh mi mj mr = zRun 191 5 [l0, l1, l2, some (.int x), l4] (.int x :: S) sh mi mj mr := zr_l (zD_of zk_191 d_191_4 rfl rfl) rfl rfl rfl
theorem q_191_5r : zRun 191 5 [some (.ref o), l1, l2, l3, l4] S sh mi mj mr = zRun 191 6 [some (.ref o), l1, l2, l3, l4] (.ref o :: S) sh mi mj mr := zr_l (zD_of zk_191 d_191_5 rfl rfl) rfl rfl rfl
theorem q_191_5n : zRun 191 5 [some (.null), l1, l2, l3, l4] S sh mi mj mr = zRun 191 6 [some (.null), l1, l2, l3, l4] (.null :: S) sh mi mj mr := zr_l (zD_of zk_191 d_191_5 rfl rfl) rfl rfl rfl
theorem q_191_6 (h : zIs sh o 0 8) : zRun 191 6 L (.ref o :: S) sh mi mj mr = zRun 191 9 L (.int (mi o 22) :: S) sh mi mj mr := zr_getI (zD_of zk_191 d_191_6 rfl rfl) rfl rfl (Or.inl rfl) h
theorem q_191_9  : zRun 191 9 L (.int y :: .int x :: S) sh mi mj mr = if y ≤ x then zRun 191 91 L S sh mi mj mr else zRun 191 12 L S sh mi mj mr := zr_if (off := 82) (P := y ≤ x) (zD_of zk_191 d_191_9 rfl rfl) rfl rfl (by decide)
theorem q_191_12r : zRun 191 12 [some (.ref o), l1, l2, l3, l4] S sh mi mj mr = zRun 191 13 [some (.ref o), l1, l2, l3, l4] (.ref o :: S) sh mi mj mr := zr_l (zD_of zk_191 d_191_12 rfl rfl) rfl rfl rfl
theorem q_191_12n : zRun 191 12 [some (.null), l1, l2, l3, l4] S sh mi mj mr = zRun 191 13 [some (.null), l1, l2, l3, l4] (.null :: S) sh mi mj mr := zr_l (zD_of zk_191 d_191_12 rfl rfl) rfl rfl rfl
theorem q_191_13 (h : zIs sh o 0 8) : zRun 191 13 L (.ref o :: S) sh mi mj mr = zRun 191 16 L (va_rf (mr o 27) :: S) sh mi mj mr := zr_getR (zD_of zk_191 d_191_13 rfl rfl) rfl rfl rfl h
theorem q_191_16 : zRun 191 16 [l0, l1, l2, some (.int x), l4] S sh mi mj mr = zRun 191 17 [l0, l1, l2, some (.int x), l4] (.int x :: S) sh mi mj mr := zr_l (zD_of zk_191 d_191_16 rfl rfl) rfl rfl rfl
theorem q_191_17 (h : zAt sh o 4 x) : zRun 191 17 L (.int x :: .ref o :: S) sh mi mj mr = zRun 191 18 L (.int (mi o x.toNatClampNeg) :: S) sh mi mj mr := zr_bald (zD_of zk_191 d_191_17 rfl rfl) h
theorem q_191_18  : zRun 191 18 L (.int x :: S) sh mi mj mr = if x = 0 then zRun 191 23 L S sh mi mj mr else zRun 191 21 L S sh mi mj mr := zr_if (off := 5) (P := x = 0) (zD_of zk_191 d_191_18 rfl rfl) rfl rfl (by decide)
theorem q_191_21 : zRun 191 21 [l0, l1, l2, some (.int x), l4] S sh mi mj mr = zRun 191 22 [l0, l1, l2, some (.int x), l4] (.int x :: S) sh mi mj mr := zr_l (zD_of zk_191 d_191_21 rfl rfl) rfl rfl rfl
theorem q_191_22  : zRun 191 22 L ([.int x]) sh mi mj mr = some (some (.int x), sh, mi, mj, mr) := zr_ret (zD_of zk_191 d_191_22 rfl rfl) rfl rfl rfl rfl rfl (if_pos rfl)
theorem q_191_23 : zRun 191 23 [l0, some (.int x), l2, l3, l4] S sh mi mj mr = zRun 191 24 [l0, some (.int x), l2, l3, l4] (.int x :: S) sh mi mj mr := zr_l (zD_of zk_191 d_191_23 rfl rfl) rfl rfl rfl
theorem q_191_24  : zRun 191 24 L (.int x :: S) sh mi mj mr = if ¬ x = 0 then zRun 191 51 L S sh mi mj mr else zRun 191 27 L S sh mi mj mr := zr_if (off := 27) (P := ¬ x = 0) (zD_of zk_191 d_191_24 rfl rfl) rfl rfl (by decide)
theorem q_191_27r : zRun 191 27 [some (.ref o), l1, l2, l3, l4] S sh mi mj mr = zRun 191 28 [some (.ref o), l1, l2, l3, l4] (.ref o :: S) sh mi mj mr := zr_l (zD_of zk_191 d_191_27 rfl rfl) rfl rfl rfl
theorem q_191_27n : zRun 191 27 [some (.null), l1, l2, l3, l4] S sh mi mj mr = zRun 191 28 [some (.null), l1, l2, l3, l4] (.null :: S) sh mi mj mr := zr_l (zD_of zk_191 d_191_27 rfl rfl) rfl rfl rfl
theorem q_191_28 (h : zIs sh o 0 8) : zRun 191 28 L (.ref o :: S) sh mi mj mr = zRun 191 31 L (va_rf (mr o 28) :: S) sh mi mj mr := zr_getR (zD_of zk_191 d_191_28 rfl rfl) rfl rfl rfl h
theorem q_191_31 : zRun 191 31 [l0, l1, l2, some (.int x), l4] S sh mi mj mr = zRun 191 32 [l0, l1, l2, some (.int x), l4] (.int x :: S) sh mi mj mr := zr_l (zD_of zk_191 d_191_31 rfl rfl) rfl rfl rfl
theorem q_191_32 (h : zAt sh o 2 x) : zRun 191 32 L (.int x :: .ref o :: S) sh mi mj mr = zRun 191 33 L (.long (mj o x.toNatClampNeg) :: S) sh mi mj mr := zr_lald (zD_of zk_191 d_191_32 rfl rfl) h
theorem q_191_33r : zRun 191 33 [some (.ref o), l1, l2, l3, l4] S sh mi mj mr = zRun 191 34 [some (.ref o), l1, l2, l3, l4] (.ref o :: S) sh mi mj mr := zr_l (zD_of zk_191 d_191_33 rfl rfl) rfl rfl rfl
theorem q_191_33n : zRun 191 33 [some (.null), l1, l2, l3, l4] S sh mi mj mr = zRun 191 34 [some (.null), l1, l2, l3, l4] (.null :: S) sh mi mj mr := zr_l (zD_of zk_191 d_191_33 rfl rfl) rfl rfl rfl
theorem q_191_34 (h : zIs sh o 0 8) : zRun 191 34 L (.ref o :: S) sh mi mj mr = zRun 191 37 L (va_rf (mr o 28) :: S) sh mi mj mr := zr_getR (zD_of zk_191 d_191_34 rfl rfl) rfl rfl rfl h
theorem q_191_37 : zRun 191 37 [l0, l1, some (.int x), l3, l4] S sh mi mj mr = zRun 191 38 [l0, l1, some (.int x), l3, l4] (.int x :: S) sh mi mj mr := zr_l (zD_of zk_191 d_191_37 rfl rfl) rfl rfl rfl
theorem q_191_38 (h : zAt sh o 2 x) : zRun 191 38 L (.int x :: .ref o :: S) sh mi mj mr = zRun 191 39 L (.long (mj o x.toNatClampNeg) :: S) sh mi mj mr := zr_lald (zD_of zk_191 d_191_38 rfl rfl) h
theorem q_191_39  : zRun 191 39 L (.long v :: .long u :: S) sh mi mj mr = if v ≤ u then zRun 191 47 L S sh mi mj mr else zRun 191 43 L S sh mi mj mr := zr_cmp (off := 7) (zD_of zk_191 d_191_39 rfl rfl) (zD_of zk_191 d_191_40 rfl rfl) rfl rfl (by decide) (lg_cmp_ge u v)
theorem q_191_40  : zRun 191 40 L (.int x :: S) sh mi mj mr = if 0 ≤ x then zRun 191 47 L S sh mi mj mr else zRun 191 43 L S sh mi mj mr := zr_if (off := 7) (P := 0 ≤ x) (zD_of zk_191 d_191_40 rfl rfl) rfl rfl (by decide)
theorem q_191_43  : zRun 191 43 L S sh mi mj mr = zRun 191 44 L (.int 1 :: S) sh mi mj mr := zr_p (zD_of zk_191 d_191_43 rfl rfl) rfl
theorem q_191_44  : zRun 191 44 L S sh mi mj mr = zRun 191 72 L S sh mi mj mr := zr_go (off := 28) (zD_of zk_191 d_191_44 rfl rfl) rfl rfl (by decide)
theorem q_191_47  : zRun 191 47 L S sh mi mj mr = zRun 191 48 L (.int 0 :: S) sh mi mj mr := zr_p (zD_of zk_191 d_191_47 rfl rfl) rfl
theorem q_191_48  : zRun 191 48 L S sh mi mj mr = zRun 191 72 L S sh mi mj mr := zr_go (off := 24) (zD_of zk_191 d_191_48 rfl rfl) rfl rfl (by decide)
theorem q_191_51r : zRun 191 51 [some (.ref o), l1, l2, l3, l4] S sh mi mj mr = zRun 191 52 [some (.ref o), l1, l2, l3, l4] (.ref o :: S) sh mi mj mr := zr_l (zD_of zk_191 d_191_51 rfl rfl) rfl rfl rfl
theorem q_191_51n : zRun 191 51 [some (.null), l1, l2, l3, l4] S sh mi mj mr = zRun 191 52 [some (.null), l1, l2, l3, l4] (.null :: S) sh mi mj mr := zr_l (zD_of zk_191 d_191_51 rfl rfl) rfl rfl rfl
theorem q_191_52 (h : zIs sh o 0 8) : zRun 191 52 L (.ref o :: S) sh mi mj mr = zRun 191 55 L (va_rf (mr o 29) :: S) sh mi mj mr := zr_getR (zD_of zk_191 d_191_52 rfl rfl) rfl rfl rfl h
theorem q_191_55 : zRun 191 55 [l0, l1, l2, some (.int x), l4] S sh mi mj mr = zRun 191 56 [l0, l1, l2, some (.int x), l4] (.int x :: S) sh mi mj mr := zr_l (zD_of zk_191 d_191_55 rfl rfl) rfl rfl rfl
theorem q_191_56 (h : zAt sh o 2 x) : zRun 191 56 L (.int x :: .ref o :: S) sh mi mj mr = zRun 191 57 L (.long (mj o x.toNatClampNeg) :: S) sh mi mj mr := zr_lald (zD_of zk_191 d_191_56 rfl rfl) h
theorem q_191_57r : zRun 191 57 [some (.ref o), l1, l2, l3, l4] S sh mi mj mr = zRun 191 58 [some (.ref o), l1, l2, l3, l4] (.ref o :: S) sh mi mj mr := zr_l (zD_of zk_191 d_191_57 rfl rfl) rfl rfl rfl
theorem q_191_57n : zRun 191 57 [some (.null), l1, l2, l3, l4] S sh mi mj mr = zRun 191 58 [some (.null), l1, l2, l3, l4] (.null :: S) sh mi mj mr := zr_l (zD_of zk_191 d_191_57 rfl rfl) rfl rfl rfl
theorem q_191_58 (h : zIs sh o 0 8) : zRun 191 58 L (.ref o :: S) sh mi mj mr = zRun 191 61 L (va_rf (mr o 29) :: S) sh mi mj mr := zr_getR (zD_of zk_191 d_191_58 rfl rfl) rfl rfl rfl h
theorem q_191_61 : zRun 191 61 [l0, l1, some (.int x), l3, l4] S sh mi mj mr = zRun 191 62 [l0, l1, some (.int x), l3, l4] (.int x :: S) sh mi mj mr := zr_l (zD_of zk_191 d_191_61 rfl rfl) rfl rfl rfl
theorem q_191_62 (h : zAt sh o 2 x) : zRun 191 62 L (.int x :: .ref o :: S) sh mi mj mr = zRun 191 63 L (.long (mj o x.toNatClampNeg) :: S) sh mi mj mr := zr_lald (zD_of zk_191 d_191_62 rfl rfl) h
theorem q_191_63  : zRun 191 63 L (.long v :: .long u :: S) sh mi mj mr = if u ≤ v then zRun 191 71 L S sh mi mj mr else zRun 191 67 L S sh mi mj mr := zr_cmp (off := 7) (zD_of zk_191 d_191_63 rfl rfl) (zD_of zk_191 d_191_64 rfl rfl) rfl rfl (by decide) (lg_cmp_le u v)
theorem q_191_64  : zRun 191 64 L (.int x :: S) sh mi mj mr = if x ≤ 0 then zRun 191 71 L S sh mi mj mr else zRun 191 67 L S sh mi mj mr := zr_if (off := 7) (P := x ≤ 0) (zD_of zk_191 d_191_64 rfl rfl) rfl rfl (by decide)
theorem q_191_67  : zRun 191 67 L S sh mi mj mr = zRun 191 68 L (.int 1 :: S) sh mi mj mr := zr_p (zD_of zk_191 d_191_67 rfl rfl) rfl
theorem q_191_68  : zRun 191 68 L S sh mi mj mr = zRun 191 72 L S sh mi mj mr := zr_go (off := 4) (zD_of zk_191 d_191_68 rfl rfl) rfl rfl (by decide)
theorem q_191_71  : zRun 191 71 L S sh mi mj mr = zRun 191 72 L (.int 0 :: S) sh mi mj mr := zr_p (zD_of zk_191 d_191_71 rfl rfl) rfl
theorem q_191_72 : zRun 191 72 [l0, l1, l2, l3, l4] (.int x :: S) sh mi mj mr = zRun 191 74 [l0, l1, l2, zk2 l3, some (.int x)] S sh mi mj mr := zr_s1 (i := 4) (v := .int x) (L := [l0, l1, l2, l3, l4]) (zD_of zk_191 d_191_72 rfl rfl) rfl rfl rfl rfl
theorem q_191_74 : zRun 191 74 [l0, l1, l2, l3, some (.int x)] S sh mi mj mr = zRun 191 76 [l0, l1, l2, l3, some (.int x)] (.int x :: S) sh mi mj mr := zr_l (zD_of zk_191 d_191_74 rfl rfl) rfl rfl rfl
theorem q_191_76  : zRun 191 76 L (.int x :: S) sh mi mj mr = if x = 0 then zRun 191 83 L S sh mi mj mr else zRun 191 79 L S sh mi mj mr := zr_if (off := 7) (P := x = 0) (zD_of zk_191 d_191_76 rfl rfl) rfl rfl (by decide)
theorem q_191_79 : zRun 191 79 [l0, l1, l2, some (.int x), l4] S sh mi mj mr = zRun 191 80 [l0, l1, l2, some (.int x), l4] (.int x :: S) sh mi mj mr := zr_l (zD_of zk_191 d_191_79 rfl rfl) rfl rfl rfl
theorem q_191_80  : zRun 191 80 L S sh mi mj mr = zRun 191 84 L S sh mi mj mr := zr_go (off := 4) (zD_of zk_191 d_191_80 rfl rfl) rfl rfl (by decide)
theorem q_191_83 : zRun 191 83 [l0, l1, some (.int x), l3, l4] S sh mi mj mr = zRun 191 84 [l0, l1, some (.int x), l3, l4] (.int x :: S) sh mi mj mr := zr_l (zD_of zk_191 d_191_83 rfl rfl) rfl rfl rfl
theorem q_191_84 : zRun 191 84 [l0, l1, l2, l3, l4] (.int x :: S) sh mi mj mr = zRun 191 85 [l0, zk2 l1, some (.int x), l3, l4] S sh mi mj mr := zr_s1 (i := 2) (v := .int x) (L := [l0, l1, l2, l3, l4]) (zD_of zk_191 d_191_84 rfl rfl) rfl rfl rfl rfl
theorem q_191_85  : zRun 191 85 [l0, l1, l2, some (.int x), l4] S sh mi mj mr = zRun 191 88 [l0, l1, zk2 l2, some (.int (x + 1)), l4] S sh mi mj mr := zr_s1 (i := 3) (v := .int (x + 1)) (L := [l0, l1, l2, some (.int x), l4]) (zD_of zk_191 d_191_85 rfl rfl) rfl rfl rfl rfl
theorem q_191_88  : zRun 191 88 L S sh mi mj mr = zRun 191 4 L S sh mi mj mr := zr_go (off := (-84)) (zD_of zk_191 d_191_88 rfl rfl) rfl rfl (by decide)
theorem q_191_91 : zRun 191 91 [l0, l1, some (.int x), l3, l4] S sh mi mj mr = zRun 191 92 [l0, l1, some (.int x), l3, l4] (.int x :: S) sh mi mj mr := zr_l (zD_of zk_191 d_191_91 rfl rfl) rfl rfl rfl
theorem q_191_92  : zRun 191 92 L ([.int x]) sh mi mj mr = some (some (.int x), sh, mi, mj, mr) := zr_ret (zD_of zk_191 d_191_92 rfl rfl) rfl rfl rfl rfl rfl (if_pos rfl)
theorem e_191 {x0 : Int32} : zCall 191 [.ref o, .int x0] sh mi mj mr = zRun 191 0 [some (.ref o), some (.int x0), none, none, none] [] sh mi mj mr := rfl
theorem d_192_0 : decode cX8_tighten 0 = .ok (.aload_n 0, 1) := by decide +kernel
theorem d_192_1 : decode cX8_tighten 1 = .ok (.iload_n 1, 1) := by decide +kernel
theorem d_192_2 : decode cX8_tighten 2 = .ok (.invokevirtual 146, 3) := by decide +kernel
theorem d_192_5 : decode cX8_tighten 5 = .ok (.ifCond .ne 7, 3) := by decide +kernel
theorem d_192_8 : decode cX8_tighten 8 = .ok (.ldc2_w 288, 3) := by decide +kernel
theorem d_192_11 : decode cX8_tighten 11 = .ok (.lreturn, 1) := by decide +kernel
theorem d_192_12 : decode cX8_tighten 12 = .ok (.iload_n 2, 1) := by decide +kernel
theorem d_192_13 : decode cX8_tighten 13 = .ok (.iconst 0, 1) := by decide +kernel
theorem d_192_14 : decode cX8_tighten 14 = .ok (.bipush 100, 2) := by decide +kernel
theorem d_192_16 : decode cX8_tighten 16 = .ok (.invokestatic 72, 3) := by decide +kernel
theorem d_192_19 : decode cX8_tighten 19 = .ok (.ifCond .eq 10, 3) := by decide +kernel
theorem d_192_22 : decode cX8_tighten 22 = .ok (.iload_n 3, 1) := by decide +kernel
theorem d_192_23 : decode cX8_tighten 23 = .ok (.invokestatic 82, 3) := by decide +kernel
theorem d_192_26 : decode cX8_tighten 26 = .ok (.ifCond .ne 7, 3) := by decide +kernel
theorem d_192_29 : decode cX8_tighten 29 = .ok (.ldc2_w 290, 3) := by decide +kernel
theorem d_192_32 : decode cX8_tighten 32 = .ok (.lreturn, 1) := by decide +kernel
theorem d_192_33 : decode cX8_tighten 33 = .ok (.aload_n 0, 1) := by decide +kernel
theorem d_192_34 : decode cX8_tighten 34 = .ok (.invokevirtual 279, 3) := by decide +kernel
theorem d_192_37 : decode cX8_tighten 37 = .ok (.aload_n 0, 1) := by decide +kernel
theorem d_192_38 : decode cX8_tighten 38 = .ok (.iload_n 1, 1) := by decide +kernel
theorem d_192_39 : decode cX8_tighten 39 = .ok (.iconst 0, 1) := by decide +kernel
theorem d_192_40 : decode cX8_tighten 40 = .ok (.invokevirtual 333, 3) := by decide +kernel
theorem d_192_43 : decode cX8_tighten 43 = .ok (.aload_n 0, 1) := by decide +kernel
theorem d_192_44 : decode cX8_tighten 44 = .ok (.iconst 1, 1) := by decide +kernel
theorem d_192_45 : decode cX8_tighten 45 = .ok (.putfield 305, 3) := by decide +kernel
theorem d_192_48 : decode cX8_tighten 48 = .ok (.iconst 1, 1) := by decide +kernel
theorem d_192_49 : decode cX8_tighten 49 = .ok (.istore 4, 2) := by decide +kernel
theorem d_192_51 : decode cX8_tighten 51 = .ok (.iconst 0, 1) := by decide +kernel
theorem d_192_52 : decode cX8_tighten 52 = .ok (.istore 5, 2) := by decide +kernel
theorem d_192_54 : decode cX8_tighten 54 = .ok (.iload 5, 2) := by decide +kernel
theorem d_192_56 : decode cX8_tighten 56 = .ok (.iload_n 2, 1) := by decide +kernel
theorem d_192_57 : decode cX8_tighten 57 = .ok (.if_icmp .ge 101, 3) := by decide +kernel
theorem d_192_60 : decode cX8_tighten 60 = .ok (.iload 4, 2) := by decide +kernel
theorem d_192_62 : decode cX8_tighten 62 = .ok (.ifCond .eq 96, 3) := by decide +kernel
theorem d_192_65 : decode cX8_tighten 65 = .ok (.aload_n 0, 1) := by decide +kernel
theorem d_192_66 : decode cX8_tighten 66 = .ok (.iload_n 3, 1) := by decide +kernel
theorem d_192_67 : decode cX8_tighten 67 = .ok (.invokevirtual 336, 3) := by decide +kernel
theorem d_192_70 : decode cX8_tighten 70 = .ok (.istore 6, 2) := by decide +kernel
theorem d_192_72 : decode cX8_tighten 72 = .ok (.aload_n 0, 1) := by decide +kernel
theorem d_192_73 : decode cX8_tighten 73 = .ok (.iload 6, 2) := by decide +kernel
theorem d_192_75 : decode cX8_tighten 75 = .ok (.invokevirtual 308, 3) := by decide +kernel
theorem d_192_78 : decode cX8_tighten 78 = .ok (.aload_n 0, 1) := by decide +kernel
theorem d_192_79 : decode cX8_tighten 79 = .ok (.iload_n 1, 1) := by decide +kernel
theorem d_192_80 : decode cX8_tighten 80 = .ok (.invokevirtual 282, 3) := by decide +kernel
theorem d_192_83 : decode cX8_tighten 83 = .ok (.aload_n 0, 1) := by decide +kernel
theorem d_192_84 : decode cX8_tighten 84 = .ok (.invokevirtual 314, 3) := by decide +kernel
theorem d_192_87 : decode cX8_tighten 87 = .ok (.istore 7, 2) := by decide +kernel
theorem d_192_89 : decode cX8_tighten 89 = .ok (.iload 7, 2) := by decide +kernel
theorem d_192_91 : decode cX8_tighten 91 = .ok (.ifCond .lt 7, 3) := by decide +kernel
theorem d_192_94 : decode cX8_tighten 94 = .ok (.iconst 1, 1) := by decide +kernel
theorem d_192_95 : decode cX8_tighten 95 = .ok (.goto 4, 3) := by decide +kernel
theorem d_192_98 : decode cX8_tighten 98 = .ok (.iconst 0, 1) := by decide +kernel
theorem d_192_99 : decode cX8_tighten 99 = .ok (.istore 4, 2) := by decide +kernel
theorem d_192_101 : decode cX8_tighten 101 = .ok (.iload 4, 2) := by decide +kernel
theorem d_192_103 : decode cX8_tighten 103 = .ok (.ifCond .eq 49, 3) := by decide +kernel
theorem d_192_106 : decode cX8_tighten 106 = .ok (.aload_n 0, 1) := by decide +kernel
theorem d_192_107 : decode cX8_tighten 107 = .ok (.iload 7, 2) := by decide +kernel
theorem d_192_109 : decode cX8_tighten 109 = .ok (.iconst 0, 1) := by decide +kernel
theorem d_192_110 : decode cX8_tighten 110 = .ok (.invokevirtual 321, 3) := by decide +kernel
theorem d_192_113 : decode cX8_tighten 113 = .ok (.aload_n 0, 1) := by decide +kernel
theorem d_192_114 : decode cX8_tighten 114 = .ok (.iload_n 1, 1) := by decide +kernel
theorem d_192_115 : decode cX8_tighten 115 = .ok (.aload_n 0, 1) := by decide +kernel
theorem d_192_116 : decode cX8_tighten 116 = .ok (.getfield 305, 3) := by decide +kernel
theorem d_192_119 : decode cX8_tighten 119 = .ok (.invokevirtual 333, 3) := by decide +kernel
theorem d_192_122 : decode cX8_tighten 122 = .ok (.aload_n 0, 1) := by decide +kernel
theorem d_192_123 : decode cX8_tighten 123 = .ok (.iload 6, 2) := by decide +kernel
theorem d_192_125 : decode cX8_tighten 125 = .ok (.invokevirtual 308, 3) := by decide +kernel
theorem d_192_128 : decode cX8_tighten 128 = .ok (.aload_n 0, 1) := by decide +kernel
theorem d_192_129 : decode cX8_tighten 129 = .ok (.iload 7, 2) := by decide +kernel
theorem d_192_131 : decode cX8_tighten 131 = .ok (.iconst 1, 1) := by decide +kernel
theorem d_192_132 : decode cX8_tighten 132 = .ok (.invokevirtual 321, 3) := by decide +kernel
theorem d_192_135 : decode cX8_tighten 135 = .ok (.aload_n 0, 1) := by decide +kernel
theorem d_192_136 : decode cX8_tighten 136 = .ok (.iload_n 1, 1) := by decide +kernel
theorem d_192_137 : decode cX8_tighten 137 = .ok (.iload 6, 2) := by decide +kernel
theorem d_192_139 : decode cX8_tighten 139 = .ok (.invokevirtual 333, 3) := by decide +kernel
theorem d_192_142 : decode cX8_tighten 142 = .ok (.aload_n 0, 1) := by decide +kernel
theorem d_192_143 : decode cX8_tighten 143 = .ok (.dup, 1) := by decide +kernel
theorem d_192_144 : decode cX8_tighten 144 = .ok (.getfield 305, 3) := by decide +kernel
theorem d_192_147 : decode cX8_tighten 147 = .ok (.iconst 1, 1) := by decide +kernel
theorem d_192_148 : decode cX8_tighten 148 = .ok (.iadd, 1) := by decide +kernel
theorem d_192_149 : decode cX8_tighten 149 = .ok (.putfield 305, 3) := by decide +kernel
theorem d_192_152 : decode cX8_tighten 152 = .ok (.iinc 5 1, 3) := by decide +kernel
theorem d_192_155 : decode cX8_tighten 155 = .ok (.goto (-101), 3) := by decide +kernel
theorem d_192_158 : decode cX8_tighten 158 = .ok (.aload_n 0, 1) := by decide +kernel
theorem d_192_159 : decode cX8_tighten 159 = .ok (.iload_n 3, 1) := by decide +kernel
theorem d_192_160 : decode cX8_tighten 160 = .ok (.invokevirtual 336, 3) := by decide +kernel
theorem d_192_163 : decode cX8_tighten 163 = .ok (.istore 5, 2) := by decide +kernel
theorem d_192_165 : decode cX8_tighten 165 = .ok (.aload_n 0, 1) := by decide +kernel
theorem d_192_166 : decode cX8_tighten 166 = .ok (.getfield 63, 3) := by decide +kernel
theorem d_192_169 : decode cX8_tighten 169 = .ok (.iload 5, 2) := by decide +kernel
theorem d_192_171 : decode cX8_tighten 171 = .ok (.baload, 1) := by decide +kernel
theorem d_192_172 : decode cX8_tighten 172 = .ok (.ifCond .eq 9, 3) := by decide +kernel
theorem d_192_175 : decode cX8_tighten 175 = .ok (.ldc2_w 292, 3) := by decide +kernel
theorem d_192_178 : decode cX8_tighten 178 = .ok (.goto 24, 3) := by decide +kernel
theorem d_192_181 : decode cX8_tighten 181 = .ok (.iload_n 3, 1) := by decide +kernel
theorem d_192_182 : decode cX8_tighten 182 = .ok (.ifCond .ne 13, 3) := by decide +kernel
theorem d_192_185 : decode cX8_tighten 185 = .ok (.aload_n 0, 1) := by decide +kernel
theorem d_192_186 : decode cX8_tighten 186 = .ok (.getfield 66, 3) := by decide +kernel
theorem d_192_189 : decode cX8_tighten 189 = .ok (.iload 5, 2) := by decide +kernel
theorem d_192_191 : decode cX8_tighten 191 = .ok (.laload, 1) := by decide +kernel
theorem d_192_192 : decode cX8_tighten 192 = .ok (.goto 10, 3) := by decide +kernel
theorem d_192_195 : decode cX8_tighten 195 = .ok (.aload_n 0, 1) := by decide +kernel
theorem d_192_196 : decode cX8_tighten 196 = .ok (.getfield 69, 3) := by decide +kernel
theorem d_192_199 : decode cX8_tighten 199 = .ok (.iload 5, 2) := by decide +kernel
theorem d_192_201 : decode cX8_tighten 201 = .ok (.laload, 1) := by decide +kernel
theorem d_192_202 : decode cX8_tighten 202 = .ok (.lreturn, 1) := by decide +kernel
theorem q_192_0r : zRun 192 0 [some (.ref o), l1, l2, l3, l4, l5, l6, l7] S sh mi mj mr = zRun 192 1 [some (.ref o), l1, l2, l3, l4, l5, l6, l7] (.ref o :: S) sh mi mj mr := zr_l (zD_of zk_192 d_192_0 rfl rfl) rfl rfl rfl
theorem q_192_0n : zRun 192 0 [some (.null), l1, l2, l3, l4, l5, l6, l7] S sh mi mj mr = zRun 192 1 [some (.null), l1, l2, l3, l4, l5, l6, l7] (.null :: S) sh mi mj mr := zr_l (zD_of zk_192 d_192_0 rfl rfl) rfl rfl rfl
theorem q_192_1 : zRun 192 1 [l0, some (.int x), l2, l3, l4, l5, l6, l7] S sh mi mj mr = zRun 192 2 [l0, some (.int x), l2, l3, l4, l5, l6, l7] (.int x :: S) sh mi mj mr := zr_l (zD_of zk_192 d_192_1 rfl rfl) rfl rfl rfl
theorem q_192_2  {x0 : Int32} (hS : zcat S ≤ 8) (h : zIs sh o 0 8) : zRun 192 2 L (.int x0 :: .ref o :: S) sh mi mj mr = (zCall 113 [.ref o, .int x0] sh mi mj mr).bind fun r => zRun 192 5 L (r.1.toList ++ S) r.2.1 r.2.2.1 r.2.2.2.1 r.2.2.2.2 := zr_V (zD_of zk_192 d_192_2 rfl rfl) rfl zk_113 rfl rfl rfl hS h
theorem q_192_5  : zRun 192 5 L (.int x :: S) sh mi mj mr = if ¬ x = 0 then zRun 192 12 L S sh mi mj mr else zRun 192 8 L S sh mi mj mr := zr_if (off := 7) (P := ¬ x = 0) (zD_of zk_192 d_192_5 rfl rfl) rfl rfl (by decide)
theorem q_192_8  : zRun 192 8 L S sh mi mj mr = zRun 192 11 L (.long (-1000000000000000001) :: S) sh mi mj mr := zr_k64 (zD_of zk_192 d_192_8 rfl rfl) rfl
theorem q_192_11  : zRun 192 11 L ([.long u]) sh mi mj mr = some (some (.long u), sh, mi, mj, mr) := zr_ret (zD_of zk_192 d_192_11 rfl rfl) rfl rfl rfl rfl rfl rfl
theorem q_192_12 : zRun 192 12 [l0, l1, some (.int x), l3, l4, l5, l6, l7] S sh mi mj mr = zRun 192 13 [l0, l1, some (.int x), l3, l4, l5, l6, l7] (.int x :: S) sh mi mj mr := zr_l (zD_of zk_192 d_192_12 rfl rfl) rfl rfl rfl
theorem q_192_13  : zRun 192 13 L S sh mi mj mr = zRun 192 14 L (.int 0 :: S) sh mi mj mr := zr_p (zD_of zk_192 d_192_13 rfl rfl) rfl
theorem q_192_14  : zRun 192 14 L S sh mi mj mr = zRun 192 16 L (.int 100 :: S) sh mi mj mr := zr_p (zD_of zk_192 d_192_14 rfl rfl) rfl
theorem q_192_16  {x0 x1 x2 : Int32} (hS : zcat S ≤ 8) : zRun 192 16 L (.int x2 :: .int x1 :: .int x0 :: S) sh mi mj mr = (zCall 111 [.int x0, .int x1, .int x2] sh mi mj mr).bind fun r => zRun 192 19 L (r.1.toList ++ S) r.2.1 r.2.2.1 r.2.2.2.1 r.2.2.2.2 := zr_S (zD_of zk_192 d_192_16 rfl rfl) rfl zk_111 rfl rfl rfl hS
theorem q_192_19  : zRun 192 19 L (.int x :: S) sh mi mj mr = if x = 0 then zRun 192 29 L S sh mi mj mr else zRun 192 22 L S sh mi mj mr := zr_if (off := 10) (P := x = 0) (zD_of zk_192 d_192_19 rfl rfl) rfl rfl (by decide)
theorem q_192_22 : zRun 192 22 [l0, l1, l2, some (.int x), l4, l5, l6, l7] S sh mi mj mr = zRun 192 23 [l0, l1, l2, some (.int x), l4, l5, l6, l7] (.int x :: S) sh mi mj mr := zr_l (zD_of zk_192 d_192_22 rfl rfl) rfl rfl rfl
theorem q_192_23  {x0 : Int32} (hS : zcat S ≤ 8) : zRun 192 23 L (.int x0 :: S) sh mi mj mr = (zCall 114 [.int x0] sh mi mj mr).bind fun r => zRun 192 26 L (r.1.toList ++ S) r.2.1 r.2.2.1 r.2.2.2.1 r.2.2.2.2 := zr_S (zD_of zk_192 d_192_23 rfl rfl) rfl zk_114 rfl rfl rfl hS
theorem q_192_26  : zRun 192 26 L (.int x :: S) sh mi mj mr = if ¬ x = 0 then zRun 192 33 L S sh mi mj mr else zRun 192 29 L S sh mi mj mr := zr_if (off := 7) (P := ¬ x = 0) (zD_of zk_192 d_192_26 rfl rfl) rfl rfl (by decide)
theorem q_192_29  : zRun 192 29 L S sh mi mj mr = zRun 192 32 L (.long (-1000000000000000002) :: S) sh mi mj mr := zr_k64 (zD_of zk_192 d_192_29 rfl rfl) rfl
theorem q_192_32  : zRun 192 32 L ([.long u]) sh mi mj mr = some (some (.long u), sh, mi, mj, mr) := zr_ret (zD_of zk_192 d_192_32 rfl rfl) rfl rfl rfl rfl rfl rfl
theorem q_192_33r : zRun 192 33 [some (.ref o), l1, l2, l3, l4, l5, l6, l7] S sh mi mj mr = zRun 192 34 [some (.ref o), l1, l2, l3, l4, l5, l6, l7] (.ref o :: S) sh mi mj mr := zr_l (zD_of zk_192 d_192_33 rfl rfl) rfl rfl rfl
theorem q_192_33n : zRun 192 33 [some (.null), l1, l2, l3, l4, l5, l6, l7] S sh mi mj mr = zRun 192 34 [some (.null), l1, l2, l3, l4, l5, l6, l7] (.null :: S) sh mi mj mr := zr_l (zD_of zk_192 d_192_33 rfl rfl) rfl rfl rfl
theorem q_192_34  (hS : zcat S ≤ 8) (h : zIs sh o 0 8) : zRun 192 34 L (.ref o :: S) sh mi mj mr = (zCall 163 [.ref o] sh mi mj mr).bind fun r => zRun 192 37 L (r.1.toList ++ S) r.2.1 r.2.2.1 r.2.2.2.1 r.2.2.2.2 := zr_V (zD_of zk_192 d_192_34 rfl rfl) rfl zk_163 rfl rfl rfl hS h
theorem q_192_37r : zRun 192 37 [some (.ref o), l1, l2, l3, l4, l5, l6, l7] S sh mi mj mr = zRun 192 38 [some (.ref o), l1, l2, l3, l4, l5, l6, l7] (.ref o :: S) sh mi mj mr := zr_l (zD_of zk_192 d_192_37 rfl rfl) rfl rfl rfl
theorem q_192_37n : zRun 192 37 [some (.null), l1, l2, l3, l4, l5, l6, l7] S sh mi mj mr = zRun 192 38 [some (.null), l1, l2, l3, l4, l5, l6, l7] (.null :: S) sh mi mj mr := zr_l (zD_of zk_192 d_192_37 rfl rfl) rfl rfl rfl
theorem q_192_38 : zRun 192 38 [l0, some (.int x), l2, l3, l4, l5, l6, l7] S sh mi mj mr = zRun 192 39 [l0, some (.int x), l2, l3, l4, l5, l6, l7] (.int x :: S) sh mi mj mr := zr_l (zD_of zk_192 d_192_38 rfl rfl) rfl rfl rfl
theorem q_192_39  : zRun 192 39 L S sh mi mj mr = zRun 192 40 L (.int 0 :: S) sh mi mj mr := zr_p (zD_of zk_192 d_192_39 rfl rfl) rfl
theorem q_192_40  {x0 x1 : Int32} (hS : zcat S ≤ 8) (h : zIs sh o 0 8) : zRun 192 40 L (.int x1 :: .int x0 :: .ref o :: S) sh mi mj mr = (zCall 190 [.ref o, .int x0, .int x1] sh mi mj mr).bind fun r => zRun 192 43 L (r.1.toList ++ S) r.2.1 r.2.2.1 r.2.2.2.1 r.2.2.2.2 := zr_V (zD_of zk_192 d_192_40 rfl rfl) rfl zk_190 rfl rfl rfl hS h
theorem q_192_43r : zRun 192 43 [some (.ref o), l1, l2, l3, l4, l5, l6, l7] S sh mi mj mr = zRun 192 44 [some (.ref o), l1, l2, l3, l4, l5, l6, l7] (.ref o :: S) sh mi mj mr := zr_l (zD_of zk_192 d_192_43 rfl rfl) rfl rfl rfl
theorem q_192_43n : zRun 192 43 [some (.null), l1, l2, l3, l4, l5, l6, l7] S sh mi mj mr = zRun 192 44 [some (.null), l1, l2, l3, l4, l5, l6, l7] (.null :: S) sh mi mj mr := zr_l (zD_of zk_192 d_192_43 rfl rfl) rfl rfl rfl
theorem q_192_44  : zRun 192 44 L S sh mi mj mr = zRun 192 45 L (.int 1 :: S) sh mi mj mr := zr_p (zD_of zk_192 d_192_44 rfl rfl) rfl
theorem q_192_45 (h : zIs sh o 0 8) : zRun 192 45 L (.int x :: .ref o :: S) sh mi mj mr = zRun 192 48 L S sh (zup mi o 22 x) mj mr := zr_putI (zD_of zk_192 d_192_45 rfl rfl) rfl rfl rfl (Or.inl rfl) h
theorem q_192_48  : zRun 192 48 L S sh mi mj mr = zRun 192 49 L (.int 1 :: S) sh mi mj mr := zr_p (zD_of zk_192 d_192_48 rfl rfl) rfl
theorem q_192_49 : zRun 192 49 [l0, l1, l2, l3, l4, l5, l6, l7] (.int x :: S) sh mi mj mr = zRun 192 51 [l0, l1, l2, zk2 l3, some (.int x), l5, l6, l7] S sh mi mj mr := zr_s1 (i := 4) (v := .int x) (L := [l0, l1, l2, l3, l4, l5, l6, l7]) (zD_of zk_192 d_192_49 rfl rfl) rfl rfl rfl rfl
theorem q_192_51  : zRun 192 51 L S sh mi mj mr = zRun 192 52 L (.int 0 :: S) sh mi mj mr := zr_p (zD_of zk_192 d_192_51 rfl rfl) rfl
theorem q_192_52 : zRun 192 52 [l0, l1, l2, l3, l4, l5, l6, l7] (.int x :: S) sh mi mj mr = zRun 192 54 [l0, l1, l2, l3, zk2 l4, some (.int x), l6, l7] S sh mi mj mr := zr_s1 (i := 5) (v := .int x) (L := [l0, l1, l2, l3, l4, l5, l6, l7]) (zD_of zk_192 d_192_52 rfl rfl) rfl rfl rfl rfl
theorem q_192_54 : zRun 192 54 [l0, l1, l2, l3, l4, some (.int x), l6, l7] S sh mi mj mr = zRun 192 56 [l0, l1, l2, l3, l4, some (.int x), l6, l7] (.int x :: S) sh mi mj mr := zr_l (zD_of zk_192 d_192_54 rfl rfl) rfl rfl rfl
theorem q_192_56 : zRun 192 56 [l0, l1, some (.int x), l3, l4, l5, l6, l7] S sh mi mj mr = zRun 192 57 [l0, l1, some (.int x), l3, l4, l5, l6, l7] (.int x :: S) sh mi mj mr := zr_l (zD_of zk_192 d_192_56 rfl rfl) rfl rfl rfl
theorem q_192_57  : zRun 192 57 L (.int y :: .int x :: S) sh mi mj mr = if y ≤ x then zRun 192 158 L S sh mi mj mr else zRun 192 60 L S sh mi mj mr := zr_if (off := 101) (P := y ≤ x) (zD_of zk_192 d_192_57 rfl rfl) rfl rfl (by decide)
theorem q_192_60 : zRun 192 60 [l0, l1, l2, l3, some (.int x), l5, l6, l7] S sh mi mj mr = zRun 192 62 [l0, l1, l2, l3, some (.int x), l5, l6, l7] (.int x :: S) sh mi mj mr := zr_l (zD_of zk_192 d_192_60 rfl rfl) rfl rfl rfl
theorem q_192_62  : zRun 192 62 L (.int x :: S) sh mi mj mr = if x = 0 then zRun 192 158 L S sh mi mj mr else zRun 192 65 L S sh mi mj mr := zr_if (off := 96) (P := x = 0) (zD_of zk_192 d_192_62 rfl rfl) rfl rfl (by decide)
theorem q_192_65r : zRun 192 65 [some (.ref o), l1, l2, l3, l4, l5, l6, l7] S sh mi mj mr = zRun 192 66 [some (.ref o), l1, l2, l3, l4, l5, l6, l7] (.ref o :: S) sh mi mj mr := zr_l (zD_of zk_192 d_192_65 rfl rfl) rfl rfl rfl
theorem q_192_65n : zRun 192 65 [some (.null), l1, l2, l3, l4, l5, l6, l7] S sh mi mj mr = zRun 192 66 [some (.null), l1, l2, l3, l4, l5, l6, l7] (.null :: S) sh mi mj mr := zr_l (zD_of zk_192 d_192_65 rfl rfl) rfl rfl rfl
theorem q_192_66 : zRun 192 66 [l0, l1, l2, some (.int x), l4, l5, l6, l7] S sh mi mj mr = zRun 192 67 [l0, l1, l2, some (.int x), l4, l5, l6, l7] (.int x :: S) sh mi mj mr := zr_l (zD_of zk_192 d_192_66 rfl rfl) rfl rfl rfl
theorem q_192_67  {x0 : Int32} (hS : zcat S ≤ 8) (h : zIs sh o 0 8) : zRun 192 67 L (.int x0 :: .ref o :: S) sh mi mj mr = (zCall 191 [.ref o, .int x0] sh mi mj mr).bind fun r => zRun 192 70 L (r.1.toList ++ S) r.2.1 r.2.2.1 r.2.2.2.1 r.2.2.2.2 := zr_V (zD_of zk_192 d_192_67 rfl rfl) rfl zk_191 rfl rfl rfl hS h
theorem q_192_70 : zRun 192 70 [l0, l1, l2, l3, l4, l5, l6, l7] (.int x :: S) sh mi mj mr = zRun 192 72 [l0, l1, l2, l3, l4, zk2 l5, some (.int x), l7] S sh mi mj mr := zr_s1 (i := 6) (v := .int x) (L := [l0, l1, l2, l3, l4, l5, l6, l7]) (zD_of zk_192 d_192_70 rfl rfl) rfl rfl rfl rfl
theorem q_192_72r : zRun 192 72 [some (.ref o), l1, l2, l3, l4, l5, l6, l7] S sh mi mj mr = zRun 192 73 [some (.ref o), l1, l2, l3, l4, l5, l6, l7] (.ref o :: S) sh mi mj mr := zr_l (zD_of zk_192 d_192_72 rfl rfl) rfl rfl rfl
theorem q_192_72n : zRun 192 72 [some (.null), l1, l2, l3, l4, l5, l6, l7] S sh mi mj mr = zRun 192 73 [some (.null), l1, l2, l3, l4, l5, l6, l7] (.null :: S) sh mi mj mr := zr_l (zD_of zk_192 d_192_72 rfl rfl) rfl rfl rfl
theorem q_192_73 : zRun 192 73 [l0, l1, l2, l3, l4, l5, some (.int x), l7] S sh mi mj mr = zRun 192 75 [l0, l1, l2, l3, l4, l5, some (.int x), l7] (.int x :: S) sh mi mj mr := zr_l (zD_of zk_192 d_192_73 rfl rfl) rfl rfl rfl
theorem q_192_75  {x0 : Int32} (hS : zcat S ≤ 8) (h : zIs sh o 0 8) : zRun 192 75 L (.int x0 :: .ref o :: S) sh mi mj mr = (zCall 181 [.ref o, .int x0] sh mi mj mr).bind fun r => zRun 192 78 L (r.1.toList ++ S) r.2.1 r.2.2.1 r.2.2.2.1 r.2.2.2.2 := zr_V (zD_of zk_192 d_192_75 rfl rfl) rfl zk_181 rfl rfl rfl hS h
theorem q_192_78r : zRun 192 78 [some (.ref o), l1, l2, l3, l4, l5, l6, l7] S sh mi mj mr = zRun 192 79 [some (.ref o), l1, l2, l3, l4, l5, l6, l7] (.ref o :: S) sh mi mj mr := zr_l (zD_of zk_192 d_192_78 rfl rfl) rfl rfl rfl
theorem q_192_78n : zRun 192 78 [some (.null), l1, l2, l3, l4, l5, l6, l7] S sh mi mj mr = zRun 192 79 [some (.null), l1, l2, l3, l4, l5, l6, l7] (.null :: S) sh mi mj mr := zr_l (zD_of zk_192 d_192_78 rfl rfl) rfl rfl rfl
theorem q_192_79 : zRun 192 79 [l0, some (.int x), l2, l3, l4, l5, l6, l7] S sh mi mj mr = zRun 192 80 [l0, some (.int x), l2, l3, l4, l5, l6, l7] (.int x :: S) sh mi mj mr := zr_l (zD_of zk_192 d_192_79 rfl rfl) rfl rfl rfl
theorem q_192_80  {x0 : Int32} (hS : zcat S ≤ 8) (h : zIs sh o 0 8) : zRun 192 80 L (.int x0 :: .ref o :: S) sh mi mj mr = (zCall 170 [.ref o, .int x0] sh mi mj mr).bind fun r => zRun 192 83 L (r.1.toList ++ S) r.2.1 r.2.2.1 r.2.2.2.1 r.2.2.2.2 := zr_V (zD_of zk_192 d_192_80 rfl rfl) rfl zk_170 rfl rfl rfl hS h
theorem q_192_83r : zRun 192 83 [some (.ref o), l1, l2, l3, l4, l5, l6, l7] S sh mi mj mr = zRun 192 84 [some (.ref o), l1, l2, l3, l4, l5, l6, l7] (.ref o :: S) sh mi mj mr := zr_l (zD_of zk_192 d_192_83 rfl rfl) rfl rfl rfl
theorem q_192_83n : zRun 192 83 [some (.null), l1, l2, l3, l4, l5, l6, l7] S sh mi mj mr = zRun 192 84 [some (.null), l1, l2, l3, l4, l5, l6, l7] (.null :: S) sh mi mj mr := zr_l (zD_of zk_192 d_192_83 rfl rfl) rfl rfl rfl
theorem q_192_84  (hS : zcat S ≤ 8) (h : zIs sh o 0 8) : zRun 192 84 L (.ref o :: S) sh mi mj mr = (zCall 182 [.ref o] sh mi mj mr).bind fun r => zRun 192 87 L (r.1.toList ++ S) r.2.1 r.2.2.1 r.2.2.2.1 r.2.2.2.2 := zr_V (zD_of zk_192 d_192_84 rfl rfl) rfl zk_182 rfl rfl rfl hS h
theorem q_192_87 : zRun 192 87 [l0, l1, l2, l3, l4, l5, l6, l7] (.int x :: S) sh mi mj mr = zRun 192 89 [l0, l1, l2, l3, l4, l5, zk2 l6, some (.int x)] S sh mi mj mr := zr_s1 (i := 7) (v := .int x) (L := [l0, l1, l2, l3, l4, l5, l6, l7]) (zD_of zk_192 d_192_87 rfl rfl) rfl rfl rfl rfl
theorem q_192_89 : zRun 192 89 [l0, l1, l2, l3, l4, l5, l6, some (.int x)] S sh mi mj mr = zRun 192 91 [l0, l1, l2, l3, l4, l5, l6, some (.int x)] (.int x :: S) sh mi mj mr := zr_l (zD_of zk_192 d_192_89 rfl rfl) rfl rfl rfl
theorem q_192_91  : zRun 192 91 L (.int x :: S) sh mi mj mr = if x < 0 then zRun 192 98 L S sh mi mj mr else zRun 192 94 L S sh mi mj mr := zr_if (off := 7) (P := x < 0) (zD_of zk_192 d_192_91 rfl rfl) rfl rfl (by decide)
theorem q_192_94  : zRun 192 94 L S sh mi mj mr = zRun 192 95 L (.int 1 :: S) sh mi mj mr := zr_p (zD_of zk_192 d_192_94 rfl rfl) rfl
theorem q_192_95  : zRun 192 95 L S sh mi mj mr = zRun 192 99 L S sh mi mj mr := zr_go (off := 4) (zD_of zk_192 d_192_95 rfl rfl) rfl rfl (by decide)
theorem q_192_98  : zRun 192 98 L S sh mi mj mr = zRun 192 99 L (.int 0 :: S) sh mi mj mr := zr_p (zD_of zk_192 d_192_98 rfl rfl) rfl
theorem q_192_99 : zRun 192 99 [l0, l1, l2, l3, l4, l5, l6, l7] (.int x :: S) sh mi mj mr = zRun 192 101 [l0, l1, l2, zk2 l3, some (.int x), l5, l6, l7] S sh mi mj mr := zr_s1 (i := 4) (v := .int x) (L := [l0, l1, l2, l3, l4, l5, l6, l7]) (zD_of zk_192 d_192_99 rfl rfl) rfl rfl rfl rfl
theorem q_192_101 : zRun 192 101 [l0, l1, l2, l3, some (.int x), l5, l6, l7] S sh mi mj mr = zRun 192 103 [l0, l1, l2, l3, some (.int x), l5, l6, l7] (.int x :: S) sh mi mj mr := zr_l (zD_of zk_192 d_192_101 rfl rfl) rfl rfl rfl
theorem q_192_103  : zRun 192 103 L (.int x :: S) sh mi mj mr = if x = 0 then zRun 192 152 L S sh mi mj mr else zRun 192 106 L S sh mi mj mr := zr_if (off := 49) (P := x = 0) (zD_of zk_192 d_192_103 rfl rfl) rfl rfl (by decide)
theorem q_192_106r : zRun 192 106 [some (.ref o), l1, l2, l3, l4, l5, l6, l7] S sh mi mj mr = zRun 192 107 [some (.ref o), l1, l2, l3, l4, l5, l6, l7] (.ref o :: S) sh mi mj mr := zr_l (zD_of zk_192 d_192_106 rfl rfl) rfl rfl rfl
theorem q_192_106n : zRun 192 106 [some (.null), l1, l2, l3, l4, l5, l6, l7] S sh mi mj mr = zRun 192 107 [some (.null), l1, l2, l3, l4, l5, l6, l7] (.null :: S) sh mi mj mr := zr_l (zD_of zk_192 d_192_106 rfl rfl) rfl rfl rfl
theorem q_192_107 : zRun 192 107 [l0, l1, l2, l3, l4, l5, l6, some (.int x)] S sh mi mj mr = zRun 192 109 [l0, l1, l2, l3, l4, l5, l6, some (.int x)] (.int x :: S) sh mi mj mr := zr_l (zD_of zk_192 d_192_107 rfl rfl) rfl rfl rfl
theorem q_192_109  : zRun 192 109 L S sh mi mj mr = zRun 192 110 L (.int 0 :: S) sh mi mj mr := zr_p (zD_of zk_192 d_192_109 rfl rfl) rfl
theorem q_192_110  {x0 x1 : Int32} (hS : zcat S ≤ 8) (h : zIs sh o 0 8) : zRun 192 110 L (.int x1 :: .int x0 :: .ref o :: S) sh mi mj mr = (zCall 183 [.ref o, .int x0, .int x1] sh mi mj mr).bind fun r => zRun 192 113 L (r.1.toList ++ S) r.2.1 r.2.2.1 r.2.2.2.1 r.2.2.2.2 := zr_V (zD_of zk_192 d_192_110 rfl rfl) rfl zk_183 rfl rfl rfl hS h
theorem q_192_113r : zRun 192 113 [some (.ref o), l1, l2, l3, l4, l5, l6, l7] S sh mi mj mr = zRun 192 114 [some (.ref o), l1, l2, l3, l4, l5, l6, l7] (.ref o :: S) sh mi mj mr := zr_l (zD_of zk_192 d_192_113 rfl rfl) rfl rfl rfl
theorem q_192_113n : zRun 192 113 [some (.null), l1, l2, l3, l4, l5, l6, l7] S sh mi mj mr = zRun 192 114 [some (.null), l1, l2, l3, l4, l5, l6, l7] (.null :: S) sh mi mj mr := zr_l (zD_of zk_192 d_192_113 rfl rfl) rfl rfl rfl
theorem q_192_114 : zRun 192 114 [l0, some (.int x), l2, l3, l4, l5, l6, l7] S sh mi mj mr = zRun 192 115 [l0, some (.int x), l2, l3, l4, l5, l6, l7] (.int x :: S) sh mi mj mr := zr_l (zD_of zk_192 d_192_114 rfl rfl) rfl rfl rfl
theorem q_192_115r : zRun 192 115 [some (.ref o), l1, l2, l3, l4, l5, l6, l7] S sh mi mj mr = zRun 192 116 [some (.ref o), l1, l2, l3, l4, l5, l6, l7] (.ref o :: S) sh mi mj mr := zr_l (zD_of zk_192 d_192_115 rfl rfl) rfl rfl rfl
theorem q_192_115n : zRun 192 115 [some (.null), l1, l2, l3, l4, l5, l6, l7] S sh mi mj mr = zRun 192 116 [some (.null), l1, l2, l3, l4, l5, l6, l7] (.null :: S) sh mi mj mr := zr_l (zD_of zk_192 d_192_115 rfl rfl) rfl rfl rfl
theorem q_192_116 (h : zIs sh o 0 8) : zRun 192 116 L (.ref o :: S) sh mi mj mr = zRun 192 119 L (.int (mi o 22) :: S) sh mi mj mr := zr_getI (zD_of zk_192 d_192_116 rfl rfl) rfl rfl (Or.inl rfl) h
theorem q_192_119  {x0 x1 : Int32} (hS : zcat S ≤ 8) (h : zIs sh o 0 8) : zRun 192 119 L (.int x1 :: .int x0 :: .ref o :: S) sh mi mj mr = (zCall 190 [.ref o, .int x0, .int x1] sh mi mj mr).bind fun r => zRun 192 122 L (r.1.toList ++ S) r.2.1 r.2.2.1 r.2.2.2.1 r.2.2.2.2 := zr_V (zD_of zk_192 d_192_119 rfl rfl) rfl zk_190 rfl rfl rfl hS h
theorem q_192_122r : zRun 192 122 [some (.ref o), l1, l2, l3, l4, l5, l6, l7] S sh mi mj mr = zRun 192 123 [some (.ref o), l1, l2, l3, l4, l5, l6, l7] (.ref o :: S) sh mi mj mr := zr_l (zD_of zk_192 d_192_122 rfl rfl) rfl rfl rfl
theorem q_192_122n : zRun 192 122 [some (.null), l1, l2, l3, l4, l5, l6, l7] S sh mi mj mr = zRun 192 123 [some (.null), l1, l2, l3, l4, l5, l6, l7] (.null :: S) sh mi mj mr := zr_l (zD_of zk_192 d_192_122 rfl rfl) rfl rfl rfl
theorem q_192_123 : zRun 192 123 [l0, l1, l2, l3, l4, l5, some (.int x), l7] S sh mi mj mr = zRun 192 125 [l0, l1, l2, l3, l4, l5, some (.int x), l7] (.int x :: S) sh mi mj mr := zr_l (zD_of zk_192 d_192_123 rfl rfl) rfl rfl rfl
theorem q_192_125  {x0 : Int32} (hS : zcat S ≤ 8) (h : zIs sh o 0 8) : zRun 192 125 L (.int x0 :: .ref o :: S) sh mi mj mr = (zCall 181 [.ref o, .int x0] sh mi mj mr).bind fun r => zRun 192 128 L (r.1.toList ++ S) r.2.1 r.2.2.1 r.2.2.2.1 r.2.2.2.2 := zr_V (zD_of zk_192 d_192_125 rfl rfl) rfl zk_181 rfl rfl rfl hS h
theorem q_192_128r : zRun 192 128 [some (.ref o), l1, l2, l3, l4, l5, l6, l7] S sh mi mj mr = zRun 192 129 [some (.ref o), l1, l2, l3, l4, l5, l6, l7] (.ref o :: S) sh mi mj mr := zr_l (zD_of zk_192 d_192_128 rfl rfl) rfl rfl rfl
theorem q_192_128n : zRun 192 128 [some (.null), l1, l2, l3, l4, l5, l6, l7] S sh mi mj mr = zRun 192 129 [some (.null), l1, l2, l3, l4, l5, l6, l7] (.null :: S) sh mi mj mr := zr_l (zD_of zk_192 d_192_128 rfl rfl) rfl rfl rfl
theorem q_192_129 : zRun 192 129 [l0, l1, l2, l3, l4, l5, l6, some (.int x)] S sh mi mj mr = zRun 192 131 [l0, l1, l2, l3, l4, l5, l6, some (.int x)] (.int x :: S) sh mi mj mr := zr_l (zD_of zk_192 d_192_129 rfl rfl) rfl rfl rfl
theorem q_192_131  : zRun 192 131 L S sh mi mj mr = zRun 192 132 L (.int 1 :: S) sh mi mj mr := zr_p (zD_of zk_192 d_192_131 rfl rfl) rfl
theorem q_192_132  {x0 x1 : Int32} (hS : zcat S ≤ 8) (h : zIs sh o 0 8) : zRun 192 132 L (.int x1 :: .int x0 :: .ref o :: S) sh mi mj mr = (zCall 183 [.ref o, .int x0, .int x1] sh mi mj mr).bind fun r => zRun 192 135 L (r.1.toList ++ S) r.2.1 r.2.2.1 r.2.2.2.1 r.2.2.2.2 := zr_V (zD_of zk_192 d_192_132 rfl rfl) rfl zk_183 rfl rfl rfl hS h
theorem q_192_135r : zRun 192 135 [some (.ref o), l1, l2, l3, l4, l5, l6, l7] S sh mi mj mr = zRun 192 136 [some (.ref o), l1, l2, l3, l4, l5, l6, l7] (.ref o :: S) sh mi mj mr := zr_l (zD_of zk_192 d_192_135 rfl rfl) rfl rfl rfl
theorem q_192_135n : zRun 192 135 [some (.null), l1, l2, l3, l4, l5, l6, l7] S sh mi mj mr = zRun 192 136 [some (.null), l1, l2, l3, l4, l5, l6, l7] (.null :: S) sh mi mj mr := zr_l (zD_of zk_192 d_192_135 rfl rfl) rfl rfl rfl
theorem q_192_136 : zRun 192 136 [l0, some (.int x), l2, l3, l4, l5, l6, l7] S sh mi mj mr = zRun 192 137 [l0, some (.int x), l2, l3, l4, l5, l6, l7] (.int x :: S) sh mi mj mr := zr_l (zD_of zk_192 d_192_136 rfl rfl) rfl rfl rfl
theorem q_192_137 : zRun 192 137 [l0, l1, l2, l3, l4, l5, some (.int x), l7] S sh mi mj mr = zRun 192 139 [l0, l1, l2, l3, l4, l5, some (.int x), l7] (.int x :: S) sh mi mj mr := zr_l (zD_of zk_192 d_192_137 rfl rfl) rfl rfl rfl
theorem q_192_139  {x0 x1 : Int32} (hS : zcat S ≤ 8) (h : zIs sh o 0 8) : zRun 192 139 L (.int x1 :: .int x0 :: .ref o :: S) sh mi mj mr = (zCall 190 [.ref o, .int x0, .int x1] sh mi mj mr).bind fun r => zRun 192 142 L (r.1.toList ++ S) r.2.1 r.2.2.1 r.2.2.2.1 r.2.2.2.2 := zr_V (zD_of zk_192 d_192_139 rfl rfl) rfl zk_190 rfl rfl rfl hS h
theorem q_192_142r : zRun 192 142 [some (.ref o), l1, l2, l3, l4, l5, l6, l7] S sh mi mj mr = zRun 192 143 [some (.ref o), l1, l2, l3, l4, l5, l6, l7] (.ref o :: S) sh mi mj mr := zr_l (zD_of zk_192 d_192_142 rfl rfl) rfl rfl rfl
theorem q_192_142n : zRun 192 142 [some (.null), l1, l2, l3, l4, l5, l6, l7] S sh mi mj mr = zRun 192 143 [some (.null), l1, l2, l3, l4, l5, l6, l7] (.null :: S) sh mi mj mr := zr_l (zD_of zk_192 d_192_142 rfl rfl) rfl rfl rfl
theorem q_192_143r : zRun 192 143 L (.ref o :: S) sh mi mj mr = zRun 192 144 L (.ref o :: .ref o :: S) sh mi mj mr := zr_p (zD_of zk_192 d_192_143 rfl rfl) rfl
theorem q_192_143i : zRun 192 143 L (.int x :: S) sh mi mj mr = zRun 192 144 L (.int x :: .int x :: S) sh mi mj mr := zr_p (zD_of zk_192 d_192_143 rfl rfl) rfl
theorem q_192_144 (h : zIs sh o 0 8) : zRun 192 144 L (.ref o :: S) sh mi mj mr = zRun 192 147 L (.int (mi o 22) :: S) sh mi mj mr := zr_getI (zD_of zk_192 d_192_144 rfl rfl) rfl rfl (Or.inl rfl) h
theorem q_192_147  : zRun 192 147 L S sh mi mj mr = zRun 192 148 L (.int 1 :: S) sh mi mj mr := zr_p (zD_of zk_192 d_192_147 rfl rfl) rfl
theorem q_192_148  : zRun 192 148 L (.int y :: .int x :: S) sh mi mj mr = zRun 192 149 L (.int (x + y) :: S) sh mi mj mr := zr_p (zD_of zk_192 d_192_148 rfl rfl) rfl
theorem q_192_149 (h : zIs sh o 0 8) : zRun 192 149 L (.int x :: .ref o :: S) sh mi mj mr = zRun 192 152 L S sh (zup mi o 22 x) mj mr := zr_putI (zD_of zk_192 d_192_149 rfl rfl) rfl rfl rfl (Or.inl rfl) h
theorem q_192_152  : zRun 192 152 [l0, l1, l2, l3, l4, some (.int x), l6, l7] S sh mi mj mr = zRun 192 155 [l0, l1, l2, l3, zk2 l4, some (.int (x + 1)), l6, l7] S sh mi mj mr := zr_s1 (i := 5) (v := .int (x + 1)) (L := [l0, l1, l2, l3, l4, some (.int x), l6, l7]) (zD_of zk_192 d_192_152 rfl rfl) rfl rfl rfl rfl
theorem q_192_155  : zRun 192 155 L S sh mi mj mr = zRun 192 54 L S sh mi mj mr := zr_go (off := (-101)) (zD_of zk_192 d_192_155 rfl rfl) rfl rfl (by decide)
theorem q_192_158r : zRun 192 158 [some (.ref o), l1, l2, l3, l4, l5, l6, l7] S sh mi mj mr = zRun 192 159 [some (.ref o), l1, l2, l3, l4, l5, l6, l7] (.ref o :: S) sh mi mj mr := zr_l (zD_of zk_192 d_192_158 rfl rfl) rfl rfl rfl
theorem q_192_158n : zRun 192 158 [some (.null), l1, l2, l3, l4, l5, l6, l7] S sh mi mj mr = zRun 192 159 [some (.null), l1, l2, l3, l4, l5, l6, l7] (.null :: S) sh mi mj mr := zr_l (zD_of zk_192 d_192_158 rfl rfl) rfl rfl rfl
theorem q_192_159 : zRun 192 159 [l0, l1, l2, some (.int x), l4, l5, l6, l7] S sh mi mj mr = zRun 192 160 [l0, l1, l2, some (.int x), l4, l5, l6, l7] (.int x :: S) sh mi mj mr := zr_l (zD_of zk_192 d_192_159 rfl rfl) rfl rfl rfl
theorem q_192_160  {x0 : Int32} (hS : zcat S ≤ 8) (h : zIs sh o 0 8) : zRun 192 160 L (.int x0 :: .ref o :: S) sh mi mj mr = (zCall 191 [.ref o, .int x0] sh mi mj mr).bind fun r => zRun 192 163 L (r.1.toList ++ S) r.2.1 r.2.2.1 r.2.2.2.1 r.2.2.2.2 := zr_V (zD_of zk_192 d_192_160 rfl rfl) rfl zk_191 rfl rfl rfl hS h
theorem q_192_163 : zRun 192 163 [l0, l1, l2, l3, l4, l5, l6, l7] (.int x :: S) sh mi mj mr = zRun 192 165 [l0, l1, l2, l3, zk2 l4, some (.int x), l6, l7] S sh mi mj mr := zr_s1 (i := 5) (v := .int x) (L := [l0, l1, l2, l3, l4, l5, l6, l7]) (zD_of zk_192 d_192_163 rfl rfl) rfl rfl rfl rfl
theorem q_192_165r : zRun 192 165 [some (.ref o), l1, l2, l3, l4, l5, l6, l7] S sh mi mj mr = zRun 192 166 [some (.ref o), l1, l2, l3, l4, l5, l6, l7] (.ref o :: S) sh mi mj mr := zr_l (zD_of zk_192 d_192_165 rfl rfl) rfl rfl rfl
theorem q_192_165n : zRun 192 165 [some (.null), l1, l2, l3, l4, l5, l6, l7] S sh mi mj mr = zRun 192 166 [some (.null), l1, l2, l3, l4, l5, l6, l7] (.null :: S) sh mi mj mr := zr_l (zD_of zk_192 d_192_165 rfl rfl) rfl rfl rfl
theorem q_192_166 (h : zIs sh o 0 8) : zRun 192 166 L (.ref o :: S) sh mi mj mr = zRun 192 169 L (va_rf (mr o 27) :: S) sh mi mj mr := zr_getR (zD_of zk_192 d_192_166 rfl rfl) rfl rfl rfl h
theorem q_192_169 : zRun 192 169 [l0, l1, l2, l3, l4, some (.int x), l6, l7] S sh mi mj mr = zRun 192 171 [l0, l1, l2, l3, l4, some (.int x), l6, l7] (.int x :: S) sh mi mj mr := zr_l (zD_of zk_192 d_192_169 rfl rfl) rfl rfl rfl
theorem q_192_171 (h : zAt sh o 4 x) : zRun 192 171 L (.int x :: .ref o :: S) sh mi mj mr = zRun 192 172 L (.int (mi o x.toNatClampNeg) :: S) sh mi mj mr := zr_bald (zD_of zk_192 d_192_171 rfl rfl) h
theorem q_192_172  : zRun 192 172 L (.int x :: S) sh mi mj mr = if x = 0 then zRun 192 181 L S sh mi mj mr else zRun 192 175 L S sh mi mj mr := zr_if (off := 9) (P := x = 0) (zD_of zk_192 d_192_172 rfl rfl) rfl rfl (by decide)
theorem q_192_175  : zRun 192 175 L S sh mi mj mr = zRun 192 178 L (.long (-1000000000000000005) :: S) sh mi mj mr := zr_k64 (zD_of zk_192 d_192_175 rfl rfl) rfl
theorem q_192_178  : zRun 192 178 L S sh mi mj mr = zRun 192 202 L S sh mi mj mr := zr_go (off := 24) (zD_of zk_192 d_192_178 rfl rfl) rfl rfl (by decide)
theorem q_192_181 : zRun 192 181 [l0, l1, l2, some (.int x), l4, l5, l6, l7] S sh mi mj mr = zRun 192 182 [l0, l1, l2, some (.int x), l4, l5, l6, l7] (.int x :: S) sh mi mj mr := zr_l (zD_of zk_192 d_192_181 rfl rfl) rfl rfl rfl
theorem q_192_182  : zRun 192 182 L (.int x :: S) sh mi mj mr = if ¬ x = 0 then zRun 192 195 L S sh mi mj mr else zRun 192 185 L S sh mi mj mr := zr_if (off := 13) (P := ¬ x = 0) (zD_of zk_192 d_192_182 rfl rfl) rfl rfl (by decide)
theorem q_192_185r : zRun 192 185 [some (.ref o), l1, l2, l3, l4, l5, l6, l7] S sh mi mj mr = zRun 192 186 [some (.ref o), l1, l2, l3, l4, l5, l6, l7] (.ref o :: S) sh mi mj mr := zr_l (zD_of zk_192 d_192_185 rfl rfl) rfl rfl rfl
theorem q_192_185n : zRun 192 185 [some (.null), l1, l2, l3, l4, l5, l6, l7] S sh mi mj mr = zRun 192 186 [some (.null), l1, l2, l3, l4, l5, l6, l7] (.null :: S) sh mi mj mr := zr_l (zD_of zk_192 d_192_185 rfl rfl) rfl rfl rfl
theorem q_192_186 (h : zIs sh o 0 8) : zRun 192 186 L (.ref o :: S) sh mi mj mr = zRun 192 189 L (va_rf (mr o 28) :: S) sh mi mj mr := zr_getR (zD_of zk_192 d_192_186 rfl rfl) rfl rfl rfl h
theorem q_192_189 : zRun 192 189 [l0, l1, l2, l3, l4, some (.int x), l6, l7] S sh mi mj mr = zRun 192 191 [l0, l1, l2, l3, l4, some (.int x), l6, l7] (.int x :: S) sh mi mj mr := zr_l (zD_of zk_192 d_192_189 rfl rfl) rfl rfl rfl
theorem q_192_191 (h : zAt sh o 2 x) : zRun 192 191 L (.int x :: .ref o :: S) sh mi mj mr = zRun 192 192 L (.long (mj o x.toNatClampNeg) :: S) sh mi mj mr := zr_lald (zD_of zk_192 d_192_191 rfl rfl) h
theorem q_192_192  : zRun 192 192 L S sh mi mj mr = zRun 192 202 L S sh mi mj mr := zr_go (off := 10) (zD_of zk_192 d_192_192 rfl rfl) rfl rfl (by decide)
theorem q_192_195r : zRun 192 195 [some (.ref o), l1, l2, l3, l4, l5, l6, l7] S sh mi mj mr = zRun 192 196 [some (.ref o), l1, l2, l3, l4, l5, l6, l7] (.ref o :: S) sh mi mj mr := zr_l (zD_of zk_192 d_192_195 rfl rfl) rfl rfl rfl
theorem q_192_195n : zRun 192 195 [some (.null), l1, l2, l3, l4, l5, l6, l7] S sh mi mj mr = zRun 192 196 [some (.null), l1, l2, l3, l4, l5, l6, l7] (.null :: S) sh mi mj mr := zr_l (zD_of zk_192 d_192_195 rfl rfl) rfl rfl rfl
theorem q_192_196 (h : zIs sh o 0 8) : zRun 192 196 L (.ref o :: S) sh mi mj mr = zRun 192 199 L (va_rf (mr o 29) :: S) sh mi mj mr := zr_getR (zD_of zk_192 d_192_196 rfl rfl) rfl rfl rfl h
theorem q_192_199 : zRun 192 199 [l0, l1, l2, l3, l4, some (.int x), l6, l7] S sh mi mj mr = zRun 192 201 [l0, l1, l2, l3, l4, some (.int x), l6, l7] (.int x :: S) sh mi mj mr := zr_l (zD_of zk_192 d_192_199 rfl rfl) rfl rfl rfl
theorem q_192_201 (h : zAt sh o 2 x) : zRun 192 201 L (.int x :: .ref o :: S) sh mi mj mr = zRun 192 202 L (.long (mj o x.toNatClampNeg) :: S) sh mi mj mr := zr_lald (zD_of zk_192 d_192_201 rfl rfl) h
theorem q_192_202  : zRun 192 202 L ([.long u]) sh mi mj mr = some (some (.long u), sh, mi, mj, mr) := zr_ret (zD_of zk_192 d_192_202 rfl rfl) rfl rfl rfl rfl rfl rfl
theorem e_192 {x0 x1 x2 : Int32} : zCall 192 [.ref o, .int x0, .int x1, .int x2] sh mi mj mr = zRun 192 0 [some (.ref o), some (.int x0), some (.int x1), some (.int x2), none, none, none, none] [] sh mi mj mr := rfl
theorem d_193_0 : decode cX8_roots 0 = .ok (.aload_n 0, 1) := by decide +kernel
theorem d_193_1 : decode cX8_roots 1 = .ok (.iload_n 1, 1) := by decide +kernel
theorem d_193_2 : decode cX8_roots 2 = .ok (.invokevirtual 146, 3) := by decide +kernel
theorem d_193_5 : decode cX8_roots 5 = .ok (.ifCond .eq 10, 3) := by decide +kernel
theorem d_193_8 : decode cX8_roots 8 = .ok (.iload_n 2, 1) := by decide +kernel
theorem d_193_9 : decode cX8_roots 9 = .ok (.invokestatic 76, 3) := by decide +kernel
theorem d_193_12 : decode cX8_roots 12 = .ok (.ifCond .ne 5, 3) := by decide +kernel
theorem d_193_15 : decode cX8_roots 15 = .ok (.iconst (-1), 1) := by decide +kernel
theorem d_193_16 : decode cX8_roots 16 = .ok (.ireturn, 1) := by decide +kernel
theorem d_193_17 : decode cX8_roots 17 = .ok (.iload_n 3, 1) := by decide +kernel
theorem d_193_18 : decode cX8_roots 18 = .ok (.iconst 1, 1) := by decide +kernel
theorem d_193_19 : decode cX8_roots 19 = .ok (.bipush 16, 2) := by decide +kernel
theorem d_193_21 : decode cX8_roots 21 = .ok (.invokestatic 72, 3) := by decide +kernel
theorem d_193_24 : decode cX8_roots 24 = .ok (.ifCond .ne 6, 3) := by decide +kernel
theorem d_193_27 : decode cX8_roots 27 = .ok (.bipush (-2), 2) := by decide +kernel
theorem d_193_29 : decode cX8_roots 29 = .ok (.ireturn, 1) := by decide +kernel
theorem d_193_30 : decode cX8_roots 30 = .ok (.iconst 0, 1) := by decide +kernel
theorem d_193_31 : decode cX8_roots 31 = .ok (.istore 4, 2) := by decide +kernel
theorem d_193_33 : decode cX8_roots 33 = .ok (.aload_n 0, 1) := by decide +kernel
theorem d_193_34 : decode cX8_roots 34 = .ok (.getfield 7, 3) := by decide +kernel
theorem d_193_37 : decode cX8_roots 37 = .ok (.iconst 0, 1) := by decide +kernel
theorem d_193_38 : decode cX8_roots 38 = .ok (.iload_n 2, 1) := by decide +kernel
theorem d_193_39 : decode cX8_roots 39 = .ok (.iadd, 1) := by decide +kernel
theorem d_193_40 : decode cX8_roots 40 = .ok (.iaload, 1) := by decide +kernel
theorem d_193_41 : decode cX8_roots 41 = .ok (.istore 5, 2) := by decide +kernel
theorem d_193_43 : decode cX8_roots 43 = .ok (.aload_n 0, 1) := by decide +kernel
theorem d_193_44 : decode cX8_roots 44 = .ok (.getfield 7, 3) := by decide +kernel
theorem d_193_47 : decode cX8_roots 47 = .ok (.iconst 4, 1) := by decide +kernel
theorem d_193_48 : decode cX8_roots 48 = .ok (.iload_n 2, 1) := by decide +kernel
theorem d_193_49 : decode cX8_roots 49 = .ok (.iadd, 1) := by decide +kernel
theorem d_193_50 : decode cX8_roots 50 = .ok (.iaload, 1) := by decide +kernel
theorem d_193_51 : decode cX8_roots 51 = .ok (.iload 5, 2) := by decide +kernel
theorem d_193_53 : decode cX8_roots 53 = .ok (.isub, 1) := by decide +kernel
theorem d_193_54 : decode cX8_roots 54 = .ok (.istore 6, 2) := by decide +kernel
theorem d_193_56 : decode cX8_roots 56 = .ok (.iconst 0, 1) := by decide +kernel
theorem d_193_57 : decode cX8_roots 57 = .ok (.istore 7, 2) := by decide +kernel
theorem d_193_59 : decode cX8_roots 59 = .ok (.iload 7, 2) := by decide +kernel
theorem d_193_61 : decode cX8_roots 61 = .ok (.iload_n 3, 1) := by decide +kernel
theorem d_193_62 : decode cX8_roots 62 = .ok (.if_icmp .ge 105, 3) := by decide +kernel
theorem d_193_65 : decode cX8_roots 65 = .ok (.aload_n 0, 1) := by decide +kernel
theorem d_193_66 : decode cX8_roots 66 = .ok (.invokevirtual 279, 3) := by decide +kernel
theorem d_193_69 : decode cX8_roots 69 = .ok (.aload_n 0, 1) := by decide +kernel
theorem d_193_70 : decode cX8_roots 70 = .ok (.getfield 39, 3) := by decide +kernel
theorem d_193_73 : decode cX8_roots 73 = .ok (.iload_n 2, 1) := by decide +kernel
theorem d_193_74 : decode cX8_roots 74 = .ok (.iload 5, 2) := by decide +kernel
theorem d_193_76 : decode cX8_roots 76 = .ok (.iload 6, 2) := by decide +kernel
theorem d_193_78 : decode cX8_roots 78 = .ok (.iload 7, 2) := by decide +kernel
theorem d_193_80 : decode cX8_roots 80 = .ok (.imul, 1) := by decide +kernel
theorem d_193_81 : decode cX8_roots 81 = .ok (.iload_n 3, 1) := by decide +kernel
theorem d_193_82 : decode cX8_roots 82 = .ok (.idiv, 1) := by decide +kernel
theorem d_193_83 : decode cX8_roots 83 = .ok (.iadd, 1) := by decide +kernel
theorem d_193_84 : decode cX8_roots 84 = .ok (.iastore, 1) := by decide +kernel
theorem d_193_85 : decode cX8_roots 85 = .ok (.aload_n 0, 1) := by decide +kernel
theorem d_193_86 : decode cX8_roots 86 = .ok (.getfield 42, 3) := by decide +kernel
theorem d_193_89 : decode cX8_roots 89 = .ok (.iload_n 2, 1) := by decide +kernel
theorem d_193_90 : decode cX8_roots 90 = .ok (.iload 5, 2) := by decide +kernel
theorem d_193_92 : decode cX8_roots 92 = .ok (.iload 6, 2) := by decide +kernel
theorem d_193_94 : decode cX8_roots 94 = .ok (.iload 7, 2) := by decide +kernel
theorem d_193_96 : decode cX8_roots 96 = .ok (.iconst 1, 1) := by decide +kernel
theorem d_193_97 : decode cX8_roots 97 = .ok (.iadd, 1) := by decide +kernel
theorem d_193_98 : decode cX8_roots 98 = .ok (.imul, 1) := by decide +kernel
theorem d_193_99 : decode cX8_roots 99 = .ok (.iload_n 3, 1) := by decide +kernel
theorem d_193_100 : decode cX8_roots 100 = .ok (.idiv, 1) := by decide +kernel
theorem d_193_101 : decode cX8_roots 101 = .ok (.iadd, 1) := by decide +kernel
theorem d_193_102 : decode cX8_roots 102 = .ok (.iastore, 1) := by decide +kernel
theorem d_193_103 : decode cX8_roots 103 = .ok (.aload_n 0, 1) := by decide +kernel
theorem d_193_104 : decode cX8_roots 104 = .ok (.iload_n 1, 1) := by decide +kernel
theorem d_193_105 : decode cX8_roots 105 = .ok (.invokevirtual 282, 3) := by decide +kernel
theorem d_193_108 : decode cX8_roots 108 = .ok (.aload_n 0, 1) := by decide +kernel
theorem d_193_109 : decode cX8_roots 109 = .ok (.iconst 0, 1) := by decide +kernel
theorem d_193_110 : decode cX8_roots 110 = .ok (.invokevirtual 251, 3) := by decide +kernel
theorem d_193_113 : decode cX8_roots 113 = .ok (.ifCond .ne 23, 3) := by decide +kernel
theorem d_193_116 : decode cX8_roots 116 = .ok (.aload_n 0, 1) := by decide +kernel
theorem d_193_117 : decode cX8_roots 117 = .ok (.iconst 0, 1) := by decide +kernel
theorem d_193_118 : decode cX8_roots 118 = .ok (.invokevirtual 189, 3) := by decide +kernel
theorem d_193_121 : decode cX8_roots 121 = .ok (.lconst 0, 1) := by decide +kernel
theorem d_193_122 : decode cX8_roots 122 = .ok (.lcmp, 1) := by decide +kernel
theorem d_193_123 : decode cX8_roots 123 = .ok (.ifCond .gt 17, 3) := by decide +kernel
theorem d_193_126 : decode cX8_roots 126 = .ok (.aload_n 0, 1) := by decide +kernel
theorem d_193_127 : decode cX8_roots 127 = .ok (.iconst 0, 1) := by decide +kernel
theorem d_193_128 : decode cX8_roots 128 = .ok (.invokevirtual 192, 3) := by decide +kernel
theorem d_193_131 : decode cX8_roots 131 = .ok (.lconst 0, 1) := by decide +kernel
theorem d_193_132 : decode cX8_roots 132 = .ok (.lcmp, 1) := by decide +kernel
theorem d_193_133 : decode cX8_roots 133 = .ok (.ifCond .lt 7, 3) := by decide +kernel
theorem d_193_136 : decode cX8_roots 136 = .ok (.iconst 1, 1) := by decide +kernel
theorem d_193_137 : decode cX8_roots 137 = .ok (.goto 4, 3) := by decide +kernel
theorem d_193_140 : decode cX8_roots 140 = .ok (.iconst 0, 1) := by decide +kernel
theorem d_193_141 : decode cX8_roots 141 = .ok (.istore 8, 2) := by decide +kernel
theorem d_193_143 : decode cX8_roots 143 = .ok (.iload 4, 2) := by decide +kernel
theorem d_193_145 : decode cX8_roots 145 = .ok (.iload 8, 2) := by decide +kernel
theorem d_193_147 : decode cX8_roots 147 = .ok (.ifCond .eq 10, 3) := by decide +kernel
theorem d_193_150 : decode cX8_roots 150 = .ok (.iconst 1, 1) := by decide +kernel
theorem d_193_151 : decode cX8_roots 151 = .ok (.iload 7, 2) := by decide +kernel
theorem d_193_153 : decode cX8_roots 153 = .ok (.ishl, 1) := by decide +kernel
theorem d_193_154 : decode cX8_roots 154 = .ok (.goto 4, 3) := by decide +kernel
theorem d_193_157 : decode cX8_roots 157 = .ok (.iconst 0, 1) := by decide +kernel
theorem d_193_158 : decode cX8_roots 158 = .ok (.ior, 1) := by decide +kernel
theorem d_193_159 : decode cX8_roots 159 = .ok (.istore 4, 2) := by decide +kernel
theorem d_193_161 : decode cX8_roots 161 = .ok (.iinc 7 1, 3) := by decide +kernel
theorem d_193_164 : decode cX8_roots 164 = .ok (.goto (-105), 3) := by decide +kernel
theorem d_193_167 : decode cX8_roots 167 = .ok (.iload 4, 2) := by decide +kernel
theorem d_193_169 : decode cX8_roots 169 = .ok (.ireturn, 1) := by decide +kernel
theorem q_193_0r : zRun 193 0 [some (.ref o), l1, l2, l3, l4, l5, l6, l7, l8] S sh mi mj mr = zRun 193 1 [some (.ref o), l1, l2, l3, l4, l5, l6, l7, l8] (.ref o :: S) sh mi mj mr := zr_l (zD_of zk_193 d_193_0 rfl rfl) rfl rfl rfl
theorem q_193_0n : zRun 193 0 [some (.null), l1, l2, l3, l4, l5, l6, l7, l8] S sh mi mj mr = zRun 193 1 [some (.null), l1, l2, l3, l4, l5, l6, l7, l8] (.null :: S) sh mi mj mr := zr_l (zD_of zk_193 d_193_0 rfl rfl) rfl rfl rfl
theorem q_193_1 : zRun 193 1 [l0, some (.int x), l2, l3, l4, l5, l6, l7, l8] S sh mi mj mr = zRun 193 2 [l0, some (.int x), l2, l3, l4, l5, l6, l7, l8] (.int x :: S) sh mi mj mr := zr_l (zD_of zk_193 d_193_1 rfl rfl) rfl rfl rfl
theorem q_193_2  {x0 : Int32} (hS : zcat S ≤ 8) (h : zIs sh o 0 8) : zRun 193 2 L (.int x0 :: .ref o :: S) sh mi mj mr = (zCall 113 [.ref o, .int x0] sh mi mj mr).bind fun r => zRun 193 5 L (r.1.toList ++ S) r.2.1 r.2.2.1 r.2.2.2.1 r.2.2.2.2 := zr_V (zD_of zk_193 d_193_2 rfl rfl) rfl zk_113 rfl rfl rfl hS h
theorem q_193_5  : zRun 193 5 L (.int x :: S) sh mi mj mr = if x = 0 then zRun 193 15 L S sh mi mj mr else zRun 193 8 L S sh mi mj mr := zr_if (off := 10) (P := x = 0) (zD_of zk_193 d_193_5 rfl rfl) rfl rfl (by decide)
theorem q_193_8 : zRun 193 8 [l0, l1, some (.int x), l3, l4, l5, l6, l7, l8] S sh mi mj mr = zRun 193 9 [l0, l1, some (.int x), l3, l4, l5, l6, l7, l8] (.int x :: S) sh mi mj mr := zr_l (zD_of zk_193 d_193_8 rfl rfl) rfl rfl rfl
theorem q_193_9  {x0 : Int32} (hS : zcat S ≤ 8) : zRun 193 9 L (.int x0 :: S) sh mi mj mr = (zCall 112 [.int x0] sh mi mj mr).bind fun r => zRun 193 12 L (r.1.toList ++ S) r.2.1 r.2.2.1 r.2.2.2.1 r.2.2.2.2 := zr_S (zD_of zk_193 d_193_9 rfl rfl) rfl zk_112 rfl rfl rfl hS
theorem q_193_12  : zRun 193 12 L (.int x :: S) sh mi mj mr = if ¬ x = 0 then zRun 193 17 L S sh mi mj mr else zRun 193 15 L S sh mi mj mr := zr_if (off := 5) (P := ¬ x = 0) (zD_of zk_193 d_193_12 rfl rfl) rfl rfl (by decide)
theorem q_193_15  : zRun 193 15 L S sh mi mj mr = zRun 193 16 L (.int (-1) :: S) sh mi mj mr := zr_p (zD_of zk_193 d_193_15 rfl rfl) rfl
theorem q_193_16  : zRun 193 16 L ([.int x]) sh mi mj mr = some (some (.int x), sh, mi, mj, mr) := zr_ret (zD_of zk_193 d_193_16 rfl rfl) rfl rfl rfl rfl rfl (if_pos rfl)
theorem q_193_17 : zRun 193 17 [l0, l1, l2, some (.int x), l4, l5, l6, l7, l8] S sh mi mj mr = zRun 193 18 [l0, l1, l2, some (.int x), l4, l5, l6, l7, l8] (.int x :: S) sh mi mj mr := zr_l (zD_of zk_193 d_193_17 rfl rfl) rfl rfl rfl
theorem q_193_18  : zRun 193 18 L S sh mi mj mr = zRun 193 19 L (.int 1 :: S) sh mi mj mr := zr_p (zD_of zk_193 d_193_18 rfl rfl) rfl
theorem q_193_19  : zRun 193 19 L S sh mi mj mr = zRun 193 21 L (.int 16 :: S) sh mi mj mr := zr_p (zD_of zk_193 d_193_19 rfl rfl) rfl
theorem q_193_21  {x0 x1 x2 : Int32} (hS : zcat S ≤ 8) : zRun 193 21 L (.int x2 :: .int x1 :: .int x0 :: S) sh mi mj mr = (zCall 111 [.int x0, .int x1, .int x2] sh mi mj mr).bind fun r => zRun 193 24 L (r.1.toList ++ S) r.2.1 r.2.2.1 r.2.2.2.1 r.2.2.2.2 := zr_S (zD_of zk_193 d_193_21 rfl rfl) rfl zk_111 rfl rfl rfl hS
theorem q_193_24  : zRun 193 24 L (.int x :: S) sh mi mj mr = if ¬ x = 0 then zRun 193 30 L S sh mi mj mr else zRun 193 27 L S sh mi mj mr := zr_if (off := 6) (P := ¬ x = 0) (zD_of zk_193 d_193_24 rfl rfl) rfl rfl (by decide)
theorem q_193_27  : zRun 193 27 L S sh mi mj mr = zRun 193 29 L (.int (-2) :: S) sh mi mj mr := zr_p (zD_of zk_193 d_193_27 rfl rfl) rfl
theorem q_193_29  : zRun 193 29 L ([.int x]) sh mi mj mr = some (some (.int x), sh, mi, mj, mr) := zr_ret (zD_of zk_193 d_193_29 rfl rfl) rfl rfl rfl rfl rfl (if_pos rfl)
theorem q_193_30  : zRun 193 30 L S sh mi mj mr = zRun 193 31 L (.int 0 :: S) sh mi mj mr := zr_p (zD_of zk_193 d_193_30 rfl rfl) rfl
theorem q_193_31 : zRun 193 31 [l0, l1, l2, l3, l4, l5, l6, l7, l8] (.int x :: S) sh mi mj mr = zRun 193 33 [l0, l1, l2, zk2 l3, some (.int x), l5, l6, l7, l8] S sh mi mj mr := zr_s1 (i := 4) (v := .int x) (L := [l0, l1, l2, l3, l4, l5, l6, l7, l8]) (zD_of zk_193 d_193_31 rfl rfl) rfl rfl rfl rfl
theorem q_193_33r : zRun 193 33 [some (.ref o), l1, l2, l3, l4, l5, l6, l7, l8] S sh mi mj mr = zRun 193 34 [some (.ref o), l1, l2, l3, l4, l5, l6, l7, l8] (.ref o :: S) sh mi mj mr := zr_l (zD_of zk_193 d_193_33 rfl rfl) rfl rfl rfl
theorem q_193_33n : zRun 193 33 [some (.null), l1, l2, l3, l4, l5, l6, l7, l8] S sh mi mj mr = zRun 193 34 [some (.null), l1, l2, l3, l4, l5, l6, l7, l8] (.null :: S) sh mi mj mr := zr_l (zD_of zk_193 d_193_33 rfl rfl) rfl rfl rfl
theorem q_193_34 (h : zIs sh o 0 8) : zRun 193 34 L (.ref o :: S) sh mi mj mr = zRun 193 37 L (va_rf (mr o 0) :: S) sh mi mj mr := zr_getR (zD_of zk_193 d_193_34 rfl rfl) rfl rfl rfl h
theorem q_193_37  : zRun 193 37 L S sh mi mj mr = zRun 193 38 L (.int 0 :: S) sh mi mj mr := zr_p (zD_of zk_193 d_193_37 rfl rfl) rfl
theorem q_193_38 : zRun 193 38 [l0, l1, some (.int x), l3, l4, l5, l6, l7, l8] S sh mi mj mr = zRun 193 39 [l0, l1, some (.int x), l3, l4, l5, l6, l7, l8] (.int x :: S) sh mi mj mr := zr_l (zD_of zk_193 d_193_38 rfl rfl) rfl rfl rfl
theorem q_193_39  : zRun 193 39 L (.int y :: .int x :: S) sh mi mj mr = zRun 193 40 L (.int (x + y) :: S) sh mi mj mr := zr_p (zD_of zk_193 d_193_39 rfl rfl) rfl
theorem q_193_40 (h : zAt sh o 1 x) : zRun 193 40 L (.int x :: .ref o :: S) sh mi mj mr = zRun 193 41 L (.int (mi o x.toNatClampNeg) :: S) sh mi mj mr := zr_iald (zD_of zk_193 d_193_40 rfl rfl) h
theorem q_193_41 : zRun 193 41 [l0, l1, l2, l3, l4, l5, l6, l7, l8] (.int x :: S) sh mi mj mr = zRun 193 43 [l0, l1, l2, l3, zk2 l4, some (.int x), l6, l7, l8] S sh mi mj mr := zr_s1 (i := 5) (v := .int x) (L := [l0, l1, l2, l3, l4, l5, l6, l7, l8]) (zD_of zk_193 d_193_41 rfl rfl) rfl rfl rfl rfl
theorem q_193_43r : zRun 193 43 [some (.ref o), l1, l2, l3, l4, l5, l6, l7, l8] S sh mi mj mr = zRun 193 44 [some (.ref o), l1, l2, l3, l4, l5, l6, l7, l8] (.ref o :: S) sh mi mj mr := zr_l (zD_of zk_193 d_193_43 rfl rfl) rfl rfl rfl
theorem q_193_43n : zRun 193 43 [some (.null), l1, l2, l3, l4, l5, l6, l7, l8] S sh mi mj mr = zRun 193 44 [some (.null), l1, l2, l3, l4, l5, l6, l7, l8] (.null :: S) sh mi mj mr := zr_l (zD_of zk_193 d_193_43 rfl rfl) rfl rfl rfl
theorem q_193_44 (h : zIs sh o 0 8) : zRun 193 44 L (.ref o :: S) sh mi mj mr = zRun 193 47 L (va_rf (mr o 0) :: S) sh mi mj mr := zr_getR (zD_of zk_193 d_193_44 rfl rfl) rfl rfl rfl h
theorem q_193_47  : zRun 193 47 L S sh mi mj mr = zRun 193 48 L (.int 4 :: S) sh mi mj mr := zr_p (zD_of zk_193 d_193_47 rfl rfl) rfl
theorem q_193_48 : zRun 193 48 [l0, l1, some (.int x), l3, l4, l5, l6, l7, l8] S sh mi mj mr = zRun 193 49 [l0, l1, some (.int x), l3, l4, l5, l6, l7, l8] (.int x :: S) sh mi mj mr := zr_l (zD_of zk_193 d_193_48 rfl rfl) rfl rfl rfl
theorem q_193_49  : zRun 193 49 L (.int y :: .int x :: S) sh mi mj mr = zRun 193 50 L (.int (x + y) :: S) sh mi mj mr := zr_p (zD_of zk_193 d_193_49 rfl rfl) rfl
theorem q_193_50 (h : zAt sh o 1 x) : zRun 193 50 L (.int x :: .ref o :: S) sh mi mj mr = zRun 193 51 L (.int (mi o x.toNatClampNeg) :: S) sh mi mj mr := zr_iald (zD_of zk_193 d_193_50 rfl rfl) h
theorem q_193_51 : zRun 193 51 [l0, l1, l2, l3, l4, some (.int x), l6, l7, l8] S sh mi mj mr = zRun 193 53 [l0, l1, l2, l3, l4, some (.int x), l6, l7, l8] (.int x :: S) sh mi mj mr := zr_l (zD_of zk_193 d_193_51 rfl rfl) rfl rfl rfl
theorem q_193_53  : zRun 193 53 L (.int y :: .int x :: S) sh mi mj mr = zRun 193 54 L (.int (x - y) :: S) sh mi mj mr := zr_p (zD_of zk_193 d_193_53 rfl rfl) rfl
theorem q_193_54 : zRun 193 54 [l0, l1, l2, l3, l4, l5, l6, l7, l8] (.int x :: S) sh mi mj mr = zRun 193 56 [l0, l1, l2, l3, l4, zk2 l5, some (.int x), l7, l8] S sh mi mj mr := zr_s1 (i := 6) (v := .int x) (L := [l0, l1, l2, l3, l4, l5, l6, l7, l8]) (zD_of zk_193 d_193_54 rfl rfl) rfl rfl rfl rfl
theorem q_193_56  : zRun 193 56 L S sh mi mj mr = zRun 193 57 L (.int 0 :: S) sh mi mj mr := zr_p (zD_of zk_193 d_193_56 rfl rfl) rfl
theorem q_193_57 : zRun 193 57 [l0, l1, l2, l3, l4, l5, l6, l7, l8] (.int x :: S) sh mi mj mr = zRun 193 59 [l0, l1, l2, l3, l4, l5, zk2 l6, some (.int x), l8] S sh mi mj mr := zr_s1 (i := 7) (v := .int x) (L := [l0, l1, l2, l3, l4, l5, l6, l7, l8]) (zD_of zk_193 d_193_57 rfl rfl) rfl rfl rfl rfl
theorem q_193_59 : zRun 193 59 [l0, l1, l2, l3, l4, l5, l6, some (.int x), l8] S sh mi mj mr = zRun 193 61 [l0, l1, l2, l3, l4, l5, l6, some (.int x), l8] (.int x :: S) sh mi mj mr := zr_l (zD_of zk_193 d_193_59 rfl rfl) rfl rfl rfl
theorem q_193_61 : zRun 193 61 [l0, l1, l2, some (.int x), l4, l5, l6, l7, l8] S sh mi mj mr = zRun 193 62 [l0, l1, l2, some (.int x), l4, l5, l6, l7, l8] (.int x :: S) sh mi mj mr := zr_l (zD_of zk_193 d_193_61 rfl rfl) rfl rfl rfl
theorem q_193_62  : zRun 193 62 L (.int y :: .int x :: S) sh mi mj mr = if y ≤ x then zRun 193 167 L S sh mi mj mr else zRun 193 65 L S sh mi mj mr := zr_if (off := 105) (P := y ≤ x) (zD_of zk_193 d_193_62 rfl rfl) rfl rfl (by decide)
theorem q_193_65r : zRun 193 65 [some (.ref o), l1, l2, l3, l4, l5, l6, l7, l8] S sh mi mj mr = zRun 193 66 [some (.ref o), l1, l2, l3, l4, l5, l6, l7, l8] (.ref o :: S) sh mi mj mr := zr_l (zD_of zk_193 d_193_65 rfl rfl) rfl rfl rfl
theorem q_193_65n : zRun 193 65 [some (.null), l1, l2, l3, l4, l5, l6, l7, l8] S sh mi mj mr = zRun 193 66 [some (.null), l1, l2, l3, l4, l5, l6, l7, l8] (.null :: S) sh mi mj mr := zr_l (zD_of zk_193 d_193_65 rfl rfl) rfl rfl rfl
theorem q_193_66  (hS : zcat S ≤ 8) (h : zIs sh o 0 8) : zRun 193 66 L (.ref o :: S) sh mi mj mr = (zCall 163 [.ref o] sh mi mj mr).bind fun r => zRun 193 69 L (r.1.toList ++ S) r.2.1 r.2.2.1 r.2.2.2.1 r.2.2.2.2 := zr_V (zD_of zk_193 d_193_66 rfl rfl) rfl zk_163 rfl rfl rfl hS h
theorem q_193_69r : zRun 193 69 [some (.ref o), l1, l2, l3, l4, l5, l6, l7, l8] S sh mi mj mr = zRun 193 70 [some (.ref o), l1, l2, l3, l4, l5, l6, l7, l8] (.ref o :: S) sh mi mj mr := zr_l (zD_of zk_193 d_193_69 rfl rfl) rfl rfl rfl
theorem q_193_69n : zRun 193 69 [some (.null), l1, l2, l3, l4, l5, l6, l7, l8] S sh mi mj mr = zRun 193 70 [some (.null), l1, l2, l3, l4, l5, l6, l7, l8] (.null :: S) sh mi mj mr := zr_l (zD_of zk_193 d_193_69 rfl rfl) rfl rfl rfl
theorem q_193_70 (h : zIs sh o 0 8) : zRun 193 70 L (.ref o :: S) sh mi mj mr = zRun 193 73 L (va_rf (mr o 16) :: S) sh mi mj mr := zr_getR (zD_of zk_193 d_193_70 rfl rfl) rfl rfl rfl h
theorem q_193_73 : zRun 193 73 [l0, l1, some (.int x), l3, l4, l5, l6, l7, l8] S sh mi mj mr = zRun 193 74 [l0, l1, some (.int x), l3, l4, l5, l6, l7, l8] (.int x :: S) sh mi mj mr := zr_l (zD_of zk_193 d_193_73 rfl rfl) rfl rfl rfl
theorem q_193_74 : zRun 193 74 [l0, l1, l2, l3, l4, some (.int x), l6, l7, l8] S sh mi mj mr = zRun 193 76 [l0, l1, l2, l3, l4, some (.int x), l6, l7, l8] (.int x :: S) sh mi mj mr := zr_l (zD_of zk_193 d_193_74 rfl rfl) rfl rfl rfl
theorem q_193_76 : zRun 193 76 [l0, l1, l2, l3, l4, l5, some (.int x), l7, l8] S sh mi mj mr = zRun 193 78 [l0, l1, l2, l3, l4, l5, some (.int x), l7, l8] (.int x :: S) sh mi mj mr := zr_l (zD_of zk_193 d_193_76 rfl rfl) rfl rfl rfl
theorem q_193_78 : zRun 193 78 [l0, l1, l2, l3, l4, l5, l6, some (.int x), l8] S sh mi mj mr = zRun 193 80 [l0, l1, l2, l3, l4, l5, l6, some (.int x), l8] (.int x :: S) sh mi mj mr := zr_l (zD_of zk_193 d_193_78 rfl rfl) rfl rfl rfl
theorem q_193_80  : zRun 193 80 L (.int y :: .int x :: S) sh mi mj mr = zRun 193 81 L (.int (x * y) :: S) sh mi mj mr := zr_p (zD_of zk_193 d_193_80 rfl rfl) rfl
theorem q_193_81 : zRun 193 81 [l0, l1, l2, some (.int x), l4, l5, l6, l7, l8] S sh mi mj mr = zRun 193 82 [l0, l1, l2, some (.int x), l4, l5, l6, l7, l8] (.int x :: S) sh mi mj mr := zr_l (zD_of zk_193 d_193_81 rfl rfl) rfl rfl rfl
theorem q_193_82 (h : ¬ y = 0) : zRun 193 82 L (.int y :: .int x :: S) sh mi mj mr = zRun 193 83 L (.int (x / y) :: S) sh mi mj mr := zr_p (zD_of zk_193 d_193_82 rfl rfl) (if_neg h)
theorem q_193_83  : zRun 193 83 L (.int y :: .int x :: S) sh mi mj mr = zRun 193 84 L (.int (x + y) :: S) sh mi mj mr := zr_p (zD_of zk_193 d_193_83 rfl rfl) rfl
theorem q_193_84 (h : zAt sh o 1 x) : zRun 193 84 L (.int y :: .int x :: .ref o :: S) sh mi mj mr = zRun 193 85 L S sh (zup mi o x.toNatClampNeg y) mj mr := zr_iast (zD_of zk_193 d_193_84 rfl rfl) h
theorem q_193_85r : zRun 193 85 [some (.ref o), l1, l2, l3, l4, l5, l6, l7, l8] S sh mi mj mr = zRun 193 86 [some (.ref o), l1, l2, l3, l4, l5, l6, l7, l8] (.ref o :: S) sh mi mj mr := zr_l (zD_of zk_193 d_193_85 rfl rfl) rfl rfl rfl
theorem q_193_85n : zRun 193 85 [some (.null), l1, l2, l3, l4, l5, l6, l7, l8] S sh mi mj mr = zRun 193 86 [some (.null), l1, l2, l3, l4, l5, l6, l7, l8] (.null :: S) sh mi mj mr := zr_l (zD_of zk_193 d_193_85 rfl rfl) rfl rfl rfl
theorem q_193_86 (h : zIs sh o 0 8) : zRun 193 86 L (.ref o :: S) sh mi mj mr = zRun 193 89 L (va_rf (mr o 17) :: S) sh mi mj mr := zr_getR (zD_of zk_193 d_193_86 rfl rfl) rfl rfl rfl h
theorem q_193_89 : zRun 193 89 [l0, l1, some (.int x), l3, l4, l5, l6, l7, l8] S sh mi mj mr = zRun 193 90 [l0, l1, some (.int x), l3, l4, l5, l6, l7, l8] (.int x :: S) sh mi mj mr := zr_l (zD_of zk_193 d_193_89 rfl rfl) rfl rfl rfl
theorem q_193_90 : zRun 193 90 [l0, l1, l2, l3, l4, some (.int x), l6, l7, l8] S sh mi mj mr = zRun 193 92 [l0, l1, l2, l3, l4, some (.int x), l6, l7, l8] (.int x :: S) sh mi mj mr := zr_l (zD_of zk_193 d_193_90 rfl rfl) rfl rfl rfl
theorem q_193_92 : zRun 193 92 [l0, l1, l2, l3, l4, l5, some (.int x), l7, l8] S sh mi mj mr = zRun 193 94 [l0, l1, l2, l3, l4, l5, some (.int x), l7, l8] (.int x :: S) sh mi mj mr := zr_l (zD_of zk_193 d_193_92 rfl rfl) rfl rfl rfl
theorem q_193_94 : zRun 193 94 [l0, l1, l2, l3, l4, l5, l6, some (.int x), l8] S sh mi mj mr = zRun 193 96 [l0, l1, l2, l3, l4, l5, l6, some (.int x), l8] (.int x :: S) sh mi mj mr := zr_l (zD_of zk_193 d_193_94 rfl rfl) rfl rfl rfl
theorem q_193_96  : zRun 193 96 L S sh mi mj mr = zRun 193 97 L (.int 1 :: S) sh mi mj mr := zr_p (zD_of zk_193 d_193_96 rfl rfl) rfl
theorem q_193_97  : zRun 193 97 L (.int y :: .int x :: S) sh mi mj mr = zRun 193 98 L (.int (x + y) :: S) sh mi mj mr := zr_p (zD_of zk_193 d_193_97 rfl rfl) rfl
theorem q_193_98  : zRun 193 98 L (.int y :: .int x :: S) sh mi mj mr = zRun 193 99 L (.int (x * y) :: S) sh mi mj mr := zr_p (zD_of zk_193 d_193_98 rfl rfl) rfl
theorem q_193_99 : zRun 193 99 [l0, l1, l2, some (.int x), l4, l5, l6, l7, l8] S sh mi mj mr = zRun 193 100 [l0, l1, l2, some (.int x), l4, l5, l6, l7, l8] (.int x :: S) sh mi mj mr := zr_l (zD_of zk_193 d_193_99 rfl rfl) rfl rfl rfl
theorem q_193_100 (h : ¬ y = 0) : zRun 193 100 L (.int y :: .int x :: S) sh mi mj mr = zRun 193 101 L (.int (x / y) :: S) sh mi mj mr := zr_p (zD_of zk_193 d_193_100 rfl rfl) (if_neg h)
theorem q_193_101  : zRun 193 101 L (.int y :: .int x :: S) sh mi mj mr = zRun 193 102 L (.int (x + y) :: S) sh mi mj mr := zr_p (zD_of zk_193 d_193_101 rfl rfl) rfl
theorem q_193_102 (h : zAt sh o 1 x) : zRun 193 102 L (.int y :: .int x :: .ref o :: S) sh mi mj mr = zRun 193 103 L S sh (zup mi o x.toNatClampNeg y) mj mr := zr_iast (zD_of zk_193 d_193_102 rfl rfl) h
theorem q_193_103r : zRun 193 103 [some (.ref o), l1, l2, l3, l4, l5, l6, l7, l8] S sh mi mj mr = zRun 193 104 [some (.ref o), l1, l2, l3, l4, l5, l6, l7, l8] (.ref o :: S) sh mi mj mr := zr_l (zD_of zk_193 d_193_103 rfl rfl) rfl rfl rfl
theorem q_193_103n : zRun 193 103 [some (.null), l1, l2, l3, l4, l5, l6, l7, l8] S sh mi mj mr = zRun 193 104 [some (.null), l1, l2, l3, l4, l5, l6, l7, l8] (.null :: S) sh mi mj mr := zr_l (zD_of zk_193 d_193_103 rfl rfl) rfl rfl rfl
theorem q_193_104 : zRun 193 104 [l0, some (.int x), l2, l3, l4, l5, l6, l7, l8] S sh mi mj mr = zRun 193 105 [l0, some (.int x), l2, l3, l4, l5, l6, l7, l8] (.int x :: S) sh mi mj mr := zr_l (zD_of zk_193 d_193_104 rfl rfl) rfl rfl rfl
theorem q_193_105  {x0 : Int32} (hS : zcat S ≤ 8) (h : zIs sh o 0 8) : zRun 193 105 L (.int x0 :: .ref o :: S) sh mi mj mr = (zCall 170 [.ref o, .int x0] sh mi mj mr).bind fun r => zRun 193 108 L (r.1.toList ++ S) r.2.1 r.2.2.1 r.2.2.2.1 r.2.2.2.2 := zr_V (zD_of zk_193 d_193_105 rfl rfl) rfl zk_170 rfl rfl rfl hS h
theorem q_193_108r : zRun 193 108 [some (.ref o), l1, l2, l3, l4, l5, l6, l7, l8] S sh mi mj mr = zRun 193 109 [some (.ref o), l1, l2, l3, l4, l5, l6, l7, l8] (.ref o :: S) sh mi mj mr := zr_l (zD_of zk_193 d_193_108 rfl rfl) rfl rfl rfl
theorem q_193_108n : zRun 193 108 [some (.null), l1, l2, l3, l4, l5, l6, l7, l8] S sh mi mj mr = zRun 193 109 [some (.null), l1, l2, l3, l4, l5, l6, l7, l8] (.null :: S) sh mi mj mr := zr_l (zD_of zk_193 d_193_108 rfl rfl) rfl rfl rfl
theorem q_193_109  : zRun 193 109 L S sh mi mj mr = zRun 193 110 L (.int 0 :: S) sh mi mj mr := zr_p (zD_of zk_193 d_193_109 rfl rfl) rfl
theorem q_193_110  {x0 : Int32} (hS : zcat S ≤ 8) (h : zIs sh o 0 8) : zRun 193 110 L (.int x0 :: .ref o :: S) sh mi mj mr = (zCall 141 [.ref o, .int x0] sh mi mj mr).bind fun r => zRun 193 113 L (r.1.toList ++ S) r.2.1 r.2.2.1 r.2.2.2.1 r.2.2.2.2 := zr_V (zD_of zk_193 d_193_110 rfl rfl) rfl zk_141 rfl rfl rfl hS h
theorem q_193_113  : zRun 193 113 L (.int x :: S) sh mi mj mr = if ¬ x = 0 then zRun 193 136 L S sh mi mj mr else zRun 193 116 L S sh mi mj mr := zr_if (off := 23) (P := ¬ x = 0) (zD_of zk_193 d_193_113 rfl rfl) rfl rfl (by decide)
theorem q_193_116r : zRun 193 116 [some (.ref o), l1, l2, l3, l4, l5, l6, l7, l8] S sh mi mj mr = zRun 193 117 [some (.ref o), l1, l2, l3, l4, l5, l6, l7, l8] (.ref o :: S) sh mi mj mr := zr_l (zD_of zk_193 d_193_116 rfl rfl) rfl rfl rfl
theorem q_193_116n : zRun 193 116 [some (.null), l1, l2, l3, l4, l5, l6, l7, l8] S sh mi mj mr = zRun 193 117 [some (.null), l1, l2, l3, l4, l5, l6, l7, l8] (.null :: S) sh mi mj mr := zr_l (zD_of zk_193 d_193_116 rfl rfl) rfl rfl rfl
theorem q_193_117  : zRun 193 117 L S sh mi mj mr = zRun 193 118 L (.int 0 :: S) sh mi mj mr := zr_p (zD_of zk_193 d_193_117 rfl rfl) rfl
theorem q_193_118  {x0 : Int32} (hS : zcat S ≤ 8) (h : zIs sh o 0 8) : zRun 193 118 L (.int x0 :: .ref o :: S) sh mi mj mr = (zCall 139 [.ref o, .int x0] sh mi mj mr).bind fun r => zRun 193 121 L (r.1.toList ++ S) r.2.1 r.2.2.1 r.2.2.2.1 r.2.2.2.2 := zr_V (zD_of zk_193 d_193_118 rfl rfl) rfl zk_139 rfl rfl rfl hS h
theorem q_193_121  : zRun 193 121 L S sh mi mj mr = zRun 193 122 L (.long 0 :: S) sh mi mj mr := zr_p (zD_of zk_193 d_193_121 rfl rfl) rfl
theorem q_193_122  : zRun 193 122 L (.long v :: .long u :: S) sh mi mj mr = if v < u then zRun 193 140 L S sh mi mj mr else zRun 193 126 L S sh mi mj mr := zr_cmp (off := 17) (zD_of zk_193 d_193_122 rfl rfl) (zD_of zk_193 d_193_123 rfl rfl) rfl rfl (by decide) (lg_cmp_gt u v)
theorem q_193_123  : zRun 193 123 L (.int x :: S) sh mi mj mr = if 0 < x then zRun 193 140 L S sh mi mj mr else zRun 193 126 L S sh mi mj mr := zr_if (off := 17) (P := 0 < x) (zD_of zk_193 d_193_123 rfl rfl) rfl rfl (by decide)
theorem q_193_126r : zRun 193 126 [some (.ref o), l1, l2, l3, l4, l5, l6, l7, l8] S sh mi mj mr = zRun 193 127 [some (.ref o), l1, l2, l3, l4, l5, l6, l7, l8] (.ref o :: S) sh mi mj mr := zr_l (zD_of zk_193 d_193_126 rfl rfl) rfl rfl rfl
theorem q_193_126n : zRun 193 126 [some (.null), l1, l2, l3, l4, l5, l6, l7, l8] S sh mi mj mr = zRun 193 127 [some (.null), l1, l2, l3, l4, l5, l6, l7, l8] (.null :: S) sh mi mj mr := zr_l (zD_of zk_193 d_193_126 rfl rfl) rfl rfl rfl
theorem q_193_127  : zRun 193 127 L S sh mi mj mr = zRun 193 128 L (.int 0 :: S) sh mi mj mr := zr_p (zD_of zk_193 d_193_127 rfl rfl) rfl
theorem q_193_128  {x0 : Int32} (hS : zcat S ≤ 8) (h : zIs sh o 0 8) : zRun 193 128 L (.int x0 :: .ref o :: S) sh mi mj mr = (zCall 140 [.ref o, .int x0] sh mi mj mr).bind fun r => zRun 193 131 L (r.1.toList ++ S) r.2.1 r.2.2.1 r.2.2.2.1 r.2.2.2.2 := zr_V (zD_of zk_193 d_193_128 rfl rfl) rfl zk_140 rfl rfl rfl hS h
theorem q_193_131  : zRun 193 131 L S sh mi mj mr = zRun 193 132 L (.long 0 :: S) sh mi mj mr := zr_p (zD_of zk_193 d_193_131 rfl rfl) rfl
theorem q_193_132  : zRun 193 132 L (.long v :: .long u :: S) sh mi mj mr = if u < v then zRun 193 140 L S sh mi mj mr else zRun 193 136 L S sh mi mj mr := zr_cmp (off := 7) (zD_of zk_193 d_193_132 rfl rfl) (zD_of zk_193 d_193_133 rfl rfl) rfl rfl (by decide) (lg_cmp_lt u v)
theorem q_193_133  : zRun 193 133 L (.int x :: S) sh mi mj mr = if x < 0 then zRun 193 140 L S sh mi mj mr else zRun 193 136 L S sh mi mj mr := zr_if (off := 7) (P := x < 0) (zD_of zk_193 d_193_133 rfl rfl) rfl rfl (by decide)
theorem q_193_136  : zRun 193 136 L S sh mi mj mr = zRun 193 137 L (.int 1 :: S) sh mi mj mr := zr_p (zD_of zk_193 d_193_136 rfl rfl) rfl
theorem q_193_137  : zRun 193 137 L S sh mi mj mr = zRun 193 141 L S sh mi mj mr := zr_go (off := 4) (zD_of zk_193 d_193_137 rfl rfl) rfl rfl (by decide)
theorem q_193_140  : zRun 193 140 L S sh mi mj mr = zRun 193 141 L (.int 0 :: S) sh mi mj mr := zr_p (zD_of zk_193 d_193_140 rfl rfl) rfl
theorem q_193_141 : zRun 193 141 [l0, l1, l2, l3, l4, l5, l6, l7, l8] (.int x :: S) sh mi mj mr = zRun 193 143 [l0, l1, l2, l3, l4, l5, l6, zk2 l7, some (.int x)] S sh mi mj mr := zr_s1 (i := 8) (v := .int x) (L := [l0, l1, l2, l3, l4, l5, l6, l7, l8]) (zD_of zk_193 d_193_141 rfl rfl) rfl rfl rfl rfl
theorem q_193_143 : zRun 193 143 [l0, l1, l2, l3, some (.int x), l5, l6, l7, l8] S sh mi mj mr = zRun 193 145 [l0, l1, l2, l3, some (.int x), l5, l6, l7, l8] (.int x :: S) sh mi mj mr := zr_l (zD_of zk_193 d_193_143 rfl rfl) rfl rfl rfl
theorem q_193_145 : zRun 193 145 [l0, l1, l2, l3, l4, l5, l6, l7, some (.int x)] S sh mi mj mr = zRun 193 147 [l0, l1, l2, l3, l4, l5, l6, l7, some (.int x)] (.int x :: S) sh mi mj mr := zr_l (zD_of zk_193 d_193_145 rfl rfl) rfl rfl rfl
theorem q_193_147  : zRun 193 147 L (.int x :: S) sh mi mj mr = if x = 0 then zRun 193 157 L S sh mi mj mr else zRun 193 150 L S sh mi mj mr := zr_if (off := 10) (P := x = 0) (zD_of zk_193 d_193_147 rfl rfl) rfl rfl (by decide)
theorem q_193_150  : zRun 193 150 L S sh mi mj mr = zRun 193 151 L (.int 1 :: S) sh mi mj mr := zr_p (zD_of zk_193 d_193_150 rfl rfl) rfl
theorem q_193_151 : zRun 193 151 [l0, l1, l2, l3, l4, l5, l6, some (.int x), l8] S sh mi mj mr = zRun 193 153 [l0, l1, l2, l3, l4, l5, l6, some (.int x), l8] (.int x :: S) sh mi mj mr := zr_l (zD_of zk_193 d_193_151 rfl rfl) rfl rfl rfl
theorem q_193_153  : zRun 193 153 L (.int y :: .int x :: S) sh mi mj mr = zRun 193 154 L (.int (x <<< (y &&& 31)) :: S) sh mi mj mr := zr_p (zD_of zk_193 d_193_153 rfl rfl) rfl
theorem q_193_154  : zRun 193 154 L S sh mi mj mr = zRun 193 158 L S sh mi mj mr := zr_go (off := 4) (zD_of zk_193 d_193_154 rfl rfl) rfl rfl (by decide)
theorem q_193_157  : zRun 193 157 L S sh mi mj mr = zRun 193 158 L (.int 0 :: S) sh mi mj mr := zr_p (zD_of zk_193 d_193_157 rfl rfl) rfl
theorem q_193_158  : zRun 193 158 L (.int y :: .int x :: S) sh mi mj mr = zRun 193 159 L (.int (x ||| y) :: S) sh mi mj mr := zr_p (zD_of zk_193 d_193_158 rfl rfl) rfl
theorem q_193_159 : zRun 193 159 [l0, l1, l2, l3, l4, l5, l6, l7, l8] (.int x :: S) sh mi mj mr = zRun 193 161 [l0, l1, l2, zk2 l3, some (.int x), l5, l6, l7, l8] S sh mi mj mr := zr_s1 (i := 4) (v := .int x) (L := [l0, l1, l2, l3, l4, l5, l6, l7, l8]) (zD_of zk_193 d_193_159 rfl rfl) rfl rfl rfl rfl
theorem q_193_161  : zRun 193 161 [l0, l1, l2, l3, l4, l5, l6, some (.int x), l8] S sh mi mj mr = zRun 193 164 [l0, l1, l2, l3, l4, l5, zk2 l6, some (.int (x + 1)), l8] S sh mi mj mr := zr_s1 (i := 7) (v := .int (x + 1)) (L := [l0, l1, l2, l3, l4, l5, l6, some (.int x), l8]) (zD_of zk_193 d_193_161 rfl rfl) rfl rfl rfl rfl
theorem q_193_164  : zRun 193 164 L S sh mi mj mr = zRun 193 59 L S sh mi mj mr := zr_go (off := (-105)) (zD_of zk_193 d_193_164 rfl rfl) rfl rfl (by decide)
theorem q_193_167 : zRun 193 167 [l0, l1, l2, l3, some (.int x), l5, l6, l7, l8] S sh mi mj mr = zRun 193 169 [l0, l1, l2, l3, some (.int x), l5, l6, l7, l8] (.int x :: S) sh mi mj mr := zr_l (zD_of zk_193 d_193_167 rfl rfl) rfl rfl rfl
theorem q_193_169  : zRun 193 169 L ([.int x]) sh mi mj mr = some (some (.int x), sh, mi, mj, mr) := zr_ret (zD_of zk_193 d_193_169 rfl rfl) rfl rfl rfl rfl rfl (if_pos rfl)
theorem e_193 {x0 x1 x2 : Int32} : zCall 193 [.ref o, .int x0, .int x1, .int x2] sh mi mj mr = zRun 193 0 [some (.ref o), some (.int x0), some (.int x1), some (.int x2), none, none, none, none, none] [] sh mi mj mr := rfl
theorem d_194_0 : decode cX8_expressions 0 = .ok (.iconst 0, 1) := by decide +kernel
theorem d_194_1 : decode cX8_expressions 1 = .ok (.istore_n 1, 1) := by decide +kernel
theorem d_194_2 : decode cX8_expressions 2 = .ok (.iconst 0, 1) := by decide +kernel
theorem d_194_3 : decode cX8_expressions 3 = .ok (.istore_n 2, 1) := by decide +kernel
theorem d_194_4 : decode cX8_expressions 4 = .ok (.iload_n 2, 1) := by decide +kernel
theorem d_194_5 : decode cX8_expressions 5 = .ok (.iconst 4, 1) := by decide +kernel
theorem d_194_6 : decode cX8_expressions 6 = .ok (.if_icmp .ge 31, 3) := by decide +kernel
theorem d_194_9 : decode cX8_expressions 9 = .ok (.iload_n 1, 1) := by decide +kernel
theorem d_194_10 : decode cX8_expressions 10 = .ok (.aload_n 0, 1) := by decide +kernel
theorem d_194_11 : decode cX8_expressions 11 = .ok (.getfield 7, 3) := by decide +kernel
theorem d_194_14 : decode cX8_expressions 14 = .ok (.bipush 9, 2) := by decide +kernel
theorem d_194_16 : decode cX8_expressions 16 = .ok (.iload_n 2, 1) := by decide +kernel
theorem d_194_17 : decode cX8_expressions 17 = .ok (.iadd, 1) := by decide +kernel
theorem d_194_18 : decode cX8_expressions 18 = .ok (.iaload, 1) := by decide +kernel
theorem d_194_19 : decode cX8_expressions 19 = .ok (.ifCond .le 9, 3) := by decide +kernel
theorem d_194_22 : decode cX8_expressions 22 = .ok (.iconst 1, 1) := by decide +kernel
theorem d_194_23 : decode cX8_expressions 23 = .ok (.iload_n 2, 1) := by decide +kernel
theorem d_194_24 : decode cX8_expressions 24 = .ok (.ishl, 1) := by decide +kernel
theorem d_194_25 : decode cX8_expressions 25 = .ok (.goto 4, 3) := by decide +kernel
theorem d_194_28 : decode cX8_expressions 28 = .ok (.iconst 0, 1) := by decide +kernel
theorem d_194_29 : decode cX8_expressions 29 = .ok (.ior, 1) := by decide +kernel
theorem d_194_30 : decode cX8_expressions 30 = .ok (.istore_n 1, 1) := by decide +kernel
theorem d_194_31 : decode cX8_expressions 31 = .ok (.iinc 2 1, 3) := by decide +kernel
theorem d_194_34 : decode cX8_expressions 34 = .ok (.goto (-30), 3) := by decide +kernel
theorem d_194_37 : decode cX8_expressions 37 = .ok (.iload_n 1, 1) := by decide +kernel
theorem d_194_38 : decode cX8_expressions 38 = .ok (.ireturn, 1) := by decide +kernel
theorem q_194_0  : zRun 194 0 L S sh mi mj mr = zRun 194 1 L (.int 0 :: S) sh mi mj mr := zr_p (zD_of zk_194 d_194_0 rfl rfl) rfl
theorem q_194_1 : zRun 194 1 [l0, l1, l2] (.int x :: S) sh mi mj mr = zRun 194 2 [zk2 l0, some (.int x), l2] S sh mi mj mr := zr_s1 (i := 1) (v := .int x) (L := [l0, l1, l2]) (zD_of zk_194 d_194_1 rfl rfl) rfl rfl rfl rfl
theorem q_194_2  : zRun 194 2 L S sh mi mj mr = zRun 194 3 L (.int 0 :: S) sh mi mj mr := zr_p (zD_of zk_194 d_194_2 rfl rfl) rfl
theorem q_194_3 : zRun 194 3 [l0, l1, l2] (.int x :: S) sh mi mj mr = zRun 194 4 [l0, zk2 l1, some (.int x)] S sh mi mj mr := zr_s1 (i := 2) (v := .int x) (L := [l0, l1, l2]) (zD_of zk_194 d_194_3 rfl rfl) rfl rfl rfl rfl
theorem q_194_4 : zRun 194 4 [l0, l1, some (.int x)] S sh mi mj mr = zRun 194 5 [l0, l1, some (.int x)] (.int x :: S) sh mi mj mr := zr_l (zD_of zk_194 d_194_4 rfl rfl) rfl rfl rfl
theorem q_194_5  : zRun 194 5 L S sh mi mj mr = zRun 194 6 L (.int 4 :: S) sh mi mj mr := zr_p (zD_of zk_194 d_194_5 rfl rfl) rfl
theorem q_194_6  : zRun 194 6 L (.int y :: .int x :: S) sh mi mj mr = if y ≤ x then zRun 194 37 L S sh mi mj mr else zRun 194 9 L S sh mi mj mr := zr_if (off := 31) (P := y ≤ x) (zD_of zk_194 d_194_6 rfl rfl) rfl rfl (by decide)
theorem q_194_9 : zRun 194 9 [l0, some (.int x), l2] S sh mi mj mr = zRun 194 10 [l0, some (.int x), l2] (.int x :: S) sh mi mj mr := zr_l (zD_of zk_194 d_194_9 rfl rfl) rfl rfl rfl
theorem q_194_10r : zRun 194 10 [some (.ref o), l1, l2] S sh mi mj mr = zRun 194 11 [some (.ref o), l1, l2] (.ref o :: S) sh mi mj mr := zr_l (zD_of zk_194 d_194_10 rfl rfl) rfl rfl rfl
theorem q_194_10n : zRun 194 10 [some (.null), l1, l2] S sh mi mj mr = zRun 194 11 [some (.null), l1, l2] (.null :: S) sh mi mj mr := zr_l (zD_of zk_194 d_194_10 rfl rfl) rfl rfl rfl
theorem q_194_11 (h : zIs sh o 0 8) : zRun 194 11 L (.ref o :: S) sh mi mj mr = zRun 194 14 L (va_rf (mr o 0) :: S) sh mi mj mr := zr_getR (zD_of zk_194 d_194_11 rfl rfl) rfl rfl rfl h
theorem q_194_14  : zRun 194 14 L S sh mi mj mr = zRun 194 16 L (.int 9 :: S) sh mi mj mr := zr_p (zD_of zk_194 d_194_14 rfl rfl) rfl
theorem q_194_16 : zRun 194 16 [l0, l1, some (.int x)] S sh mi mj mr = zRun 194 17 [l0, l1, some (.int x)] (.int x :: S) sh mi mj mr := zr_l (zD_of zk_194 d_194_16 rfl rfl) rfl rfl rfl
theorem q_194_17  : zRun 194 17 L (.int y :: .int x :: S) sh mi mj mr = zRun 194 18 L (.int (x + y) :: S) sh mi mj mr := zr_p (zD_of zk_194 d_194_17 rfl rfl) rfl
theorem q_194_18 (h : zAt sh o 1 x) : zRun 194 18 L (.int x :: .ref o :: S) sh mi mj mr = zRun 194 19 L (.int (mi o x.toNatClampNeg) :: S) sh mi mj mr := zr_iald (zD_of zk_194 d_194_18 rfl rfl) h
theorem q_194_19  : zRun 194 19 L (.int x :: S) sh mi mj mr = if x ≤ 0 then zRun 194 28 L S sh mi mj mr else zRun 194 22 L S sh mi mj mr := zr_if (off := 9) (P := x ≤ 0) (zD_of zk_194 d_194_19 rfl rfl) rfl rfl (by decide)
theorem q_194_22  : zRun 194 22 L S sh mi mj mr = zRun 194 23 L (.int 1 :: S) sh mi mj mr := zr_p (zD_of zk_194 d_194_22 rfl rfl) rfl
theorem q_194_23 : zRun 194 23 [l0, l1, some (.int x)] S sh mi mj mr = zRun 194 24 [l0, l1, some (.int x)] (.int x :: S) sh mi mj mr := zr_l (zD_of zk_194 d_194_23 rfl rfl) rfl rfl rfl
theorem q_194_24  : zRun 194 24 L (.int y :: .int x :: S) sh mi mj mr = zRun 194 25 L (.int (x <<< (y &&& 31)) :: S) sh mi mj mr := zr_p (zD_of zk_194 d_194_24 rfl rfl) rfl
theorem q_194_25  : zRun 194 25 L S sh mi mj mr = zRun 194 29 L S sh mi mj mr := zr_go (off := 4) (zD_of zk_194 d_194_25 rfl rfl) rfl rfl (by decide)
theorem q_194_28  : zRun 194 28 L S sh mi mj mr = zRun 194 29 L (.int 0 :: S) sh mi mj mr := zr_p (zD_of zk_194 d_194_28 rfl rfl) rfl
theorem q_194_29  : zRun 194 29 L (.int y :: .int x :: S) sh mi mj mr = zRun 194 30 L (.int (x ||| y) :: S) sh mi mj mr := zr_p (zD_of zk_194 d_194_29 rfl rfl) rfl
theorem q_194_30 : zRun 194 30 [l0, l1, l2] (.int x :: S) sh mi mj mr = zRun 194 31 [zk2 l0, some (.int x), l2] S sh mi mj mr := zr_s1 (i := 1) (v := .int x) (L := [l0, l1, l2]) (zD_of zk_194 d_194_30 rfl rfl) rfl rfl rfl rfl
theorem q_194_31  : zRun 194 31 [l0, l1, some (.int x)] S sh mi mj mr = zRun 194 34 [l0, zk2 l1, some (.int (x + 1))] S sh mi mj mr := zr_s1 (i := 2) (v := .int (x + 1)) (L := [l0, l1, some (.int x)]) (zD_of zk_194 d_194_31 rfl rfl) rfl rfl rfl rfl
theorem q_194_34  : zRun 194 34 L S sh mi mj mr = zRun 194 4 L S sh mi mj mr := zr_go (off := (-30)) (zD_of zk_194 d_194_34 rfl rfl) rfl rfl (by decide)
theorem q_194_37 : zRun 194 37 [l0, some (.int x), l2] S sh mi mj mr = zRun 194 38 [l0, some (.int x), l2] (.int x :: S) sh mi mj mr := zr_l (zD_of zk_194 d_194_37 rfl rfl) rfl rfl rfl
theorem q_194_38  : zRun 194 38 L ([.int x]) sh mi mj mr = some (some (.int x), sh, mi, mj, mr) := zr_ret (zD_of zk_194 d_194_38 rfl rfl) rfl rfl rfl rfl rfl (if_pos rfl)
theorem e_194 : zCall 194 [.ref o] sh mi mj mr = zRun 194 0 [some (.ref o), none, none] [] sh mi mj mr := rfl
theorem d_195_0 : decode cX8_wides 0 = .ok (.iconst 0, 1) := by decide +kernel
theorem d_195_1 : decode cX8_wides 1 = .ok (.istore_n 1, 1) := by decide +kernel
theorem d_195_2 : decode cX8_wides 2 = .ok (.iconst 0, 1) := by decide +kernel
theorem d_195_3 : decode cX8_wides 3 = .ok (.istore_n 2, 1) := by decide +kernel
theorem d_195_4 : decode cX8_wides 4 = .ok (.iload_n 2, 1) := by decide +kernel
theorem d_195_5 : decode cX8_wides 5 = .ok (.iconst 4, 1) := by decide +kernel
theorem d_195_6 : decode cX8_wides 6 = .ok (.if_icmp .ge 36, 3) := by decide +kernel
theorem d_195_9 : decode cX8_wides 9 = .ok (.iload_n 1, 1) := by decide +kernel
theorem d_195_10 : decode cX8_wides 10 = .ok (.aload_n 0, 1) := by decide +kernel
theorem d_195_11 : decode cX8_wides 11 = .ok (.getfield 7, 3) := by decide +kernel
theorem d_195_14 : decode cX8_wides 14 = .ok (.iconst 0, 1) := by decide +kernel
theorem d_195_15 : decode cX8_wides 15 = .ok (.iload_n 2, 1) := by decide +kernel
theorem d_195_16 : decode cX8_wides 16 = .ok (.iadd, 1) := by decide +kernel
theorem d_195_17 : decode cX8_wides 17 = .ok (.iaload, 1) := by decide +kernel
theorem d_195_18 : decode cX8_wides 18 = .ok (.aload_n 0, 1) := by decide +kernel
theorem d_195_19 : decode cX8_wides 19 = .ok (.getfield 7, 3) := by decide +kernel
theorem d_195_22 : decode cX8_wides 22 = .ok (.iconst 4, 1) := by decide +kernel
theorem d_195_23 : decode cX8_wides 23 = .ok (.iload_n 2, 1) := by decide +kernel
theorem d_195_24 : decode cX8_wides 24 = .ok (.iadd, 1) := by decide +kernel
theorem d_195_25 : decode cX8_wides 25 = .ok (.iaload, 1) := by decide +kernel
theorem d_195_26 : decode cX8_wides 26 = .ok (.if_icmp .ge 7, 3) := by decide +kernel
theorem d_195_29 : decode cX8_wides 29 = .ok (.iconst 1, 1) := by decide +kernel
theorem d_195_30 : decode cX8_wides 30 = .ok (.goto 4, 3) := by decide +kernel
theorem d_195_33 : decode cX8_wides 33 = .ok (.iconst 0, 1) := by decide +kernel
theorem d_195_34 : decode cX8_wides 34 = .ok (.iadd, 1) := by decide +kernel
theorem d_195_35 : decode cX8_wides 35 = .ok (.istore_n 1, 1) := by decide +kernel
theorem d_195_36 : decode cX8_wides 36 = .ok (.iinc 2 1, 3) := by decide +kernel
theorem d_195_39 : decode cX8_wides 39 = .ok (.goto (-35), 3) := by decide +kernel
theorem d_195_42 : decode cX8_wides 42 = .ok (.iload_n 1, 1) := by decide +kernel
theorem d_195_43 : decode cX8_wides 43 = .ok (.ireturn, 1) := by decide +kernel
theorem q_195_0  : zRun 195 0 L S sh mi mj mr = zRun 195 1 L (.int 0 :: S) sh mi mj mr := zr_p (zD_of zk_195 d_195_0 rfl rfl) rfl
theorem q_195_1 : zRun 195 1 [l0, l1, l2] (.int x :: S) sh mi mj mr = zRun 195 2 [zk2 l0, some (.int x), l2] S sh mi mj mr := zr_s1 (i := 1) (v := .int x) (L := [l0, l1, l2]) (zD_of zk_195 d_195_1 rfl rfl) rfl rfl rfl rfl
theorem q_195_2  : zRun 195 2 L S sh mi mj mr = zRun 195 3 L (.int 0 :: S) sh mi mj mr := zr_p (zD_of zk_195 d_195_2 rfl rfl) rfl
theorem q_195_3 : zRun 195 3 [l0, l1, l2] (.int x :: S) sh mi mj mr = zRun 195 4 [l0, zk2 l1, some (.int x)] S sh mi mj mr := zr_s1 (i := 2) (v := .int x) (L := [l0, l1, l2]) (zD_of zk_195 d_195_3 rfl rfl) rfl rfl rfl rfl
theorem q_195_4 : zRun 195 4 [l0, l1, some (.int x)] S sh mi mj mr = zRun 195 5 [l0, l1, some (.int x)] (.int x :: S) sh mi mj mr := zr_l (zD_of zk_195 d_195_4 rfl rfl) rfl rfl rfl
theorem q_195_5  : zRun 195 5 L S sh mi mj mr = zRun 195 6 L (.int 4 :: S) sh mi mj mr := zr_p (zD_of zk_195 d_195_5 rfl rfl) rfl
theorem q_195_6  : zRun 195 6 L (.int y :: .int x :: S) sh mi mj mr = if y ≤ x then zRun 195 42 L S sh mi mj mr else zRun 195 9 L S sh mi mj mr := zr_if (off := 36) (P := y ≤ x) (zD_of zk_195 d_195_6 rfl rfl) rfl rfl (by decide)
theorem q_195_9 : zRun 195 9 [l0, some (.int x), l2] S sh mi mj mr = zRun 195 10 [l0, some (.int x), l2] (.int x :: S) sh mi mj mr := zr_l (zD_of zk_195 d_195_9 rfl rfl) rfl rfl rfl
theorem q_195_10r : zRun 195 10 [some (.ref o), l1, l2] S sh mi mj mr = zRun 195 11 [some (.ref o), l1, l2] (.ref o :: S) sh mi mj mr := zr_l (zD_of zk_195 d_195_10 rfl rfl) rfl rfl rfl
theorem q_195_10n : zRun 195 10 [some (.null), l1, l2] S sh mi mj mr = zRun 195 11 [some (.null), l1, l2] (.null :: S) sh mi mj mr := zr_l (zD_of zk_195 d_195_10 rfl rfl) rfl rfl rfl
theorem q_195_11 (h : zIs sh o 0 8) : zRun 195 11 L (.ref o :: S) sh mi mj mr = zRun 195 14 L (va_rf (mr o 0) :: S) sh mi mj mr := zr_getR (zD_of zk_195 d_195_11 rfl rfl) rfl rfl rfl h
theorem q_195_14  : zRun 195 14 L S sh mi mj mr = zRun 195 15 L (.int 0 :: S) sh mi mj mr := zr_p (zD_of zk_195 d_195_14 rfl rfl) rfl
theorem q_195_15 : zRun 195 15 [l0, l1, some (.int x)] S sh mi mj mr = zRun 195 16 [l0, l1, some (.int x)] (.int x :: S) sh mi mj mr := zr_l (zD_of zk_195 d_195_15 rfl rfl) rfl rfl rfl
theorem q_195_16  : zRun 195 16 L (.int y :: .int x :: S) sh mi mj mr = zRun 195 17 L (.int (x + y) :: S) sh mi mj mr := zr_p (zD_of zk_195 d_195_16 rfl rfl) rfl
theorem q_195_17 (h : zAt sh o 1 x) : zRun 195 17 L (.int x :: .ref o :: S) sh mi mj mr = zRun 195 18 L (.int (mi o x.toNatClampNeg) :: S) sh mi mj mr := zr_iald (zD_of zk_195 d_195_17 rfl rfl) h
theorem q_195_18r : zRun 195 18 [some (.ref o), l1, l2] S sh mi mj mr = zRun 195 19 [some (.ref o), l1, l2] (.ref o :: S) sh mi mj mr := zr_l (zD_of zk_195 d_195_18 rfl rfl) rfl rfl rfl
theorem q_195_18n : zRun 195 18 [some (.null), l1, l2] S sh mi mj mr = zRun 195 19 [some (.null), l1, l2] (.null :: S) sh mi mj mr := zr_l (zD_of zk_195 d_195_18 rfl rfl) rfl rfl rfl
theorem q_195_19 (h : zIs sh o 0 8) : zRun 195 19 L (.ref o :: S) sh mi mj mr = zRun 195 22 L (va_rf (mr o 0) :: S) sh mi mj mr := zr_getR (zD_of zk_195 d_195_19 rfl rfl) rfl rfl rfl h
theorem q_195_22  : zRun 195 22 L S sh mi mj mr = zRun 195 23 L (.int 4 :: S) sh mi mj mr := zr_p (zD_of zk_195 d_195_22 rfl rfl) rfl
theorem q_195_23 : zRun 195 23 [l0, l1, some (.int x)] S sh mi mj mr = zRun 195 24 [l0, l1, some (.int x)] (.int x :: S) sh mi mj mr := zr_l (zD_of zk_195 d_195_23 rfl rfl) rfl rfl rfl
theorem q_195_24  : zRun 195 24 L (.int y :: .int x :: S) sh mi mj mr = zRun 195 25 L (.int (x + y) :: S) sh mi mj mr := zr_p (zD_of zk_195 d_195_24 rfl rfl) rfl
theorem q_195_25 (h : zAt sh o 1 x) : zRun 195 25 L (.int x :: .ref o :: S) sh mi mj mr = zRun 195 26 L (.int (mi o x.toNatClampNeg) :: S) sh mi mj mr := zr_iald (zD_of zk_195 d_195_25 rfl rfl) h
theorem q_195_26  : zRun 195 26 L (.int y :: .int x :: S) sh mi mj mr = if y ≤ x then zRun 195 33 L S sh mi mj mr else zRun 195 29 L S sh mi mj mr := zr_if (off := 7) (P := y ≤ x) (zD_of zk_195 d_195_26 rfl rfl) rfl rfl (by decide)
theorem q_195_29  : zRun 195 29 L S sh mi mj mr = zRun 195 30 L (.int 1 :: S) sh mi mj mr := zr_p (zD_of zk_195 d_195_29 rfl rfl) rfl
theorem q_195_30  : zRun 195 30 L S sh mi mj mr = zRun 195 34 L S sh mi mj mr := zr_go (off := 4) (zD_of zk_195 d_195_30 rfl rfl) rfl rfl (by decide)
theorem q_195_33  : zRun 195 33 L S sh mi mj mr = zRun 195 34 L (.int 0 :: S) sh mi mj mr := zr_p (zD_of zk_195 d_195_33 rfl rfl) rfl
theorem q_195_34  : zRun 195 34 L (.int y :: .int x :: S) sh mi mj mr = zRun 195 35 L (.int (x + y) :: S) sh mi mj mr := zr_p (zD_of zk_195 d_195_34 rfl rfl) rfl
theorem q_195_35 : zRun 195 35 [l0, l1, l2] (.int x :: S) sh mi mj mr = zRun 195 36 [zk2 l0, some (.int x), l2] S sh mi mj mr := zr_s1 (i := 1) (v := .int x) (L := [l0, l1, l2]) (zD_of zk_195 d_195_35 rfl rfl) rfl rfl rfl rfl
theorem q_195_36  : zRun 195 36 [l0, l1, some (.int x)] S sh mi mj mr = zRun 195 39 [l0, zk2 l1, some (.int (x + 1))] S sh mi mj mr := zr_s1 (i := 2) (v := .int (x + 1)) (L := [l0, l1, some (.int x)]) (zD_of zk_195 d_195_36 rfl rfl) rfl rfl rfl rfl
theorem q_195_39  : zRun 195 39 L S sh mi mj mr = zRun 195 4 L S sh mi mj mr := zr_go (off := (-35)) (zD_of zk_195 d_195_39 rfl rfl) rfl rfl (by decide)
theorem q_195_42 : zRun 195 42 [l0, some (.int x), l2] S sh mi mj mr = zRun 195 43 [l0, some (.int x), l2] (.int x :: S) sh mi mj mr := zr_l (zD_of zk_195 d_195_42 rfl rfl) rfl rfl rfl
theorem q_195_43  : zRun 195 43 L ([.int x]) sh mi mj mr = some (some (.int x), sh, mi, mj, mr) := zr_ret (zD_of zk_195 d_195_43 rfl rfl) rfl rfl rfl rfl rfl (if_pos rfl)
theorem e_195 : zCall 195 [.ref o] sh mi mj mr = zRun 195 0 [some (.ref o), none, none] [] sh mi mj mr := rfl
theorem d_196_0 : decode cX8_count 0 = .ok (.iload_n 1, 1) := by decide +kernel
theorem d_196_1 : decode cX8_count 1 = .ok (.tableswitch 54 0 3 #[31, 36, 41, 49], 31) := by decide +kernel
theorem d_196_32 : decode cX8_count 32 = .ok (.aload_n 0, 1) := by decide +kernel
theorem d_196_33 : decode cX8_count 33 = .ok (.invokevirtual 339, 3) := by decide +kernel
theorem d_196_36 : decode cX8_count 36 = .ok (.ireturn, 1) := by decide +kernel
theorem d_196_37 : decode cX8_count 37 = .ok (.aload_n 0, 1) := by decide +kernel
theorem d_196_38 : decode cX8_count 38 = .ok (.getfield 86, 3) := by decide +kernel
theorem d_196_41 : decode cX8_count 41 = .ok (.ireturn, 1) := by decide +kernel
theorem d_196_42 : decode cX8_count 42 = .ok (.aload_n 0, 1) := by decide +kernel
theorem d_196_43 : decode cX8_count 43 = .ok (.getfield 7, 3) := by decide +kernel
theorem d_196_46 : decode cX8_count 46 = .ok (.bipush 8, 2) := by decide +kernel
theorem d_196_48 : decode cX8_count 48 = .ok (.iaload, 1) := by decide +kernel
theorem d_196_49 : decode cX8_count 49 = .ok (.ireturn, 1) := by decide +kernel
theorem d_196_50 : decode cX8_count 50 = .ok (.aload_n 0, 1) := by decide +kernel
theorem d_196_51 : decode cX8_count 51 = .ok (.invokevirtual 342, 3) := by decide +kernel
theorem d_196_54 : decode cX8_count 54 = .ok (.ireturn, 1) := by decide +kernel
theorem d_196_55 : decode cX8_count 55 = .ok (.bipush (-2), 2) := by decide +kernel
theorem d_196_57 : decode cX8_count 57 = .ok (.ireturn, 1) := by decide +kernel
theorem q_196_0 : zRun 196 0 [l0, some (.int x)] S sh mi mj mr = zRun 196 1 [l0, some (.int x)] (.int x :: S) sh mi mj mr := zr_l (zD_of zk_196 d_196_0 rfl rfl) rfl rfl rfl
theorem q_196_1 : zRun 196 1 L (.int x :: S) sh mi mj mr = if x = 0 then zRun 196 32 L S sh mi mj mr else if x = 1 then zRun 196 37 L S sh mi mj mr else if x = 2 then zRun 196 42 L S sh mi mj mr else if x = 3 then zRun 196 50 L S sh mi mj mr else zRun 196 55 L S sh mi mj mr := by
  by_cases h : x = 0
  · subst h; exact zr_go (off := 31) (zD_of zk_196 d_196_1 rfl rfl) rfl rfl (by decide)
  rw [if_neg h]
  have a0 := zsw_ne (v := 0) h (by decide) (by decide)
  by_cases h : x = 1
  · subst h; exact zr_go (off := 36) (zD_of zk_196 d_196_1 rfl rfl) rfl rfl (by decide)
  rw [if_neg h]
  have a1 := zsw_ne (v := 1) h (by decide) (by decide)
  by_cases h : x = 2
  · subst h; exact zr_go (off := 41) (zD_of zk_196 d_196_1 rfl rfl) rfl rfl (by decide)
  rw [if_neg h]
  have a2 := zsw_ne (v := 2) h (by decide) (by decide)
  by_cases h : x = 3
  · subst h; exact zr_go (off := 49) (zD_of zk_196 d_196_1 rfl rfl) rfl rfl (by decide)
  rw [if_neg h]
  have a3 := zsw_ne (v := 3) h (by decide) (by decide)
  exact zr_go (S' := S) (off := 54) (zD_of zk_196 d_196_1 rfl rfl) rfl (by simp only [zjump, zsw_out (x := x) 54 0 3 (by omega)]) (by decide)
theorem q_196_32r : zRun 196 32 [some (.ref o), l1] S sh mi mj mr = zRun 196 33 [some (.ref o), l1] (.ref o :: S) sh mi mj mr := zr_l (zD_of zk_196 d_196_32 rfl rfl) rfl rfl rfl
theorem q_196_32n : zRun 196 32 [some (.null), l1] S sh mi mj mr = zRun 196 33 [some (.null), l1] (.null :: S) sh mi mj mr := zr_l (zD_of zk_196 d_196_32 rfl rfl) rfl rfl rfl
theorem q_196_33  (hS : zcat S ≤ 8) (h : zIs sh o 0 8) : zRun 196 33 L (.ref o :: S) sh mi mj mr = (zCall 194 [.ref o] sh mi mj mr).bind fun r => zRun 196 36 L (r.1.toList ++ S) r.2.1 r.2.2.1 r.2.2.2.1 r.2.2.2.2 := zr_V (zD_of zk_196 d_196_33 rfl rfl) rfl zk_194 rfl rfl rfl hS h
theorem q_196_36  : zRun 196 36 L ([.int x]) sh mi mj mr = some (some (.int x), sh, mi, mj, mr) := zr_ret (zD_of zk_196 d_196_36 rfl rfl) rfl rfl rfl rfl rfl (if_pos rfl)
theorem q_196_37r : zRun 196 37 [some (.ref o), l1] S sh mi mj mr = zRun 196 38 [some (.ref o), l1] (.ref o :: S) sh mi mj mr := zr_l (zD_of zk_196 d_196_37 rfl rfl) rfl rfl rfl
theorem q_196_37n : zRun 196 37 [some (.null), l1] S sh mi mj mr = zRun 196 38 [some (.null), l1] (.null :: S) sh mi mj mr := zr_l (zD_of zk_196 d_196_37 rfl rfl) rfl rfl rfl
theorem q_196_38 (h : zIs sh o 0 8) : zRun 196 38 L (.ref o :: S) sh mi mj mr = zRun 196 41 L (.int (mi o 4) :: S) sh mi mj mr := zr_getI (zD_of zk_196 d_196_38 rfl rfl) rfl rfl (Or.inl rfl) h
theorem q_196_41  : zRun 196 41 L ([.int x]) sh mi mj mr = some (some (.int x), sh, mi, mj, mr) := zr_ret (zD_of zk_196 d_196_41 rfl rfl) rfl rfl rfl rfl rfl (if_pos rfl)
theorem q_196_42r : zRun 196 42 [some (.ref o), l1] S sh mi mj mr = zRun 196 43 [some (.ref o), l1] (.ref o :: S) sh mi mj mr := zr_l (zD_of zk_196 d_196_42 rfl rfl) rfl rfl rfl
theorem q_196_42n : zRun 196 42 [some (.null), l1] S sh mi mj mr = zRun 196 43 [some (.null), l1] (.null :: S) sh mi mj mr := zr_l (zD_of zk_196 d_196_42 rfl rfl) rfl rfl rfl
theorem q_196_43 (h : zIs sh o 0 8) : zRun 196 43 L (.ref o :: S) sh mi mj mr = zRun 196 46 L (va_rf (mr o 0) :: S) sh mi mj mr := zr_getR (zD_of zk_196 d_196_43 rfl rfl) rfl rfl rfl h
theorem q_196_46  : zRun 196 46 L S sh mi mj mr = zRun 196 48 L (.int 8 :: S) sh mi mj mr := zr_p (zD_of zk_196 d_196_46 rfl rfl) rfl
theorem q_196_48 (h : zAt sh o 1 x) : zRun 196 48 L (.int x :: .ref o :: S) sh mi mj mr = zRun 196 49 L (.int (mi o x.toNatClampNeg) :: S) sh mi mj mr := zr_iald (zD_of zk_196 d_196_48 rfl rfl) h
theorem q_196_49  : zRun 196 49 L ([.int x]) sh mi mj mr = some (some (.int x), sh, mi, mj, mr) := zr_ret (zD_of zk_196 d_196_49 rfl rfl) rfl rfl rfl rfl rfl (if_pos rfl)
theorem q_196_50r : zRun 196 50 [some (.ref o), l1] S sh mi mj mr = zRun 196 51 [some (.ref o), l1] (.ref o :: S) sh mi mj mr := zr_l (zD_of zk_196 d_196_50 rfl rfl) rfl rfl rfl
theorem q_196_50n : zRun 196 50 [some (.null), l1] S sh mi mj mr = zRun 196 51 [some (.null), l1] (.null :: S) sh mi mj mr := zr_l (zD_of zk_196 d_196_50 rfl rfl) rfl rfl rfl
theorem q_196_51  (hS : zcat S ≤ 8) (h : zIs sh o 0 8) : zRun 196 51 L (.ref o :: S) sh mi mj mr = (zCall 195 [.ref o] sh mi mj mr).bind fun r => zRun 196 54 L (r.1.toList ++ S) r.2.1 r.2.2.1 r.2.2.2.1 r.2.2.2.2 := zr_V (zD_of zk_196 d_196_51 rfl rfl) rfl zk_195 rfl rfl rfl hS h
theorem q_196_54  : zRun 196 54 L ([.int x]) sh mi mj mr = some (some (.int x), sh, mi, mj, mr) := zr_ret (zD_of zk_196 d_196_54 rfl rfl) rfl rfl rfl rfl rfl (if_pos rfl)
theorem q_196_55  : zRun 196 55 L S sh mi mj mr = zRun 196 57 L (.int (-2) :: S) sh mi mj mr := zr_p (zD_of zk_196 d_196_55 rfl rfl) rfl
theorem q_196_57  : zRun 196 57 L ([.int x]) sh mi mj mr = some (some (.int x), sh, mi, mj, mr) := zr_ret (zD_of zk_196 d_196_57 rfl rfl) rfl rfl rfl rfl rfl (if_pos rfl)
theorem e_196 {x0 : Int32} : zCall 196 [.ref o, .int x0] sh mi mj mr = zRun 196 0 [some (.ref o), some (.int x0)] [] sh mi mj mr := rfl
theorem d_197_0 : decode cX8_save 0 = .ok (.iload_n 1, 1) := by decide +kernel
theorem d_197_1 : decode cX8_save 1 = .ok (.invokestatic 82, 3) := by decide +kernel
theorem d_197_4 : decode cX8_save 4 = .ok (.ifCond .ne 6, 3) := by decide +kernel
theorem d_197_7 : decode cX8_save 7 = .ok (.bipush (-2), 2) := by decide +kernel
theorem d_197_9 : decode cX8_save 9 = .ok (.ireturn, 1) := by decide +kernel
theorem d_197_10 : decode cX8_save 10 = .ok (.iconst 0, 1) := by decide +kernel
theorem d_197_11 : decode cX8_save 11 = .ok (.istore_n 2, 1) := by decide +kernel
theorem d_197_12 : decode cX8_save 12 = .ok (.iload_n 2, 1) := by decide +kernel
theorem d_197_13 : decode cX8_save 13 = .ok (.sipush 493, 3) := by decide +kernel
theorem d_197_16 : decode cX8_save 16 = .ok (.if_icmp .ge 27, 3) := by decide +kernel
theorem d_197_19 : decode cX8_save 19 = .ok (.aload_n 0, 1) := by decide +kernel
theorem d_197_20 : decode cX8_save 20 = .ok (.getfield 13, 3) := by decide +kernel
theorem d_197_23 : decode cX8_save 23 = .ok (.sipush 493, 3) := by decide +kernel
theorem d_197_26 : decode cX8_save 26 = .ok (.iload_n 1, 1) := by decide +kernel
theorem d_197_27 : decode cX8_save 27 = .ok (.imul, 1) := by decide +kernel
theorem d_197_28 : decode cX8_save 28 = .ok (.iload_n 2, 1) := by decide +kernel
theorem d_197_29 : decode cX8_save 29 = .ok (.iadd, 1) := by decide +kernel
theorem d_197_30 : decode cX8_save 30 = .ok (.aload_n 0, 1) := by decide +kernel
theorem d_197_31 : decode cX8_save 31 = .ok (.getfield 7, 3) := by decide +kernel
theorem d_197_34 : decode cX8_save 34 = .ok (.iload_n 2, 1) := by decide +kernel
theorem d_197_35 : decode cX8_save 35 = .ok (.iaload, 1) := by decide +kernel
theorem d_197_36 : decode cX8_save 36 = .ok (.iastore, 1) := by decide +kernel
theorem d_197_37 : decode cX8_save 37 = .ok (.iinc 2 1, 3) := by decide +kernel
theorem d_197_40 : decode cX8_save 40 = .ok (.goto (-28), 3) := by decide +kernel
theorem d_197_43 : decode cX8_save 43 = .ok (.aload_n 0, 1) := by decide +kernel
theorem d_197_44 : decode cX8_save 44 = .ok (.getfield 16, 3) := by decide +kernel
theorem d_197_47 : decode cX8_save 47 = .ok (.iload_n 1, 1) := by decide +kernel
theorem d_197_48 : decode cX8_save 48 = .ok (.iconst 1, 1) := by decide +kernel
theorem d_197_49 : decode cX8_save 49 = .ok (.bastore, 1) := by decide +kernel
theorem d_197_50 : decode cX8_save 50 = .ok (.aload_n 0, 1) := by decide +kernel
theorem d_197_51 : decode cX8_save 51 = .ok (.invokevirtual 339, 3) := by decide +kernel
theorem d_197_54 : decode cX8_save 54 = .ok (.ireturn, 1) := by decide +kernel
theorem q_197_0 : zRun 197 0 [l0, some (.int x), l2] S sh mi mj mr = zRun 197 1 [l0, some (.int x), l2] (.int x :: S) sh mi mj mr := zr_l (zD_of zk_197 d_197_0 rfl rfl) rfl rfl rfl
theorem q_197_1  {x0 : Int32} (hS : zcat S ≤ 8) : zRun 197 1 L (.int x0 :: S) sh mi mj mr = (zCall 114 [.int x0] sh mi mj mr).bind fun r => zRun 197 4 L (r.1.toList ++ S) r.2.1 r.2.2.1 r.2.2.2.1 r.2.2.2.2 := zr_S (zD_of zk_197 d_197_1 rfl rfl) rfl zk_114 rfl rfl rfl hS
theorem q_197_4  : zRun 197 4 L (.int x :: S) sh mi mj mr = if ¬ x = 0 then zRun 197 10 L S sh mi mj mr else zRun 197 7 L S sh mi mj mr := zr_if (off := 6) (P := ¬ x = 0) (zD_of zk_197 d_197_4 rfl rfl) rfl rfl (by decide)
theorem q_197_7  : zRun 197 7 L S sh mi mj mr = zRun 197 9 L (.int (-2) :: S) sh mi mj mr := zr_p (zD_of zk_197 d_197_7 rfl rfl) rfl
theorem q_197_9  : zRun 197 9 L ([.int x]) sh mi mj mr = some (some (.int x), sh, mi, mj, mr) := zr_ret (zD_of zk_197 d_197_9 rfl rfl) rfl rfl rfl rfl rfl (if_pos rfl)
theorem q_197_10  : zRun 197 10 L S sh mi mj mr = zRun 197 11 L (.int 0 :: S) sh mi mj mr := zr_p (zD_of zk_197 d_197_10 rfl rfl) rfl
theorem q_197_11 : zRun 197 11 [l0, l1, l2] (.int x :: S) sh mi mj mr = zRun 197 12 [l0, zk2 l1, some (.int x)] S sh mi mj mr := zr_s1 (i := 2) (v := .int x) (L := [l0, l1, l2]) (zD_of zk_197 d_197_11 rfl rfl) rfl rfl rfl rfl
theorem q_197_12 : zRun 197 12 [l0, l1, some (.int x)] S sh mi mj mr = zRun 197 13 [l0, l1, some (.int x)] (.int x :: S) sh mi mj mr := zr_l (zD_of zk_197 d_197_12 rfl rfl) rfl rfl rfl
theorem q_197_13  : zRun 197 13 L S sh mi mj mr = zRun 197 16 L (.int 493 :: S) sh mi mj mr := zr_p (zD_of zk_197 d_197_13 rfl rfl) rfl
theorem q_197_16  : zRun 197 16 L (.int y :: .int x :: S) sh mi mj mr = if y ≤ x then zRun 197 43 L S sh mi mj mr else zRun 197 19 L S sh mi mj mr := zr_if (off := 27) (P := y ≤ x) (zD_of zk_197 d_197_16 rfl rfl) rfl rfl (by decide)
theorem q_197_19r : zRun 197 19 [some (.ref o), l1, l2] S sh mi mj mr = zRun 197 20 [some (.ref o), l1, l2] (.ref o :: S) sh mi mj mr := zr_l (zD_of zk_197 d_197_19 rfl rfl) rfl rfl rfl
theorem q_197_19n : zRun 197 19 [some (.null), l1, l2] S sh mi mj mr = zRun 197 20 [some (.null), l1, l2] (.null :: S) sh mi mj mr := zr_l (zD_of zk_197 d_197_19 rfl rfl) rfl rfl rfl
theorem q_197_20 (h : zIs sh o 0 8) : zRun 197 20 L (.ref o :: S) sh mi mj mr = zRun 197 23 L (va_rf (mr o 1) :: S) sh mi mj mr := zr_getR (zD_of zk_197 d_197_20 rfl rfl) rfl rfl rfl h
theorem q_197_23  : zRun 197 23 L S sh mi mj mr = zRun 197 26 L (.int 493 :: S) sh mi mj mr := zr_p (zD_of zk_197 d_197_23 rfl rfl) rfl
theorem q_197_26 : zRun 197 26 [l0, some (.int x), l2] S sh mi mj mr = zRun 197 27 [l0, some (.int x), l2] (.int x :: S) sh mi mj mr := zr_l (zD_of zk_197 d_197_26 rfl rfl) rfl rfl rfl
theorem q_197_27  : zRun 197 27 L (.int y :: .int x :: S) sh mi mj mr = zRun 197 28 L (.int (x * y) :: S) sh mi mj mr := zr_p (zD_of zk_197 d_197_27 rfl rfl) rfl
theorem q_197_28 : zRun 197 28 [l0, l1, some (.int x)] S sh mi mj mr = zRun 197 29 [l0, l1, some (.int x)] (.int x :: S) sh mi mj mr := zr_l (zD_of zk_197 d_197_28 rfl rfl) rfl rfl rfl
theorem q_197_29  : zRun 197 29 L (.int y :: .int x :: S) sh mi mj mr = zRun 197 30 L (.int (x + y) :: S) sh mi mj mr := zr_p (zD_of zk_197 d_197_29 rfl rfl) rfl
theorem q_197_30r : zRun 197 30 [some (.ref o), l1, l2] S sh mi mj mr = zRun 197 31 [some (.ref o), l1, l2] (.ref o :: S) sh mi mj mr := zr_l (zD_of zk_197 d_197_30 rfl rfl) rfl rfl rfl
theorem q_197_30n : zRun 197 30 [some (.null), l1, l2] S sh mi mj mr = zRun 197 31 [some (.null), l1, l2] (.null :: S) sh mi mj mr := zr_l (zD_of zk_197 d_197_30 rfl rfl) rfl rfl rfl
theorem q_197_31 (h : zIs sh o 0 8) : zRun 197 31 L (.ref o :: S) sh mi mj mr = zRun 197 34 L (va_rf (mr o 0) :: S) sh mi mj mr := zr_getR (zD_of zk_197 d_197_31 rfl rfl) rfl rfl rfl h
theorem q_197_34 : zRun 197 34 [l0, l1, some (.int x)] S sh mi mj mr = zRun 197 35 [l0, l1, some (.int x)] (.int x :: S) sh mi mj mr := zr_l (zD_of zk_197 d_197_34 rfl rfl) rfl rfl rfl
theorem q_197_35 (h : zAt sh o 1 x) : zRun 197 35 L (.int x :: .ref o :: S) sh mi mj mr = zRun 197 36 L (.int (mi o x.toNatClampNeg) :: S) sh mi mj mr := zr_iald (zD_of zk_197 d_197_35 rfl rfl) h
theorem q_197_36 (h : zAt sh o 1 x) : zRun 197 36 L (.int y :: .int x :: .ref o :: S) sh mi mj mr = zRun 197 37 L S sh (zup mi o x.toNatClampNeg y) mj mr := zr_iast (zD_of zk_197 d_197_36 rfl rfl) h
theorem q_197_37  : zRun 197 37 [l0, l1, some (.int x)] S sh mi mj mr = zRun 197 40 [l0, zk2 l1, some (.int (x + 1))] S sh mi mj mr := zr_s1 (i := 2) (v := .int (x + 1)) (L := [l0, l1, some (.int x)]) (zD_of zk_197 d_197_37 rfl rfl) rfl rfl rfl rfl
theorem q_197_40  : zRun 197 40 L S sh mi mj mr = zRun 197 12 L S sh mi mj mr := zr_go (off := (-28)) (zD_of zk_197 d_197_40 rfl rfl) rfl rfl (by decide)
theorem q_197_43r : zRun 197 43 [some (.ref o), l1, l2] S sh mi mj mr = zRun 197 44 [some (.ref o), l1, l2] (.ref o :: S) sh mi mj mr := zr_l (zD_of zk_197 d_197_43 rfl rfl) rfl rfl rfl
theorem q_197_43n : zRun 197 43 [some (.null), l1, l2] S sh mi mj mr = zRun 197 44 [some (.null), l1, l2] (.null :: S) sh mi mj mr := zr_l (zD_of zk_197 d_197_43 rfl rfl) rfl rfl rfl
theorem q_197_44 (h : zIs sh o 0 8) : zRun 197 44 L (.ref o :: S) sh mi mj mr = zRun 197 47 L (va_rf (mr o 2) :: S) sh mi mj mr := zr_getR (zD_of zk_197 d_197_44 rfl rfl) rfl rfl rfl h
theorem q_197_47 : zRun 197 47 [l0, some (.int x), l2] S sh mi mj mr = zRun 197 48 [l0, some (.int x), l2] (.int x :: S) sh mi mj mr := zr_l (zD_of zk_197 d_197_47 rfl rfl) rfl rfl rfl
theorem q_197_48  : zRun 197 48 L S sh mi mj mr = zRun 197 49 L (.int 1 :: S) sh mi mj mr := zr_p (zD_of zk_197 d_197_48 rfl rfl) rfl
theorem q_197_49 (h : zAt sh o 4 x) : zRun 197 49 L (.int y :: .int x :: .ref o :: S) sh mi mj mr = zRun 197 50 L S sh (zup mi o x.toNatClampNeg (vp_nar .boolean y)) mj mr := zr_bast (zD_of zk_197 d_197_49 rfl rfl) h
theorem q_197_50r : zRun 197 50 [some (.ref o), l1, l2] S sh mi mj mr = zRun 197 51 [some (.ref o), l1, l2] (.ref o :: S) sh mi mj mr := zr_l (zD_of zk_197 d_197_50 rfl rfl) rfl rfl rfl
theorem q_197_50n : zRun 197 50 [some (.null), l1, l2] S sh mi mj mr = zRun 197 51 [some (.null), l1, l2] (.null :: S) sh mi mj mr := zr_l (zD_of zk_197 d_197_50 rfl rfl) rfl rfl rfl
theorem q_197_51  (hS : zcat S ≤ 8) (h : zIs sh o 0 8) : zRun 197 51 L (.ref o :: S) sh mi mj mr = (zCall 194 [.ref o] sh mi mj mr).bind fun r => zRun 197 54 L (r.1.toList ++ S) r.2.1 r.2.2.1 r.2.2.2.1 r.2.2.2.2 := zr_V (zD_of zk_197 d_197_51 rfl rfl) rfl zk_194 rfl rfl rfl hS h
theorem q_197_54  : zRun 197 54 L ([.int x]) sh mi mj mr = some (some (.int x), sh, mi, mj, mr) := zr_ret (zD_of zk_197 d_197_54 rfl rfl) rfl rfl rfl rfl rfl (if_pos rfl)
theorem e_197 {x0 : Int32} : zCall 197 [.ref o, .int x0] sh mi mj mr = zRun 197 0 [some (.ref o), some (.int x0), none] [] sh mi mj mr := rfl
theorem d_198_0 : decode cX8_restore 0 = .ok (.iload_n 1, 1) := by decide +kernel
theorem d_198_1 : decode cX8_restore 1 = .ok (.invokestatic 82, 3) := by decide +kernel
theorem d_198_4 : decode cX8_restore 4 = .ok (.ifCond .ne 6, 3) := by decide +kernel
theorem d_198_7 : decode cX8_restore 7 = .ok (.bipush (-2), 2) := by decide +kernel
theorem d_198_9 : decode cX8_restore 9 = .ok (.ireturn, 1) := by decide +kernel
theorem d_198_10 : decode cX8_restore 10 = .ok (.aload_n 0, 1) := by decide +kernel
theorem d_198_11 : decode cX8_restore 11 = .ok (.getfield 16, 3) := by decide +kernel
theorem d_198_14 : decode cX8_restore 14 = .ok (.iload_n 1, 1) := by decide +kernel
theorem d_198_15 : decode cX8_restore 15 = .ok (.baload, 1) := by decide +kernel
theorem d_198_16 : decode cX8_restore 16 = .ok (.ifCond .ne 6, 3) := by decide +kernel
theorem d_198_19 : decode cX8_restore 19 = .ok (.bipush (-5), 2) := by decide +kernel
theorem d_198_21 : decode cX8_restore 21 = .ok (.ireturn, 1) := by decide +kernel
theorem d_198_22 : decode cX8_restore 22 = .ok (.iconst 0, 1) := by decide +kernel
theorem d_198_23 : decode cX8_restore 23 = .ok (.istore_n 2, 1) := by decide +kernel
theorem d_198_24 : decode cX8_restore 24 = .ok (.iload_n 2, 1) := by decide +kernel
theorem d_198_25 : decode cX8_restore 25 = .ok (.sipush 493, 3) := by decide +kernel
theorem d_198_28 : decode cX8_restore 28 = .ok (.if_icmp .ge 27, 3) := by decide +kernel
theorem d_198_31 : decode cX8_restore 31 = .ok (.aload_n 0, 1) := by decide +kernel
theorem d_198_32 : decode cX8_restore 32 = .ok (.getfield 7, 3) := by decide +kernel
theorem d_198_35 : decode cX8_restore 35 = .ok (.iload_n 2, 1) := by decide +kernel
theorem d_198_36 : decode cX8_restore 36 = .ok (.aload_n 0, 1) := by decide +kernel
theorem d_198_37 : decode cX8_restore 37 = .ok (.getfield 13, 3) := by decide +kernel
theorem d_198_40 : decode cX8_restore 40 = .ok (.sipush 493, 3) := by decide +kernel
theorem d_198_43 : decode cX8_restore 43 = .ok (.iload_n 1, 1) := by decide +kernel
theorem d_198_44 : decode cX8_restore 44 = .ok (.imul, 1) := by decide +kernel
theorem d_198_45 : decode cX8_restore 45 = .ok (.iload_n 2, 1) := by decide +kernel
theorem d_198_46 : decode cX8_restore 46 = .ok (.iadd, 1) := by decide +kernel
theorem d_198_47 : decode cX8_restore 47 = .ok (.iaload, 1) := by decide +kernel
theorem d_198_48 : decode cX8_restore 48 = .ok (.iastore, 1) := by decide +kernel
theorem d_198_49 : decode cX8_restore 49 = .ok (.iinc 2 1, 3) := by decide +kernel
theorem d_198_52 : decode cX8_restore 52 = .ok (.goto (-28), 3) := by decide +kernel
theorem d_198_55 : decode cX8_restore 55 = .ok (.aload_n 0, 1) := by decide +kernel
theorem d_198_56 : decode cX8_restore 56 = .ok (.invokevirtual 339, 3) := by decide +kernel
theorem d_198_59 : decode cX8_restore 59 = .ok (.ireturn, 1) := by decide +kernel
theorem q_198_0 : zRun 198 0 [l0, some (.int x), l2] S sh mi mj mr = zRun 198 1 [l0, some (.int x), l2] (.int x :: S) sh mi mj mr := zr_l (zD_of zk_198 d_198_0 rfl rfl) rfl rfl rfl
theorem q_198_1  {x0 : Int32} (hS : zcat S ≤ 8) : zRun 198 1 L (.int x0 :: S) sh mi mj mr = (zCall 114 [.int x0] sh mi mj mr).bind fun r => zRun 198 4 L (r.1.toList ++ S) r.2.1 r.2.2.1 r.2.2.2.1 r.2.2.2.2 := zr_S (zD_of zk_198 d_198_1 rfl rfl) rfl zk_114 rfl rfl rfl hS
theorem q_198_4  : zRun 198 4 L (.int x :: S) sh mi mj mr = if ¬ x = 0 then zRun 198 10 L S sh mi mj mr else zRun 198 7 L S sh mi mj mr := zr_if (off := 6) (P := ¬ x = 0) (zD_of zk_198 d_198_4 rfl rfl) rfl rfl (by decide)
theorem q_198_7  : zRun 198 7 L S sh mi mj mr = zRun 198 9 L (.int (-2) :: S) sh mi mj mr := zr_p (zD_of zk_198 d_198_7 rfl rfl) rfl
theorem q_198_9  : zRun 198 9 L ([.int x]) sh mi mj mr = some (some (.int x), sh, mi, mj, mr) := zr_ret (zD_of zk_198 d_198_9 rfl rfl) rfl rfl rfl rfl rfl (if_pos rfl)
theorem q_198_10r : zRun 198 10 [some (.ref o), l1, l2] S sh mi mj mr = zRun 198 11 [some (.ref o), l1, l2] (.ref o :: S) sh mi mj mr := zr_l (zD_of zk_198 d_198_10 rfl rfl) rfl rfl rfl
theorem q_198_10n : zRun 198 10 [some (.null), l1, l2] S sh mi mj mr = zRun 198 11 [some (.null), l1, l2] (.null :: S) sh mi mj mr := zr_l (zD_of zk_198 d_198_10 rfl rfl) rfl rfl rfl
theorem q_198_11 (h : zIs sh o 0 8) : zRun 198 11 L (.ref o :: S) sh mi mj mr = zRun 198 14 L (va_rf (mr o 2) :: S) sh mi mj mr := zr_getR (zD_of zk_198 d_198_11 rfl rfl) rfl rfl rfl h
theorem q_198_14 : zRun 198 14 [l0, some (.int x), l2] S sh mi mj mr = zRun 198 15 [l0, some (.int x), l2] (.int x :: S) sh mi mj mr := zr_l (zD_of zk_198 d_198_14 rfl rfl) rfl rfl rfl
theorem q_198_15 (h : zAt sh o 4 x) : zRun 198 15 L (.int x :: .ref o :: S) sh mi mj mr = zRun 198 16 L (.int (mi o x.toNatClampNeg) :: S) sh mi mj mr := zr_bald (zD_of zk_198 d_198_15 rfl rfl) h
theorem q_198_16  : zRun 198 16 L (.int x :: S) sh mi mj mr = if ¬ x = 0 then zRun 198 22 L S sh mi mj mr else zRun 198 19 L S sh mi mj mr := zr_if (off := 6) (P := ¬ x = 0) (zD_of zk_198 d_198_16 rfl rfl) rfl rfl (by decide)
theorem q_198_19  : zRun 198 19 L S sh mi mj mr = zRun 198 21 L (.int (-5) :: S) sh mi mj mr := zr_p (zD_of zk_198 d_198_19 rfl rfl) rfl
theorem q_198_21  : zRun 198 21 L ([.int x]) sh mi mj mr = some (some (.int x), sh, mi, mj, mr) := zr_ret (zD_of zk_198 d_198_21 rfl rfl) rfl rfl rfl rfl rfl (if_pos rfl)
theorem q_198_22  : zRun 198 22 L S sh mi mj mr = zRun 198 23 L (.int 0 :: S) sh mi mj mr := zr_p (zD_of zk_198 d_198_22 rfl rfl) rfl
theorem q_198_23 : zRun 198 23 [l0, l1, l2] (.int x :: S) sh mi mj mr = zRun 198 24 [l0, zk2 l1, some (.int x)] S sh mi mj mr := zr_s1 (i := 2) (v := .int x) (L := [l0, l1, l2]) (zD_of zk_198 d_198_23 rfl rfl) rfl rfl rfl rfl
theorem q_198_24 : zRun 198 24 [l0, l1, some (.int x)] S sh mi mj mr = zRun 198 25 [l0, l1, some (.int x)] (.int x :: S) sh mi mj mr := zr_l (zD_of zk_198 d_198_24 rfl rfl) rfl rfl rfl
theorem q_198_25  : zRun 198 25 L S sh mi mj mr = zRun 198 28 L (.int 493 :: S) sh mi mj mr := zr_p (zD_of zk_198 d_198_25 rfl rfl) rfl
theorem q_198_28  : zRun 198 28 L (.int y :: .int x :: S) sh mi mj mr = if y ≤ x then zRun 198 55 L S sh mi mj mr else zRun 198 31 L S sh mi mj mr := zr_if (off := 27) (P := y ≤ x) (zD_of zk_198 d_198_28 rfl rfl) rfl rfl (by decide)
theorem q_198_31r : zRun 198 31 [some (.ref o), l1, l2] S sh mi mj mr = zRun 198 32 [some (.ref o), l1, l2] (.ref o :: S) sh mi mj mr := zr_l (zD_of zk_198 d_198_31 rfl rfl) rfl rfl rfl
theorem q_198_31n : zRun 198 31 [some (.null), l1, l2] S sh mi mj mr = zRun 198 32 [some (.null), l1, l2] (.null :: S) sh mi mj mr := zr_l (zD_of zk_198 d_198_31 rfl rfl) rfl rfl rfl
theorem q_198_32 (h : zIs sh o 0 8) : zRun 198 32 L (.ref o :: S) sh mi mj mr = zRun 198 35 L (va_rf (mr o 0) :: S) sh mi mj mr := zr_getR (zD_of zk_198 d_198_32 rfl rfl) rfl rfl rfl h
theorem q_198_35 : zRun 198 35 [l0, l1, some (.int x)] S sh mi mj mr = zRun 198 36 [l0, l1, some (.int x)] (.int x :: S) sh mi mj mr := zr_l (zD_of zk_198 d_198_35 rfl rfl) rfl rfl rfl
theorem q_198_36r : zRun 198 36 [some (.ref o), l1, l2] S sh mi mj mr = zRun 198 37 [some (.ref o), l1, l2] (.ref o :: S) sh mi mj mr := zr_l (zD_of zk_198 d_198_36 rfl rfl) rfl rfl rfl
theorem q_198_36n : zRun 198 36 [some (.null), l1, l2] S sh mi mj mr = zRun 198 37 [some (.null), l1, l2] (.null :: S) sh mi mj mr := zr_l (zD_of zk_198 d_198_36 rfl rfl) rfl rfl rfl
theorem q_198_37 (h : zIs sh o 0 8) : zRun 198 37 L (.ref o :: S) sh mi mj mr = zRun 198 40 L (va_rf (mr o 1) :: S) sh mi mj mr := zr_getR (zD_of zk_198 d_198_37 rfl rfl) rfl rfl rfl h
theorem q_198_40  : zRun 198 40 L S sh mi mj mr = zRun 198 43 L (.int 493 :: S) sh mi mj mr := zr_p (zD_of zk_198 d_198_40 rfl rfl) rfl
theorem q_198_43 : zRun 198 43 [l0, some (.int x), l2] S sh mi mj mr = zRun 198 44 [l0, some (.int x), l2] (.int x :: S) sh mi mj mr := zr_l (zD_of zk_198 d_198_43 rfl rfl) rfl rfl rfl
theorem q_198_44  : zRun 198 44 L (.int y :: .int x :: S) sh mi mj mr = zRun 198 45 L (.int (x * y) :: S) sh mi mj mr := zr_p (zD_of zk_198 d_198_44 rfl rfl) rfl
theorem q_198_45 : zRun 198 45 [l0, l1, some (.int x)] S sh mi mj mr = zRun 198 46 [l0, l1, some (.int x)] (.int x :: S) sh mi mj mr := zr_l (zD_of zk_198 d_198_45 rfl rfl) rfl rfl rfl
theorem q_198_46  : zRun 198 46 L (.int y :: .int x :: S) sh mi mj mr = zRun 198 47 L (.int (x + y) :: S) sh mi mj mr := zr_p (zD_of zk_198 d_198_46 rfl rfl) rfl
theorem q_198_47 (h : zAt sh o 1 x) : zRun 198 47 L (.int x :: .ref o :: S) sh mi mj mr = zRun 198 48 L (.int (mi o x.toNatClampNeg) :: S) sh mi mj mr := zr_iald (zD_of zk_198 d_198_47 rfl rfl) h
theorem q_198_48 (h : zAt sh o 1 x) : zRun 198 48 L (.int y :: .int x :: .ref o :: S) sh mi mj mr = zRun 198 49 L S sh (zup mi o x.toNatClampNeg y) mj mr := zr_iast (zD_of zk_198 d_198_48 rfl rfl) h
theorem q_198_49  : zRun 198 49 [l0, l1, some (.int x)] S sh mi mj mr = zRun 198 52 [l0, zk2 l1, some (.int (x + 1))] S sh mi mj mr := zr_s1 (i := 2) (v := .int (x + 1)) (L := [l0, l1, some (.int x)]) (zD_of zk_198 d_198_49 rfl rfl) rfl rfl rfl rfl
theorem q_198_52  : zRun 198 52 L S sh mi mj mr = zRun 198 24 L S sh mi mj mr := zr_go (off := (-28)) (zD_of zk_198 d_198_52 rfl rfl) rfl rfl (by decide)
theorem q_198_55r : zRun 198 55 [some (.ref o), l1, l2] S sh mi mj mr = zRun 198 56 [some (.ref o), l1, l2] (.ref o :: S) sh mi mj mr := zr_l (zD_of zk_198 d_198_55 rfl rfl) rfl rfl rfl
theorem q_198_55n : zRun 198 55 [some (.null), l1, l2] S sh mi mj mr = zRun 198 56 [some (.null), l1, l2] (.null :: S) sh mi mj mr := zr_l (zD_of zk_198 d_198_55 rfl rfl) rfl rfl rfl
theorem q_198_56  (hS : zcat S ≤ 8) (h : zIs sh o 0 8) : zRun 198 56 L (.ref o :: S) sh mi mj mr = (zCall 194 [.ref o] sh mi mj mr).bind fun r => zRun 198 59 L (r.1.toList ++ S) r.2.1 r.2.2.1 r.2.2.2.1 r.2.2.2.2 := zr_V (zD_of zk_198 d_198_56 rfl rfl) rfl zk_194 rfl rfl rfl hS h
theorem q_198_59  : zRun 198 59 L ([.int x]) sh mi mj mr = some (some (.int x), sh, mi, mj, mr) := zr_ret (zD_of zk_198 d_198_59 rfl rfl) rfl rfl rfl rfl rfl (if_pos rfl)
theorem e_198 {x0 : Int32} : zCall 198 [.ref o, .int x0] sh mi mj mr = zRun 198 0 [some (.ref o), some (.int x0), none] [] sh mi mj mr := rfl
end
