/-! ===== one rule for each instruction of the class (2) ===== -/
section
variable {L : zLS} {S : List Value} {sh : zSh} {mi : zI} {mj : zJ} {mr : zR} {x y z : Int32} {u v : Int64} {o o2 : Nat} {l0 l1 l2 l3 l4 l5 l6 l7 l8 l9 l10 l11 l12 l13 l14 l15 l16 l17 l18 : Option Value}
theorem d_44_0 : decode cX3_init 0 = .ok (.aload_n 0, 1) := by decide +kernel
theorem d_44_1 : decode cX3_init 1 = .ok (.invokespecial 3, 3) := by decide +kernel
theorem d_44_4 : decode cX3_init 4 = .ok (.aload_n 0, 1) := by decide +kernel
theorem d_44_5 : decode cX3_init 5 = .ok (.bipush 32, 2) := by decide +kernel
theorem d_44_7 : decode cX3_init 7 = .ok (.anewarray 9, 3) := by decide +kernel
theorem d_44_10 : decode cX3_init 10 = .ok (.putfield 11, 3) := by decide +kernel
theorem d_44_13 : decode cX3_init 13 = .ok (.aload_n 0, 1) := by decide +kernel
theorem d_44_14 : decode cX3_init 14 = .ok (.new 9, 3) := by decide +kernel
theorem d_44_17 : decode cX3_init 17 = .ok (.dup, 1) := by decide +kernel
theorem d_44_18 : decode cX3_init 18 = .ok (.invokespecial 17, 3) := by decide +kernel
theorem d_44_21 : decode cX3_init 21 = .ok (.putfield 18, 3) := by decide +kernel
theorem d_44_24 : decode cX3_init 24 = .ok (.aload_n 0, 1) := by decide +kernel
theorem d_44_25 : decode cX3_init 25 = .ok (.new 9, 3) := by decide +kernel
theorem d_44_28 : decode cX3_init 28 = .ok (.dup, 1) := by decide +kernel
theorem d_44_29 : decode cX3_init 29 = .ok (.invokespecial 17, 3) := by decide +kernel
theorem d_44_32 : decode cX3_init 32 = .ok (.putfield 22, 3) := by decide +kernel
theorem d_44_35 : decode cX3_init 35 = .ok (.iconst 0, 1) := by decide +kernel
theorem d_44_36 : decode cX3_init 36 = .ok (.istore_n 1, 1) := by decide +kernel
theorem d_44_37 : decode cX3_init 37 = .ok (.iload_n 1, 1) := by decide +kernel
theorem d_44_38 : decode cX3_init 38 = .ok (.bipush 32, 2) := by decide +kernel
theorem d_44_40 : decode cX3_init 40 = .ok (.if_icmp .ge 22, 3) := by decide +kernel
theorem d_44_43 : decode cX3_init 43 = .ok (.aload_n 0, 1) := by decide +kernel
theorem d_44_44 : decode cX3_init 44 = .ok (.getfield 11, 3) := by decide +kernel
theorem d_44_47 : decode cX3_init 47 = .ok (.iload_n 1, 1) := by decide +kernel
theorem d_44_48 : decode cX3_init 48 = .ok (.new 9, 3) := by decide +kernel
theorem d_44_51 : decode cX3_init 51 = .ok (.dup, 1) := by decide +kernel
theorem d_44_52 : decode cX3_init 52 = .ok (.invokespecial 17, 3) := by decide +kernel
theorem d_44_55 : decode cX3_init 55 = .ok (.aastore, 1) := by decide +kernel
theorem d_44_56 : decode cX3_init 56 = .ok (.iinc 1 1, 3) := by decide +kernel
theorem d_44_59 : decode cX3_init 59 = .ok (.goto (-22), 3) := by decide +kernel
theorem d_44_62 : decode cX3_init 62 = .ok (.return_, 1) := by decide +kernel
theorem q_44_0r : zRun 44 0 [some (.ref o), l1] S sh mi mj mr = zRun 44 1 [some (.ref o), l1] (.ref o :: S) sh mi mj mr := zr_l (zD_of zk_44 d_44_0 rfl rfl) rfl rfl rfl
theorem q_44_0n : zRun 44 0 [some (.null), l1] S sh mi mj mr = zRun 44 1 [some (.null), l1] (.null :: S) sh mi mj mr := zr_l (zD_of zk_44 d_44_0 rfl rfl) rfl rfl rfl
theorem q_44_1 (h : zcat S ≤ 8) : zRun 44 1 L (.ref o :: S) sh mi mj mr = zRun 44 4 L S sh mi mj mr := zr_obj (zD_of zk_44 d_44_1 rfl rfl) rfl h
theorem q_44_4r : zRun 44 4 [some (.ref o), l1] S sh mi mj mr = zRun 44 5 [some (.ref o), l1] (.ref o :: S) sh mi mj mr := zr_l (zD_of zk_44 d_44_4 rfl rfl) rfl rfl rfl
theorem q_44_4n : zRun 44 4 [some (.null), l1] S sh mi mj mr = zRun 44 5 [some (.null), l1] (.null :: S) sh mi mj mr := zr_l (zD_of zk_44 d_44_4 rfl rfl) rfl rfl rfl
theorem q_44_5  : zRun 44 5 L S sh mi mj mr = zRun 44 7 L (.int 32 :: S) sh mi mj mr := zr_p (zD_of zk_44 d_44_5 rfl rfl) rfl
theorem q_44_7 (h : 0 ≤ x ∧ x ≤ 100000) : zRun 44 7 L (.int x :: S) sh mi mj mr = zRun 44 10 L (.ref sh.length :: S) (sh ++ [(7, x.toNatClampNeg)]) mi mj mr := zr_anew (zD_of zk_44 d_44_7 rfl rfl) rfl ⟨h.1, h.2, by decide⟩
theorem q_44_10 (h : zIs sh o 0 3) : zRun 44 10 L (.ref o2 :: .ref o :: S) sh mi mj mr = zRun 44 13 L S sh mi mj (zup mr o 0 (some o2)) := zr_putR (zD_of zk_44 d_44_10 rfl rfl) rfl rfl rfl (Or.inr ⟨rfl, rfl⟩) h
theorem q_44_13r : zRun 44 13 [some (.ref o), l1] S sh mi mj mr = zRun 44 14 [some (.ref o), l1] (.ref o :: S) sh mi mj mr := zr_l (zD_of zk_44 d_44_13 rfl rfl) rfl rfl rfl
theorem q_44_13n : zRun 44 13 [some (.null), l1] S sh mi mj mr = zRun 44 14 [some (.null), l1] (.null :: S) sh mi mj mr := zr_l (zD_of zk_44 d_44_13 rfl rfl) rfl rfl rfl
theorem q_44_14  : zRun 44 14 L S sh mi mj mr = zRun 44 17 L (.ref sh.length :: S) (sh ++ [(0, 2)]) mi mj mr := zr_new (zD_of zk_44 d_44_14 rfl rfl) rfl (by decide)
theorem q_44_17r : zRun 44 17 L (.ref o :: S) sh mi mj mr = zRun 44 18 L (.ref o :: .ref o :: S) sh mi mj mr := zr_p (zD_of zk_44 d_44_17 rfl rfl) rfl
theorem q_44_17i : zRun 44 17 L (.int x :: S) sh mi mj mr = zRun 44 18 L (.int x :: .int x :: S) sh mi mj mr := zr_p (zD_of zk_44 d_44_17 rfl rfl) rfl
theorem q_44_18  (hS : zcat S ≤ 8) (h : 1 ≤ o) : zRun 44 18 L (.ref o :: S) sh mi mj mr = (zCall 18 [.ref o] sh mi mj mr).bind fun r => zRun 44 21 L (r.1.toList ++ S) r.2.1 r.2.2.1 r.2.2.2.1 r.2.2.2.2 := zr_I (zD_of zk_44 d_44_18 rfl rfl) (Or.inr rfl) rfl zk_18 rfl rfl rfl hS h
theorem q_44_21 (h : zIs sh o 0 3) : zRun 44 21 L (.ref o2 :: .ref o :: S) sh mi mj mr = zRun 44 24 L S sh mi mj (zup mr o 1 (some o2)) := zr_putR (zD_of zk_44 d_44_21 rfl rfl) rfl rfl rfl (Or.inr ⟨rfl, rfl⟩) h
theorem q_44_24r : zRun 44 24 [some (.ref o), l1] S sh mi mj mr = zRun 44 25 [some (.ref o), l1] (.ref o :: S) sh mi mj mr := zr_l (zD_of zk_44 d_44_24 rfl rfl) rfl rfl rfl
theorem q_44_24n : zRun 44 24 [some (.null), l1] S sh mi mj mr = zRun 44 25 [some (.null), l1] (.null :: S) sh mi mj mr := zr_l (zD_of zk_44 d_44_24 rfl rfl) rfl rfl rfl
theorem q_44_25  : zRun 44 25 L S sh mi mj mr = zRun 44 28 L (.ref sh.length :: S) (sh ++ [(0, 2)]) mi mj mr := zr_new (zD_of zk_44 d_44_25 rfl rfl) rfl (by decide)
theorem q_44_28r : zRun 44 28 L (.ref o :: S) sh mi mj mr = zRun 44 29 L (.ref o :: .ref o :: S) sh mi mj mr := zr_p (zD_of zk_44 d_44_28 rfl rfl) rfl
theorem q_44_28i : zRun 44 28 L (.int x :: S) sh mi mj mr = zRun 44 29 L (.int x :: .int x :: S) sh mi mj mr := zr_p (zD_of zk_44 d_44_28 rfl rfl) rfl
theorem q_44_29  (hS : zcat S ≤ 8) (h : 1 ≤ o) : zRun 44 29 L (.ref o :: S) sh mi mj mr = (zCall 18 [.ref o] sh mi mj mr).bind fun r => zRun 44 32 L (r.1.toList ++ S) r.2.1 r.2.2.1 r.2.2.2.1 r.2.2.2.2 := zr_I (zD_of zk_44 d_44_29 rfl rfl) (Or.inr rfl) rfl zk_18 rfl rfl rfl hS h
theorem q_44_32 (h : zIs sh o 0 3) : zRun 44 32 L (.ref o2 :: .ref o :: S) sh mi mj mr = zRun 44 35 L S sh mi mj (zup mr o 2 (some o2)) := zr_putR (zD_of zk_44 d_44_32 rfl rfl) rfl rfl rfl (Or.inr ⟨rfl, rfl⟩) h
theorem q_44_35  : zRun 44 35 L S sh mi mj mr = zRun 44 36 L (.int 0 :: S) sh mi mj mr := zr_p (zD_of zk_44 d_44_35 rfl rfl) rfl
theorem q_44_36 : zRun 44 36 [l0, l1] (.int x :: S) sh mi mj mr = zRun 44 37 [zk2 l0, some (.int x)] S sh mi mj mr := zr_s1 (i := 1) (v := .int x) (L := [l0, l1]) (zD_of zk_44 d_44_36 rfl rfl) rfl rfl rfl rfl
theorem q_44_37 : zRun 44 37 [l0, some (.int x)] S sh mi mj mr = zRun 44 38 [l0, some (.int x)] (.int x :: S) sh mi mj mr := zr_l (zD_of zk_44 d_44_37 rfl rfl) rfl rfl rfl
theorem q_44_38  : zRun 44 38 L S sh mi mj mr = zRun 44 40 L (.int 32 :: S) sh mi mj mr := zr_p (zD_of zk_44 d_44_38 rfl rfl) rfl
theorem q_44_40  : zRun 44 40 L (.int y :: .int x :: S) sh mi mj mr = if y ≤ x then zRun 44 62 L S sh mi mj mr else zRun 44 43 L S sh mi mj mr := zr_if (off := 22) (P := y ≤ x) (zD_of zk_44 d_44_40 rfl rfl) rfl rfl (by decide)
theorem q_44_43r : zRun 44 43 [some (.ref o), l1] S sh mi mj mr = zRun 44 44 [some (.ref o), l1] (.ref o :: S) sh mi mj mr := zr_l (zD_of zk_44 d_44_43 rfl rfl) rfl rfl rfl
theorem q_44_43n : zRun 44 43 [some (.null), l1] S sh mi mj mr = zRun 44 44 [some (.null), l1] (.null :: S) sh mi mj mr := zr_l (zD_of zk_44 d_44_43 rfl rfl) rfl rfl rfl
theorem q_44_44 (h : zIs sh o 0 3) : zRun 44 44 L (.ref o :: S) sh mi mj mr = zRun 44 47 L (va_rf (mr o 0) :: S) sh mi mj mr := zr_getR (zD_of zk_44 d_44_44 rfl rfl) rfl rfl rfl h
theorem q_44_47 : zRun 44 47 [l0, some (.int x)] S sh mi mj mr = zRun 44 48 [l0, some (.int x)] (.int x :: S) sh mi mj mr := zr_l (zD_of zk_44 d_44_47 rfl rfl) rfl rfl rfl
theorem q_44_48  : zRun 44 48 L S sh mi mj mr = zRun 44 51 L (.ref sh.length :: S) (sh ++ [(0, 2)]) mi mj mr := zr_new (zD_of zk_44 d_44_48 rfl rfl) rfl (by decide)
theorem q_44_51r : zRun 44 51 L (.ref o :: S) sh mi mj mr = zRun 44 52 L (.ref o :: .ref o :: S) sh mi mj mr := zr_p (zD_of zk_44 d_44_51 rfl rfl) rfl
theorem q_44_51i : zRun 44 51 L (.int x :: S) sh mi mj mr = zRun 44 52 L (.int x :: .int x :: S) sh mi mj mr := zr_p (zD_of zk_44 d_44_51 rfl rfl) rfl
theorem q_44_52  (hS : zcat S ≤ 8) (h : 1 ≤ o) : zRun 44 52 L (.ref o :: S) sh mi mj mr = (zCall 18 [.ref o] sh mi mj mr).bind fun r => zRun 44 55 L (r.1.toList ++ S) r.2.1 r.2.2.1 r.2.2.2.1 r.2.2.2.2 := zr_I (zD_of zk_44 d_44_52 rfl rfl) (Or.inr rfl) rfl zk_18 rfl rfl rfl hS h
theorem q_44_55t7 (h : zAt sh o 7 x) (h2 : zIs sh o2 0 2) : zRun 44 55 L (.ref o2 :: .int x :: .ref o :: S) sh mi mj mr = zRun 44 56 L S sh mi mj (zup mr o x.toNatClampNeg (some o2)) := zr_aast (zD_of zk_44 d_44_55 rfl rfl) (by decide) h h2
theorem q_44_55t10 (h : zAt sh o 10 x) (h2 : zIs sh o2 0 5) : zRun 44 55 L (.ref o2 :: .int x :: .ref o :: S) sh mi mj mr = zRun 44 56 L S sh mi mj (zup mr o x.toNatClampNeg (some o2)) := zr_aast (zD_of zk_44 d_44_55 rfl rfl) (by decide) h h2
theorem q_44_55t11 (h : zAt sh o 11 x) (h2 : zIs sh o2 0 6) : zRun 44 55 L (.ref o2 :: .int x :: .ref o :: S) sh mi mj mr = zRun 44 56 L S sh mi mj (zup mr o x.toNatClampNeg (some o2)) := zr_aast (zD_of zk_44 d_44_55 rfl rfl) (by decide) h h2
theorem q_44_56  : zRun 44 56 [l0, some (.int x)] S sh mi mj mr = zRun 44 59 [zk2 l0, some (.int (x + 1))] S sh mi mj mr := zr_s1 (i := 1) (v := .int (x + 1)) (L := [l0, some (.int x)]) (zD_of zk_44 d_44_56 rfl rfl) rfl rfl rfl rfl
theorem q_44_59  : zRun 44 59 L S sh mi mj mr = zRun 44 37 L S sh mi mj mr := zr_go (off := (-22)) (zD_of zk_44 d_44_59 rfl rfl) rfl rfl (by decide)
theorem q_44_62  : zRun 44 62 L [] sh mi mj mr = some (none, sh, mi, mj, mr) := zr_ret (zD_of zk_44 d_44_62 rfl rfl) rfl rfl rfl rfl rfl rfl
theorem e_44 : zCall 44 [.ref o] sh mi mj mr = zRun 44 0 [some (.ref o), none] [] sh mi mj mr := rfl
theorem d_45_0 : decode cX3_evaluate 0 = .ok (.aload_n 0, 1) := by decide +kernel
theorem d_45_1 : decode cX3_evaluate 1 = .ok (.iconst 0, 1) := by decide +kernel
theorem d_45_2 : decode cX3_evaluate 2 = .ok (.putfield 25, 3) := by decide +kernel
theorem d_45_5 : decode cX3_evaluate 5 = .ok (.aload_n 0, 1) := by decide +kernel
theorem d_45_6 : decode cX3_evaluate 6 = .ok (.iload 4, 2) := by decide +kernel
theorem d_45_8 : decode cX3_evaluate 8 = .ok (.putfield 29, 3) := by decide +kernel
theorem d_45_11 : decode cX3_evaluate 11 = .ok (.iconst 0, 1) := by decide +kernel
theorem d_45_12 : decode cX3_evaluate 12 = .ok (.istore 5, 2) := by decide +kernel
theorem d_45_14 : decode cX3_evaluate 14 = .ok (.iload 5, 2) := by decide +kernel
theorem d_45_16 : decode cX3_evaluate 16 = .ok (.iload_n 2, 1) := by decide +kernel
theorem d_45_17 : decode cX3_evaluate 17 = .ok (.if_icmp .ge 37, 3) := by decide +kernel
theorem d_45_20 : decode cX3_evaluate 20 = .ok (.iload 5, 2) := by decide +kernel
theorem d_45_22 : decode cX3_evaluate 22 = .ok (.aload_n 1, 1) := by decide +kernel
theorem d_45_23 : decode cX3_evaluate 23 = .ok (.getfield 32, 3) := by decide +kernel
theorem d_45_26 : decode cX3_evaluate 26 = .ok (.if_icmp .ge 28, 3) := by decide +kernel
theorem d_45_29 : decode cX3_evaluate 29 = .ok (.aload_n 0, 1) := by decide +kernel
theorem d_45_30 : decode cX3_evaluate 30 = .ok (.aload_n 1, 1) := by decide +kernel
theorem d_45_31 : decode cX3_evaluate 31 = .ok (.getfield 37, 3) := by decide +kernel
theorem d_45_34 : decode cX3_evaluate 34 = .ok (.iload 5, 2) := by decide +kernel
theorem d_45_36 : decode cX3_evaluate 36 = .ok (.iaload, 1) := by decide +kernel
theorem d_45_37 : decode cX3_evaluate 37 = .ok (.aload_n 1, 1) := by decide +kernel
theorem d_45_38 : decode cX3_evaluate 38 = .ok (.getfield 41, 3) := by decide +kernel
theorem d_45_41 : decode cX3_evaluate 41 = .ok (.iload 5, 2) := by decide +kernel
theorem d_45_43 : decode cX3_evaluate 43 = .ok (.iaload, 1) := by decide +kernel
theorem d_45_44 : decode cX3_evaluate 44 = .ok (.aload_n 3, 1) := by decide +kernel
theorem d_45_45 : decode cX3_evaluate 45 = .ok (.invokevirtual 44, 3) := by decide +kernel
theorem d_45_48 : decode cX3_evaluate 48 = .ok (.iinc 5 1, 3) := by decide +kernel
theorem d_45_51 : decode cX3_evaluate 51 = .ok (.goto (-37), 3) := by decide +kernel
theorem d_45_54 : decode cX3_evaluate 54 = .ok (.aload_n 0, 1) := by decide +kernel
theorem d_45_55 : decode cX3_evaluate 55 = .ok (.invokevirtual 48, 3) := by decide +kernel
theorem d_45_58 : decode cX3_evaluate 58 = .ok (.areturn, 1) := by decide +kernel
theorem q_45_0r : zRun 45 0 [some (.ref o), l1, l2, l3, l4, l5] S sh mi mj mr = zRun 45 1 [some (.ref o), l1, l2, l3, l4, l5] (.ref o :: S) sh mi mj mr := zr_l (zD_of zk_45 d_45_0 rfl rfl) rfl rfl rfl
theorem q_45_0n : zRun 45 0 [some (.null), l1, l2, l3, l4, l5] S sh mi mj mr = zRun 45 1 [some (.null), l1, l2, l3, l4, l5] (.null :: S) sh mi mj mr := zr_l (zD_of zk_45 d_45_0 rfl rfl) rfl rfl rfl
theorem q_45_1  : zRun 45 1 L S sh mi mj mr = zRun 45 2 L (.int 0 :: S) sh mi mj mr := zr_p (zD_of zk_45 d_45_1 rfl rfl) rfl
theorem q_45_2 (h : zIs sh o 0 3) : zRun 45 2 L (.int x :: .ref o :: S) sh mi mj mr = zRun 45 5 L S sh (zup mi o 3 x) mj mr := zr_putI (zD_of zk_45 d_45_2 rfl rfl) rfl rfl rfl (Or.inl rfl) h
theorem q_45_5r : zRun 45 5 [some (.ref o), l1, l2, l3, l4, l5] S sh mi mj mr = zRun 45 6 [some (.ref o), l1, l2, l3, l4, l5] (.ref o :: S) sh mi mj mr := zr_l (zD_of zk_45 d_45_5 rfl rfl) rfl rfl rfl
theorem q_45_5n : zRun 45 5 [some (.null), l1, l2, l3, l4, l5] S sh mi mj mr = zRun 45 6 [some (.null), l1, l2, l3, l4, l5] (.null :: S) sh mi mj mr := zr_l (zD_of zk_45 d_45_5 rfl rfl) rfl rfl rfl
theorem q_45_6 : zRun 45 6 [l0, l1, l2, l3, some (.int x), l5] S sh mi mj mr = zRun 45 8 [l0, l1, l2, l3, some (.int x), l5] (.int x :: S) sh mi mj mr := zr_l (zD_of zk_45 d_45_6 rfl rfl) rfl rfl rfl
theorem q_45_8 (h : zIs sh o 0 3) : zRun 45 8 L (.int x :: .ref o :: S) sh mi mj mr = zRun 45 11 L S sh (zup mi o 4 x) mj mr := zr_putI (zD_of zk_45 d_45_8 rfl rfl) rfl rfl rfl (Or.inl rfl) h
theorem q_45_11  : zRun 45 11 L S sh mi mj mr = zRun 45 12 L (.int 0 :: S) sh mi mj mr := zr_p (zD_of zk_45 d_45_11 rfl rfl) rfl
theorem q_45_12 : zRun 45 12 [l0, l1, l2, l3, l4, l5] (.int x :: S) sh mi mj mr = zRun 45 14 [l0, l1, l2, l3, zk2 l4, some (.int x)] S sh mi mj mr := zr_s1 (i := 5) (v := .int x) (L := [l0, l1, l2, l3, l4, l5]) (zD_of zk_45 d_45_12 rfl rfl) rfl rfl rfl rfl
theorem q_45_14 : zRun 45 14 [l0, l1, l2, l3, l4, some (.int x)] S sh mi mj mr = zRun 45 16 [l0, l1, l2, l3, l4, some (.int x)] (.int x :: S) sh mi mj mr := zr_l (zD_of zk_45 d_45_14 rfl rfl) rfl rfl rfl
theorem q_45_16 : zRun 45 16 [l0, l1, some (.int x), l3, l4, l5] S sh mi mj mr = zRun 45 17 [l0, l1, some (.int x), l3, l4, l5] (.int x :: S) sh mi mj mr := zr_l (zD_of zk_45 d_45_16 rfl rfl) rfl rfl rfl
theorem q_45_17  : zRun 45 17 L (.int y :: .int x :: S) sh mi mj mr = if y ≤ x then zRun 45 54 L S sh mi mj mr else zRun 45 20 L S sh mi mj mr := zr_if (off := 37) (P := y ≤ x) (zD_of zk_45 d_45_17 rfl rfl) rfl rfl (by decide)
theorem q_45_20 : zRun 45 20 [l0, l1, l2, l3, l4, some (.int x)] S sh mi mj mr = zRun 45 22 [l0, l1, l2, l3, l4, some (.int x)] (.int x :: S) sh mi mj mr := zr_l (zD_of zk_45 d_45_20 rfl rfl) rfl rfl rfl
theorem q_45_22r : zRun 45 22 [l0, some (.ref o), l2, l3, l4, l5] S sh mi mj mr = zRun 45 23 [l0, some (.ref o), l2, l3, l4, l5] (.ref o :: S) sh mi mj mr := zr_l (zD_of zk_45 d_45_22 rfl rfl) rfl rfl rfl
theorem q_45_22n : zRun 45 22 [l0, some (.null), l2, l3, l4, l5] S sh mi mj mr = zRun 45 23 [l0, some (.null), l2, l3, l4, l5] (.null :: S) sh mi mj mr := zr_l (zD_of zk_45 d_45_22 rfl rfl) rfl rfl rfl
theorem q_45_23 (h : zIs sh o 0 6) : zRun 45 23 L (.ref o :: S) sh mi mj mr = zRun 45 26 L (.int (mi o 2) :: S) sh mi mj mr := zr_getI (zD_of zk_45 d_45_23 rfl rfl) rfl rfl (Or.inl rfl) h
theorem q_45_26  : zRun 45 26 L (.int y :: .int x :: S) sh mi mj mr = if y ≤ x then zRun 45 54 L S sh mi mj mr else zRun 45 29 L S sh mi mj mr := zr_if (off := 28) (P := y ≤ x) (zD_of zk_45 d_45_26 rfl rfl) rfl rfl (by decide)
theorem q_45_29r : zRun 45 29 [some (.ref o), l1, l2, l3, l4, l5] S sh mi mj mr = zRun 45 30 [some (.ref o), l1, l2, l3, l4, l5] (.ref o :: S) sh mi mj mr := zr_l (zD_of zk_45 d_45_29 rfl rfl) rfl rfl rfl
theorem q_45_29n : zRun 45 29 [some (.null), l1, l2, l3, l4, l5] S sh mi mj mr = zRun 45 30 [some (.null), l1, l2, l3, l4, l5] (.null :: S) sh mi mj mr := zr_l (zD_of zk_45 d_45_29 rfl rfl) rfl rfl rfl
theorem q_45_30r : zRun 45 30 [l0, some (.ref o), l2, l3, l4, l5] S sh mi mj mr = zRun 45 31 [l0, some (.ref o), l2, l3, l4, l5] (.ref o :: S) sh mi mj mr := zr_l (zD_of zk_45 d_45_30 rfl rfl) rfl rfl rfl
theorem q_45_30n : zRun 45 30 [l0, some (.null), l2, l3, l4, l5] S sh mi mj mr = zRun 45 31 [l0, some (.null), l2, l3, l4, l5] (.null :: S) sh mi mj mr := zr_l (zD_of zk_45 d_45_30 rfl rfl) rfl rfl rfl
theorem q_45_31 (h : zIs sh o 0 6) : zRun 45 31 L (.ref o :: S) sh mi mj mr = zRun 45 34 L (va_rf (mr o 0) :: S) sh mi mj mr := zr_getR (zD_of zk_45 d_45_31 rfl rfl) rfl rfl rfl h
theorem q_45_34 : zRun 45 34 [l0, l1, l2, l3, l4, some (.int x)] S sh mi mj mr = zRun 45 36 [l0, l1, l2, l3, l4, some (.int x)] (.int x :: S) sh mi mj mr := zr_l (zD_of zk_45 d_45_34 rfl rfl) rfl rfl rfl
theorem q_45_36 (h : zAt sh o 1 x) : zRun 45 36 L (.int x :: .ref o :: S) sh mi mj mr = zRun 45 37 L (.int (mi o x.toNatClampNeg) :: S) sh mi mj mr := zr_iald (zD_of zk_45 d_45_36 rfl rfl) h
theorem q_45_37r : zRun 45 37 [l0, some (.ref o), l2, l3, l4, l5] S sh mi mj mr = zRun 45 38 [l0, some (.ref o), l2, l3, l4, l5] (.ref o :: S) sh mi mj mr := zr_l (zD_of zk_45 d_45_37 rfl rfl) rfl rfl rfl
theorem q_45_37n : zRun 45 37 [l0, some (.null), l2, l3, l4, l5] S sh mi mj mr = zRun 45 38 [l0, some (.null), l2, l3, l4, l5] (.null :: S) sh mi mj mr := zr_l (zD_of zk_45 d_45_37 rfl rfl) rfl rfl rfl
theorem q_45_38 (h : zIs sh o 0 6) : zRun 45 38 L (.ref o :: S) sh mi mj mr = zRun 45 41 L (va_rf (mr o 1) :: S) sh mi mj mr := zr_getR (zD_of zk_45 d_45_38 rfl rfl) rfl rfl rfl h
theorem q_45_41 : zRun 45 41 [l0, l1, l2, l3, l4, some (.int x)] S sh mi mj mr = zRun 45 43 [l0, l1, l2, l3, l4, some (.int x)] (.int x :: S) sh mi mj mr := zr_l (zD_of zk_45 d_45_41 rfl rfl) rfl rfl rfl
theorem q_45_43 (h : zAt sh o 1 x) : zRun 45 43 L (.int x :: .ref o :: S) sh mi mj mr = zRun 45 44 L (.int (mi o x.toNatClampNeg) :: S) sh mi mj mr := zr_iald (zD_of zk_45 d_45_43 rfl rfl) h
theorem q_45_44r : zRun 45 44 [l0, l1, l2, some (.ref o), l4, l5] S sh mi mj mr = zRun 45 45 [l0, l1, l2, some (.ref o), l4, l5] (.ref o :: S) sh mi mj mr := zr_l (zD_of zk_45 d_45_44 rfl rfl) rfl rfl rfl
theorem q_45_44n : zRun 45 44 [l0, l1, l2, some (.null), l4, l5] S sh mi mj mr = zRun 45 45 [l0, l1, l2, some (.null), l4, l5] (.null :: S) sh mi mj mr := zr_l (zD_of zk_45 d_45_44 rfl rfl) rfl rfl rfl
theorem q_45_45  {x0 x1 : Int32} {o0 : Nat} (hS : zcat S ≤ 8) (h : zIs sh o 0 3) : zRun 45 45 L (.ref o0 :: .int x1 :: .int x0 :: .ref o :: S) sh mi mj mr = (zCall 48 [.ref o, .int x0, .int x1, .ref o0] sh mi mj mr).bind fun r => zRun 45 48 L (r.1.toList ++ S) r.2.1 r.2.2.1 r.2.2.2.1 r.2.2.2.2 := zr_V (zD_of zk_45 d_45_45 rfl rfl) rfl zk_48 rfl rfl rfl hS h
theorem q_45_48  : zRun 45 48 [l0, l1, l2, l3, l4, some (.int x)] S sh mi mj mr = zRun 45 51 [l0, l1, l2, l3, zk2 l4, some (.int (x + 1))] S sh mi mj mr := zr_s1 (i := 5) (v := .int (x + 1)) (L := [l0, l1, l2, l3, l4, some (.int x)]) (zD_of zk_45 d_45_48 rfl rfl) rfl rfl rfl rfl
theorem q_45_51  : zRun 45 51 L S sh mi mj mr = zRun 45 14 L S sh mi mj mr := zr_go (off := (-37)) (zD_of zk_45 d_45_51 rfl rfl) rfl rfl (by decide)
theorem q_45_54r : zRun 45 54 [some (.ref o), l1, l2, l3, l4, l5] S sh mi mj mr = zRun 45 55 [some (.ref o), l1, l2, l3, l4, l5] (.ref o :: S) sh mi mj mr := zr_l (zD_of zk_45 d_45_54 rfl rfl) rfl rfl rfl
theorem q_45_54n : zRun 45 54 [some (.null), l1, l2, l3, l4, l5] S sh mi mj mr = zRun 45 55 [some (.null), l1, l2, l3, l4, l5] (.null :: S) sh mi mj mr := zr_l (zD_of zk_45 d_45_54 rfl rfl) rfl rfl rfl
theorem q_45_55  (hS : zcat S ≤ 8) (h : zIs sh o 0 3) : zRun 45 55 L (.ref o :: S) sh mi mj mr = (zCall 47 [.ref o] sh mi mj mr).bind fun r => zRun 45 58 L (r.1.toList ++ S) r.2.1 r.2.2.1 r.2.2.2.1 r.2.2.2.2 := zr_V (zD_of zk_45 d_45_55 rfl rfl) rfl zk_47 rfl rfl rfl hS h
theorem q_45_58r : zRun 45 58 L ([.ref o]) sh mi mj mr = some (some (.ref o), sh, mi, mj, mr) := zr_ret (zD_of zk_45 d_45_58 rfl rfl) rfl rfl rfl rfl rfl rfl
theorem q_45_58n : zRun 45 58 L [.null] sh mi mj mr = some (some (.null), sh, mi, mj, mr) := zr_ret (zD_of zk_45 d_45_58 rfl rfl) rfl rfl rfl rfl rfl rfl
theorem e_45 {x0 x1 : Int32} {o0 o1 : Nat} : zCall 45 [.ref o, .ref o0, .int x0, .ref o1, .int x1] sh mi mj mr = zRun 45 0 [some (.ref o), some (.ref o0), some (.int x0), some (.ref o1), some (.int x1), none] [] sh mi mj mr := rfl
theorem d_46_0 : decode cX3_difference 0 = .ok (.aload_n 0, 1) := by decide +kernel
theorem d_46_1 : decode cX3_difference 1 = .ok (.aload_n 1, 1) := by decide +kernel
theorem d_46_2 : decode cX3_difference 2 = .ok (.aload_n 1, 1) := by decide +kernel
theorem d_46_3 : decode cX3_difference 3 = .ok (.getfield 32, 3) := by decide +kernel
theorem d_46_6 : decode cX3_difference 6 = .ok (.aload_n 3, 1) := by decide +kernel
theorem d_46_7 : decode cX3_difference 7 = .ok (.iload 4, 2) := by decide +kernel
theorem d_46_9 : decode cX3_difference 9 = .ok (.invokevirtual 52, 3) := by decide +kernel
theorem d_46_12 : decode cX3_difference 12 = .ok (.pop, 1) := by decide +kernel
theorem d_46_13 : decode cX3_difference 13 = .ok (.iconst 0, 1) := by decide +kernel
theorem d_46_14 : decode cX3_difference 14 = .ok (.istore 5, 2) := by decide +kernel
theorem d_46_16 : decode cX3_difference 16 = .ok (.iload 5, 2) := by decide +kernel
theorem d_46_18 : decode cX3_difference 18 = .ok (.aload_n 2, 1) := by decide +kernel
theorem d_46_19 : decode cX3_difference 19 = .ok (.getfield 32, 3) := by decide +kernel
theorem d_46_22 : decode cX3_difference 22 = .ok (.if_icmp .ge 28, 3) := by decide +kernel
theorem d_46_25 : decode cX3_difference 25 = .ok (.aload_n 0, 1) := by decide +kernel
theorem d_46_26 : decode cX3_difference 26 = .ok (.aload_n 2, 1) := by decide +kernel
theorem d_46_27 : decode cX3_difference 27 = .ok (.getfield 37, 3) := by decide +kernel
theorem d_46_30 : decode cX3_difference 30 = .ok (.iload 5, 2) := by decide +kernel
theorem d_46_32 : decode cX3_difference 32 = .ok (.iaload, 1) := by decide +kernel
theorem d_46_33 : decode cX3_difference 33 = .ok (.aload_n 2, 1) := by decide +kernel
theorem d_46_34 : decode cX3_difference 34 = .ok (.getfield 41, 3) := by decide +kernel
theorem d_46_37 : decode cX3_difference 37 = .ok (.iload 5, 2) := by decide +kernel
theorem d_46_39 : decode cX3_difference 39 = .ok (.iaload, 1) := by decide +kernel
theorem d_46_40 : decode cX3_difference 40 = .ok (.aload_n 3, 1) := by decide +kernel
theorem d_46_41 : decode cX3_difference 41 = .ok (.invokevirtual 44, 3) := by decide +kernel
theorem d_46_44 : decode cX3_difference 44 = .ok (.iinc 5 1, 3) := by decide +kernel
theorem d_46_47 : decode cX3_difference 47 = .ok (.goto (-31), 3) := by decide +kernel
theorem d_46_50 : decode cX3_difference 50 = .ok (.aload_n 0, 1) := by decide +kernel
theorem d_46_51 : decode cX3_difference 51 = .ok (.bipush 6, 2) := by decide +kernel
theorem d_46_53 : decode cX3_difference 53 = .ok (.iconst 0, 1) := by decide +kernel
theorem d_46_54 : decode cX3_difference 54 = .ok (.aload_n 3, 1) := by decide +kernel
theorem d_46_55 : decode cX3_difference 55 = .ok (.invokevirtual 44, 3) := by decide +kernel
theorem d_46_58 : decode cX3_difference 58 = .ok (.aload_n 0, 1) := by decide +kernel
theorem d_46_59 : decode cX3_difference 59 = .ok (.invokevirtual 48, 3) := by decide +kernel
theorem d_46_62 : decode cX3_difference 62 = .ok (.areturn, 1) := by decide +kernel
theorem q_46_0r : zRun 46 0 [some (.ref o), l1, l2, l3, l4, l5] S sh mi mj mr = zRun 46 1 [some (.ref o), l1, l2, l3, l4, l5] (.ref o :: S) sh mi mj mr := zr_l (zD_of zk_46 d_46_0 rfl rfl) rfl rfl rfl
theorem q_46_0n : zRun 46 0 [some (.null), l1, l2, l3, l4, l5] S sh mi mj mr = zRun 46 1 [some (.null), l1, l2, l3, l4, l5] (.null :: S) sh mi mj mr := zr_l (zD_of zk_46 d_46_0 rfl rfl) rfl rfl rfl
theorem q_46_1r : zRun 46 1 [l0, some (.ref o), l2, l3, l4, l5] S sh mi mj mr = zRun 46 2 [l0, some (.ref o), l2, l3, l4, l5] (.ref o :: S) sh mi mj mr := zr_l (zD_of zk_46 d_46_1 rfl rfl) rfl rfl rfl
theorem q_46_1n : zRun 46 1 [l0, some (.null), l2, l3, l4, l5] S sh mi mj mr = zRun 46 2 [l0, some (.null), l2, l3, l4, l5] (.null :: S) sh mi mj mr := zr_l (zD_of zk_46 d_46_1 rfl rfl) rfl rfl rfl
theorem q_46_2r : zRun 46 2 [l0, some (.ref o), l2, l3, l4, l5] S sh mi mj mr = zRun 46 3 [l0, some (.ref o), l2, l3, l4, l5] (.ref o :: S) sh mi mj mr := zr_l (zD_of zk_46 d_46_2 rfl rfl) rfl rfl rfl
theorem q_46_2n : zRun 46 2 [l0, some (.null), l2, l3, l4, l5] S sh mi mj mr = zRun 46 3 [l0, some (.null), l2, l3, l4, l5] (.null :: S) sh mi mj mr := zr_l (zD_of zk_46 d_46_2 rfl rfl) rfl rfl rfl
theorem q_46_3 (h : zIs sh o 0 6) : zRun 46 3 L (.ref o :: S) sh mi mj mr = zRun 46 6 L (.int (mi o 2) :: S) sh mi mj mr := zr_getI (zD_of zk_46 d_46_3 rfl rfl) rfl rfl (Or.inl rfl) h
theorem q_46_6r : zRun 46 6 [l0, l1, l2, some (.ref o), l4, l5] S sh mi mj mr = zRun 46 7 [l0, l1, l2, some (.ref o), l4, l5] (.ref o :: S) sh mi mj mr := zr_l (zD_of zk_46 d_46_6 rfl rfl) rfl rfl rfl
theorem q_46_6n : zRun 46 6 [l0, l1, l2, some (.null), l4, l5] S sh mi mj mr = zRun 46 7 [l0, l1, l2, some (.null), l4, l5] (.null :: S) sh mi mj mr := zr_l (zD_of zk_46 d_46_6 rfl rfl) rfl rfl rfl
theorem q_46_7 : zRun 46 7 [l0, l1, l2, l3, some (.int x), l5] S sh mi mj mr = zRun 46 9 [l0, l1, l2, l3, some (.int x), l5] (.int x :: S) sh mi mj mr := zr_l (zD_of zk_46 d_46_7 rfl rfl) rfl rfl rfl
theorem q_46_9  {x0 x1 : Int32} {o0 o1 : Nat} (hS : zcat S ≤ 8) (h : zIs sh o 0 3) : zRun 46 9 L (.int x1 :: .ref o1 :: .int x0 :: .ref o0 :: .ref o :: S) sh mi mj mr = (zCall 45 [.ref o, .ref o0, .int x0, .ref o1, .int x1] sh mi mj mr).bind fun r => zRun 46 12 L (r.1.toList ++ S) r.2.1 r.2.2.1 r.2.2.2.1 r.2.2.2.2 := zr_V (zD_of zk_46 d_46_9 rfl rfl) rfl zk_45 rfl rfl rfl hS h
theorem q_46_12  : zRun 46 12 L (.ref o :: S) sh mi mj mr = zRun 46 13 L S sh mi mj mr := zr_p (zD_of zk_46 d_46_12 rfl rfl) rfl
theorem q_46_13  : zRun 46 13 L S sh mi mj mr = zRun 46 14 L (.int 0 :: S) sh mi mj mr := zr_p (zD_of zk_46 d_46_13 rfl rfl) rfl
theorem q_46_14 : zRun 46 14 [l0, l1, l2, l3, l4, l5] (.int x :: S) sh mi mj mr = zRun 46 16 [l0, l1, l2, l3, zk2 l4, some (.int x)] S sh mi mj mr := zr_s1 (i := 5) (v := .int x) (L := [l0, l1, l2, l3, l4, l5]) (zD_of zk_46 d_46_14 rfl rfl) rfl rfl rfl rfl
theorem q_46_16 : zRun 46 16 [l0, l1, l2, l3, l4, some (.int x)] S sh mi mj mr = zRun 46 18 [l0, l1, l2, l3, l4, some (.int x)] (.int x :: S) sh mi mj mr := zr_l (zD_of zk_46 d_46_16 rfl rfl) rfl rfl rfl
theorem q_46_18r : zRun 46 18 [l0, l1, some (.ref o), l3, l4, l5] S sh mi mj mr = zRun 46 19 [l0, l1, some (.ref o), l3, l4, l5] (.ref o :: S) sh mi mj mr := zr_l (zD_of zk_46 d_46_18 rfl rfl) rfl rfl rfl
theorem q_46_18n : zRun 46 18 [l0, l1, some (.null), l3, l4, l5] S sh mi mj mr = zRun 46 19 [l0, l1, some (.null), l3, l4, l5] (.null :: S) sh mi mj mr := zr_l (zD_of zk_46 d_46_18 rfl rfl) rfl rfl rfl
theorem q_46_19 (h : zIs sh o 0 6) : zRun 46 19 L (.ref o :: S) sh mi mj mr = zRun 46 22 L (.int (mi o 2) :: S) sh mi mj mr := zr_getI (zD_of zk_46 d_46_19 rfl rfl) rfl rfl (Or.inl rfl) h
theorem q_46_22  : zRun 46 22 L (.int y :: .int x :: S) sh mi mj mr = if y ≤ x then zRun 46 50 L S sh mi mj mr else zRun 46 25 L S sh mi mj mr := zr_if (off := 28) (P := y ≤ x) (zD_of zk_46 d_46_22 rfl rfl) rfl rfl (by decide)
theorem q_46_25r : zRun 46 25 [some (.ref o), l1, l2, l3, l4, l5] S sh mi mj mr = zRun 46 26 [some (.ref o), l1, l2, l3, l4, l5] (.ref o :: S) sh mi mj mr := zr_l (zD_of zk_46 d_46_25 rfl rfl) rfl rfl rfl
theorem q_46_25n : zRun 46 25 [some (.null), l1, l2, l3, l4, l5] S sh mi mj mr = zRun 46 26 [some (.null), l1, l2, l3, l4, l5] (.null :: S) sh mi mj mr := zr_l (zD_of zk_46 d_46_25 rfl rfl) rfl rfl rfl
theorem q_46_26r : zRun 46 26 [l0, l1, some (.ref o), l3, l4, l5] S sh mi mj mr = zRun 46 27 [l0, l1, some (.ref o), l3, l4, l5] (.ref o :: S) sh mi mj mr := zr_l (zD_of zk_46 d_46_26 rfl rfl) rfl rfl rfl
theorem q_46_26n : zRun 46 26 [l0, l1, some (.null), l3, l4, l5] S sh mi mj mr = zRun 46 27 [l0, l1, some (.null), l3, l4, l5] (.null :: S) sh mi mj mr := zr_l (zD_of zk_46 d_46_26 rfl rfl) rfl rfl rfl
theorem q_46_27 (h : zIs sh o 0 6) : zRun 46 27 L (.ref o :: S) sh mi mj mr = zRun 46 30 L (va_rf (mr o 0) :: S) sh mi mj mr := zr_getR (zD_of zk_46 d_46_27 rfl rfl) rfl rfl rfl h
theorem q_46_30 : zRun 46 30 [l0, l1, l2, l3, l4, some (.int x)] S sh mi mj mr = zRun 46 32 [l0, l1, l2, l3, l4, some (.int x)] (.int x :: S) sh mi mj mr := zr_l (zD_of zk_46 d_46_30 rfl rfl) rfl rfl rfl
theorem q_46_32 (h : zAt sh o 1 x) : zRun 46 32 L (.int x :: .ref o :: S) sh mi mj mr = zRun 46 33 L (.int (mi o x.toNatClampNeg) :: S) sh mi mj mr := zr_iald (zD_of zk_46 d_46_32 rfl rfl) h
theorem q_46_33r : zRun 46 33 [l0, l1, some (.ref o), l3, l4, l5] S sh mi mj mr = zRun 46 34 [l0, l1, some (.ref o), l3, l4, l5] (.ref o :: S) sh mi mj mr := zr_l (zD_of zk_46 d_46_33 rfl rfl) rfl rfl rfl
theorem q_46_33n : zRun 46 33 [l0, l1, some (.null), l3, l4, l5] S sh mi mj mr = zRun 46 34 [l0, l1, some (.null), l3, l4, l5] (.null :: S) sh mi mj mr := zr_l (zD_of zk_46 d_46_33 rfl rfl) rfl rfl rfl
theorem q_46_34 (h : zIs sh o 0 6) : zRun 46 34 L (.ref o :: S) sh mi mj mr = zRun 46 37 L (va_rf (mr o 1) :: S) sh mi mj mr := zr_getR (zD_of zk_46 d_46_34 rfl rfl) rfl rfl rfl h
theorem q_46_37 : zRun 46 37 [l0, l1, l2, l3, l4, some (.int x)] S sh mi mj mr = zRun 46 39 [l0, l1, l2, l3, l4, some (.int x)] (.int x :: S) sh mi mj mr := zr_l (zD_of zk_46 d_46_37 rfl rfl) rfl rfl rfl
theorem q_46_39 (h : zAt sh o 1 x) : zRun 46 39 L (.int x :: .ref o :: S) sh mi mj mr = zRun 46 40 L (.int (mi o x.toNatClampNeg) :: S) sh mi mj mr := zr_iald (zD_of zk_46 d_46_39 rfl rfl) h
theorem q_46_40r : zRun 46 40 [l0, l1, l2, some (.ref o), l4, l5] S sh mi mj mr = zRun 46 41 [l0, l1, l2, some (.ref o), l4, l5] (.ref o :: S) sh mi mj mr := zr_l (zD_of zk_46 d_46_40 rfl rfl) rfl rfl rfl
theorem q_46_40n : zRun 46 40 [l0, l1, l2, some (.null), l4, l5] S sh mi mj mr = zRun 46 41 [l0, l1, l2, some (.null), l4, l5] (.null :: S) sh mi mj mr := zr_l (zD_of zk_46 d_46_40 rfl rfl) rfl rfl rfl
theorem q_46_41  {x0 x1 : Int32} {o0 : Nat} (hS : zcat S ≤ 8) (h : zIs sh o 0 3) : zRun 46 41 L (.ref o0 :: .int x1 :: .int x0 :: .ref o :: S) sh mi mj mr = (zCall 48 [.ref o, .int x0, .int x1, .ref o0] sh mi mj mr).bind fun r => zRun 46 44 L (r.1.toList ++ S) r.2.1 r.2.2.1 r.2.2.2.1 r.2.2.2.2 := zr_V (zD_of zk_46 d_46_41 rfl rfl) rfl zk_48 rfl rfl rfl hS h
theorem q_46_44  : zRun 46 44 [l0, l1, l2, l3, l4, some (.int x)] S sh mi mj mr = zRun 46 47 [l0, l1, l2, l3, zk2 l4, some (.int (x + 1))] S sh mi mj mr := zr_s1 (i := 5) (v := .int (x + 1)) (L := [l0, l1, l2, l3, l4, some (.int x)]) (zD_of zk_46 d_46_44 rfl rfl) rfl rfl rfl rfl
theorem q_46_47  : zRun 46 47 L S sh mi mj mr = zRun 46 16 L S sh mi mj mr := zr_go (off := (-31)) (zD_of zk_46 d_46_47 rfl rfl) rfl rfl (by decide)
theorem q_46_50r : zRun 46 50 [some (.ref o), l1, l2, l3, l4, l5] S sh mi mj mr = zRun 46 51 [some (.ref o), l1, l2, l3, l4, l5] (.ref o :: S) sh mi mj mr := zr_l (zD_of zk_46 d_46_50 rfl rfl) rfl rfl rfl
theorem q_46_50n : zRun 46 50 [some (.null), l1, l2, l3, l4, l5] S sh mi mj mr = zRun 46 51 [some (.null), l1, l2, l3, l4, l5] (.null :: S) sh mi mj mr := zr_l (zD_of zk_46 d_46_50 rfl rfl) rfl rfl rfl
theorem q_46_51  : zRun 46 51 L S sh mi mj mr = zRun 46 53 L (.int 6 :: S) sh mi mj mr := zr_p (zD_of zk_46 d_46_51 rfl rfl) rfl
theorem q_46_53  : zRun 46 53 L S sh mi mj mr = zRun 46 54 L (.int 0 :: S) sh mi mj mr := zr_p (zD_of zk_46 d_46_53 rfl rfl) rfl
theorem q_46_54r : zRun 46 54 [l0, l1, l2, some (.ref o), l4, l5] S sh mi mj mr = zRun 46 55 [l0, l1, l2, some (.ref o), l4, l5] (.ref o :: S) sh mi mj mr := zr_l (zD_of zk_46 d_46_54 rfl rfl) rfl rfl rfl
theorem q_46_54n : zRun 46 54 [l0, l1, l2, some (.null), l4, l5] S sh mi mj mr = zRun 46 55 [l0, l1, l2, some (.null), l4, l5] (.null :: S) sh mi mj mr := zr_l (zD_of zk_46 d_46_54 rfl rfl) rfl rfl rfl
theorem q_46_55  {x0 x1 : Int32} {o0 : Nat} (hS : zcat S ≤ 8) (h : zIs sh o 0 3) : zRun 46 55 L (.ref o0 :: .int x1 :: .int x0 :: .ref o :: S) sh mi mj mr = (zCall 48 [.ref o, .int x0, .int x1, .ref o0] sh mi mj mr).bind fun r => zRun 46 58 L (r.1.toList ++ S) r.2.1 r.2.2.1 r.2.2.2.1 r.2.2.2.2 := zr_V (zD_of zk_46 d_46_55 rfl rfl) rfl zk_48 rfl rfl rfl hS h
theorem q_46_58r : zRun 46 58 [some (.ref o), l1, l2, l3, l4, l5] S sh mi mj mr = zRun 46 59 [some (.ref o), l1, l2, l3, l4, l5] (.ref o :: S) sh mi mj mr := zr_l (zD_of zk_46 d_46_58 rfl rfl) rfl rfl rfl
theorem q_46_58n : zRun 46 58 [some (.null), l1, l2, l3, l4, l5] S sh mi mj mr = zRun 46 59 [some (.null), l1, l2, l3, l4, l5] (.null :: S) sh mi mj mr := zr_l (zD_of zk_46 d_46_58 rfl rfl) rfl rfl rfl
theorem q_46_59  (hS : zcat S ≤ 8) (h : zIs sh o 0 3) : zRun 46 59 L (.ref o :: S) sh mi mj mr = (zCall 47 [.ref o] sh mi mj mr).bind fun r => zRun 46 62 L (r.1.toList ++ S) r.2.1 r.2.2.1 r.2.2.2.1 r.2.2.2.2 := zr_V (zD_of zk_46 d_46_59 rfl rfl) rfl zk_47 rfl rfl rfl hS h
theorem q_46_62r : zRun 46 62 L ([.ref o]) sh mi mj mr = some (some (.ref o), sh, mi, mj, mr) := zr_ret (zD_of zk_46 d_46_62 rfl rfl) rfl rfl rfl rfl rfl rfl
theorem q_46_62n : zRun 46 62 L [.null] sh mi mj mr = some (some (.null), sh, mi, mj, mr) := zr_ret (zD_of zk_46 d_46_62 rfl rfl) rfl rfl rfl rfl rfl rfl
theorem e_46 {x0 : Int32} {o0 o1 o2 : Nat} : zCall 46 [.ref o, .ref o0, .ref o1, .ref o2, .int x0] sh mi mj mr = zRun 46 0 [some (.ref o), some (.ref o0), some (.ref o1), some (.ref o2), some (.int x0), none] [] sh mi mj mr := rfl
theorem d_47_0 : decode cX3_top 0 = .ok (.aload_n 0, 1) := by decide +kernel
theorem d_47_1 : decode cX3_top 1 = .ok (.getfield 25, 3) := by decide +kernel
theorem d_47_4 : decode cX3_top 4 = .ok (.ifCond .le 17, 3) := by decide +kernel
theorem d_47_7 : decode cX3_top 7 = .ok (.aload_n 0, 1) := by decide +kernel
theorem d_47_8 : decode cX3_top 8 = .ok (.getfield 11, 3) := by decide +kernel
theorem d_47_11 : decode cX3_top 11 = .ok (.aload_n 0, 1) := by decide +kernel
theorem d_47_12 : decode cX3_top 12 = .ok (.getfield 25, 3) := by decide +kernel
theorem d_47_15 : decode cX3_top 15 = .ok (.iconst 1, 1) := by decide +kernel
theorem d_47_16 : decode cX3_top 16 = .ok (.isub, 1) := by decide +kernel
theorem d_47_17 : decode cX3_top 17 = .ok (.aaload, 1) := by decide +kernel
theorem d_47_18 : decode cX3_top 18 = .ok (.goto 7, 3) := by decide +kernel
theorem d_47_21 : decode cX3_top 21 = .ok (.aload_n 0, 1) := by decide +kernel
theorem d_47_22 : decode cX3_top 22 = .ok (.getfield 18, 3) := by decide +kernel
theorem d_47_25 : decode cX3_top 25 = .ok (.areturn, 1) := by decide +kernel
theorem q_47_0r : zRun 47 0 [some (.ref o)] S sh mi mj mr = zRun 47 1 [some (.ref o)] (.ref o :: S) sh mi mj mr := zr_l (zD_of zk_47 d_47_0 rfl rfl) rfl rfl rfl
theorem q_47_0n : zRun 47 0 [some (.null)] S sh mi mj mr = zRun 47 1 [some (.null)] (.null :: S) sh mi mj mr := zr_l (zD_of zk_47 d_47_0 rfl rfl) rfl rfl rfl
theorem q_47_1 (h : zIs sh o 0 3) : zRun 47 1 L (.ref o :: S) sh mi mj mr = zRun 47 4 L (.int (mi o 3) :: S) sh mi mj mr := zr_getI (zD_of zk_47 d_47_1 rfl rfl) rfl rfl (Or.inl rfl) h
theorem q_47_4  : zRun 47 4 L (.int x :: S) sh mi mj mr = if x ≤ 0 then zRun 47 21 L S sh mi mj mr else zRun 47 7 L S sh mi mj mr := zr_if (off := 17) (P := x ≤ 0) (zD_of zk_47 d_47_4 rfl rfl) rfl rfl (by decide)
theorem q_47_7r : zRun 47 7 [some (.ref o)] S sh mi mj mr = zRun 47 8 [some (.ref o)] (.ref o :: S) sh mi mj mr := zr_l (zD_of zk_47 d_47_7 rfl rfl) rfl rfl rfl
theorem q_47_7n : zRun 47 7 [some (.null)] S sh mi mj mr = zRun 47 8 [some (.null)] (.null :: S) sh mi mj mr := zr_l (zD_of zk_47 d_47_7 rfl rfl) rfl rfl rfl
theorem q_47_8 (h : zIs sh o 0 3) : zRun 47 8 L (.ref o :: S) sh mi mj mr = zRun 47 11 L (va_rf (mr o 0) :: S) sh mi mj mr := zr_getR (zD_of zk_47 d_47_8 rfl rfl) rfl rfl rfl h
theorem q_47_11r : zRun 47 11 [some (.ref o)] S sh mi mj mr = zRun 47 12 [some (.ref o)] (.ref o :: S) sh mi mj mr := zr_l (zD_of zk_47 d_47_11 rfl rfl) rfl rfl rfl
theorem q_47_11n : zRun 47 11 [some (.null)] S sh mi mj mr = zRun 47 12 [some (.null)] (.null :: S) sh mi mj mr := zr_l (zD_of zk_47 d_47_11 rfl rfl) rfl rfl rfl
theorem q_47_12 (h : zIs sh o 0 3) : zRun 47 12 L (.ref o :: S) sh mi mj mr = zRun 47 15 L (.int (mi o 3) :: S) sh mi mj mr := zr_getI (zD_of zk_47 d_47_12 rfl rfl) rfl rfl (Or.inl rfl) h
theorem q_47_15  : zRun 47 15 L S sh mi mj mr = zRun 47 16 L (.int 1 :: S) sh mi mj mr := zr_p (zD_of zk_47 d_47_15 rfl rfl) rfl
theorem q_47_16  : zRun 47 16 L (.int y :: .int x :: S) sh mi mj mr = zRun 47 17 L (.int (x - y) :: S) sh mi mj mr := zr_p (zD_of zk_47 d_47_16 rfl rfl) rfl
theorem q_47_17t7 (h : zAt sh o 7 x) : zRun 47 17 L (.int x :: .ref o :: S) sh mi mj mr = zRun 47 18 L (va_rf (mr o x.toNatClampNeg) :: S) sh mi mj mr := zr_aald (zD_of zk_47 d_47_17 rfl rfl) (by decide) h
theorem q_47_17t10 (h : zAt sh o 10 x) : zRun 47 17 L (.int x :: .ref o :: S) sh mi mj mr = zRun 47 18 L (va_rf (mr o x.toNatClampNeg) :: S) sh mi mj mr := zr_aald (zD_of zk_47 d_47_17 rfl rfl) (by decide) h
theorem q_47_17t11 (h : zAt sh o 11 x) : zRun 47 17 L (.int x :: .ref o :: S) sh mi mj mr = zRun 47 18 L (va_rf (mr o x.toNatClampNeg) :: S) sh mi mj mr := zr_aald (zD_of zk_47 d_47_17 rfl rfl) (by decide) h
theorem q_47_18  : zRun 47 18 L S sh mi mj mr = zRun 47 25 L S sh mi mj mr := zr_go (off := 7) (zD_of zk_47 d_47_18 rfl rfl) rfl rfl (by decide)
theorem q_47_21r : zRun 47 21 [some (.ref o)] S sh mi mj mr = zRun 47 22 [some (.ref o)] (.ref o :: S) sh mi mj mr := zr_l (zD_of zk_47 d_47_21 rfl rfl) rfl rfl rfl
theorem q_47_21n : zRun 47 21 [some (.null)] S sh mi mj mr = zRun 47 22 [some (.null)] (.null :: S) sh mi mj mr := zr_l (zD_of zk_47 d_47_21 rfl rfl) rfl rfl rfl
theorem q_47_22 (h : zIs sh o 0 3) : zRun 47 22 L (.ref o :: S) sh mi mj mr = zRun 47 25 L (va_rf (mr o 1) :: S) sh mi mj mr := zr_getR (zD_of zk_47 d_47_22 rfl rfl) rfl rfl rfl h
theorem q_47_25r : zRun 47 25 L ([.ref o]) sh mi mj mr = some (some (.ref o), sh, mi, mj, mr) := zr_ret (zD_of zk_47 d_47_25 rfl rfl) rfl rfl rfl rfl rfl rfl
theorem q_47_25n : zRun 47 25 L [.null] sh mi mj mr = some (some (.null), sh, mi, mj, mr) := zr_ret (zD_of zk_47 d_47_25 rfl rfl) rfl rfl rfl rfl rfl rfl
theorem e_47 : zCall 47 [.ref o] sh mi mj mr = zRun 47 0 [some (.ref o)] [] sh mi mj mr := rfl
theorem d_48_0 : decode cX3_perform 0 = .ok (.aload_n 0, 1) := by decide +kernel
theorem d_48_1 : decode cX3_perform 1 = .ok (.getfield 18, 3) := by decide +kernel
theorem d_48_4 : decode cX3_perform 4 = .ok (.astore 4, 2) := by decide +kernel
theorem d_48_6 : decode cX3_perform 6 = .ok (.aload 4, 2) := by decide +kernel
theorem d_48_8 : decode cX3_perform 8 = .ok (.iconst 0, 1) := by decide +kernel
theorem d_48_9 : decode cX3_perform 9 = .ok (.putfield 56, 3) := by decide +kernel
theorem d_48_12 : decode cX3_perform 12 = .ok (.iload_n 1, 1) := by decide +kernel
theorem d_48_13 : decode cX3_perform 13 = .ok (.invokestatic 59, 3) := by decide +kernel
theorem d_48_16 : decode cX3_perform 16 = .ok (.istore 5, 2) := by decide +kernel
theorem d_48_18 : decode cX3_perform 18 = .ok (.aload_n 0, 1) := by decide +kernel
theorem d_48_19 : decode cX3_perform 19 = .ok (.getfield 25, 3) := by decide +kernel
theorem d_48_22 : decode cX3_perform 22 = .ok (.iload 5, 2) := by decide +kernel
theorem d_48_24 : decode cX3_perform 24 = .ok (.if_icmp .lt 15, 3) := by decide +kernel
theorem d_48_27 : decode cX3_perform 27 = .ok (.aload_n 0, 1) := by decide +kernel
theorem d_48_28 : decode cX3_perform 28 = .ok (.getfield 25, 3) := by decide +kernel
theorem d_48_31 : decode cX3_perform 31 = .ok (.iload 5, 2) := by decide +kernel
theorem d_48_33 : decode cX3_perform 33 = .ok (.isub, 1) := by decide +kernel
theorem d_48_34 : decode cX3_perform 34 = .ok (.bipush 32, 2) := by decide +kernel
theorem d_48_36 : decode cX3_perform 36 = .ok (.if_icmp .lt 4, 3) := by decide +kernel
theorem d_48_39 : decode cX3_perform 39 = .ok (.return_, 1) := by decide +kernel
theorem d_48_40 : decode cX3_perform 40 = .ok (.iload_n 1, 1) := by decide +kernel
theorem d_48_41 : decode cX3_perform 41 = .ok (.ifCond .ne 12, 3) := by decide +kernel
theorem d_48_44 : decode cX3_perform 44 = .ok (.aload 4, 2) := by decide +kernel
theorem d_48_46 : decode cX3_perform 46 = .ok (.iload_n 2, 1) := by decide +kernel
theorem d_48_47 : decode cX3_perform 47 = .ok (.invokevirtual 63, 3) := by decide +kernel
theorem d_48_50 : decode cX3_perform 50 = .ok (.goto 108, 3) := by decide +kernel
theorem d_48_53 : decode cX3_perform 53 = .ok (.iload_n 1, 1) := by decide +kernel
theorem d_48_54 : decode cX3_perform 54 = .ok (.iconst 5, 1) := by decide +kernel
theorem d_48_55 : decode cX3_perform 55 = .ok (.if_icmp .ge 30, 3) := by decide +kernel
theorem d_48_58 : decode cX3_perform 58 = .ok (.aload 4, 2) := by decide +kernel
theorem d_48_60 : decode cX3_perform 60 = .ok (.iload_n 1, 1) := by decide +kernel
theorem d_48_61 : decode cX3_perform 61 = .ok (.iconst 1, 1) := by decide +kernel
theorem d_48_62 : decode cX3_perform 62 = .ok (.isub, 1) := by decide +kernel
theorem d_48_63 : decode cX3_perform 63 = .ok (.aload_n 3, 1) := by decide +kernel
theorem d_48_64 : decode cX3_perform 64 = .ok (.getfield 67, 3) := by decide +kernel
theorem d_48_67 : decode cX3_perform 67 = .ok (.iload_n 1, 1) := by decide +kernel
theorem d_48_68 : decode cX3_perform 68 = .ok (.iconst 1, 1) := by decide +kernel
theorem d_48_69 : decode cX3_perform 69 = .ok (.isub, 1) := by decide +kernel
theorem d_48_70 : decode cX3_perform 70 = .ok (.iaload, 1) := by decide +kernel
theorem d_48_71 : decode cX3_perform 71 = .ok (.aload_n 3, 1) := by decide +kernel
theorem d_48_72 : decode cX3_perform 72 = .ok (.getfield 72, 3) := by decide +kernel
theorem d_48_75 : decode cX3_perform 75 = .ok (.iload_n 1, 1) := by decide +kernel
theorem d_48_76 : decode cX3_perform 76 = .ok (.iconst 1, 1) := by decide +kernel
theorem d_48_77 : decode cX3_perform 77 = .ok (.isub, 1) := by decide +kernel
theorem d_48_78 : decode cX3_perform 78 = .ok (.iaload, 1) := by decide +kernel
theorem d_48_79 : decode cX3_perform 79 = .ok (.invokevirtual 75, 3) := by decide +kernel
theorem d_48_82 : decode cX3_perform 82 = .ok (.goto 76, 3) := by decide +kernel
theorem d_48_85 : decode cX3_perform 85 = .ok (.iload_n 1, 1) := by decide +kernel
theorem d_48_86 : decode cX3_perform 86 = .ok (.bipush 8, 2) := by decide +kernel
theorem d_48_88 : decode cX3_perform 88 = .ok (.if_icmp .ne 15, 3) := by decide +kernel
theorem d_48_91 : decode cX3_perform 91 = .ok (.aload 4, 2) := by decide +kernel
theorem d_48_93 : decode cX3_perform 93 = .ok (.aload_n 0, 1) := by decide +kernel
theorem d_48_94 : decode cX3_perform 94 = .ok (.invokevirtual 48, 3) := by decide +kernel
theorem d_48_97 : decode cX3_perform 97 = .ok (.invokevirtual 79, 3) := by decide +kernel
theorem d_48_100 : decode cX3_perform 100 = .ok (.goto 58, 3) := by decide +kernel
theorem d_48_103 : decode cX3_perform 103 = .ok (.iload 5, 2) := by decide +kernel
theorem d_48_105 : decode cX3_perform 105 = .ok (.iconst 1, 1) := by decide +kernel
theorem d_48_106 : decode cX3_perform 106 = .ok (.if_icmp .ne 23, 3) := by decide +kernel
theorem d_48_109 : decode cX3_perform 109 = .ok (.iload_n 1, 1) := by decide +kernel
theorem d_48_110 : decode cX3_perform 110 = .ok (.aload_n 0, 1) := by decide +kernel
theorem d_48_111 : decode cX3_perform 111 = .ok (.getfield 11, 3) := by decide +kernel
theorem d_48_114 : decode cX3_perform 114 = .ok (.aload_n 0, 1) := by decide +kernel
theorem d_48_115 : decode cX3_perform 115 = .ok (.getfield 25, 3) := by decide +kernel
theorem d_48_118 : decode cX3_perform 118 = .ok (.iconst 1, 1) := by decide +kernel
theorem d_48_119 : decode cX3_perform 119 = .ok (.isub, 1) := by decide +kernel
theorem d_48_120 : decode cX3_perform 120 = .ok (.aaload, 1) := by decide +kernel
theorem d_48_121 : decode cX3_perform 121 = .ok (.aload 4, 2) := by decide +kernel
theorem d_48_123 : decode cX3_perform 123 = .ok (.invokestatic 83, 3) := by decide +kernel
theorem d_48_126 : decode cX3_perform 126 = .ok (.goto 32, 3) := by decide +kernel
theorem d_48_129 : decode cX3_perform 129 = .ok (.aload_n 0, 1) := by decide +kernel
theorem d_48_130 : decode cX3_perform 130 = .ok (.iload_n 1, 1) := by decide +kernel
theorem d_48_131 : decode cX3_perform 131 = .ok (.aload_n 0, 1) := by decide +kernel
theorem d_48_132 : decode cX3_perform 132 = .ok (.getfield 11, 3) := by decide +kernel
theorem d_48_135 : decode cX3_perform 135 = .ok (.aload_n 0, 1) := by decide +kernel
theorem d_48_136 : decode cX3_perform 136 = .ok (.getfield 25, 3) := by decide +kernel
theorem d_48_139 : decode cX3_perform 139 = .ok (.iconst 2, 1) := by decide +kernel
theorem d_48_140 : decode cX3_perform 140 = .ok (.isub, 1) := by decide +kernel
theorem d_48_141 : decode cX3_perform 141 = .ok (.aaload, 1) := by decide +kernel
theorem d_48_142 : decode cX3_perform 142 = .ok (.aload_n 0, 1) := by decide +kernel
theorem d_48_143 : decode cX3_perform 143 = .ok (.getfield 11, 3) := by decide +kernel
theorem d_48_146 : decode cX3_perform 146 = .ok (.aload_n 0, 1) := by decide +kernel
theorem d_48_147 : decode cX3_perform 147 = .ok (.getfield 25, 3) := by decide +kernel
theorem d_48_150 : decode cX3_perform 150 = .ok (.iconst 1, 1) := by decide +kernel
theorem d_48_151 : decode cX3_perform 151 = .ok (.isub, 1) := by decide +kernel
theorem d_48_152 : decode cX3_perform 152 = .ok (.aaload, 1) := by decide +kernel
theorem d_48_153 : decode cX3_perform 153 = .ok (.aload 4, 2) := by decide +kernel
theorem d_48_155 : decode cX3_perform 155 = .ok (.invokevirtual 87, 3) := by decide +kernel
theorem d_48_158 : decode cX3_perform 158 = .ok (.aload_n 0, 1) := by decide +kernel
theorem d_48_159 : decode cX3_perform 159 = .ok (.aload_n 0, 1) := by decide +kernel
theorem d_48_160 : decode cX3_perform 160 = .ok (.getfield 25, 3) := by decide +kernel
theorem d_48_163 : decode cX3_perform 163 = .ok (.iload 5, 2) := by decide +kernel
theorem d_48_165 : decode cX3_perform 165 = .ok (.isub, 1) := by decide +kernel
theorem d_48_166 : decode cX3_perform 166 = .ok (.iconst 1, 1) := by decide +kernel
theorem d_48_167 : decode cX3_perform 167 = .ok (.iadd, 1) := by decide +kernel
theorem d_48_168 : decode cX3_perform 168 = .ok (.putfield 25, 3) := by decide +kernel
theorem d_48_171 : decode cX3_perform 171 = .ok (.aload_n 0, 1) := by decide +kernel
theorem d_48_172 : decode cX3_perform 172 = .ok (.aload_n 0, 1) := by decide +kernel
theorem d_48_173 : decode cX3_perform 173 = .ok (.getfield 11, 3) := by decide +kernel
theorem d_48_176 : decode cX3_perform 176 = .ok (.aload_n 0, 1) := by decide +kernel
theorem d_48_177 : decode cX3_perform 177 = .ok (.getfield 25, 3) := by decide +kernel
theorem d_48_180 : decode cX3_perform 180 = .ok (.iconst 1, 1) := by decide +kernel
theorem d_48_181 : decode cX3_perform 181 = .ok (.isub, 1) := by decide +kernel
theorem d_48_182 : decode cX3_perform 182 = .ok (.aaload, 1) := by decide +kernel
theorem d_48_183 : decode cX3_perform 183 = .ok (.putfield 18, 3) := by decide +kernel
theorem d_48_186 : decode cX3_perform 186 = .ok (.aload_n 0, 1) := by decide +kernel
theorem d_48_187 : decode cX3_perform 187 = .ok (.getfield 11, 3) := by decide +kernel
theorem d_48_190 : decode cX3_perform 190 = .ok (.aload_n 0, 1) := by decide +kernel
theorem d_48_191 : decode cX3_perform 191 = .ok (.getfield 25, 3) := by decide +kernel
theorem d_48_194 : decode cX3_perform 194 = .ok (.iconst 1, 1) := by decide +kernel
theorem d_48_195 : decode cX3_perform 195 = .ok (.isub, 1) := by decide +kernel
theorem d_48_196 : decode cX3_perform 196 = .ok (.aload 4, 2) := by decide +kernel
theorem d_48_198 : decode cX3_perform 198 = .ok (.aastore, 1) := by decide +kernel
theorem d_48_199 : decode cX3_perform 199 = .ok (.aload 4, 2) := by decide +kernel
theorem d_48_201 : decode cX3_perform 201 = .ok (.getfield 56, 3) := by decide +kernel
theorem d_48_204 : decode cX3_perform 204 = .ok (.ifCond .eq 4, 3) := by decide +kernel
theorem d_48_207 : decode cX3_perform 207 = .ok (.return_, 1) := by decide +kernel
theorem d_48_208 : decode cX3_perform 208 = .ok (.aload 4, 2) := by decide +kernel
theorem d_48_210 : decode cX3_perform 210 = .ok (.invokevirtual 91, 3) := by decide +kernel
theorem d_48_213 : decode cX3_perform 213 = .ok (.iload_n 1, 1) := by decide +kernel
theorem d_48_214 : decode cX3_perform 214 = .ok (.bipush 9, 2) := by decide +kernel
theorem d_48_216 : decode cX3_perform 216 = .ok (.if_icmp .lt 34, 3) := by decide +kernel
theorem d_48_219 : decode cX3_perform 219 = .ok (.aload 4, 2) := by decide +kernel
theorem d_48_221 : decode cX3_perform 221 = .ok (.getfield 56, 3) := by decide +kernel
theorem d_48_224 : decode cX3_perform 224 = .ok (.ifCond .ne 26, 3) := by decide +kernel
theorem d_48_227 : decode cX3_perform 227 = .ok (.aload 4, 2) := by decide +kernel
theorem d_48_229 : decode cX3_perform 229 = .ok (.getfield 94, 3) := by decide +kernel
theorem d_48_232 : decode cX3_perform 232 = .ok (.lconst 0, 1) := by decide +kernel
theorem d_48_233 : decode cX3_perform 233 = .ok (.lcmp, 1) := by decide +kernel
theorem d_48_234 : decode cX3_perform 234 = .ok (.ifCond .le 16, 3) := by decide +kernel
theorem d_48_237 : decode cX3_perform 237 = .ok (.aload_n 0, 1) := by decide +kernel
theorem d_48_238 : decode cX3_perform 238 = .ok (.getfield 29, 3) := by decide +kernel
theorem d_48_241 : decode cX3_perform 241 = .ok (.ifCond .le 9, 3) := by decide +kernel
theorem d_48_244 : decode cX3_perform 244 = .ok (.aload_n 0, 1) := by decide +kernel
theorem d_48_245 : decode cX3_perform 245 = .ok (.aload 4, 2) := by decide +kernel
theorem d_48_247 : decode cX3_perform 247 = .ok (.invokevirtual 98, 3) := by decide +kernel
theorem d_48_250 : decode cX3_perform 250 = .ok (.return_, 1) := by decide +kernel
theorem q_48_0r : zRun 48 0 [some (.ref o), l1, l2, l3, l4, l5] S sh mi mj mr = zRun 48 1 [some (.ref o), l1, l2, l3, l4, l5] (.ref o :: S) sh mi mj mr := zr_l (zD_of zk_48 d_48_0 rfl rfl) rfl rfl rfl
theorem q_48_0n : zRun 48 0 [some (.null), l1, l2, l3, l4, l5] S sh mi mj mr = zRun 48 1 [some (.null), l1, l2, l3, l4, l5] (.null :: S) sh mi mj mr := zr_l (zD_of zk_48 d_48_0 rfl rfl) rfl rfl rfl
theorem q_48_1 (h : zIs sh o 0 3) : zRun 48 1 L (.ref o :: S) sh mi mj mr = zRun 48 4 L (va_rf (mr o 1) :: S) sh mi mj mr := zr_getR (zD_of zk_48 d_48_1 rfl rfl) rfl rfl rfl h
theorem q_48_4r : zRun 48 4 [l0, l1, l2, l3, l4, l5] (.ref o :: S) sh mi mj mr = zRun 48 6 [l0, l1, l2, zk2 l3, some (.ref o), l5] S sh mi mj mr := zr_s1 (i := 4) (v := .ref o) (L := [l0, l1, l2, l3, l4, l5]) (zD_of zk_48 d_48_4 rfl rfl) rfl rfl rfl rfl
theorem q_48_4n : zRun 48 4 [l0, l1, l2, l3, l4, l5] (.null :: S) sh mi mj mr = zRun 48 6 [l0, l1, l2, zk2 l3, some (.null), l5] S sh mi mj mr := zr_s1 (i := 4) (v := .null) (L := [l0, l1, l2, l3, l4, l5]) (zD_of zk_48 d_48_4 rfl rfl) rfl rfl rfl rfl
theorem q_48_6r : zRun 48 6 [l0, l1, l2, l3, some (.ref o), l5] S sh mi mj mr = zRun 48 8 [l0, l1, l2, l3, some (.ref o), l5] (.ref o :: S) sh mi mj mr := zr_l (zD_of zk_48 d_48_6 rfl rfl) rfl rfl rfl
theorem q_48_6n : zRun 48 6 [l0, l1, l2, l3, some (.null), l5] S sh mi mj mr = zRun 48 8 [l0, l1, l2, l3, some (.null), l5] (.null :: S) sh mi mj mr := zr_l (zD_of zk_48 d_48_6 rfl rfl) rfl rfl rfl
theorem q_48_8  : zRun 48 8 L S sh mi mj mr = zRun 48 9 L (.int 0 :: S) sh mi mj mr := zr_p (zD_of zk_48 d_48_8 rfl rfl) rfl
theorem q_48_9 (h : zIs sh o 0 2) : zRun 48 9 L (.int x :: .ref o :: S) sh mi mj mr = zRun 48 12 L S sh (zup mi o 0 x) mj mr := zr_putI (zD_of zk_48 d_48_9 rfl rfl) rfl rfl rfl (Or.inl rfl) h
theorem q_48_12 : zRun 48 12 [l0, some (.int x), l2, l3, l4, l5] S sh mi mj mr = zRun 48 13 [l0, some (.int x), l2, l3, l4, l5] (.int x :: S) sh mi mj mr := zr_l (zD_of zk_48 d_48_12 rfl rfl) rfl rfl rfl
theorem q_48_13  {x0 : Int32} (hS : zcat S ≤ 8) : zRun 48 13 L (.int x0 :: S) sh mi mj mr = (zCall 49 [.int x0] sh mi mj mr).bind fun r => zRun 48 16 L (r.1.toList ++ S) r.2.1 r.2.2.1 r.2.2.2.1 r.2.2.2.2 := zr_S (zD_of zk_48 d_48_13 rfl rfl) rfl zk_49 rfl rfl rfl hS
theorem q_48_16 : zRun 48 16 [l0, l1, l2, l3, l4, l5] (.int x :: S) sh mi mj mr = zRun 48 18 [l0, l1, l2, l3, zk2 l4, some (.int x)] S sh mi mj mr := zr_s1 (i := 5) (v := .int x) (L := [l0, l1, l2, l3, l4, l5]) (zD_of zk_48 d_48_16 rfl rfl) rfl rfl rfl rfl
theorem q_48_18r : zRun 48 18 [some (.ref o), l1, l2, l3, l4, l5] S sh mi mj mr = zRun 48 19 [some (.ref o), l1, l2, l3, l4, l5] (.ref o :: S) sh mi mj mr := zr_l (zD_of zk_48 d_48_18 rfl rfl) rfl rfl rfl
theorem q_48_18n : zRun 48 18 [some (.null), l1, l2, l3, l4, l5] S sh mi mj mr = zRun 48 19 [some (.null), l1, l2, l3, l4, l5] (.null :: S) sh mi mj mr := zr_l (zD_of zk_48 d_48_18 rfl rfl) rfl rfl rfl
theorem q_48_19 (h : zIs sh o 0 3) : zRun 48 19 L (.ref o :: S) sh mi mj mr = zRun 48 22 L (.int (mi o 3) :: S) sh mi mj mr := zr_getI (zD_of zk_48 d_48_19 rfl rfl) rfl rfl (Or.inl rfl) h
theorem q_48_22 : zRun 48 22 [l0, l1, l2, l3, l4, some (.int x)] S sh mi mj mr = zRun 48 24 [l0, l1, l2, l3, l4, some (.int x)] (.int x :: S) sh mi mj mr := zr_l (zD_of zk_48 d_48_22 rfl rfl) rfl rfl rfl
theorem q_48_24  : zRun 48 24 L (.int y :: .int x :: S) sh mi mj mr = if x < y then zRun 48 39 L S sh mi mj mr else zRun 48 27 L S sh mi mj mr := zr_if (off := 15) (P := x < y) (zD_of zk_48 d_48_24 rfl rfl) rfl rfl (by decide)
theorem q_48_27r : zRun 48 27 [some (.ref o), l1, l2, l3, l4, l5] S sh mi mj mr = zRun 48 28 [some (.ref o), l1, l2, l3, l4, l5] (.ref o :: S) sh mi mj mr := zr_l (zD_of zk_48 d_48_27 rfl rfl) rfl rfl rfl
theorem q_48_27n : zRun 48 27 [some (.null), l1, l2, l3, l4, l5] S sh mi mj mr = zRun 48 28 [some (.null), l1, l2, l3, l4, l5] (.null :: S) sh mi mj mr := zr_l (zD_of zk_48 d_48_27 rfl rfl) rfl rfl rfl
theorem q_48_28 (h : zIs sh o 0 3) : zRun 48 28 L (.ref o :: S) sh mi mj mr = zRun 48 31 L (.int (mi o 3) :: S) sh mi mj mr := zr_getI (zD_of zk_48 d_48_28 rfl rfl) rfl rfl (Or.inl rfl) h
theorem q_48_31 : zRun 48 31 [l0, l1, l2, l3, l4, some (.int x)] S sh mi mj mr = zRun 48 33 [l0, l1, l2, l3, l4, some (.int x)] (.int x :: S) sh mi mj mr := zr_l (zD_of zk_48 d_48_31 rfl rfl) rfl rfl rfl
theorem q_48_33  : zRun 48 33 L (.int y :: .int x :: S) sh mi mj mr = zRun 48 34 L (.int (x - y) :: S) sh mi mj mr := zr_p (zD_of zk_48 d_48_33 rfl rfl) rfl
theorem q_48_34  : zRun 48 34 L S sh mi mj mr = zRun 48 36 L (.int 32 :: S) sh mi mj mr := zr_p (zD_of zk_48 d_48_34 rfl rfl) rfl
theorem q_48_36  : zRun 48 36 L (.int y :: .int x :: S) sh mi mj mr = if x < y then zRun 48 40 L S sh mi mj mr else zRun 48 39 L S sh mi mj mr := zr_if (off := 4) (P := x < y) (zD_of zk_48 d_48_36 rfl rfl) rfl rfl (by decide)
theorem q_48_39  : zRun 48 39 L [] sh mi mj mr = some (none, sh, mi, mj, mr) := zr_ret (zD_of zk_48 d_48_39 rfl rfl) rfl rfl rfl rfl rfl rfl
theorem q_48_40 : zRun 48 40 [l0, some (.int x), l2, l3, l4, l5] S sh mi mj mr = zRun 48 41 [l0, some (.int x), l2, l3, l4, l5] (.int x :: S) sh mi mj mr := zr_l (zD_of zk_48 d_48_40 rfl rfl) rfl rfl rfl
theorem q_48_41  : zRun 48 41 L (.int x :: S) sh mi mj mr = if ¬ x = 0 then zRun 48 53 L S sh mi mj mr else zRun 48 44 L S sh mi mj mr := zr_if (off := 12) (P := ¬ x = 0) (zD_of zk_48 d_48_41 rfl rfl) rfl rfl (by decide)
theorem q_48_44r : zRun 48 44 [l0, l1, l2, l3, some (.ref o), l5] S sh mi mj mr = zRun 48 46 [l0, l1, l2, l3, some (.ref o), l5] (.ref o :: S) sh mi mj mr := zr_l (zD_of zk_48 d_48_44 rfl rfl) rfl rfl rfl
theorem q_48_44n : zRun 48 44 [l0, l1, l2, l3, some (.null), l5] S sh mi mj mr = zRun 48 46 [l0, l1, l2, l3, some (.null), l5] (.null :: S) sh mi mj mr := zr_l (zD_of zk_48 d_48_44 rfl rfl) rfl rfl rfl
theorem q_48_46 : zRun 48 46 [l0, l1, some (.int x), l3, l4, l5] S sh mi mj mr = zRun 48 47 [l0, l1, some (.int x), l3, l4, l5] (.int x :: S) sh mi mj mr := zr_l (zD_of zk_48 d_48_46 rfl rfl) rfl rfl rfl
theorem q_48_47  {x0 : Int32} (hS : zcat S ≤ 8) (h : zIs sh o 0 2) : zRun 48 47 L (.int x0 :: .ref o :: S) sh mi mj mr = (zCall 27 [.ref o, .int x0] sh mi mj mr).bind fun r => zRun 48 50 L (r.1.toList ++ S) r.2.1 r.2.2.1 r.2.2.2.1 r.2.2.2.2 := zr_V (zD_of zk_48 d_48_47 rfl rfl) rfl zk_27 rfl rfl rfl hS h
theorem q_48_50  : zRun 48 50 L S sh mi mj mr = zRun 48 158 L S sh mi mj mr := zr_go (off := 108) (zD_of zk_48 d_48_50 rfl rfl) rfl rfl (by decide)
theorem q_48_53 : zRun 48 53 [l0, some (.int x), l2, l3, l4, l5] S sh mi mj mr = zRun 48 54 [l0, some (.int x), l2, l3, l4, l5] (.int x :: S) sh mi mj mr := zr_l (zD_of zk_48 d_48_53 rfl rfl) rfl rfl rfl
theorem q_48_54  : zRun 48 54 L S sh mi mj mr = zRun 48 55 L (.int 5 :: S) sh mi mj mr := zr_p (zD_of zk_48 d_48_54 rfl rfl) rfl
theorem q_48_55  : zRun 48 55 L (.int y :: .int x :: S) sh mi mj mr = if y ≤ x then zRun 48 85 L S sh mi mj mr else zRun 48 58 L S sh mi mj mr := zr_if (off := 30) (P := y ≤ x) (zD_of zk_48 d_48_55 rfl rfl) rfl rfl (by decide)
theorem q_48_58r : zRun 48 58 [l0, l1, l2, l3, some (.ref o), l5] S sh mi mj mr = zRun 48 60 [l0, l1, l2, l3, some (.ref o), l5] (.ref o :: S) sh mi mj mr := zr_l (zD_of zk_48 d_48_58 rfl rfl) rfl rfl rfl
theorem q_48_58n : zRun 48 58 [l0, l1, l2, l3, some (.null), l5] S sh mi mj mr = zRun 48 60 [l0, l1, l2, l3, some (.null), l5] (.null :: S) sh mi mj mr := zr_l (zD_of zk_48 d_48_58 rfl rfl) rfl rfl rfl
theorem q_48_60 : zRun 48 60 [l0, some (.int x), l2, l3, l4, l5] S sh mi mj mr = zRun 48 61 [l0, some (.int x), l2, l3, l4, l5] (.int x :: S) sh mi mj mr := zr_l (zD_of zk_48 d_48_60 rfl rfl) rfl rfl rfl
theorem q_48_61  : zRun 48 61 L S sh mi mj mr = zRun 48 62 L (.int 1 :: S) sh mi mj mr := zr_p (zD_of zk_48 d_48_61 rfl rfl) rfl
theorem q_48_62  : zRun 48 62 L (.int y :: .int x :: S) sh mi mj mr = zRun 48 63 L (.int (x - y) :: S) sh mi mj mr := zr_p (zD_of zk_48 d_48_62 rfl rfl) rfl
theorem q_48_63r : zRun 48 63 [l0, l1, l2, some (.ref o), l4, l5] S sh mi mj mr = zRun 48 64 [l0, l1, l2, some (.ref o), l4, l5] (.ref o :: S) sh mi mj mr := zr_l (zD_of zk_48 d_48_63 rfl rfl) rfl rfl rfl
theorem q_48_63n : zRun 48 63 [l0, l1, l2, some (.null), l4, l5] S sh mi mj mr = zRun 48 64 [l0, l1, l2, some (.null), l4, l5] (.null :: S) sh mi mj mr := zr_l (zD_of zk_48 d_48_63 rfl rfl) rfl rfl rfl
theorem q_48_64 (h : zIs sh o 0 0) : zRun 48 64 L (.ref o :: S) sh mi mj mr = zRun 48 67 L (va_rf (mr o 0) :: S) sh mi mj mr := zr_getR (zD_of zk_48 d_48_64 rfl rfl) rfl rfl rfl h
theorem q_48_67 : zRun 48 67 [l0, some (.int x), l2, l3, l4, l5] S sh mi mj mr = zRun 48 68 [l0, some (.int x), l2, l3, l4, l5] (.int x :: S) sh mi mj mr := zr_l (zD_of zk_48 d_48_67 rfl rfl) rfl rfl rfl
theorem q_48_68  : zRun 48 68 L S sh mi mj mr = zRun 48 69 L (.int 1 :: S) sh mi mj mr := zr_p (zD_of zk_48 d_48_68 rfl rfl) rfl
theorem q_48_69  : zRun 48 69 L (.int y :: .int x :: S) sh mi mj mr = zRun 48 70 L (.int (x - y) :: S) sh mi mj mr := zr_p (zD_of zk_48 d_48_69 rfl rfl) rfl
theorem q_48_70 (h : zAt sh o 1 x) : zRun 48 70 L (.int x :: .ref o :: S) sh mi mj mr = zRun 48 71 L (.int (mi o x.toNatClampNeg) :: S) sh mi mj mr := zr_iald (zD_of zk_48 d_48_70 rfl rfl) h
theorem q_48_71r : zRun 48 71 [l0, l1, l2, some (.ref o), l4, l5] S sh mi mj mr = zRun 48 72 [l0, l1, l2, some (.ref o), l4, l5] (.ref o :: S) sh mi mj mr := zr_l (zD_of zk_48 d_48_71 rfl rfl) rfl rfl rfl
theorem q_48_71n : zRun 48 71 [l0, l1, l2, some (.null), l4, l5] S sh mi mj mr = zRun 48 72 [l0, l1, l2, some (.null), l4, l5] (.null :: S) sh mi mj mr := zr_l (zD_of zk_48 d_48_71 rfl rfl) rfl rfl rfl
theorem q_48_72 (h : zIs sh o 0 0) : zRun 48 72 L (.ref o :: S) sh mi mj mr = zRun 48 75 L (va_rf (mr o 1) :: S) sh mi mj mr := zr_getR (zD_of zk_48 d_48_72 rfl rfl) rfl rfl rfl h
theorem q_48_75 : zRun 48 75 [l0, some (.int x), l2, l3, l4, l5] S sh mi mj mr = zRun 48 76 [l0, some (.int x), l2, l3, l4, l5] (.int x :: S) sh mi mj mr := zr_l (zD_of zk_48 d_48_75 rfl rfl) rfl rfl rfl
theorem q_48_76  : zRun 48 76 L S sh mi mj mr = zRun 48 77 L (.int 1 :: S) sh mi mj mr := zr_p (zD_of zk_48 d_48_76 rfl rfl) rfl
theorem q_48_77  : zRun 48 77 L (.int y :: .int x :: S) sh mi mj mr = zRun 48 78 L (.int (x - y) :: S) sh mi mj mr := zr_p (zD_of zk_48 d_48_77 rfl rfl) rfl
theorem q_48_78 (h : zAt sh o 1 x) : zRun 48 78 L (.int x :: .ref o :: S) sh mi mj mr = zRun 48 79 L (.int (mi o x.toNatClampNeg) :: S) sh mi mj mr := zr_iald (zD_of zk_48 d_48_78 rfl rfl) h
theorem q_48_79  {x0 x1 x2 : Int32} (hS : zcat S ≤ 8) (h : zIs sh o 0 2) : zRun 48 79 L (.int x2 :: .int x1 :: .int x0 :: .ref o :: S) sh mi mj mr = (zCall 28 [.ref o, .int x0, .int x1, .int x2] sh mi mj mr).bind fun r => zRun 48 82 L (r.1.toList ++ S) r.2.1 r.2.2.1 r.2.2.2.1 r.2.2.2.2 := zr_V (zD_of zk_48 d_48_79 rfl rfl) rfl zk_28 rfl rfl rfl hS h
theorem q_48_82  : zRun 48 82 L S sh mi mj mr = zRun 48 158 L S sh mi mj mr := zr_go (off := 76) (zD_of zk_48 d_48_82 rfl rfl) rfl rfl (by decide)
theorem q_48_85 : zRun 48 85 [l0, some (.int x), l2, l3, l4, l5] S sh mi mj mr = zRun 48 86 [l0, some (.int x), l2, l3, l4, l5] (.int x :: S) sh mi mj mr := zr_l (zD_of zk_48 d_48_85 rfl rfl) rfl rfl rfl
theorem q_48_86  : zRun 48 86 L S sh mi mj mr = zRun 48 88 L (.int 8 :: S) sh mi mj mr := zr_p (zD_of zk_48 d_48_86 rfl rfl) rfl
theorem q_48_88  : zRun 48 88 L (.int y :: .int x :: S) sh mi mj mr = if ¬ x = y then zRun 48 103 L S sh mi mj mr else zRun 48 91 L S sh mi mj mr := zr_if (off := 15) (P := ¬ x = y) (zD_of zk_48 d_48_88 rfl rfl) rfl rfl (by decide)
theorem q_48_91r : zRun 48 91 [l0, l1, l2, l3, some (.ref o), l5] S sh mi mj mr = zRun 48 93 [l0, l1, l2, l3, some (.ref o), l5] (.ref o :: S) sh mi mj mr := zr_l (zD_of zk_48 d_48_91 rfl rfl) rfl rfl rfl
theorem q_48_91n : zRun 48 91 [l0, l1, l2, l3, some (.null), l5] S sh mi mj mr = zRun 48 93 [l0, l1, l2, l3, some (.null), l5] (.null :: S) sh mi mj mr := zr_l (zD_of zk_48 d_48_91 rfl rfl) rfl rfl rfl
theorem q_48_93r : zRun 48 93 [some (.ref o), l1, l2, l3, l4, l5] S sh mi mj mr = zRun 48 94 [some (.ref o), l1, l2, l3, l4, l5] (.ref o :: S) sh mi mj mr := zr_l (zD_of zk_48 d_48_93 rfl rfl) rfl rfl rfl
theorem q_48_93n : zRun 48 93 [some (.null), l1, l2, l3, l4, l5] S sh mi mj mr = zRun 48 94 [some (.null), l1, l2, l3, l4, l5] (.null :: S) sh mi mj mr := zr_l (zD_of zk_48 d_48_93 rfl rfl) rfl rfl rfl
theorem q_48_94  (hS : zcat S ≤ 8) (h : zIs sh o 0 3) : zRun 48 94 L (.ref o :: S) sh mi mj mr = (zCall 47 [.ref o] sh mi mj mr).bind fun r => zRun 48 97 L (r.1.toList ++ S) r.2.1 r.2.2.1 r.2.2.2.1 r.2.2.2.2 := zr_V (zD_of zk_48 d_48_94 rfl rfl) rfl zk_47 rfl rfl rfl hS h
theorem q_48_97  {o0 : Nat} (hS : zcat S ≤ 8) (h : zIs sh o 0 2) : zRun 48 97 L (.ref o0 :: .ref o :: S) sh mi mj mr = (zCall 29 [.ref o, .ref o0] sh mi mj mr).bind fun r => zRun 48 100 L (r.1.toList ++ S) r.2.1 r.2.2.1 r.2.2.2.1 r.2.2.2.2 := zr_V (zD_of zk_48 d_48_97 rfl rfl) rfl zk_29 rfl rfl rfl hS h
theorem q_48_100  : zRun 48 100 L S sh mi mj mr = zRun 48 158 L S sh mi mj mr := zr_go (off := 58) (zD_of zk_48 d_48_100 rfl rfl) rfl rfl (by decide)
theorem q_48_103 : zRun 48 103 [l0, l1, l2, l3, l4, some (.int x)] S sh mi mj mr = zRun 48 105 [l0, l1, l2, l3, l4, some (.int x)] (.int x :: S) sh mi mj mr := zr_l (zD_of zk_48 d_48_103 rfl rfl) rfl rfl rfl
theorem q_48_105  : zRun 48 105 L S sh mi mj mr = zRun 48 106 L (.int 1 :: S) sh mi mj mr := zr_p (zD_of zk_48 d_48_105 rfl rfl) rfl
theorem q_48_106  : zRun 48 106 L (.int y :: .int x :: S) sh mi mj mr = if ¬ x = y then zRun 48 129 L S sh mi mj mr else zRun 48 109 L S sh mi mj mr := zr_if (off := 23) (P := ¬ x = y) (zD_of zk_48 d_48_106 rfl rfl) rfl rfl (by decide)
theorem q_48_109 : zRun 48 109 [l0, some (.int x), l2, l3, l4, l5] S sh mi mj mr = zRun 48 110 [l0, some (.int x), l2, l3, l4, l5] (.int x :: S) sh mi mj mr := zr_l (zD_of zk_48 d_48_109 rfl rfl) rfl rfl rfl
theorem q_48_110r : zRun 48 110 [some (.ref o), l1, l2, l3, l4, l5] S sh mi mj mr = zRun 48 111 [some (.ref o), l1, l2, l3, l4, l5] (.ref o :: S) sh mi mj mr := zr_l (zD_of zk_48 d_48_110 rfl rfl) rfl rfl rfl
theorem q_48_110n : zRun 48 110 [some (.null), l1, l2, l3, l4, l5] S sh mi mj mr = zRun 48 111 [some (.null), l1, l2, l3, l4, l5] (.null :: S) sh mi mj mr := zr_l (zD_of zk_48 d_48_110 rfl rfl) rfl rfl rfl
theorem q_48_111 (h : zIs sh o 0 3) : zRun 48 111 L (.ref o :: S) sh mi mj mr = zRun 48 114 L (va_rf (mr o 0) :: S) sh mi mj mr := zr_getR (zD_of zk_48 d_48_111 rfl rfl) rfl rfl rfl h
theorem q_48_114r : zRun 48 114 [some (.ref o), l1, l2, l3, l4, l5] S sh mi mj mr = zRun 48 115 [some (.ref o), l1, l2, l3, l4, l5] (.ref o :: S) sh mi mj mr := zr_l (zD_of zk_48 d_48_114 rfl rfl) rfl rfl rfl
theorem q_48_114n : zRun 48 114 [some (.null), l1, l2, l3, l4, l5] S sh mi mj mr = zRun 48 115 [some (.null), l1, l2, l3, l4, l5] (.null :: S) sh mi mj mr := zr_l (zD_of zk_48 d_48_114 rfl rfl) rfl rfl rfl
theorem q_48_115 (h : zIs sh o 0 3) : zRun 48 115 L (.ref o :: S) sh mi mj mr = zRun 48 118 L (.int (mi o 3) :: S) sh mi mj mr := zr_getI (zD_of zk_48 d_48_115 rfl rfl) rfl rfl (Or.inl rfl) h
theorem q_48_118  : zRun 48 118 L S sh mi mj mr = zRun 48 119 L (.int 1 :: S) sh mi mj mr := zr_p (zD_of zk_48 d_48_118 rfl rfl) rfl
theorem q_48_119  : zRun 48 119 L (.int y :: .int x :: S) sh mi mj mr = zRun 48 120 L (.int (x - y) :: S) sh mi mj mr := zr_p (zD_of zk_48 d_48_119 rfl rfl) rfl
theorem q_48_120t7 (h : zAt sh o 7 x) : zRun 48 120 L (.int x :: .ref o :: S) sh mi mj mr = zRun 48 121 L (va_rf (mr o x.toNatClampNeg) :: S) sh mi mj mr := zr_aald (zD_of zk_48 d_48_120 rfl rfl) (by decide) h
theorem q_48_120t10 (h : zAt sh o 10 x) : zRun 48 120 L (.int x :: .ref o :: S) sh mi mj mr = zRun 48 121 L (va_rf (mr o x.toNatClampNeg) :: S) sh mi mj mr := zr_aald (zD_of zk_48 d_48_120 rfl rfl) (by decide) h
theorem q_48_120t11 (h : zAt sh o 11 x) : zRun 48 120 L (.int x :: .ref o :: S) sh mi mj mr = zRun 48 121 L (va_rf (mr o x.toNatClampNeg) :: S) sh mi mj mr := zr_aald (zD_of zk_48 d_48_120 rfl rfl) (by decide) h
theorem q_48_121r : zRun 48 121 [l0, l1, l2, l3, some (.ref o), l5] S sh mi mj mr = zRun 48 123 [l0, l1, l2, l3, some (.ref o), l5] (.ref o :: S) sh mi mj mr := zr_l (zD_of zk_48 d_48_121 rfl rfl) rfl rfl rfl
theorem q_48_121n : zRun 48 121 [l0, l1, l2, l3, some (.null), l5] S sh mi mj mr = zRun 48 123 [l0, l1, l2, l3, some (.null), l5] (.null :: S) sh mi mj mr := zr_l (zD_of zk_48 d_48_121 rfl rfl) rfl rfl rfl
theorem q_48_123  {x0 : Int32} {o0 o1 : Nat} (hS : zcat S ≤ 8) : zRun 48 123 L (.ref o1 :: .ref o0 :: .int x0 :: S) sh mi mj mr = (zCall 50 [.int x0, .ref o0, .ref o1] sh mi mj mr).bind fun r => zRun 48 126 L (r.1.toList ++ S) r.2.1 r.2.2.1 r.2.2.2.1 r.2.2.2.2 := zr_S (zD_of zk_48 d_48_123 rfl rfl) rfl zk_50 rfl rfl rfl hS
theorem q_48_126  : zRun 48 126 L S sh mi mj mr = zRun 48 158 L S sh mi mj mr := zr_go (off := 32) (zD_of zk_48 d_48_126 rfl rfl) rfl rfl (by decide)
theorem q_48_129r : zRun 48 129 [some (.ref o), l1, l2, l3, l4, l5] S sh mi mj mr = zRun 48 130 [some (.ref o), l1, l2, l3, l4, l5] (.ref o :: S) sh mi mj mr := zr_l (zD_of zk_48 d_48_129 rfl rfl) rfl rfl rfl
theorem q_48_129n : zRun 48 129 [some (.null), l1, l2, l3, l4, l5] S sh mi mj mr = zRun 48 130 [some (.null), l1, l2, l3, l4, l5] (.null :: S) sh mi mj mr := zr_l (zD_of zk_48 d_48_129 rfl rfl) rfl rfl rfl
theorem q_48_130 : zRun 48 130 [l0, some (.int x), l2, l3, l4, l5] S sh mi mj mr = zRun 48 131 [l0, some (.int x), l2, l3, l4, l5] (.int x :: S) sh mi mj mr := zr_l (zD_of zk_48 d_48_130 rfl rfl) rfl rfl rfl
theorem q_48_131r : zRun 48 131 [some (.ref o), l1, l2, l3, l4, l5] S sh mi mj mr = zRun 48 132 [some (.ref o), l1, l2, l3, l4, l5] (.ref o :: S) sh mi mj mr := zr_l (zD_of zk_48 d_48_131 rfl rfl) rfl rfl rfl
theorem q_48_131n : zRun 48 131 [some (.null), l1, l2, l3, l4, l5] S sh mi mj mr = zRun 48 132 [some (.null), l1, l2, l3, l4, l5] (.null :: S) sh mi mj mr := zr_l (zD_of zk_48 d_48_131 rfl rfl) rfl rfl rfl
theorem q_48_132 (h : zIs sh o 0 3) : zRun 48 132 L (.ref o :: S) sh mi mj mr = zRun 48 135 L (va_rf (mr o 0) :: S) sh mi mj mr := zr_getR (zD_of zk_48 d_48_132 rfl rfl) rfl rfl rfl h
theorem q_48_135r : zRun 48 135 [some (.ref o), l1, l2, l3, l4, l5] S sh mi mj mr = zRun 48 136 [some (.ref o), l1, l2, l3, l4, l5] (.ref o :: S) sh mi mj mr := zr_l (zD_of zk_48 d_48_135 rfl rfl) rfl rfl rfl
theorem q_48_135n : zRun 48 135 [some (.null), l1, l2, l3, l4, l5] S sh mi mj mr = zRun 48 136 [some (.null), l1, l2, l3, l4, l5] (.null :: S) sh mi mj mr := zr_l (zD_of zk_48 d_48_135 rfl rfl) rfl rfl rfl
theorem q_48_136 (h : zIs sh o 0 3) : zRun 48 136 L (.ref o :: S) sh mi mj mr = zRun 48 139 L (.int (mi o 3) :: S) sh mi mj mr := zr_getI (zD_of zk_48 d_48_136 rfl rfl) rfl rfl (Or.inl rfl) h
theorem q_48_139  : zRun 48 139 L S sh mi mj mr = zRun 48 140 L (.int 2 :: S) sh mi mj mr := zr_p (zD_of zk_48 d_48_139 rfl rfl) rfl
theorem q_48_140  : zRun 48 140 L (.int y :: .int x :: S) sh mi mj mr = zRun 48 141 L (.int (x - y) :: S) sh mi mj mr := zr_p (zD_of zk_48 d_48_140 rfl rfl) rfl
theorem q_48_141t7 (h : zAt sh o 7 x) : zRun 48 141 L (.int x :: .ref o :: S) sh mi mj mr = zRun 48 142 L (va_rf (mr o x.toNatClampNeg) :: S) sh mi mj mr := zr_aald (zD_of zk_48 d_48_141 rfl rfl) (by decide) h
theorem q_48_141t10 (h : zAt sh o 10 x) : zRun 48 141 L (.int x :: .ref o :: S) sh mi mj mr = zRun 48 142 L (va_rf (mr o x.toNatClampNeg) :: S) sh mi mj mr := zr_aald (zD_of zk_48 d_48_141 rfl rfl) (by decide) h
theorem q_48_141t11 (h : zAt sh o 11 x) : zRun 48 141 L (.int x :: .ref o :: S) sh mi mj mr = zRun 48 142 L (va_rf (mr o x.toNatClampNeg) :: S) sh mi mj mr := zr_aald (zD_of zk_48 d_48_141 rfl rfl) (by decide) h
theorem q_48_142r : zRun 48 142 [some (.ref o), l1, l2, l3, l4, l5] S sh mi mj mr = zRun 48 143 [some (.ref o), l1, l2, l3, l4, l5] (.ref o :: S) sh mi mj mr := zr_l (zD_of zk_48 d_48_142 rfl rfl) rfl rfl rfl
theorem q_48_142n : zRun 48 142 [some (.null), l1, l2, l3, l4, l5] S sh mi mj mr = zRun 48 143 [some (.null), l1, l2, l3, l4, l5] (.null :: S) sh mi mj mr := zr_l (zD_of zk_48 d_48_142 rfl rfl) rfl rfl rfl
theorem q_48_143 (h : zIs sh o 0 3) : zRun 48 143 L (.ref o :: S) sh mi mj mr = zRun 48 146 L (va_rf (mr o 0) :: S) sh mi mj mr := zr_getR (zD_of zk_48 d_48_143 rfl rfl) rfl rfl rfl h
theorem q_48_146r : zRun 48 146 [some (.ref o), l1, l2, l3, l4, l5] S sh mi mj mr = zRun 48 147 [some (.ref o), l1, l2, l3, l4, l5] (.ref o :: S) sh mi mj mr := zr_l (zD_of zk_48 d_48_146 rfl rfl) rfl rfl rfl
theorem q_48_146n : zRun 48 146 [some (.null), l1, l2, l3, l4, l5] S sh mi mj mr = zRun 48 147 [some (.null), l1, l2, l3, l4, l5] (.null :: S) sh mi mj mr := zr_l (zD_of zk_48 d_48_146 rfl rfl) rfl rfl rfl
theorem q_48_147 (h : zIs sh o 0 3) : zRun 48 147 L (.ref o :: S) sh mi mj mr = zRun 48 150 L (.int (mi o 3) :: S) sh mi mj mr := zr_getI (zD_of zk_48 d_48_147 rfl rfl) rfl rfl (Or.inl rfl) h
theorem q_48_150  : zRun 48 150 L S sh mi mj mr = zRun 48 151 L (.int 1 :: S) sh mi mj mr := zr_p (zD_of zk_48 d_48_150 rfl rfl) rfl
theorem q_48_151  : zRun 48 151 L (.int y :: .int x :: S) sh mi mj mr = zRun 48 152 L (.int (x - y) :: S) sh mi mj mr := zr_p (zD_of zk_48 d_48_151 rfl rfl) rfl
theorem q_48_152t7 (h : zAt sh o 7 x) : zRun 48 152 L (.int x :: .ref o :: S) sh mi mj mr = zRun 48 153 L (va_rf (mr o x.toNatClampNeg) :: S) sh mi mj mr := zr_aald (zD_of zk_48 d_48_152 rfl rfl) (by decide) h
theorem q_48_152t10 (h : zAt sh o 10 x) : zRun 48 152 L (.int x :: .ref o :: S) sh mi mj mr = zRun 48 153 L (va_rf (mr o x.toNatClampNeg) :: S) sh mi mj mr := zr_aald (zD_of zk_48 d_48_152 rfl rfl) (by decide) h
theorem q_48_152t11 (h : zAt sh o 11 x) : zRun 48 152 L (.int x :: .ref o :: S) sh mi mj mr = zRun 48 153 L (va_rf (mr o x.toNatClampNeg) :: S) sh mi mj mr := zr_aald (zD_of zk_48 d_48_152 rfl rfl) (by decide) h
theorem q_48_153r : zRun 48 153 [l0, l1, l2, l3, some (.ref o), l5] S sh mi mj mr = zRun 48 155 [l0, l1, l2, l3, some (.ref o), l5] (.ref o :: S) sh mi mj mr := zr_l (zD_of zk_48 d_48_153 rfl rfl) rfl rfl rfl
theorem q_48_153n : zRun 48 153 [l0, l1, l2, l3, some (.null), l5] S sh mi mj mr = zRun 48 155 [l0, l1, l2, l3, some (.null), l5] (.null :: S) sh mi mj mr := zr_l (zD_of zk_48 d_48_153 rfl rfl) rfl rfl rfl
theorem q_48_155  {x0 : Int32} {o0 o1 o2 : Nat} (hS : zcat S ≤ 8) (h : zIs sh o 0 3) : zRun 48 155 L (.ref o2 :: .ref o1 :: .ref o0 :: .int x0 :: .ref o :: S) sh mi mj mr = (zCall 51 [.ref o, .int x0, .ref o0, .ref o1, .ref o2] sh mi mj mr).bind fun r => zRun 48 158 L (r.1.toList ++ S) r.2.1 r.2.2.1 r.2.2.2.1 r.2.2.2.2 := zr_V (zD_of zk_48 d_48_155 rfl rfl) rfl zk_51 rfl rfl rfl hS h
theorem q_48_158r : zRun 48 158 [some (.ref o), l1, l2, l3, l4, l5] S sh mi mj mr = zRun 48 159 [some (.ref o), l1, l2, l3, l4, l5] (.ref o :: S) sh mi mj mr := zr_l (zD_of zk_48 d_48_158 rfl rfl) rfl rfl rfl
theorem q_48_158n : zRun 48 158 [some (.null), l1, l2, l3, l4, l5] S sh mi mj mr = zRun 48 159 [some (.null), l1, l2, l3, l4, l5] (.null :: S) sh mi mj mr := zr_l (zD_of zk_48 d_48_158 rfl rfl) rfl rfl rfl
theorem q_48_159r : zRun 48 159 [some (.ref o), l1, l2, l3, l4, l5] S sh mi mj mr = zRun 48 160 [some (.ref o), l1, l2, l3, l4, l5] (.ref o :: S) sh mi mj mr := zr_l (zD_of zk_48 d_48_159 rfl rfl) rfl rfl rfl
theorem q_48_159n : zRun 48 159 [some (.null), l1, l2, l3, l4, l5] S sh mi mj mr = zRun 48 160 [some (.null), l1, l2, l3, l4, l5] (.null :: S) sh mi mj mr := zr_l (zD_of zk_48 d_48_159 rfl rfl) rfl rfl rfl
theorem q_48_160 (h : zIs sh o 0 3) : zRun 48 160 L (.ref o :: S) sh mi mj mr = zRun 48 163 L (.int (mi o 3) :: S) sh mi mj mr := zr_getI (zD_of zk_48 d_48_160 rfl rfl) rfl rfl (Or.inl rfl) h
theorem q_48_163 : zRun 48 163 [l0, l1, l2, l3, l4, some (.int x)] S sh mi mj mr = zRun 48 165 [l0, l1, l2, l3, l4, some (.int x)] (.int x :: S) sh mi mj mr := zr_l (zD_of zk_48 d_48_163 rfl rfl) rfl rfl rfl
theorem q_48_165  : zRun 48 165 L (.int y :: .int x :: S) sh mi mj mr = zRun 48 166 L (.int (x - y) :: S) sh mi mj mr := zr_p (zD_of zk_48 d_48_165 rfl rfl) rfl
theorem q_48_166  : zRun 48 166 L S sh mi mj mr = zRun 48 167 L (.int 1 :: S) sh mi mj mr := zr_p (zD_of zk_48 d_48_166 rfl rfl) rfl
theorem q_48_167  : zRun 48 167 L (.int y :: .int x :: S) sh mi mj mr = zRun 48 168 L (.int (x + y) :: S) sh mi mj mr := zr_p (zD_of zk_48 d_48_167 rfl rfl) rfl
theorem q_48_168 (h : zIs sh o 0 3) : zRun 48 168 L (.int x :: .ref o :: S) sh mi mj mr = zRun 48 171 L S sh (zup mi o 3 x) mj mr := zr_putI (zD_of zk_48 d_48_168 rfl rfl) rfl rfl rfl (Or.inl rfl) h
theorem q_48_171r : zRun 48 171 [some (.ref o), l1, l2, l3, l4, l5] S sh mi mj mr = zRun 48 172 [some (.ref o), l1, l2, l3, l4, l5] (.ref o :: S) sh mi mj mr := zr_l (zD_of zk_48 d_48_171 rfl rfl) rfl rfl rfl
theorem q_48_171n : zRun 48 171 [some (.null), l1, l2, l3, l4, l5] S sh mi mj mr = zRun 48 172 [some (.null), l1, l2, l3, l4, l5] (.null :: S) sh mi mj mr := zr_l (zD_of zk_48 d_48_171 rfl rfl) rfl rfl rfl
theorem q_48_172r : zRun 48 172 [some (.ref o), l1, l2, l3, l4, l5] S sh mi mj mr = zRun 48 173 [some (.ref o), l1, l2, l3, l4, l5] (.ref o :: S) sh mi mj mr := zr_l (zD_of zk_48 d_48_172 rfl rfl) rfl rfl rfl
theorem q_48_172n : zRun 48 172 [some (.null), l1, l2, l3, l4, l5] S sh mi mj mr = zRun 48 173 [some (.null), l1, l2, l3, l4, l5] (.null :: S) sh mi mj mr := zr_l (zD_of zk_48 d_48_172 rfl rfl) rfl rfl rfl
theorem q_48_173 (h : zIs sh o 0 3) : zRun 48 173 L (.ref o :: S) sh mi mj mr = zRun 48 176 L (va_rf (mr o 0) :: S) sh mi mj mr := zr_getR (zD_of zk_48 d_48_173 rfl rfl) rfl rfl rfl h
theorem q_48_176r : zRun 48 176 [some (.ref o), l1, l2, l3, l4, l5] S sh mi mj mr = zRun 48 177 [some (.ref o), l1, l2, l3, l4, l5] (.ref o :: S) sh mi mj mr := zr_l (zD_of zk_48 d_48_176 rfl rfl) rfl rfl rfl
theorem q_48_176n : zRun 48 176 [some (.null), l1, l2, l3, l4, l5] S sh mi mj mr = zRun 48 177 [some (.null), l1, l2, l3, l4, l5] (.null :: S) sh mi mj mr := zr_l (zD_of zk_48 d_48_176 rfl rfl) rfl rfl rfl
theorem q_48_177 (h : zIs sh o 0 3) : zRun 48 177 L (.ref o :: S) sh mi mj mr = zRun 48 180 L (.int (mi o 3) :: S) sh mi mj mr := zr_getI (zD_of zk_48 d_48_177 rfl rfl) rfl rfl (Or.inl rfl) h
theorem q_48_180  : zRun 48 180 L S sh mi mj mr = zRun 48 181 L (.int 1 :: S) sh mi mj mr := zr_p (zD_of zk_48 d_48_180 rfl rfl) rfl
theorem q_48_181  : zRun 48 181 L (.int y :: .int x :: S) sh mi mj mr = zRun 48 182 L (.int (x - y) :: S) sh mi mj mr := zr_p (zD_of zk_48 d_48_181 rfl rfl) rfl
theorem q_48_182t7 (h : zAt sh o 7 x) : zRun 48 182 L (.int x :: .ref o :: S) sh mi mj mr = zRun 48 183 L (va_rf (mr o x.toNatClampNeg) :: S) sh mi mj mr := zr_aald (zD_of zk_48 d_48_182 rfl rfl) (by decide) h
theorem q_48_182t10 (h : zAt sh o 10 x) : zRun 48 182 L (.int x :: .ref o :: S) sh mi mj mr = zRun 48 183 L (va_rf (mr o x.toNatClampNeg) :: S) sh mi mj mr := zr_aald (zD_of zk_48 d_48_182 rfl rfl) (by decide) h
theorem q_48_182t11 (h : zAt sh o 11 x) : zRun 48 182 L (.int x :: .ref o :: S) sh mi mj mr = zRun 48 183 L (va_rf (mr o x.toNatClampNeg) :: S) sh mi mj mr := zr_aald (zD_of zk_48 d_48_182 rfl rfl) (by decide) h
theorem q_48_183 (h : zIs sh o 0 3) : zRun 48 183 L (.ref o2 :: .ref o :: S) sh mi mj mr = zRun 48 186 L S sh mi mj (zup mr o 1 (some o2)) := zr_putR (zD_of zk_48 d_48_183 rfl rfl) rfl rfl rfl (Or.inl rfl) h
theorem q_48_186r : zRun 48 186 [some (.ref o), l1, l2, l3, l4, l5] S sh mi mj mr = zRun 48 187 [some (.ref o), l1, l2, l3, l4, l5] (.ref o :: S) sh mi mj mr := zr_l (zD_of zk_48 d_48_186 rfl rfl) rfl rfl rfl
theorem q_48_186n : zRun 48 186 [some (.null), l1, l2, l3, l4, l5] S sh mi mj mr = zRun 48 187 [some (.null), l1, l2, l3, l4, l5] (.null :: S) sh mi mj mr := zr_l (zD_of zk_48 d_48_186 rfl rfl) rfl rfl rfl
theorem q_48_187 (h : zIs sh o 0 3) : zRun 48 187 L (.ref o :: S) sh mi mj mr = zRun 48 190 L (va_rf (mr o 0) :: S) sh mi mj mr := zr_getR (zD_of zk_48 d_48_187 rfl rfl) rfl rfl rfl h
theorem q_48_190r : zRun 48 190 [some (.ref o), l1, l2, l3, l4, l5] S sh mi mj mr = zRun 48 191 [some (.ref o), l1, l2, l3, l4, l5] (.ref o :: S) sh mi mj mr := zr_l (zD_of zk_48 d_48_190 rfl rfl) rfl rfl rfl
theorem q_48_190n : zRun 48 190 [some (.null), l1, l2, l3, l4, l5] S sh mi mj mr = zRun 48 191 [some (.null), l1, l2, l3, l4, l5] (.null :: S) sh mi mj mr := zr_l (zD_of zk_48 d_48_190 rfl rfl) rfl rfl rfl
theorem q_48_191 (h : zIs sh o 0 3) : zRun 48 191 L (.ref o :: S) sh mi mj mr = zRun 48 194 L (.int (mi o 3) :: S) sh mi mj mr := zr_getI (zD_of zk_48 d_48_191 rfl rfl) rfl rfl (Or.inl rfl) h
theorem q_48_194  : zRun 48 194 L S sh mi mj mr = zRun 48 195 L (.int 1 :: S) sh mi mj mr := zr_p (zD_of zk_48 d_48_194 rfl rfl) rfl
theorem q_48_195  : zRun 48 195 L (.int y :: .int x :: S) sh mi mj mr = zRun 48 196 L (.int (x - y) :: S) sh mi mj mr := zr_p (zD_of zk_48 d_48_195 rfl rfl) rfl
theorem q_48_196r : zRun 48 196 [l0, l1, l2, l3, some (.ref o), l5] S sh mi mj mr = zRun 48 198 [l0, l1, l2, l3, some (.ref o), l5] (.ref o :: S) sh mi mj mr := zr_l (zD_of zk_48 d_48_196 rfl rfl) rfl rfl rfl
theorem q_48_196n : zRun 48 196 [l0, l1, l2, l3, some (.null), l5] S sh mi mj mr = zRun 48 198 [l0, l1, l2, l3, some (.null), l5] (.null :: S) sh mi mj mr := zr_l (zD_of zk_48 d_48_196 rfl rfl) rfl rfl rfl
theorem q_48_198t7 (h : zAt sh o 7 x) (h2 : zIs sh o2 0 2) : zRun 48 198 L (.ref o2 :: .int x :: .ref o :: S) sh mi mj mr = zRun 48 199 L S sh mi mj (zup mr o x.toNatClampNeg (some o2)) := zr_aast (zD_of zk_48 d_48_198 rfl rfl) (by decide) h h2
theorem q_48_198t10 (h : zAt sh o 10 x) (h2 : zIs sh o2 0 5) : zRun 48 198 L (.ref o2 :: .int x :: .ref o :: S) sh mi mj mr = zRun 48 199 L S sh mi mj (zup mr o x.toNatClampNeg (some o2)) := zr_aast (zD_of zk_48 d_48_198 rfl rfl) (by decide) h h2
theorem q_48_198t11 (h : zAt sh o 11 x) (h2 : zIs sh o2 0 6) : zRun 48 198 L (.ref o2 :: .int x :: .ref o :: S) sh mi mj mr = zRun 48 199 L S sh mi mj (zup mr o x.toNatClampNeg (some o2)) := zr_aast (zD_of zk_48 d_48_198 rfl rfl) (by decide) h h2
theorem q_48_199r : zRun 48 199 [l0, l1, l2, l3, some (.ref o), l5] S sh mi mj mr = zRun 48 201 [l0, l1, l2, l3, some (.ref o), l5] (.ref o :: S) sh mi mj mr := zr_l (zD_of zk_48 d_48_199 rfl rfl) rfl rfl rfl
theorem q_48_199n : zRun 48 199 [l0, l1, l2, l3, some (.null), l5] S sh mi mj mr = zRun 48 201 [l0, l1, l2, l3, some (.null), l5] (.null :: S) sh mi mj mr := zr_l (zD_of zk_48 d_48_199 rfl rfl) rfl rfl rfl
theorem q_48_201 (h : zIs sh o 0 2) : zRun 48 201 L (.ref o :: S) sh mi mj mr = zRun 48 204 L (.int (mi o 0) :: S) sh mi mj mr := zr_getI (zD_of zk_48 d_48_201 rfl rfl) rfl rfl (Or.inl rfl) h
theorem q_48_204  : zRun 48 204 L (.int x :: S) sh mi mj mr = if x = 0 then zRun 48 208 L S sh mi mj mr else zRun 48 207 L S sh mi mj mr := zr_if (off := 4) (P := x = 0) (zD_of zk_48 d_48_204 rfl rfl) rfl rfl (by decide)
theorem q_48_207  : zRun 48 207 L [] sh mi mj mr = some (none, sh, mi, mj, mr) := zr_ret (zD_of zk_48 d_48_207 rfl rfl) rfl rfl rfl rfl rfl rfl
theorem q_48_208r : zRun 48 208 [l0, l1, l2, l3, some (.ref o), l5] S sh mi mj mr = zRun 48 210 [l0, l1, l2, l3, some (.ref o), l5] (.ref o :: S) sh mi mj mr := zr_l (zD_of zk_48 d_48_208 rfl rfl) rfl rfl rfl
theorem q_48_208n : zRun 48 208 [l0, l1, l2, l3, some (.null), l5] S sh mi mj mr = zRun 48 210 [l0, l1, l2, l3, some (.null), l5] (.null :: S) sh mi mj mr := zr_l (zD_of zk_48 d_48_208 rfl rfl) rfl rfl rfl
theorem q_48_210  (hS : zcat S ≤ 8) (h : zIs sh o 0 2) : zRun 48 210 L (.ref o :: S) sh mi mj mr = (zCall 20 [.ref o] sh mi mj mr).bind fun r => zRun 48 213 L (r.1.toList ++ S) r.2.1 r.2.2.1 r.2.2.2.1 r.2.2.2.2 := zr_V (zD_of zk_48 d_48_210 rfl rfl) rfl zk_20 rfl rfl rfl hS h
theorem q_48_213 : zRun 48 213 [l0, some (.int x), l2, l3, l4, l5] S sh mi mj mr = zRun 48 214 [l0, some (.int x), l2, l3, l4, l5] (.int x :: S) sh mi mj mr := zr_l (zD_of zk_48 d_48_213 rfl rfl) rfl rfl rfl
theorem q_48_214  : zRun 48 214 L S sh mi mj mr = zRun 48 216 L (.int 9 :: S) sh mi mj mr := zr_p (zD_of zk_48 d_48_214 rfl rfl) rfl
theorem q_48_216  : zRun 48 216 L (.int y :: .int x :: S) sh mi mj mr = if x < y then zRun 48 250 L S sh mi mj mr else zRun 48 219 L S sh mi mj mr := zr_if (off := 34) (P := x < y) (zD_of zk_48 d_48_216 rfl rfl) rfl rfl (by decide)
theorem q_48_219r : zRun 48 219 [l0, l1, l2, l3, some (.ref o), l5] S sh mi mj mr = zRun 48 221 [l0, l1, l2, l3, some (.ref o), l5] (.ref o :: S) sh mi mj mr := zr_l (zD_of zk_48 d_48_219 rfl rfl) rfl rfl rfl
theorem q_48_219n : zRun 48 219 [l0, l1, l2, l3, some (.null), l5] S sh mi mj mr = zRun 48 221 [l0, l1, l2, l3, some (.null), l5] (.null :: S) sh mi mj mr := zr_l (zD_of zk_48 d_48_219 rfl rfl) rfl rfl rfl
theorem q_48_221 (h : zIs sh o 0 2) : zRun 48 221 L (.ref o :: S) sh mi mj mr = zRun 48 224 L (.int (mi o 0) :: S) sh mi mj mr := zr_getI (zD_of zk_48 d_48_221 rfl rfl) rfl rfl (Or.inl rfl) h
theorem q_48_224  : zRun 48 224 L (.int x :: S) sh mi mj mr = if ¬ x = 0 then zRun 48 250 L S sh mi mj mr else zRun 48 227 L S sh mi mj mr := zr_if (off := 26) (P := ¬ x = 0) (zD_of zk_48 d_48_224 rfl rfl) rfl rfl (by decide)
theorem q_48_227r : zRun 48 227 [l0, l1, l2, l3, some (.ref o), l5] S sh mi mj mr = zRun 48 229 [l0, l1, l2, l3, some (.ref o), l5] (.ref o :: S) sh mi mj mr := zr_l (zD_of zk_48 d_48_227 rfl rfl) rfl rfl rfl
theorem q_48_227n : zRun 48 227 [l0, l1, l2, l3, some (.null), l5] S sh mi mj mr = zRun 48 229 [l0, l1, l2, l3, some (.null), l5] (.null :: S) sh mi mj mr := zr_l (zD_of zk_48 d_48_227 rfl rfl) rfl rfl rfl
theorem q_48_229 (h : zIs sh o 0 2) : zRun 48 229 L (.ref o :: S) sh mi mj mr = zRun 48 232 L (.long (mj o 2) :: S) sh mi mj mr := zr_getJ (zD_of zk_48 d_48_229 rfl rfl) rfl rfl rfl h
theorem q_48_232  : zRun 48 232 L S sh mi mj mr = zRun 48 233 L (.long 0 :: S) sh mi mj mr := zr_p (zD_of zk_48 d_48_232 rfl rfl) rfl
theorem q_48_233  : zRun 48 233 L (.long v :: .long u :: S) sh mi mj mr = if u ≤ v then zRun 48 250 L S sh mi mj mr else zRun 48 237 L S sh mi mj mr := zr_cmp (off := 16) (zD_of zk_48 d_48_233 rfl rfl) (zD_of zk_48 d_48_234 rfl rfl) rfl rfl (by decide) (lg_cmp_le u v)
theorem q_48_234  : zRun 48 234 L (.int x :: S) sh mi mj mr = if x ≤ 0 then zRun 48 250 L S sh mi mj mr else zRun 48 237 L S sh mi mj mr := zr_if (off := 16) (P := x ≤ 0) (zD_of zk_48 d_48_234 rfl rfl) rfl rfl (by decide)
theorem q_48_237r : zRun 48 237 [some (.ref o), l1, l2, l3, l4, l5] S sh mi mj mr = zRun 48 238 [some (.ref o), l1, l2, l3, l4, l5] (.ref o :: S) sh mi mj mr := zr_l (zD_of zk_48 d_48_237 rfl rfl) rfl rfl rfl
theorem q_48_237n : zRun 48 237 [some (.null), l1, l2, l3, l4, l5] S sh mi mj mr = zRun 48 238 [some (.null), l1, l2, l3, l4, l5] (.null :: S) sh mi mj mr := zr_l (zD_of zk_48 d_48_237 rfl rfl) rfl rfl rfl
theorem q_48_238 (h : zIs sh o 0 3) : zRun 48 238 L (.ref o :: S) sh mi mj mr = zRun 48 241 L (.int (mi o 4) :: S) sh mi mj mr := zr_getI (zD_of zk_48 d_48_238 rfl rfl) rfl rfl (Or.inl rfl) h
theorem q_48_241  : zRun 48 241 L (.int x :: S) sh mi mj mr = if x ≤ 0 then zRun 48 250 L S sh mi mj mr else zRun 48 244 L S sh mi mj mr := zr_if (off := 9) (P := x ≤ 0) (zD_of zk_48 d_48_241 rfl rfl) rfl rfl (by decide)
theorem q_48_244r : zRun 48 244 [some (.ref o), l1, l2, l3, l4, l5] S sh mi mj mr = zRun 48 245 [some (.ref o), l1, l2, l3, l4, l5] (.ref o :: S) sh mi mj mr := zr_l (zD_of zk_48 d_48_244 rfl rfl) rfl rfl rfl
theorem q_48_244n : zRun 48 244 [some (.null), l1, l2, l3, l4, l5] S sh mi mj mr = zRun 48 245 [some (.null), l1, l2, l3, l4, l5] (.null :: S) sh mi mj mr := zr_l (zD_of zk_48 d_48_244 rfl rfl) rfl rfl rfl
theorem q_48_245r : zRun 48 245 [l0, l1, l2, l3, some (.ref o), l5] S sh mi mj mr = zRun 48 247 [l0, l1, l2, l3, some (.ref o), l5] (.ref o :: S) sh mi mj mr := zr_l (zD_of zk_48 d_48_245 rfl rfl) rfl rfl rfl
theorem q_48_245n : zRun 48 245 [l0, l1, l2, l3, some (.null), l5] S sh mi mj mr = zRun 48 247 [l0, l1, l2, l3, some (.null), l5] (.null :: S) sh mi mj mr := zr_l (zD_of zk_48 d_48_245 rfl rfl) rfl rfl rfl
theorem q_48_247  {o0 : Nat} (hS : zcat S ≤ 8) (h : zIs sh o 0 3) : zRun 48 247 L (.ref o0 :: .ref o :: S) sh mi mj mr = (zCall 52 [.ref o, .ref o0] sh mi mj mr).bind fun r => zRun 48 250 L (r.1.toList ++ S) r.2.1 r.2.2.1 r.2.2.2.1 r.2.2.2.2 := zr_V (zD_of zk_48 d_48_247 rfl rfl) rfl zk_52 rfl rfl rfl hS h
theorem q_48_250  : zRun 48 250 L [] sh mi mj mr = some (none, sh, mi, mj, mr) := zr_ret (zD_of zk_48 d_48_250 rfl rfl) rfl rfl rfl rfl rfl rfl
theorem e_48 {x0 x1 : Int32} {o0 : Nat} : zCall 48 [.ref o, .int x0, .int x1, .ref o0] sh mi mj mr = zRun 48 0 [some (.ref o), some (.int x0), some (.int x1), some (.ref o0), none, none] [] sh mi mj mr := rfl
theorem d_49_0 : decode cX3_operands 0 = .ok (.iload_n 0, 1) := by decide +kernel
theorem d_49_1 : decode cX3_operands 1 = .ok (.tableswitch 47 7 13 #[43, 45, 47, 43, 47, 43, 43], 43) := by decide +kernel
theorem d_49_44 : decode cX3_operands 44 = .ok (.iconst 1, 1) := by decide +kernel
theorem d_49_45 : decode cX3_operands 45 = .ok (.ireturn, 1) := by decide +kernel
theorem d_49_46 : decode cX3_operands 46 = .ok (.iconst 0, 1) := by decide +kernel
theorem d_49_47 : decode cX3_operands 47 = .ok (.ireturn, 1) := by decide +kernel
theorem d_49_48 : decode cX3_operands 48 = .ok (.iload_n 0, 1) := by decide +kernel
theorem d_49_49 : decode cX3_operands 49 = .ok (.iconst 5, 1) := by decide +kernel
theorem d_49_50 : decode cX3_operands 50 = .ok (.if_icmp .ge 7, 3) := by decide +kernel
theorem d_49_53 : decode cX3_operands 53 = .ok (.iconst 0, 1) := by decide +kernel
theorem d_49_54 : decode cX3_operands 54 = .ok (.goto 4, 3) := by decide +kernel
theorem d_49_57 : decode cX3_operands 57 = .ok (.iconst 2, 1) := by decide +kernel
theorem d_49_58 : decode cX3_operands 58 = .ok (.ireturn, 1) := by decide +kernel
theorem q_49_0 : zRun 49 0 [some (.int x)] S sh mi mj mr = zRun 49 1 [some (.int x)] (.int x :: S) sh mi mj mr := zr_l (zD_of zk_49 d_49_0 rfl rfl) rfl rfl rfl
theorem q_49_1 : zRun 49 1 L (.int x :: S) sh mi mj mr = if x = 7 then zRun 49 44 L S sh mi mj mr else if x = 8 then zRun 49 46 L S sh mi mj mr else if x = 9 then zRun 49 48 L S sh mi mj mr else if x = 10 then zRun 49 44 L S sh mi mj mr else if x = 11 then zRun 49 48 L S sh mi mj mr else if x = 12 then zRun 49 44 L S sh mi mj mr else if x = 13 then zRun 49 44 L S sh mi mj mr else zRun 49 48 L S sh mi mj mr := by
  by_cases h : x = 7
  · subst h; exact zr_go (off := 43) (zD_of zk_49 d_49_1 rfl rfl) rfl rfl (by decide)
  rw [if_neg h]
  have a7 := zsw_ne (v := 7) h (by decide) (by decide)
  by_cases h : x = 8
  · subst h; exact zr_go (off := 45) (zD_of zk_49 d_49_1 rfl rfl) rfl rfl (by decide)
  rw [if_neg h]
  have a8 := zsw_ne (v := 8) h (by decide) (by decide)
  by_cases h : x = 9
  · subst h; exact zr_go (off := 47) (zD_of zk_49 d_49_1 rfl rfl) rfl rfl (by decide)
  rw [if_neg h]
  have a9 := zsw_ne (v := 9) h (by decide) (by decide)
  by_cases h : x = 10
  · subst h; exact zr_go (off := 43) (zD_of zk_49 d_49_1 rfl rfl) rfl rfl (by decide)
  rw [if_neg h]
  have a10 := zsw_ne (v := 10) h (by decide) (by decide)
  by_cases h : x = 11
  · subst h; exact zr_go (off := 47) (zD_of zk_49 d_49_1 rfl rfl) rfl rfl (by decide)
  rw [if_neg h]
  have a11 := zsw_ne (v := 11) h (by decide) (by decide)
  by_cases h : x = 12
  · subst h; exact zr_go (off := 43) (zD_of zk_49 d_49_1 rfl rfl) rfl rfl (by decide)
  rw [if_neg h]
  have a12 := zsw_ne (v := 12) h (by decide) (by decide)
  by_cases h : x = 13
  · subst h; exact zr_go (off := 43) (zD_of zk_49 d_49_1 rfl rfl) rfl rfl (by decide)
  rw [if_neg h]
  have a13 := zsw_ne (v := 13) h (by decide) (by decide)
  exact zr_go (S' := S) (off := 47) (zD_of zk_49 d_49_1 rfl rfl) rfl (by simp only [zjump, zsw_out (x := x) 47 7 13 (by omega)]) (by decide)
theorem q_49_44  : zRun 49 44 L S sh mi mj mr = zRun 49 45 L (.int 1 :: S) sh mi mj mr := zr_p (zD_of zk_49 d_49_44 rfl rfl) rfl
theorem q_49_45  : zRun 49 45 L ([.int x]) sh mi mj mr = some (some (.int x), sh, mi, mj, mr) := zr_ret (zD_of zk_49 d_49_45 rfl rfl) rfl rfl rfl rfl rfl (if_pos rfl)
theorem q_49_46  : zRun 49 46 L S sh mi mj mr = zRun 49 47 L (.int 0 :: S) sh mi mj mr := zr_p (zD_of zk_49 d_49_46 rfl rfl) rfl
theorem q_49_47  : zRun 49 47 L ([.int x]) sh mi mj mr = some (some (.int x), sh, mi, mj, mr) := zr_ret (zD_of zk_49 d_49_47 rfl rfl) rfl rfl rfl rfl rfl (if_pos rfl)
theorem q_49_48 : zRun 49 48 [some (.int x)] S sh mi mj mr = zRun 49 49 [some (.int x)] (.int x :: S) sh mi mj mr := zr_l (zD_of zk_49 d_49_48 rfl rfl) rfl rfl rfl
theorem q_49_49  : zRun 49 49 L S sh mi mj mr = zRun 49 50 L (.int 5 :: S) sh mi mj mr := zr_p (zD_of zk_49 d_49_49 rfl rfl) rfl
theorem q_49_50  : zRun 49 50 L (.int y :: .int x :: S) sh mi mj mr = if y ≤ x then zRun 49 57 L S sh mi mj mr else zRun 49 53 L S sh mi mj mr := zr_if (off := 7) (P := y ≤ x) (zD_of zk_49 d_49_50 rfl rfl) rfl rfl (by decide)
theorem q_49_53  : zRun 49 53 L S sh mi mj mr = zRun 49 54 L (.int 0 :: S) sh mi mj mr := zr_p (zD_of zk_49 d_49_53 rfl rfl) rfl
theorem q_49_54  : zRun 49 54 L S sh mi mj mr = zRun 49 58 L S sh mi mj mr := zr_go (off := 4) (zD_of zk_49 d_49_54 rfl rfl) rfl rfl (by decide)
theorem q_49_57  : zRun 49 57 L S sh mi mj mr = zRun 49 58 L (.int 2 :: S) sh mi mj mr := zr_p (zD_of zk_49 d_49_57 rfl rfl) rfl
theorem q_49_58  : zRun 49 58 L ([.int x]) sh mi mj mr = some (some (.int x), sh, mi, mj, mr) := zr_ret (zD_of zk_49 d_49_58 rfl rfl) rfl rfl rfl rfl rfl (if_pos rfl)
theorem e_49 {x0 : Int32} : zCall 49 [.int x0] sh mi mj mr = zRun 49 0 [some (.int x0)] [] sh mi mj mr := rfl
theorem d_50_0 : decode cX3_change 0 = .ok (.aload_n 1, 1) := by decide +kernel
theorem d_50_1 : decode cX3_change 1 = .ok (.getfield 56, 3) := by decide +kernel
theorem d_50_4 : decode cX3_change 4 = .ok (.ifCond .eq 12, 3) := by decide +kernel
theorem d_50_7 : decode cX3_change 7 = .ok (.aload_n 2, 1) := by decide +kernel
theorem d_50_8 : decode cX3_change 8 = .ok (.aload_n 1, 1) := by decide +kernel
theorem d_50_9 : decode cX3_change 9 = .ok (.getfield 56, 3) := by decide +kernel
theorem d_50_12 : decode cX3_change 12 = .ok (.invokevirtual 101, 3) := by decide +kernel
theorem d_50_15 : decode cX3_change 15 = .ok (.return_, 1) := by decide +kernel
theorem d_50_16 : decode cX3_change 16 = .ok (.iload_n 0, 1) := by decide +kernel
theorem d_50_17 : decode cX3_change 17 = .ok (.lookupswitch 59 #[(7, 35), (10, 43), (12, 51)], 35) := by decide +kernel
theorem d_50_52 : decode cX3_change 52 = .ok (.aload_n 2, 1) := by decide +kernel
theorem d_50_53 : decode cX3_change 53 = .ok (.aload_n 1, 1) := by decide +kernel
theorem d_50_54 : decode cX3_change 54 = .ok (.invokevirtual 104, 3) := by decide +kernel
theorem d_50_57 : decode cX3_change 57 = .ok (.goto 24, 3) := by decide +kernel
theorem d_50_60 : decode cX3_change 60 = .ok (.aload_n 2, 1) := by decide +kernel
theorem d_50_61 : decode cX3_change 61 = .ok (.aload_n 1, 1) := by decide +kernel
theorem d_50_62 : decode cX3_change 62 = .ok (.invokevirtual 107, 3) := by decide +kernel
theorem d_50_65 : decode cX3_change 65 = .ok (.goto 16, 3) := by decide +kernel
theorem d_50_68 : decode cX3_change 68 = .ok (.aload_n 2, 1) := by decide +kernel
theorem d_50_69 : decode cX3_change 69 = .ok (.aload_n 1, 1) := by decide +kernel
theorem d_50_70 : decode cX3_change 70 = .ok (.invokevirtual 110, 3) := by decide +kernel
theorem d_50_73 : decode cX3_change 73 = .ok (.goto 8, 3) := by decide +kernel
theorem d_50_76 : decode cX3_change 76 = .ok (.aload_n 2, 1) := by decide +kernel
theorem d_50_77 : decode cX3_change 77 = .ok (.aload_n 1, 1) := by decide +kernel
theorem d_50_78 : decode cX3_change 78 = .ok (.invokevirtual 113, 3) := by decide +kernel
theorem d_50_81 : decode cX3_change 81 = .ok (.return_, 1) := by decide +kernel
theorem q_50_0r : zRun 50 0 [l0, some (.ref o), l2] S sh mi mj mr = zRun 50 1 [l0, some (.ref o), l2] (.ref o :: S) sh mi mj mr := zr_l (zD_of zk_50 d_50_0 rfl rfl) rfl rfl rfl
theorem q_50_0n : zRun 50 0 [l0, some (.null), l2] S sh mi mj mr = zRun 50 1 [l0, some (.null), l2] (.null :: S) sh mi mj mr := zr_l (zD_of zk_50 d_50_0 rfl rfl) rfl rfl rfl
theorem q_50_1 (h : zIs sh o 0 2) : zRun 50 1 L (.ref o :: S) sh mi mj mr = zRun 50 4 L (.int (mi o 0) :: S) sh mi mj mr := zr_getI (zD_of zk_50 d_50_1 rfl rfl) rfl rfl (Or.inl rfl) h
theorem q_50_4  : zRun 50 4 L (.int x :: S) sh mi mj mr = if x = 0 then zRun 50 16 L S sh mi mj mr else zRun 50 7 L S sh mi mj mr := zr_if (off := 12) (P := x = 0) (zD_of zk_50 d_50_4 rfl rfl) rfl rfl (by decide)
theorem q_50_7r : zRun 50 7 [l0, l1, some (.ref o)] S sh mi mj mr = zRun 50 8 [l0, l1, some (.ref o)] (.ref o :: S) sh mi mj mr := zr_l (zD_of zk_50 d_50_7 rfl rfl) rfl rfl rfl
theorem q_50_7n : zRun 50 7 [l0, l1, some (.null)] S sh mi mj mr = zRun 50 8 [l0, l1, some (.null)] (.null :: S) sh mi mj mr := zr_l (zD_of zk_50 d_50_7 rfl rfl) rfl rfl rfl
theorem q_50_8r : zRun 50 8 [l0, some (.ref o), l2] S sh mi mj mr = zRun 50 9 [l0, some (.ref o), l2] (.ref o :: S) sh mi mj mr := zr_l (zD_of zk_50 d_50_8 rfl rfl) rfl rfl rfl
theorem q_50_8n : zRun 50 8 [l0, some (.null), l2] S sh mi mj mr = zRun 50 9 [l0, some (.null), l2] (.null :: S) sh mi mj mr := zr_l (zD_of zk_50 d_50_8 rfl rfl) rfl rfl rfl
theorem q_50_9 (h : zIs sh o 0 2) : zRun 50 9 L (.ref o :: S) sh mi mj mr = zRun 50 12 L (.int (mi o 0) :: S) sh mi mj mr := zr_getI (zD_of zk_50 d_50_9 rfl rfl) rfl rfl (Or.inl rfl) h
theorem q_50_12  {x0 : Int32} (hS : zcat S ≤ 8) (h : zIs sh o 0 2) : zRun 50 12 L (.int x0 :: .ref o :: S) sh mi mj mr = (zCall 19 [.ref o, .int x0] sh mi mj mr).bind fun r => zRun 50 15 L (r.1.toList ++ S) r.2.1 r.2.2.1 r.2.2.2.1 r.2.2.2.2 := zr_V (zD_of zk_50 d_50_12 rfl rfl) rfl zk_19 rfl rfl rfl hS h
theorem q_50_15  : zRun 50 15 L [] sh mi mj mr = some (none, sh, mi, mj, mr) := zr_ret (zD_of zk_50 d_50_15 rfl rfl) rfl rfl rfl rfl rfl rfl
theorem q_50_16 : zRun 50 16 [some (.int x), l1, l2] S sh mi mj mr = zRun 50 17 [some (.int x), l1, l2] (.int x :: S) sh mi mj mr := zr_l (zD_of zk_50 d_50_16 rfl rfl) rfl rfl rfl
theorem q_50_17 : zRun 50 17 L (.int x :: S) sh mi mj mr = if x = 7 then zRun 50 52 L S sh mi mj mr else if x = 10 then zRun 50 60 L S sh mi mj mr else if x = 12 then zRun 50 68 L S sh mi mj mr else zRun 50 76 L S sh mi mj mr := by
  by_cases h : x = 7
  · subst h; exact zr_go (off := 35) (zD_of zk_50 d_50_17 rfl rfl) rfl rfl (by decide)
  rw [if_neg h]
  have a7 := zsw_ne (v := 7) h (by decide) (by decide)
  by_cases h : x = 10
  · subst h; exact zr_go (off := 43) (zD_of zk_50 d_50_17 rfl rfl) rfl rfl (by decide)
  rw [if_neg h]
  have a10 := zsw_ne (v := 10) h (by decide) (by decide)
  by_cases h : x = 12
  · subst h; exact zr_go (off := 51) (zD_of zk_50 d_50_17 rfl rfl) rfl rfl (by decide)
  rw [if_neg h]
  have a12 := zsw_ne (v := 12) h (by decide) (by decide)
  exact zr_go (S' := S) (off := 59) (zD_of zk_50 d_50_17 rfl rfl) rfl (zlk_out rfl (by simp only [Op.lookupswitch.offset, if_neg (Ne.symm a7), if_neg (Ne.symm a10), if_neg (Ne.symm a12)])) (by decide)
theorem q_50_52r : zRun 50 52 [l0, l1, some (.ref o)] S sh mi mj mr = zRun 50 53 [l0, l1, some (.ref o)] (.ref o :: S) sh mi mj mr := zr_l (zD_of zk_50 d_50_52 rfl rfl) rfl rfl rfl
theorem q_50_52n : zRun 50 52 [l0, l1, some (.null)] S sh mi mj mr = zRun 50 53 [l0, l1, some (.null)] (.null :: S) sh mi mj mr := zr_l (zD_of zk_50 d_50_52 rfl rfl) rfl rfl rfl
theorem q_50_53r : zRun 50 53 [l0, some (.ref o), l2] S sh mi mj mr = zRun 50 54 [l0, some (.ref o), l2] (.ref o :: S) sh mi mj mr := zr_l (zD_of zk_50 d_50_53 rfl rfl) rfl rfl rfl
theorem q_50_53n : zRun 50 53 [l0, some (.null), l2] S sh mi mj mr = zRun 50 54 [l0, some (.null), l2] (.null :: S) sh mi mj mr := zr_l (zD_of zk_50 d_50_53 rfl rfl) rfl rfl rfl
theorem q_50_54  {o0 : Nat} (hS : zcat S ≤ 8) (h : zIs sh o 0 2) : zRun 50 54 L (.ref o0 :: .ref o :: S) sh mi mj mr = (zCall 32 [.ref o, .ref o0] sh mi mj mr).bind fun r => zRun 50 57 L (r.1.toList ++ S) r.2.1 r.2.2.1 r.2.2.2.1 r.2.2.2.2 := zr_V (zD_of zk_50 d_50_54 rfl rfl) rfl zk_32 rfl rfl rfl hS h
theorem q_50_57  : zRun 50 57 L S sh mi mj mr = zRun 50 81 L S sh mi mj mr := zr_go (off := 24) (zD_of zk_50 d_50_57 rfl rfl) rfl rfl (by decide)
theorem q_50_60r : zRun 50 60 [l0, l1, some (.ref o)] S sh mi mj mr = zRun 50 61 [l0, l1, some (.ref o)] (.ref o :: S) sh mi mj mr := zr_l (zD_of zk_50 d_50_60 rfl rfl) rfl rfl rfl
theorem q_50_60n : zRun 50 60 [l0, l1, some (.null)] S sh mi mj mr = zRun 50 61 [l0, l1, some (.null)] (.null :: S) sh mi mj mr := zr_l (zD_of zk_50 d_50_60 rfl rfl) rfl rfl rfl
theorem q_50_61r : zRun 50 61 [l0, some (.ref o), l2] S sh mi mj mr = zRun 50 62 [l0, some (.ref o), l2] (.ref o :: S) sh mi mj mr := zr_l (zD_of zk_50 d_50_61 rfl rfl) rfl rfl rfl
theorem q_50_61n : zRun 50 61 [l0, some (.null), l2] S sh mi mj mr = zRun 50 62 [l0, some (.null), l2] (.null :: S) sh mi mj mr := zr_l (zD_of zk_50 d_50_61 rfl rfl) rfl rfl rfl
theorem q_50_62  {o0 : Nat} (hS : zcat S ≤ 8) (h : zIs sh o 0 2) : zRun 50 62 L (.ref o0 :: .ref o :: S) sh mi mj mr = (zCall 34 [.ref o, .ref o0] sh mi mj mr).bind fun r => zRun 50 65 L (r.1.toList ++ S) r.2.1 r.2.2.1 r.2.2.2.1 r.2.2.2.2 := zr_V (zD_of zk_50 d_50_62 rfl rfl) rfl zk_34 rfl rfl rfl hS h
theorem q_50_65  : zRun 50 65 L S sh mi mj mr = zRun 50 81 L S sh mi mj mr := zr_go (off := 16) (zD_of zk_50 d_50_65 rfl rfl) rfl rfl (by decide)
theorem q_50_68r : zRun 50 68 [l0, l1, some (.ref o)] S sh mi mj mr = zRun 50 69 [l0, l1, some (.ref o)] (.ref o :: S) sh mi mj mr := zr_l (zD_of zk_50 d_50_68 rfl rfl) rfl rfl rfl
theorem q_50_68n : zRun 50 68 [l0, l1, some (.null)] S sh mi mj mr = zRun 50 69 [l0, l1, some (.null)] (.null :: S) sh mi mj mr := zr_l (zD_of zk_50 d_50_68 rfl rfl) rfl rfl rfl
theorem q_50_69r : zRun 50 69 [l0, some (.ref o), l2] S sh mi mj mr = zRun 50 70 [l0, some (.ref o), l2] (.ref o :: S) sh mi mj mr := zr_l (zD_of zk_50 d_50_69 rfl rfl) rfl rfl rfl
theorem q_50_69n : zRun 50 69 [l0, some (.null), l2] S sh mi mj mr = zRun 50 70 [l0, some (.null), l2] (.null :: S) sh mi mj mr := zr_l (zD_of zk_50 d_50_69 rfl rfl) rfl rfl rfl
theorem q_50_70  {o0 : Nat} (hS : zcat S ≤ 8) (h : zIs sh o 0 2) : zRun 50 70 L (.ref o0 :: .ref o :: S) sh mi mj mr = (zCall 36 [.ref o, .ref o0] sh mi mj mr).bind fun r => zRun 50 73 L (r.1.toList ++ S) r.2.1 r.2.2.1 r.2.2.2.1 r.2.2.2.2 := zr_V (zD_of zk_50 d_50_70 rfl rfl) rfl zk_36 rfl rfl rfl hS h
theorem q_50_73  : zRun 50 73 L S sh mi mj mr = zRun 50 81 L S sh mi mj mr := zr_go (off := 8) (zD_of zk_50 d_50_73 rfl rfl) rfl rfl (by decide)
theorem q_50_76r : zRun 50 76 [l0, l1, some (.ref o)] S sh mi mj mr = zRun 50 77 [l0, l1, some (.ref o)] (.ref o :: S) sh mi mj mr := zr_l (zD_of zk_50 d_50_76 rfl rfl) rfl rfl rfl
theorem q_50_76n : zRun 50 76 [l0, l1, some (.null)] S sh mi mj mr = zRun 50 77 [l0, l1, some (.null)] (.null :: S) sh mi mj mr := zr_l (zD_of zk_50 d_50_76 rfl rfl) rfl rfl rfl
theorem q_50_77r : zRun 50 77 [l0, some (.ref o), l2] S sh mi mj mr = zRun 50 78 [l0, some (.ref o), l2] (.ref o :: S) sh mi mj mr := zr_l (zD_of zk_50 d_50_77 rfl rfl) rfl rfl rfl
theorem q_50_77n : zRun 50 77 [l0, some (.null), l2] S sh mi mj mr = zRun 50 78 [l0, some (.null), l2] (.null :: S) sh mi mj mr := zr_l (zD_of zk_50 d_50_77 rfl rfl) rfl rfl rfl
theorem q_50_78  {o0 : Nat} (hS : zcat S ≤ 8) (h : zIs sh o 0 2) : zRun 50 78 L (.ref o0 :: .ref o :: S) sh mi mj mr = (zCall 37 [.ref o, .ref o0] sh mi mj mr).bind fun r => zRun 50 81 L (r.1.toList ++ S) r.2.1 r.2.2.1 r.2.2.2.1 r.2.2.2.2 := zr_V (zD_of zk_50 d_50_78 rfl rfl) rfl zk_37 rfl rfl rfl hS h
theorem q_50_81  : zRun 50 81 L [] sh mi mj mr = some (none, sh, mi, mj, mr) := zr_ret (zD_of zk_50 d_50_81 rfl rfl) rfl rfl rfl rfl rfl rfl
theorem e_50 {x0 : Int32} {o0 o1 : Nat} : zCall 50 [.int x0, .ref o0, .ref o1] sh mi mj mr = zRun 50 0 [some (.int x0), some (.ref o0), some (.ref o1)] [] sh mi mj mr := rfl
theorem d_51_0 : decode cX3_combine 0 = .ok (.aload_n 2, 1) := by decide +kernel
theorem d_51_1 : decode cX3_combine 1 = .ok (.getfield 56, 3) := by decide +kernel
theorem d_51_4 : decode cX3_combine 4 = .ok (.ifCond .ne 10, 3) := by decide +kernel
theorem d_51_7 : decode cX3_combine 7 = .ok (.aload_n 3, 1) := by decide +kernel
theorem d_51_8 : decode cX3_combine 8 = .ok (.getfield 56, 3) := by decide +kernel
theorem d_51_11 : decode cX3_combine 11 = .ok (.ifCond .eq 27, 3) := by decide +kernel
theorem d_51_14 : decode cX3_combine 14 = .ok (.aload 4, 2) := by decide +kernel
theorem d_51_16 : decode cX3_combine 16 = .ok (.aload_n 2, 1) := by decide +kernel
theorem d_51_17 : decode cX3_combine 17 = .ok (.getfield 56, 3) := by decide +kernel
theorem d_51_20 : decode cX3_combine 20 = .ok (.ifCond .eq 10, 3) := by decide +kernel
theorem d_51_23 : decode cX3_combine 23 = .ok (.aload_n 2, 1) := by decide +kernel
theorem d_51_24 : decode cX3_combine 24 = .ok (.getfield 56, 3) := by decide +kernel
theorem d_51_27 : decode cX3_combine 27 = .ok (.goto 7, 3) := by decide +kernel
theorem d_51_30 : decode cX3_combine 30 = .ok (.aload_n 3, 1) := by decide +kernel
theorem d_51_31 : decode cX3_combine 31 = .ok (.getfield 56, 3) := by decide +kernel
theorem d_51_34 : decode cX3_combine 34 = .ok (.invokevirtual 101, 3) := by decide +kernel
theorem d_51_37 : decode cX3_combine 37 = .ok (.return_, 1) := by decide +kernel
theorem d_51_38 : decode cX3_combine 38 = .ok (.iload_n 1, 1) := by decide +kernel
theorem d_51_39 : decode cX3_combine 39 = .ok (.tableswitch 137 5 14 #[53, 63, 137, 137, 73, 137, 83, 137, 137, 127], 53) := by decide +kernel
theorem d_51_92 : decode cX3_combine 92 = .ok (.aload 4, 2) := by decide +kernel
theorem d_51_94 : decode cX3_combine 94 = .ok (.aload_n 2, 1) := by decide +kernel
theorem d_51_95 : decode cX3_combine 95 = .ok (.aload_n 3, 1) := by decide +kernel
theorem d_51_96 : decode cX3_combine 96 = .ok (.invokevirtual 116, 3) := by decide +kernel
theorem d_51_99 : decode cX3_combine 99 = .ok (.goto 84, 3) := by decide +kernel
theorem d_51_102 : decode cX3_combine 102 = .ok (.aload 4, 2) := by decide +kernel
theorem d_51_104 : decode cX3_combine 104 = .ok (.aload_n 2, 1) := by decide +kernel
theorem d_51_105 : decode cX3_combine 105 = .ok (.aload_n 3, 1) := by decide +kernel
theorem d_51_106 : decode cX3_combine 106 = .ok (.invokevirtual 120, 3) := by decide +kernel
theorem d_51_109 : decode cX3_combine 109 = .ok (.goto 74, 3) := by decide +kernel
theorem d_51_112 : decode cX3_combine 112 = .ok (.aload 4, 2) := by decide +kernel
theorem d_51_114 : decode cX3_combine 114 = .ok (.aload_n 2, 1) := by decide +kernel
theorem d_51_115 : decode cX3_combine 115 = .ok (.aload_n 3, 1) := by decide +kernel
theorem d_51_116 : decode cX3_combine 116 = .ok (.invokevirtual 123, 3) := by decide +kernel
theorem d_51_119 : decode cX3_combine 119 = .ok (.goto 64, 3) := by decide +kernel
theorem d_51_122 : decode cX3_combine 122 = .ok (.aload_n 3, 1) := by decide +kernel
theorem d_51_123 : decode cX3_combine 123 = .ok (.invokevirtual 126, 3) := by decide +kernel
theorem d_51_126 : decode cX3_combine 126 = .ok (.ifCond .eq 12, 3) := by decide +kernel
theorem d_51_129 : decode cX3_combine 129 = .ok (.aload 4, 2) := by decide +kernel
theorem d_51_131 : decode cX3_combine 131 = .ok (.iconst 1, 1) := by decide +kernel
theorem d_51_132 : decode cX3_combine 132 = .ok (.invokevirtual 101, 3) := by decide +kernel
theorem d_51_135 : decode cX3_combine 135 = .ok (.goto 48, 3) := by decide +kernel
theorem d_51_138 : decode cX3_combine 138 = .ok (.aload_n 0, 1) := by decide +kernel
theorem d_51_139 : decode cX3_combine 139 = .ok (.getfield 22, 3) := by decide +kernel
theorem d_51_142 : decode cX3_combine 142 = .ok (.aload_n 3, 1) := by decide +kernel
theorem d_51_143 : decode cX3_combine 143 = .ok (.invokevirtual 130, 3) := by decide +kernel
theorem d_51_146 : decode cX3_combine 146 = .ok (.aload_n 0, 1) := by decide +kernel
theorem d_51_147 : decode cX3_combine 147 = .ok (.getfield 22, 3) := by decide +kernel
theorem d_51_150 : decode cX3_combine 150 = .ok (.invokevirtual 91, 3) := by decide +kernel
theorem d_51_153 : decode cX3_combine 153 = .ok (.aload 4, 2) := by decide +kernel
theorem d_51_155 : decode cX3_combine 155 = .ok (.aload_n 2, 1) := by decide +kernel
theorem d_51_156 : decode cX3_combine 156 = .ok (.aload_n 0, 1) := by decide +kernel
theorem d_51_157 : decode cX3_combine 157 = .ok (.getfield 22, 3) := by decide +kernel
theorem d_51_160 : decode cX3_combine 160 = .ok (.invokevirtual 123, 3) := by decide +kernel
theorem d_51_163 : decode cX3_combine 163 = .ok (.goto 20, 3) := by decide +kernel
theorem d_51_166 : decode cX3_combine 166 = .ok (.aload 4, 2) := by decide +kernel
theorem d_51_168 : decode cX3_combine 168 = .ok (.aload_n 2, 1) := by decide +kernel
theorem d_51_169 : decode cX3_combine 169 = .ok (.aload_n 3, 1) := by decide +kernel
theorem d_51_170 : decode cX3_combine 170 = .ok (.invokevirtual 133, 3) := by decide +kernel
theorem d_51_173 : decode cX3_combine 173 = .ok (.goto 10, 3) := by decide +kernel
theorem d_51_176 : decode cX3_combine 176 = .ok (.aload 4, 2) := by decide +kernel
theorem d_51_178 : decode cX3_combine 178 = .ok (.aload_n 2, 1) := by decide +kernel
theorem d_51_179 : decode cX3_combine 179 = .ok (.aload_n 3, 1) := by decide +kernel
theorem d_51_180 : decode cX3_combine 180 = .ok (.invokevirtual 136, 3) := by decide +kernel
theorem d_51_183 : decode cX3_combine 183 = .ok (.return_, 1) := by decide +kernel
theorem q_51_0r : zRun 51 0 [l0, l1, some (.ref o), l3, l4] S sh mi mj mr = zRun 51 1 [l0, l1, some (.ref o), l3, l4] (.ref o :: S) sh mi mj mr := zr_l (zD_of zk_51 d_51_0 rfl rfl) rfl rfl rfl
theorem q_51_0n : zRun 51 0 [l0, l1, some (.null), l3, l4] S sh mi mj mr = zRun 51 1 [l0, l1, some (.null), l3, l4] (.null :: S) sh mi mj mr := zr_l (zD_of zk_51 d_51_0 rfl rfl) rfl rfl rfl
theorem q_51_1 (h : zIs sh o 0 2) : zRun 51 1 L (.ref o :: S) sh mi mj mr = zRun 51 4 L (.int (mi o 0) :: S) sh mi mj mr := zr_getI (zD_of zk_51 d_51_1 rfl rfl) rfl rfl (Or.inl rfl) h
theorem q_51_4  : zRun 51 4 L (.int x :: S) sh mi mj mr = if ¬ x = 0 then zRun 51 14 L S sh mi mj mr else zRun 51 7 L S sh mi mj mr := zr_if (off := 10) (P := ¬ x = 0) (zD_of zk_51 d_51_4 rfl rfl) rfl rfl (by decide)
theorem q_51_7r : zRun 51 7 [l0, l1, l2, some (.ref o), l4] S sh mi mj mr = zRun 51 8 [l0, l1, l2, some (.ref o), l4] (.ref o :: S) sh mi mj mr := zr_l (zD_of zk_51 d_51_7 rfl rfl) rfl rfl rfl
theorem q_51_7n : zRun 51 7 [l0, l1, l2, some (.null), l4] S sh mi mj mr = zRun 51 8 [l0, l1, l2, some (.null), l4] (.null :: S) sh mi mj mr := zr_l (zD_of zk_51 d_51_7 rfl rfl) rfl rfl rfl
theorem q_51_8 (h : zIs sh o 0 2) : zRun 51 8 L (.ref o :: S) sh mi mj mr = zRun 51 11 L (.int (mi o 0) :: S) sh mi mj mr := zr_getI (zD_of zk_51 d_51_8 rfl rfl) rfl rfl (Or.inl rfl) h
theorem q_51_11  : zRun 51 11 L (.int x :: S) sh mi mj mr = if x = 0 then zRun 51 38 L S sh mi mj mr else zRun 51 14 L S sh mi mj mr := zr_if (off := 27) (P := x = 0) (zD_of zk_51 d_51_11 rfl rfl) rfl rfl (by decide)
theorem q_51_14r : zRun 51 14 [l0, l1, l2, l3, some (.ref o)] S sh mi mj mr = zRun 51 16 [l0, l1, l2, l3, some (.ref o)] (.ref o :: S) sh mi mj mr := zr_l (zD_of zk_51 d_51_14 rfl rfl) rfl rfl rfl
theorem q_51_14n : zRun 51 14 [l0, l1, l2, l3, some (.null)] S sh mi mj mr = zRun 51 16 [l0, l1, l2, l3, some (.null)] (.null :: S) sh mi mj mr := zr_l (zD_of zk_51 d_51_14 rfl rfl) rfl rfl rfl
theorem q_51_16r : zRun 51 16 [l0, l1, some (.ref o), l3, l4] S sh mi mj mr = zRun 51 17 [l0, l1, some (.ref o), l3, l4] (.ref o :: S) sh mi mj mr := zr_l (zD_of zk_51 d_51_16 rfl rfl) rfl rfl rfl
theorem q_51_16n : zRun 51 16 [l0, l1, some (.null), l3, l4] S sh mi mj mr = zRun 51 17 [l0, l1, some (.null), l3, l4] (.null :: S) sh mi mj mr := zr_l (zD_of zk_51 d_51_16 rfl rfl) rfl rfl rfl
theorem q_51_17 (h : zIs sh o 0 2) : zRun 51 17 L (.ref o :: S) sh mi mj mr = zRun 51 20 L (.int (mi o 0) :: S) sh mi mj mr := zr_getI (zD_of zk_51 d_51_17 rfl rfl) rfl rfl (Or.inl rfl) h
theorem q_51_20  : zRun 51 20 L (.int x :: S) sh mi mj mr = if x = 0 then zRun 51 30 L S sh mi mj mr else zRun 51 23 L S sh mi mj mr := zr_if (off := 10) (P := x = 0) (zD_of zk_51 d_51_20 rfl rfl) rfl rfl (by decide)
theorem q_51_23r : zRun 51 23 [l0, l1, some (.ref o), l3, l4] S sh mi mj mr = zRun 51 24 [l0, l1, some (.ref o), l3, l4] (.ref o :: S) sh mi mj mr := zr_l (zD_of zk_51 d_51_23 rfl rfl) rfl rfl rfl
theorem q_51_23n : zRun 51 23 [l0, l1, some (.null), l3, l4] S sh mi mj mr = zRun 51 24 [l0, l1, some (.null), l3, l4] (.null :: S) sh mi mj mr := zr_l (zD_of zk_51 d_51_23 rfl rfl) rfl rfl rfl
theorem q_51_24 (h : zIs sh o 0 2) : zRun 51 24 L (.ref o :: S) sh mi mj mr = zRun 51 27 L (.int (mi o 0) :: S) sh mi mj mr := zr_getI (zD_of zk_51 d_51_24 rfl rfl) rfl rfl (Or.inl rfl) h
theorem q_51_27  : zRun 51 27 L S sh mi mj mr = zRun 51 34 L S sh mi mj mr := zr_go (off := 7) (zD_of zk_51 d_51_27 rfl rfl) rfl rfl (by decide)
theorem q_51_30r : zRun 51 30 [l0, l1, l2, some (.ref o), l4] S sh mi mj mr = zRun 51 31 [l0, l1, l2, some (.ref o), l4] (.ref o :: S) sh mi mj mr := zr_l (zD_of zk_51 d_51_30 rfl rfl) rfl rfl rfl
theorem q_51_30n : zRun 51 30 [l0, l1, l2, some (.null), l4] S sh mi mj mr = zRun 51 31 [l0, l1, l2, some (.null), l4] (.null :: S) sh mi mj mr := zr_l (zD_of zk_51 d_51_30 rfl rfl) rfl rfl rfl
theorem q_51_31 (h : zIs sh o 0 2) : zRun 51 31 L (.ref o :: S) sh mi mj mr = zRun 51 34 L (.int (mi o 0) :: S) sh mi mj mr := zr_getI (zD_of zk_51 d_51_31 rfl rfl) rfl rfl (Or.inl rfl) h
theorem q_51_34  {x0 : Int32} (hS : zcat S ≤ 8) (h : zIs sh o 0 2) : zRun 51 34 L (.int x0 :: .ref o :: S) sh mi mj mr = (zCall 19 [.ref o, .int x0] sh mi mj mr).bind fun r => zRun 51 37 L (r.1.toList ++ S) r.2.1 r.2.2.1 r.2.2.2.1 r.2.2.2.2 := zr_V (zD_of zk_51 d_51_34 rfl rfl) rfl zk_19 rfl rfl rfl hS h
theorem q_51_37  : zRun 51 37 L [] sh mi mj mr = some (none, sh, mi, mj, mr) := zr_ret (zD_of zk_51 d_51_37 rfl rfl) rfl rfl rfl rfl rfl rfl
theorem q_51_38 : zRun 51 38 [l0, some (.int x), l2, l3, l4] S sh mi mj mr = zRun 51 39 [l0, some (.int x), l2, l3, l4] (.int x :: S) sh mi mj mr := zr_l (zD_of zk_51 d_51_38 rfl rfl) rfl rfl rfl
theorem q_51_39 : zRun 51 39 L (.int x :: S) sh mi mj mr = if x = 5 then zRun 51 92 L S sh mi mj mr else if x = 6 then zRun 51 102 L S sh mi mj mr else if x = 7 then zRun 51 176 L S sh mi mj mr else if x = 8 then zRun 51 176 L S sh mi mj mr else if x = 9 then zRun 51 112 L S sh mi mj mr else if x = 10 then zRun 51 176 L S sh mi mj mr else if x = 11 then zRun 51 122 L S sh mi mj mr else if x = 12 then zRun 51 176 L S sh mi mj mr else if x = 13 then zRun 51 176 L S sh mi mj mr else if x = 14 then zRun 51 166 L S sh mi mj mr else zRun 51 176 L S sh mi mj mr := by
  by_cases h : x = 5
  · subst h; exact zr_go (off := 53) (zD_of zk_51 d_51_39 rfl rfl) rfl rfl (by decide)
  rw [if_neg h]
  have a5 := zsw_ne (v := 5) h (by decide) (by decide)
  by_cases h : x = 6
  · subst h; exact zr_go (off := 63) (zD_of zk_51 d_51_39 rfl rfl) rfl rfl (by decide)
  rw [if_neg h]
  have a6 := zsw_ne (v := 6) h (by decide) (by decide)
  by_cases h : x = 7
  · subst h; exact zr_go (off := 137) (zD_of zk_51 d_51_39 rfl rfl) rfl rfl (by decide)
  rw [if_neg h]
  have a7 := zsw_ne (v := 7) h (by decide) (by decide)
  by_cases h : x = 8
  · subst h; exact zr_go (off := 137) (zD_of zk_51 d_51_39 rfl rfl) rfl rfl (by decide)
  rw [if_neg h]
  have a8 := zsw_ne (v := 8) h (by decide) (by decide)
  by_cases h : x = 9
  · subst h; exact zr_go (off := 73) (zD_of zk_51 d_51_39 rfl rfl) rfl rfl (by decide)
  rw [if_neg h]
  have a9 := zsw_ne (v := 9) h (by decide) (by decide)
  by_cases h : x = 10
  · subst h; exact zr_go (off := 137) (zD_of zk_51 d_51_39 rfl rfl) rfl rfl (by decide)
  rw [if_neg h]
  have a10 := zsw_ne (v := 10) h (by decide) (by decide)
  by_cases h : x = 11
  · subst h; exact zr_go (off := 83) (zD_of zk_51 d_51_39 rfl rfl) rfl rfl (by decide)
  rw [if_neg h]
  have a11 := zsw_ne (v := 11) h (by decide) (by decide)
  by_cases h : x = 12
  · subst h; exact zr_go (off := 137) (zD_of zk_51 d_51_39 rfl rfl) rfl rfl (by decide)
  rw [if_neg h]
  have a12 := zsw_ne (v := 12) h (by decide) (by decide)
  by_cases h : x = 13
  · subst h; exact zr_go (off := 137) (zD_of zk_51 d_51_39 rfl rfl) rfl rfl (by decide)
  rw [if_neg h]
  have a13 := zsw_ne (v := 13) h (by decide) (by decide)
  by_cases h : x = 14
  · subst h; exact zr_go (off := 127) (zD_of zk_51 d_51_39 rfl rfl) rfl rfl (by decide)
  rw [if_neg h]
  have a14 := zsw_ne (v := 14) h (by decide) (by decide)
  exact zr_go (S' := S) (off := 137) (zD_of zk_51 d_51_39 rfl rfl) rfl (by simp only [zjump, zsw_out (x := x) 137 5 14 (by omega)]) (by decide)
theorem q_51_92r : zRun 51 92 [l0, l1, l2, l3, some (.ref o)] S sh mi mj mr = zRun 51 94 [l0, l1, l2, l3, some (.ref o)] (.ref o :: S) sh mi mj mr := zr_l (zD_of zk_51 d_51_92 rfl rfl) rfl rfl rfl
theorem q_51_92n : zRun 51 92 [l0, l1, l2, l3, some (.null)] S sh mi mj mr = zRun 51 94 [l0, l1, l2, l3, some (.null)] (.null :: S) sh mi mj mr := zr_l (zD_of zk_51 d_51_92 rfl rfl) rfl rfl rfl
theorem q_51_94r : zRun 51 94 [l0, l1, some (.ref o), l3, l4] S sh mi mj mr = zRun 51 95 [l0, l1, some (.ref o), l3, l4] (.ref o :: S) sh mi mj mr := zr_l (zD_of zk_51 d_51_94 rfl rfl) rfl rfl rfl
theorem q_51_94n : zRun 51 94 [l0, l1, some (.null), l3, l4] S sh mi mj mr = zRun 51 95 [l0, l1, some (.null), l3, l4] (.null :: S) sh mi mj mr := zr_l (zD_of zk_51 d_51_94 rfl rfl) rfl rfl rfl
theorem q_51_95r : zRun 51 95 [l0, l1, l2, some (.ref o), l4] S sh mi mj mr = zRun 51 96 [l0, l1, l2, some (.ref o), l4] (.ref o :: S) sh mi mj mr := zr_l (zD_of zk_51 d_51_95 rfl rfl) rfl rfl rfl
theorem q_51_95n : zRun 51 95 [l0, l1, l2, some (.null), l4] S sh mi mj mr = zRun 51 96 [l0, l1, l2, some (.null), l4] (.null :: S) sh mi mj mr := zr_l (zD_of zk_51 d_51_95 rfl rfl) rfl rfl rfl
theorem q_51_96  {o0 o1 : Nat} (hS : zcat S ≤ 8) (h : zIs sh o 0 2) : zRun 51 96 L (.ref o1 :: .ref o0 :: .ref o :: S) sh mi mj mr = (zCall 30 [.ref o, .ref o0, .ref o1] sh mi mj mr).bind fun r => zRun 51 99 L (r.1.toList ++ S) r.2.1 r.2.2.1 r.2.2.2.1 r.2.2.2.2 := zr_V (zD_of zk_51 d_51_96 rfl rfl) rfl zk_30 rfl rfl rfl hS h
theorem q_51_99  : zRun 51 99 L S sh mi mj mr = zRun 51 183 L S sh mi mj mr := zr_go (off := 84) (zD_of zk_51 d_51_99 rfl rfl) rfl rfl (by decide)
theorem q_51_102r : zRun 51 102 [l0, l1, l2, l3, some (.ref o)] S sh mi mj mr = zRun 51 104 [l0, l1, l2, l3, some (.ref o)] (.ref o :: S) sh mi mj mr := zr_l (zD_of zk_51 d_51_102 rfl rfl) rfl rfl rfl
theorem q_51_102n : zRun 51 102 [l0, l1, l2, l3, some (.null)] S sh mi mj mr = zRun 51 104 [l0, l1, l2, l3, some (.null)] (.null :: S) sh mi mj mr := zr_l (zD_of zk_51 d_51_102 rfl rfl) rfl rfl rfl
theorem q_51_104r : zRun 51 104 [l0, l1, some (.ref o), l3, l4] S sh mi mj mr = zRun 51 105 [l0, l1, some (.ref o), l3, l4] (.ref o :: S) sh mi mj mr := zr_l (zD_of zk_51 d_51_104 rfl rfl) rfl rfl rfl
theorem q_51_104n : zRun 51 104 [l0, l1, some (.null), l3, l4] S sh mi mj mr = zRun 51 105 [l0, l1, some (.null), l3, l4] (.null :: S) sh mi mj mr := zr_l (zD_of zk_51 d_51_104 rfl rfl) rfl rfl rfl
theorem q_51_105r : zRun 51 105 [l0, l1, l2, some (.ref o), l4] S sh mi mj mr = zRun 51 106 [l0, l1, l2, some (.ref o), l4] (.ref o :: S) sh mi mj mr := zr_l (zD_of zk_51 d_51_105 rfl rfl) rfl rfl rfl
theorem q_51_105n : zRun 51 105 [l0, l1, l2, some (.null), l4] S sh mi mj mr = zRun 51 106 [l0, l1, l2, some (.null), l4] (.null :: S) sh mi mj mr := zr_l (zD_of zk_51 d_51_105 rfl rfl) rfl rfl rfl
theorem q_51_106  {o0 o1 : Nat} (hS : zcat S ≤ 8) (h : zIs sh o 0 2) : zRun 51 106 L (.ref o1 :: .ref o0 :: .ref o :: S) sh mi mj mr = (zCall 31 [.ref o, .ref o0, .ref o1] sh mi mj mr).bind fun r => zRun 51 109 L (r.1.toList ++ S) r.2.1 r.2.2.1 r.2.2.2.1 r.2.2.2.2 := zr_V (zD_of zk_51 d_51_106 rfl rfl) rfl zk_31 rfl rfl rfl hS h
theorem q_51_109  : zRun 51 109 L S sh mi mj mr = zRun 51 183 L S sh mi mj mr := zr_go (off := 74) (zD_of zk_51 d_51_109 rfl rfl) rfl rfl (by decide)
theorem q_51_112r : zRun 51 112 [l0, l1, l2, l3, some (.ref o)] S sh mi mj mr = zRun 51 114 [l0, l1, l2, l3, some (.ref o)] (.ref o :: S) sh mi mj mr := zr_l (zD_of zk_51 d_51_112 rfl rfl) rfl rfl rfl
theorem q_51_112n : zRun 51 112 [l0, l1, l2, l3, some (.null)] S sh mi mj mr = zRun 51 114 [l0, l1, l2, l3, some (.null)] (.null :: S) sh mi mj mr := zr_l (zD_of zk_51 d_51_112 rfl rfl) rfl rfl rfl
theorem q_51_114r : zRun 51 114 [l0, l1, some (.ref o), l3, l4] S sh mi mj mr = zRun 51 115 [l0, l1, some (.ref o), l3, l4] (.ref o :: S) sh mi mj mr := zr_l (zD_of zk_51 d_51_114 rfl rfl) rfl rfl rfl
theorem q_51_114n : zRun 51 114 [l0, l1, some (.null), l3, l4] S sh mi mj mr = zRun 51 115 [l0, l1, some (.null), l3, l4] (.null :: S) sh mi mj mr := zr_l (zD_of zk_51 d_51_114 rfl rfl) rfl rfl rfl
theorem q_51_115r : zRun 51 115 [l0, l1, l2, some (.ref o), l4] S sh mi mj mr = zRun 51 116 [l0, l1, l2, some (.ref o), l4] (.ref o :: S) sh mi mj mr := zr_l (zD_of zk_51 d_51_115 rfl rfl) rfl rfl rfl
theorem q_51_115n : zRun 51 115 [l0, l1, l2, some (.null), l4] S sh mi mj mr = zRun 51 116 [l0, l1, l2, some (.null), l4] (.null :: S) sh mi mj mr := zr_l (zD_of zk_51 d_51_115 rfl rfl) rfl rfl rfl
theorem q_51_116  {o0 o1 : Nat} (hS : zcat S ≤ 8) (h : zIs sh o 0 2) : zRun 51 116 L (.ref o1 :: .ref o0 :: .ref o :: S) sh mi mj mr = (zCall 33 [.ref o, .ref o0, .ref o1] sh mi mj mr).bind fun r => zRun 51 119 L (r.1.toList ++ S) r.2.1 r.2.2.1 r.2.2.2.1 r.2.2.2.2 := zr_V (zD_of zk_51 d_51_116 rfl rfl) rfl zk_33 rfl rfl rfl hS h
theorem q_51_119  : zRun 51 119 L S sh mi mj mr = zRun 51 183 L S sh mi mj mr := zr_go (off := 64) (zD_of zk_51 d_51_119 rfl rfl) rfl rfl (by decide)
theorem q_51_122r : zRun 51 122 [l0, l1, l2, some (.ref o), l4] S sh mi mj mr = zRun 51 123 [l0, l1, l2, some (.ref o), l4] (.ref o :: S) sh mi mj mr := zr_l (zD_of zk_51 d_51_122 rfl rfl) rfl rfl rfl
theorem q_51_122n : zRun 51 122 [l0, l1, l2, some (.null), l4] S sh mi mj mr = zRun 51 123 [l0, l1, l2, some (.null), l4] (.null :: S) sh mi mj mr := zr_l (zD_of zk_51 d_51_122 rfl rfl) rfl rfl rfl
theorem q_51_123  (hS : zcat S ≤ 8) (h : zIs sh o 0 2) : zRun 51 123 L (.ref o :: S) sh mi mj mr = (zCall 22 [.ref o] sh mi mj mr).bind fun r => zRun 51 126 L (r.1.toList ++ S) r.2.1 r.2.2.1 r.2.2.2.1 r.2.2.2.2 := zr_V (zD_of zk_51 d_51_123 rfl rfl) rfl zk_22 rfl rfl rfl hS h
theorem q_51_126  : zRun 51 126 L (.int x :: S) sh mi mj mr = if x = 0 then zRun 51 138 L S sh mi mj mr else zRun 51 129 L S sh mi mj mr := zr_if (off := 12) (P := x = 0) (zD_of zk_51 d_51_126 rfl rfl) rfl rfl (by decide)
theorem q_51_129r : zRun 51 129 [l0, l1, l2, l3, some (.ref o)] S sh mi mj mr = zRun 51 131 [l0, l1, l2, l3, some (.ref o)] (.ref o :: S) sh mi mj mr := zr_l (zD_of zk_51 d_51_129 rfl rfl) rfl rfl rfl
theorem q_51_129n : zRun 51 129 [l0, l1, l2, l3, some (.null)] S sh mi mj mr = zRun 51 131 [l0, l1, l2, l3, some (.null)] (.null :: S) sh mi mj mr := zr_l (zD_of zk_51 d_51_129 rfl rfl) rfl rfl rfl
theorem q_51_131  : zRun 51 131 L S sh mi mj mr = zRun 51 132 L (.int 1 :: S) sh mi mj mr := zr_p (zD_of zk_51 d_51_131 rfl rfl) rfl
theorem q_51_132  {x0 : Int32} (hS : zcat S ≤ 8) (h : zIs sh o 0 2) : zRun 51 132 L (.int x0 :: .ref o :: S) sh mi mj mr = (zCall 19 [.ref o, .int x0] sh mi mj mr).bind fun r => zRun 51 135 L (r.1.toList ++ S) r.2.1 r.2.2.1 r.2.2.2.1 r.2.2.2.2 := zr_V (zD_of zk_51 d_51_132 rfl rfl) rfl zk_19 rfl rfl rfl hS h
theorem q_51_135  : zRun 51 135 L S sh mi mj mr = zRun 51 183 L S sh mi mj mr := zr_go (off := 48) (zD_of zk_51 d_51_135 rfl rfl) rfl rfl (by decide)
theorem q_51_138r : zRun 51 138 [some (.ref o), l1, l2, l3, l4] S sh mi mj mr = zRun 51 139 [some (.ref o), l1, l2, l3, l4] (.ref o :: S) sh mi mj mr := zr_l (zD_of zk_51 d_51_138 rfl rfl) rfl rfl rfl
theorem q_51_138n : zRun 51 138 [some (.null), l1, l2, l3, l4] S sh mi mj mr = zRun 51 139 [some (.null), l1, l2, l3, l4] (.null :: S) sh mi mj mr := zr_l (zD_of zk_51 d_51_138 rfl rfl) rfl rfl rfl
theorem q_51_139 (h : zIs sh o 0 3) : zRun 51 139 L (.ref o :: S) sh mi mj mr = zRun 51 142 L (va_rf (mr o 2) :: S) sh mi mj mr := zr_getR (zD_of zk_51 d_51_139 rfl rfl) rfl rfl rfl h
theorem q_51_142r : zRun 51 142 [l0, l1, l2, some (.ref o), l4] S sh mi mj mr = zRun 51 143 [l0, l1, l2, some (.ref o), l4] (.ref o :: S) sh mi mj mr := zr_l (zD_of zk_51 d_51_142 rfl rfl) rfl rfl rfl
theorem q_51_142n : zRun 51 142 [l0, l1, l2, some (.null), l4] S sh mi mj mr = zRun 51 143 [l0, l1, l2, some (.null), l4] (.null :: S) sh mi mj mr := zr_l (zD_of zk_51 d_51_142 rfl rfl) rfl rfl rfl
theorem q_51_143  {o0 : Nat} (hS : zcat S ≤ 8) (h : zIs sh o 0 2) : zRun 51 143 L (.ref o0 :: .ref o :: S) sh mi mj mr = (zCall 35 [.ref o, .ref o0] sh mi mj mr).bind fun r => zRun 51 146 L (r.1.toList ++ S) r.2.1 r.2.2.1 r.2.2.2.1 r.2.2.2.2 := zr_V (zD_of zk_51 d_51_143 rfl rfl) rfl zk_35 rfl rfl rfl hS h
theorem q_51_146r : zRun 51 146 [some (.ref o), l1, l2, l3, l4] S sh mi mj mr = zRun 51 147 [some (.ref o), l1, l2, l3, l4] (.ref o :: S) sh mi mj mr := zr_l (zD_of zk_51 d_51_146 rfl rfl) rfl rfl rfl
theorem q_51_146n : zRun 51 146 [some (.null), l1, l2, l3, l4] S sh mi mj mr = zRun 51 147 [some (.null), l1, l2, l3, l4] (.null :: S) sh mi mj mr := zr_l (zD_of zk_51 d_51_146 rfl rfl) rfl rfl rfl
theorem q_51_147 (h : zIs sh o 0 3) : zRun 51 147 L (.ref o :: S) sh mi mj mr = zRun 51 150 L (va_rf (mr o 2) :: S) sh mi mj mr := zr_getR (zD_of zk_51 d_51_147 rfl rfl) rfl rfl rfl h
theorem q_51_150  (hS : zcat S ≤ 8) (h : zIs sh o 0 2) : zRun 51 150 L (.ref o :: S) sh mi mj mr = (zCall 20 [.ref o] sh mi mj mr).bind fun r => zRun 51 153 L (r.1.toList ++ S) r.2.1 r.2.2.1 r.2.2.2.1 r.2.2.2.2 := zr_V (zD_of zk_51 d_51_150 rfl rfl) rfl zk_20 rfl rfl rfl hS h
theorem q_51_153r : zRun 51 153 [l0, l1, l2, l3, some (.ref o)] S sh mi mj mr = zRun 51 155 [l0, l1, l2, l3, some (.ref o)] (.ref o :: S) sh mi mj mr := zr_l (zD_of zk_51 d_51_153 rfl rfl) rfl rfl rfl
theorem q_51_153n : zRun 51 153 [l0, l1, l2, l3, some (.null)] S sh mi mj mr = zRun 51 155 [l0, l1, l2, l3, some (.null)] (.null :: S) sh mi mj mr := zr_l (zD_of zk_51 d_51_153 rfl rfl) rfl rfl rfl
theorem q_51_155r : zRun 51 155 [l0, l1, some (.ref o), l3, l4] S sh mi mj mr = zRun 51 156 [l0, l1, some (.ref o), l3, l4] (.ref o :: S) sh mi mj mr := zr_l (zD_of zk_51 d_51_155 rfl rfl) rfl rfl rfl
theorem q_51_155n : zRun 51 155 [l0, l1, some (.null), l3, l4] S sh mi mj mr = zRun 51 156 [l0, l1, some (.null), l3, l4] (.null :: S) sh mi mj mr := zr_l (zD_of zk_51 d_51_155 rfl rfl) rfl rfl rfl
theorem q_51_156r : zRun 51 156 [some (.ref o), l1, l2, l3, l4] S sh mi mj mr = zRun 51 157 [some (.ref o), l1, l2, l3, l4] (.ref o :: S) sh mi mj mr := zr_l (zD_of zk_51 d_51_156 rfl rfl) rfl rfl rfl
theorem q_51_156n : zRun 51 156 [some (.null), l1, l2, l3, l4] S sh mi mj mr = zRun 51 157 [some (.null), l1, l2, l3, l4] (.null :: S) sh mi mj mr := zr_l (zD_of zk_51 d_51_156 rfl rfl) rfl rfl rfl
theorem q_51_157 (h : zIs sh o 0 3) : zRun 51 157 L (.ref o :: S) sh mi mj mr = zRun 51 160 L (va_rf (mr o 2) :: S) sh mi mj mr := zr_getR (zD_of zk_51 d_51_157 rfl rfl) rfl rfl rfl h
theorem q_51_160  {o0 o1 : Nat} (hS : zcat S ≤ 8) (h : zIs sh o 0 2) : zRun 51 160 L (.ref o1 :: .ref o0 :: .ref o :: S) sh mi mj mr = (zCall 33 [.ref o, .ref o0, .ref o1] sh mi mj mr).bind fun r => zRun 51 163 L (r.1.toList ++ S) r.2.1 r.2.2.1 r.2.2.2.1 r.2.2.2.2 := zr_V (zD_of zk_51 d_51_160 rfl rfl) rfl zk_33 rfl rfl rfl hS h
theorem q_51_163  : zRun 51 163 L S sh mi mj mr = zRun 51 183 L S sh mi mj mr := zr_go (off := 20) (zD_of zk_51 d_51_163 rfl rfl) rfl rfl (by decide)
theorem q_51_166r : zRun 51 166 [l0, l1, l2, l3, some (.ref o)] S sh mi mj mr = zRun 51 168 [l0, l1, l2, l3, some (.ref o)] (.ref o :: S) sh mi mj mr := zr_l (zD_of zk_51 d_51_166 rfl rfl) rfl rfl rfl
theorem q_51_166n : zRun 51 166 [l0, l1, l2, l3, some (.null)] S sh mi mj mr = zRun 51 168 [l0, l1, l2, l3, some (.null)] (.null :: S) sh mi mj mr := zr_l (zD_of zk_51 d_51_166 rfl rfl) rfl rfl rfl
theorem q_51_168r : zRun 51 168 [l0, l1, some (.ref o), l3, l4] S sh mi mj mr = zRun 51 169 [l0, l1, some (.ref o), l3, l4] (.ref o :: S) sh mi mj mr := zr_l (zD_of zk_51 d_51_168 rfl rfl) rfl rfl rfl
theorem q_51_168n : zRun 51 168 [l0, l1, some (.null), l3, l4] S sh mi mj mr = zRun 51 169 [l0, l1, some (.null), l3, l4] (.null :: S) sh mi mj mr := zr_l (zD_of zk_51 d_51_168 rfl rfl) rfl rfl rfl
theorem q_51_169r : zRun 51 169 [l0, l1, l2, some (.ref o), l4] S sh mi mj mr = zRun 51 170 [l0, l1, l2, some (.ref o), l4] (.ref o :: S) sh mi mj mr := zr_l (zD_of zk_51 d_51_169 rfl rfl) rfl rfl rfl
theorem q_51_169n : zRun 51 169 [l0, l1, l2, some (.null), l4] S sh mi mj mr = zRun 51 170 [l0, l1, l2, some (.null), l4] (.null :: S) sh mi mj mr := zr_l (zD_of zk_51 d_51_169 rfl rfl) rfl rfl rfl
theorem q_51_170  {o0 o1 : Nat} (hS : zcat S ≤ 8) (h : zIs sh o 0 2) : zRun 51 170 L (.ref o1 :: .ref o0 :: .ref o :: S) sh mi mj mr = (zCall 38 [.ref o, .ref o0, .ref o1] sh mi mj mr).bind fun r => zRun 51 173 L (r.1.toList ++ S) r.2.1 r.2.2.1 r.2.2.2.1 r.2.2.2.2 := zr_V (zD_of zk_51 d_51_170 rfl rfl) rfl zk_38 rfl rfl rfl hS h
theorem q_51_173  : zRun 51 173 L S sh mi mj mr = zRun 51 183 L S sh mi mj mr := zr_go (off := 10) (zD_of zk_51 d_51_173 rfl rfl) rfl rfl (by decide)
theorem q_51_176r : zRun 51 176 [l0, l1, l2, l3, some (.ref o)] S sh mi mj mr = zRun 51 178 [l0, l1, l2, l3, some (.ref o)] (.ref o :: S) sh mi mj mr := zr_l (zD_of zk_51 d_51_176 rfl rfl) rfl rfl rfl
theorem q_51_176n : zRun 51 176 [l0, l1, l2, l3, some (.null)] S sh mi mj mr = zRun 51 178 [l0, l1, l2, l3, some (.null)] (.null :: S) sh mi mj mr := zr_l (zD_of zk_51 d_51_176 rfl rfl) rfl rfl rfl
theorem q_51_178r : zRun 51 178 [l0, l1, some (.ref o), l3, l4] S sh mi mj mr = zRun 51 179 [l0, l1, some (.ref o), l3, l4] (.ref o :: S) sh mi mj mr := zr_l (zD_of zk_51 d_51_178 rfl rfl) rfl rfl rfl
theorem q_51_178n : zRun 51 178 [l0, l1, some (.null), l3, l4] S sh mi mj mr = zRun 51 179 [l0, l1, some (.null), l3, l4] (.null :: S) sh mi mj mr := zr_l (zD_of zk_51 d_51_178 rfl rfl) rfl rfl rfl
theorem q_51_179r : zRun 51 179 [l0, l1, l2, some (.ref o), l4] S sh mi mj mr = zRun 51 180 [l0, l1, l2, some (.ref o), l4] (.ref o :: S) sh mi mj mr := zr_l (zD_of zk_51 d_51_179 rfl rfl) rfl rfl rfl
theorem q_51_179n : zRun 51 179 [l0, l1, l2, some (.null), l4] S sh mi mj mr = zRun 51 180 [l0, l1, l2, some (.null), l4] (.null :: S) sh mi mj mr := zr_l (zD_of zk_51 d_51_179 rfl rfl) rfl rfl rfl
theorem q_51_180  {o0 o1 : Nat} (hS : zcat S ≤ 8) (h : zIs sh o 0 2) : zRun 51 180 L (.ref o1 :: .ref o0 :: .ref o :: S) sh mi mj mr = (zCall 39 [.ref o, .ref o0, .ref o1] sh mi mj mr).bind fun r => zRun 51 183 L (r.1.toList ++ S) r.2.1 r.2.2.1 r.2.2.2.1 r.2.2.2.2 := zr_V (zD_of zk_51 d_51_180 rfl rfl) rfl zk_39 rfl rfl rfl hS h
theorem q_51_183  : zRun 51 183 L [] sh mi mj mr = some (none, sh, mi, mj, mr) := zr_ret (zD_of zk_51 d_51_183 rfl rfl) rfl rfl rfl rfl rfl rfl
theorem e_51 {x0 : Int32} {o0 o1 o2 : Nat} : zCall 51 [.ref o, .int x0, .ref o0, .ref o1, .ref o2] sh mi mj mr = zRun 51 0 [some (.ref o), some (.int x0), some (.ref o0), some (.ref o1), some (.ref o2)] [] sh mi mj mr := rfl
theorem d_52_0 : decode cX3_nameLoosePart 0 = .ok (.iconst 4, 1) := by decide +kernel
theorem d_52_1 : decode cX3_nameLoosePart 1 = .ok (.istore_n 2, 1) := by decide +kernel
theorem d_52_2 : decode cX3_nameLoosePart 2 = .ok (.aload_n 0, 1) := by decide +kernel
theorem d_52_3 : decode cX3_nameLoosePart 3 = .ok (.iload_n 2, 1) := by decide +kernel
theorem d_52_4 : decode cX3_nameLoosePart 4 = .ok (.invokevirtual 139, 3) := by decide +kernel
theorem d_52_7 : decode cX3_nameLoosePart 7 = .ok (.lstore_n 3, 1) := by decide +kernel
theorem d_52_8 : decode cX3_nameLoosePart 8 = .ok (.iconst 5, 1) := by decide +kernel
theorem d_52_9 : decode cX3_nameLoosePart 9 = .ok (.istore 5, 2) := by decide +kernel
theorem d_52_11 : decode cX3_nameLoosePart 11 = .ok (.iload 5, 2) := by decide +kernel
theorem d_52_13 : decode cX3_nameLoosePart 13 = .ok (.iconst 4, 1) := by decide +kernel
theorem d_52_14 : decode cX3_nameLoosePart 14 = .ok (.aload_n 0, 1) := by decide +kernel
theorem d_52_15 : decode cX3_nameLoosePart 15 = .ok (.getfield 29, 3) := by decide +kernel
theorem d_52_18 : decode cX3_nameLoosePart 18 = .ok (.iadd, 1) := by decide +kernel
theorem d_52_19 : decode cX3_nameLoosePart 19 = .ok (.if_icmp .ge 37, 3) := by decide +kernel
theorem d_52_22 : decode cX3_nameLoosePart 22 = .ok (.iload 5, 2) := by decide +kernel
theorem d_52_24 : decode cX3_nameLoosePart 24 = .ok (.bipush 12, 2) := by decide +kernel
theorem d_52_26 : decode cX3_nameLoosePart 26 = .ok (.if_icmp .ge 30, 3) := by decide +kernel
theorem d_52_29 : decode cX3_nameLoosePart 29 = .ok (.aload_n 0, 1) := by decide +kernel
theorem d_52_30 : decode cX3_nameLoosePart 30 = .ok (.iload 5, 2) := by decide +kernel
theorem d_52_32 : decode cX3_nameLoosePart 32 = .ok (.invokevirtual 139, 3) := by decide +kernel
theorem d_52_35 : decode cX3_nameLoosePart 35 = .ok (.lstore 6, 2) := by decide +kernel
theorem d_52_37 : decode cX3_nameLoosePart 37 = .ok (.lload 6, 2) := by decide +kernel
theorem d_52_39 : decode cX3_nameLoosePart 39 = .ok (.lload_n 3, 1) := by decide +kernel
theorem d_52_40 : decode cX3_nameLoosePart 40 = .ok (.lcmp, 1) := by decide +kernel
theorem d_52_41 : decode cX3_nameLoosePart 41 = .ok (.ifCond .ge 9, 3) := by decide +kernel
theorem d_52_44 : decode cX3_nameLoosePart 44 = .ok (.lload 6, 2) := by decide +kernel
theorem d_52_46 : decode cX3_nameLoosePart 46 = .ok (.lstore_n 3, 1) := by decide +kernel
theorem d_52_47 : decode cX3_nameLoosePart 47 = .ok (.iload 5, 2) := by decide +kernel
theorem d_52_49 : decode cX3_nameLoosePart 49 = .ok (.istore_n 2, 1) := by decide +kernel
theorem d_52_50 : decode cX3_nameLoosePart 50 = .ok (.iinc 5 1, 3) := by decide +kernel
theorem d_52_53 : decode cX3_nameLoosePart 53 = .ok (.goto (-42), 3) := by decide +kernel
theorem d_52_56 : decode cX3_nameLoosePart 56 = .ok (.iconst 0, 1) := by decide +kernel
theorem d_52_57 : decode cX3_nameLoosePart 57 = .ok (.istore 5, 2) := by decide +kernel
theorem d_52_59 : decode cX3_nameLoosePart 59 = .ok (.iload 5, 2) := by decide +kernel
theorem d_52_61 : decode cX3_nameLoosePart 61 = .ok (.aload_n 0, 1) := by decide +kernel
theorem d_52_62 : decode cX3_nameLoosePart 62 = .ok (.getfield 25, 3) := by decide +kernel
theorem d_52_65 : decode cX3_nameLoosePart 65 = .ok (.if_icmp .ge 20, 3) := by decide +kernel
theorem d_52_68 : decode cX3_nameLoosePart 68 = .ok (.aload_n 0, 1) := by decide +kernel
theorem d_52_69 : decode cX3_nameLoosePart 69 = .ok (.getfield 11, 3) := by decide +kernel
theorem d_52_72 : decode cX3_nameLoosePart 72 = .ok (.iload 5, 2) := by decide +kernel
theorem d_52_74 : decode cX3_nameLoosePart 74 = .ok (.aaload, 1) := by decide +kernel
theorem d_52_75 : decode cX3_nameLoosePart 75 = .ok (.iload_n 2, 1) := by decide +kernel
theorem d_52_76 : decode cX3_nameLoosePart 76 = .ok (.invokevirtual 143, 3) := by decide +kernel
theorem d_52_79 : decode cX3_nameLoosePart 79 = .ok (.iinc 5 1, 3) := by decide +kernel
theorem d_52_82 : decode cX3_nameLoosePart 82 = .ok (.goto (-23), 3) := by decide +kernel
theorem d_52_85 : decode cX3_nameLoosePart 85 = .ok (.aload_n 1, 1) := by decide +kernel
theorem d_52_86 : decode cX3_nameLoosePart 86 = .ok (.iload_n 2, 1) := by decide +kernel
theorem d_52_87 : decode cX3_nameLoosePart 87 = .ok (.invokevirtual 146, 3) := by decide +kernel
theorem d_52_90 : decode cX3_nameLoosePart 90 = .ok (.return_, 1) := by decide +kernel
theorem q_52_0  : zRun 52 0 L S sh mi mj mr = zRun 52 1 L (.int 4 :: S) sh mi mj mr := zr_p (zD_of zk_52 d_52_0 rfl rfl) rfl
theorem q_52_1 : zRun 52 1 [l0, l1, l2, l3, l4, l5, l6, l7] (.int x :: S) sh mi mj mr = zRun 52 2 [l0, zk2 l1, some (.int x), l3, l4, l5, l6, l7] S sh mi mj mr := zr_s1 (i := 2) (v := .int x) (L := [l0, l1, l2, l3, l4, l5, l6, l7]) (zD_of zk_52 d_52_1 rfl rfl) rfl rfl rfl rfl
theorem q_52_2r : zRun 52 2 [some (.ref o), l1, l2, l3, l4, l5, l6, l7] S sh mi mj mr = zRun 52 3 [some (.ref o), l1, l2, l3, l4, l5, l6, l7] (.ref o :: S) sh mi mj mr := zr_l (zD_of zk_52 d_52_2 rfl rfl) rfl rfl rfl
theorem q_52_2n : zRun 52 2 [some (.null), l1, l2, l3, l4, l5, l6, l7] S sh mi mj mr = zRun 52 3 [some (.null), l1, l2, l3, l4, l5, l6, l7] (.null :: S) sh mi mj mr := zr_l (zD_of zk_52 d_52_2 rfl rfl) rfl rfl rfl
theorem q_52_3 : zRun 52 3 [l0, l1, some (.int x), l3, l4, l5, l6, l7] S sh mi mj mr = zRun 52 4 [l0, l1, some (.int x), l3, l4, l5, l6, l7] (.int x :: S) sh mi mj mr := zr_l (zD_of zk_52 d_52_3 rfl rfl) rfl rfl rfl
theorem q_52_4  {x0 : Int32} (hS : zcat S ≤ 8) (h : zIs sh o 0 3) : zRun 52 4 L (.int x0 :: .ref o :: S) sh mi mj mr = (zCall 53 [.ref o, .int x0] sh mi mj mr).bind fun r => zRun 52 7 L (r.1.toList ++ S) r.2.1 r.2.2.1 r.2.2.2.1 r.2.2.2.2 := zr_V (zD_of zk_52 d_52_4 rfl rfl) rfl zk_53 rfl rfl rfl hS h
theorem q_52_7 : zRun 52 7 [l0, l1, l2, l3, l4, l5, l6, l7] (.long u :: S) sh mi mj mr = zRun 52 8 [l0, l1, zk2 l2, some (.long u), none, l5, l6, l7] S sh mi mj mr := zr_s2 (i := 3) (v := .long u) (L := [l0, l1, l2, l3, l4, l5, l6, l7]) (zD_of zk_52 d_52_7 rfl rfl) rfl rfl rfl rfl
theorem q_52_8  : zRun 52 8 L S sh mi mj mr = zRun 52 9 L (.int 5 :: S) sh mi mj mr := zr_p (zD_of zk_52 d_52_8 rfl rfl) rfl
theorem q_52_9 : zRun 52 9 [l0, l1, l2, l3, l4, l5, l6, l7] (.int x :: S) sh mi mj mr = zRun 52 11 [l0, l1, l2, l3, zk2 l4, some (.int x), l6, l7] S sh mi mj mr := zr_s1 (i := 5) (v := .int x) (L := [l0, l1, l2, l3, l4, l5, l6, l7]) (zD_of zk_52 d_52_9 rfl rfl) rfl rfl rfl rfl
theorem q_52_11 : zRun 52 11 [l0, l1, l2, l3, l4, some (.int x), l6, l7] S sh mi mj mr = zRun 52 13 [l0, l1, l2, l3, l4, some (.int x), l6, l7] (.int x :: S) sh mi mj mr := zr_l (zD_of zk_52 d_52_11 rfl rfl) rfl rfl rfl
theorem q_52_13  : zRun 52 13 L S sh mi mj mr = zRun 52 14 L (.int 4 :: S) sh mi mj mr := zr_p (zD_of zk_52 d_52_13 rfl rfl) rfl
theorem q_52_14r : zRun 52 14 [some (.ref o), l1, l2, l3, l4, l5, l6, l7] S sh mi mj mr = zRun 52 15 [some (.ref o), l1, l2, l3, l4, l5, l6, l7] (.ref o :: S) sh mi mj mr := zr_l (zD_of zk_52 d_52_14 rfl rfl) rfl rfl rfl
theorem q_52_14n : zRun 52 14 [some (.null), l1, l2, l3, l4, l5, l6, l7] S sh mi mj mr = zRun 52 15 [some (.null), l1, l2, l3, l4, l5, l6, l7] (.null :: S) sh mi mj mr := zr_l (zD_of zk_52 d_52_14 rfl rfl) rfl rfl rfl
theorem q_52_15 (h : zIs sh o 0 3) : zRun 52 15 L (.ref o :: S) sh mi mj mr = zRun 52 18 L (.int (mi o 4) :: S) sh mi mj mr := zr_getI (zD_of zk_52 d_52_15 rfl rfl) rfl rfl (Or.inl rfl) h
theorem q_52_18  : zRun 52 18 L (.int y :: .int x :: S) sh mi mj mr = zRun 52 19 L (.int (x + y) :: S) sh mi mj mr := zr_p (zD_of zk_52 d_52_18 rfl rfl) rfl
theorem q_52_19  : zRun 52 19 L (.int y :: .int x :: S) sh mi mj mr = if y ≤ x then zRun 52 56 L S sh mi mj mr else zRun 52 22 L S sh mi mj mr := zr_if (off := 37) (P := y ≤ x) (zD_of zk_52 d_52_19 rfl rfl) rfl rfl (by decide)
theorem q_52_22 : zRun 52 22 [l0, l1, l2, l3, l4, some (.int x), l6, l7] S sh mi mj mr = zRun 52 24 [l0, l1, l2, l3, l4, some (.int x), l6, l7] (.int x :: S) sh mi mj mr := zr_l (zD_of zk_52 d_52_22 rfl rfl) rfl rfl rfl
theorem q_52_24  : zRun 52 24 L S sh mi mj mr = zRun 52 26 L (.int 12 :: S) sh mi mj mr := zr_p (zD_of zk_52 d_52_24 rfl rfl) rfl
theorem q_52_26  : zRun 52 26 L (.int y :: .int x :: S) sh mi mj mr = if y ≤ x then zRun 52 56 L S sh mi mj mr else zRun 52 29 L S sh mi mj mr := zr_if (off := 30) (P := y ≤ x) (zD_of zk_52 d_52_26 rfl rfl) rfl rfl (by decide)
theorem q_52_29r : zRun 52 29 [some (.ref o), l1, l2, l3, l4, l5, l6, l7] S sh mi mj mr = zRun 52 30 [some (.ref o), l1, l2, l3, l4, l5, l6, l7] (.ref o :: S) sh mi mj mr := zr_l (zD_of zk_52 d_52_29 rfl rfl) rfl rfl rfl
theorem q_52_29n : zRun 52 29 [some (.null), l1, l2, l3, l4, l5, l6, l7] S sh mi mj mr = zRun 52 30 [some (.null), l1, l2, l3, l4, l5, l6, l7] (.null :: S) sh mi mj mr := zr_l (zD_of zk_52 d_52_29 rfl rfl) rfl rfl rfl
theorem q_52_30 : zRun 52 30 [l0, l1, l2, l3, l4, some (.int x), l6, l7] S sh mi mj mr = zRun 52 32 [l0, l1, l2, l3, l4, some (.int x), l6, l7] (.int x :: S) sh mi mj mr := zr_l (zD_of zk_52 d_52_30 rfl rfl) rfl rfl rfl
theorem q_52_32  {x0 : Int32} (hS : zcat S ≤ 8) (h : zIs sh o 0 3) : zRun 52 32 L (.int x0 :: .ref o :: S) sh mi mj mr = (zCall 53 [.ref o, .int x0] sh mi mj mr).bind fun r => zRun 52 35 L (r.1.toList ++ S) r.2.1 r.2.2.1 r.2.2.2.1 r.2.2.2.2 := zr_V (zD_of zk_52 d_52_32 rfl rfl) rfl zk_53 rfl rfl rfl hS h
theorem q_52_35 : zRun 52 35 [l0, l1, l2, l3, l4, l5, l6, l7] (.long u :: S) sh mi mj mr = zRun 52 37 [l0, l1, l2, l3, l4, zk2 l5, some (.long u), none] S sh mi mj mr := zr_s2 (i := 6) (v := .long u) (L := [l0, l1, l2, l3, l4, l5, l6, l7]) (zD_of zk_52 d_52_35 rfl rfl) rfl rfl rfl rfl
theorem q_52_37 : zRun 52 37 [l0, l1, l2, l3, l4, l5, some (.long u), l7] S sh mi mj mr = zRun 52 39 [l0, l1, l2, l3, l4, l5, some (.long u), l7] (.long u :: S) sh mi mj mr := zr_l (zD_of zk_52 d_52_37 rfl rfl) rfl rfl rfl
theorem q_52_39 : zRun 52 39 [l0, l1, l2, some (.long u), l4, l5, l6, l7] S sh mi mj mr = zRun 52 40 [l0, l1, l2, some (.long u), l4, l5, l6, l7] (.long u :: S) sh mi mj mr := zr_l (zD_of zk_52 d_52_39 rfl rfl) rfl rfl rfl
theorem q_52_40  : zRun 52 40 L (.long v :: .long u :: S) sh mi mj mr = if v ≤ u then zRun 52 50 L S sh mi mj mr else zRun 52 44 L S sh mi mj mr := zr_cmp (off := 9) (zD_of zk_52 d_52_40 rfl rfl) (zD_of zk_52 d_52_41 rfl rfl) rfl rfl (by decide) (lg_cmp_ge u v)
theorem q_52_41  : zRun 52 41 L (.int x :: S) sh mi mj mr = if 0 ≤ x then zRun 52 50 L S sh mi mj mr else zRun 52 44 L S sh mi mj mr := zr_if (off := 9) (P := 0 ≤ x) (zD_of zk_52 d_52_41 rfl rfl) rfl rfl (by decide)
theorem q_52_44 : zRun 52 44 [l0, l1, l2, l3, l4, l5, some (.long u), l7] S sh mi mj mr = zRun 52 46 [l0, l1, l2, l3, l4, l5, some (.long u), l7] (.long u :: S) sh mi mj mr := zr_l (zD_of zk_52 d_52_44 rfl rfl) rfl rfl rfl
theorem q_52_46 : zRun 52 46 [l0, l1, l2, l3, l4, l5, l6, l7] (.long u :: S) sh mi mj mr = zRun 52 47 [l0, l1, zk2 l2, some (.long u), none, l5, l6, l7] S sh mi mj mr := zr_s2 (i := 3) (v := .long u) (L := [l0, l1, l2, l3, l4, l5, l6, l7]) (zD_of zk_52 d_52_46 rfl rfl) rfl rfl rfl rfl
theorem q_52_47 : zRun 52 47 [l0, l1, l2, l3, l4, some (.int x), l6, l7] S sh mi mj mr = zRun 52 49 [l0, l1, l2, l3, l4, some (.int x), l6, l7] (.int x :: S) sh mi mj mr := zr_l (zD_of zk_52 d_52_47 rfl rfl) rfl rfl rfl
theorem q_52_49 : zRun 52 49 [l0, l1, l2, l3, l4, l5, l6, l7] (.int x :: S) sh mi mj mr = zRun 52 50 [l0, zk2 l1, some (.int x), l3, l4, l5, l6, l7] S sh mi mj mr := zr_s1 (i := 2) (v := .int x) (L := [l0, l1, l2, l3, l4, l5, l6, l7]) (zD_of zk_52 d_52_49 rfl rfl) rfl rfl rfl rfl
theorem q_52_50  : zRun 52 50 [l0, l1, l2, l3, l4, some (.int x), l6, l7] S sh mi mj mr = zRun 52 53 [l0, l1, l2, l3, zk2 l4, some (.int (x + 1)), l6, l7] S sh mi mj mr := zr_s1 (i := 5) (v := .int (x + 1)) (L := [l0, l1, l2, l3, l4, some (.int x), l6, l7]) (zD_of zk_52 d_52_50 rfl rfl) rfl rfl rfl rfl
theorem q_52_53  : zRun 52 53 L S sh mi mj mr = zRun 52 11 L S sh mi mj mr := zr_go (off := (-42)) (zD_of zk_52 d_52_53 rfl rfl) rfl rfl (by decide)
theorem q_52_56  : zRun 52 56 L S sh mi mj mr = zRun 52 57 L (.int 0 :: S) sh mi mj mr := zr_p (zD_of zk_52 d_52_56 rfl rfl) rfl
theorem q_52_57 : zRun 52 57 [l0, l1, l2, l3, l4, l5, l6, l7] (.int x :: S) sh mi mj mr = zRun 52 59 [l0, l1, l2, l3, zk2 l4, some (.int x), l6, l7] S sh mi mj mr := zr_s1 (i := 5) (v := .int x) (L := [l0, l1, l2, l3, l4, l5, l6, l7]) (zD_of zk_52 d_52_57 rfl rfl) rfl rfl rfl rfl
theorem q_52_59 : zRun 52 59 [l0, l1, l2, l3, l4, some (.int x), l6, l7] S sh mi mj mr = zRun 52 61 [l0, l1, l2, l3, l4, some (.int x), l6, l7] (.int x :: S) sh mi mj mr := zr_l (zD_of zk_52 d_52_59 rfl rfl) rfl rfl rfl
theorem q_52_61r : zRun 52 61 [some (.ref o), l1, l2, l3, l4, l5, l6, l7] S sh mi mj mr = zRun 52 62 [some (.ref o), l1, l2, l3, l4, l5, l6, l7] (.ref o :: S) sh mi mj mr := zr_l (zD_of zk_52 d_52_61 rfl rfl) rfl rfl rfl
theorem q_52_61n : zRun 52 61 [some (.null), l1, l2, l3, l4, l5, l6, l7] S sh mi mj mr = zRun 52 62 [some (.null), l1, l2, l3, l4, l5, l6, l7] (.null :: S) sh mi mj mr := zr_l (zD_of zk_52 d_52_61 rfl rfl) rfl rfl rfl
theorem q_52_62 (h : zIs sh o 0 3) : zRun 52 62 L (.ref o :: S) sh mi mj mr = zRun 52 65 L (.int (mi o 3) :: S) sh mi mj mr := zr_getI (zD_of zk_52 d_52_62 rfl rfl) rfl rfl (Or.inl rfl) h
theorem q_52_65  : zRun 52 65 L (.int y :: .int x :: S) sh mi mj mr = if y ≤ x then zRun 52 85 L S sh mi mj mr else zRun 52 68 L S sh mi mj mr := zr_if (off := 20) (P := y ≤ x) (zD_of zk_52 d_52_65 rfl rfl) rfl rfl (by decide)
theorem q_52_68r : zRun 52 68 [some (.ref o), l1, l2, l3, l4, l5, l6, l7] S sh mi mj mr = zRun 52 69 [some (.ref o), l1, l2, l3, l4, l5, l6, l7] (.ref o :: S) sh mi mj mr := zr_l (zD_of zk_52 d_52_68 rfl rfl) rfl rfl rfl
theorem q_52_68n : zRun 52 68 [some (.null), l1, l2, l3, l4, l5, l6, l7] S sh mi mj mr = zRun 52 69 [some (.null), l1, l2, l3, l4, l5, l6, l7] (.null :: S) sh mi mj mr := zr_l (zD_of zk_52 d_52_68 rfl rfl) rfl rfl rfl
theorem q_52_69 (h : zIs sh o 0 3) : zRun 52 69 L (.ref o :: S) sh mi mj mr = zRun 52 72 L (va_rf (mr o 0) :: S) sh mi mj mr := zr_getR (zD_of zk_52 d_52_69 rfl rfl) rfl rfl rfl h
theorem q_52_72 : zRun 52 72 [l0, l1, l2, l3, l4, some (.int x), l6, l7] S sh mi mj mr = zRun 52 74 [l0, l1, l2, l3, l4, some (.int x), l6, l7] (.int x :: S) sh mi mj mr := zr_l (zD_of zk_52 d_52_72 rfl rfl) rfl rfl rfl
theorem q_52_74t7 (h : zAt sh o 7 x) : zRun 52 74 L (.int x :: .ref o :: S) sh mi mj mr = zRun 52 75 L (va_rf (mr o x.toNatClampNeg) :: S) sh mi mj mr := zr_aald (zD_of zk_52 d_52_74 rfl rfl) (by decide) h
theorem q_52_74t10 (h : zAt sh o 10 x) : zRun 52 74 L (.int x :: .ref o :: S) sh mi mj mr = zRun 52 75 L (va_rf (mr o x.toNatClampNeg) :: S) sh mi mj mr := zr_aald (zD_of zk_52 d_52_74 rfl rfl) (by decide) h
theorem q_52_74t11 (h : zAt sh o 11 x) : zRun 52 74 L (.int x :: .ref o :: S) sh mi mj mr = zRun 52 75 L (va_rf (mr o x.toNatClampNeg) :: S) sh mi mj mr := zr_aald (zD_of zk_52 d_52_74 rfl rfl) (by decide) h
theorem q_52_75 : zRun 52 75 [l0, l1, some (.int x), l3, l4, l5, l6, l7] S sh mi mj mr = zRun 52 76 [l0, l1, some (.int x), l3, l4, l5, l6, l7] (.int x :: S) sh mi mj mr := zr_l (zD_of zk_52 d_52_75 rfl rfl) rfl rfl rfl
theorem q_52_76  {x0 : Int32} (hS : zcat S ≤ 8) (h : zIs sh o 0 2) : zRun 52 76 L (.int x0 :: .ref o :: S) sh mi mj mr = (zCall 24 [.ref o, .int x0] sh mi mj mr).bind fun r => zRun 52 79 L (r.1.toList ++ S) r.2.1 r.2.2.1 r.2.2.2.1 r.2.2.2.2 := zr_V (zD_of zk_52 d_52_76 rfl rfl) rfl zk_24 rfl rfl rfl hS h
theorem q_52_79  : zRun 52 79 [l0, l1, l2, l3, l4, some (.int x), l6, l7] S sh mi mj mr = zRun 52 82 [l0, l1, l2, l3, zk2 l4, some (.int (x + 1)), l6, l7] S sh mi mj mr := zr_s1 (i := 5) (v := .int (x + 1)) (L := [l0, l1, l2, l3, l4, some (.int x), l6, l7]) (zD_of zk_52 d_52_79 rfl rfl) rfl rfl rfl rfl
theorem q_52_82  : zRun 52 82 L S sh mi mj mr = zRun 52 59 L S sh mi mj mr := zr_go (off := (-23)) (zD_of zk_52 d_52_82 rfl rfl) rfl rfl (by decide)
theorem q_52_85r : zRun 52 85 [l0, some (.ref o), l2, l3, l4, l5, l6, l7] S sh mi mj mr = zRun 52 86 [l0, some (.ref o), l2, l3, l4, l5, l6, l7] (.ref o :: S) sh mi mj mr := zr_l (zD_of zk_52 d_52_85 rfl rfl) rfl rfl rfl
theorem q_52_85n : zRun 52 85 [l0, some (.null), l2, l3, l4, l5, l6, l7] S sh mi mj mr = zRun 52 86 [l0, some (.null), l2, l3, l4, l5, l6, l7] (.null :: S) sh mi mj mr := zr_l (zD_of zk_52 d_52_85 rfl rfl) rfl rfl rfl
theorem q_52_86 : zRun 52 86 [l0, l1, some (.int x), l3, l4, l5, l6, l7] S sh mi mj mr = zRun 52 87 [l0, l1, some (.int x), l3, l4, l5, l6, l7] (.int x :: S) sh mi mj mr := zr_l (zD_of zk_52 d_52_86 rfl rfl) rfl rfl rfl
theorem q_52_87  {x0 : Int32} (hS : zcat S ≤ 8) (h : zIs sh o 0 2) : zRun 52 87 L (.int x0 :: .ref o :: S) sh mi mj mr = (zCall 25 [.ref o, .int x0] sh mi mj mr).bind fun r => zRun 52 90 L (r.1.toList ++ S) r.2.1 r.2.2.1 r.2.2.2.1 r.2.2.2.2 := zr_V (zD_of zk_52 d_52_87 rfl rfl) rfl zk_25 rfl rfl rfl hS h
theorem q_52_90  : zRun 52 90 L [] sh mi mj mr = some (none, sh, mi, mj, mr) := zr_ret (zD_of zk_52 d_52_90 rfl rfl) rfl rfl rfl rfl rfl rfl
theorem e_52 {o0 : Nat} : zCall 52 [.ref o, .ref o0] sh mi mj mr = zRun 52 0 [some (.ref o), some (.ref o0), none, none, none, none, none, none] [] sh mi mj mr := rfl
theorem d_53_0 : decode cX3_weightOf 0 = .ok (.lconst 0, 1) := by decide +kernel
theorem d_53_1 : decode cX3_weightOf 1 = .ok (.lstore_n 2, 1) := by decide +kernel
theorem d_53_2 : decode cX3_weightOf 2 = .ok (.iconst 0, 1) := by decide +kernel
theorem d_53_3 : decode cX3_weightOf 3 = .ok (.istore 4, 2) := by decide +kernel
theorem d_53_5 : decode cX3_weightOf 5 = .ok (.iload 4, 2) := by decide +kernel
theorem d_53_7 : decode cX3_weightOf 7 = .ok (.aload_n 0, 1) := by decide +kernel
theorem d_53_8 : decode cX3_weightOf 8 = .ok (.getfield 25, 3) := by decide +kernel
theorem d_53_11 : decode cX3_weightOf 11 = .ok (.if_icmp .ge 23, 3) := by decide +kernel
theorem d_53_14 : decode cX3_weightOf 14 = .ok (.lload_n 2, 1) := by decide +kernel
theorem d_53_15 : decode cX3_weightOf 15 = .ok (.aload_n 0, 1) := by decide +kernel
theorem d_53_16 : decode cX3_weightOf 16 = .ok (.getfield 11, 3) := by decide +kernel
theorem d_53_19 : decode cX3_weightOf 19 = .ok (.iload 4, 2) := by decide +kernel
theorem d_53_21 : decode cX3_weightOf 21 = .ok (.aaload, 1) := by decide +kernel
theorem d_53_22 : decode cX3_weightOf 22 = .ok (.iload_n 1, 1) := by decide +kernel
theorem d_53_23 : decode cX3_weightOf 23 = .ok (.invokevirtual 148, 3) := by decide +kernel
theorem d_53_26 : decode cX3_weightOf 26 = .ok (.ladd, 1) := by decide +kernel
theorem d_53_27 : decode cX3_weightOf 27 = .ok (.lstore_n 2, 1) := by decide +kernel
theorem d_53_28 : decode cX3_weightOf 28 = .ok (.iinc 4 1, 3) := by decide +kernel
theorem d_53_31 : decode cX3_weightOf 31 = .ok (.goto (-26), 3) := by decide +kernel
theorem d_53_34 : decode cX3_weightOf 34 = .ok (.lload_n 2, 1) := by decide +kernel
theorem d_53_35 : decode cX3_weightOf 35 = .ok (.lreturn, 1) := by decide +kernel
theorem q_53_0  : zRun 53 0 L S sh mi mj mr = zRun 53 1 L (.long 0 :: S) sh mi mj mr := zr_p (zD_of zk_53 d_53_0 rfl rfl) rfl
theorem q_53_1 : zRun 53 1 [l0, l1, l2, l3, l4] (.long u :: S) sh mi mj mr = zRun 53 2 [l0, zk2 l1, some (.long u), none, l4] S sh mi mj mr := zr_s2 (i := 2) (v := .long u) (L := [l0, l1, l2, l3, l4]) (zD_of zk_53 d_53_1 rfl rfl) rfl rfl rfl rfl
theorem q_53_2  : zRun 53 2 L S sh mi mj mr = zRun 53 3 L (.int 0 :: S) sh mi mj mr := zr_p (zD_of zk_53 d_53_2 rfl rfl) rfl
theorem q_53_3 : zRun 53 3 [l0, l1, l2, l3, l4] (.int x :: S) sh mi mj mr = zRun 53 5 [l0, l1, l2, zk2 l3, some (.int x)] S sh mi mj mr := zr_s1 (i := 4) (v := .int x) (L := [l0, l1, l2, l3, l4]) (zD_of zk_53 d_53_3 rfl rfl) rfl rfl rfl rfl
theorem q_53_5 : zRun 53 5 [l0, l1, l2, l3, some (.int x)] S sh mi mj mr = zRun 53 7 [l0, l1, l2, l3, some (.int x)] (.int x :: S) sh mi mj mr := zr_l (zD_of zk_53 d_53_5 rfl rfl) rfl rfl rfl
theorem q_53_7r : zRun 53 7 [some (.ref o), l1, l2, l3, l4] S sh mi mj mr = zRun 53 8 [some (.ref o), l1, l2, l3, l4] (.ref o :: S) sh mi mj mr := zr_l (zD_of zk_53 d_53_7 rfl rfl) rfl rfl rfl
theorem q_53_7n : zRun 53 7 [some (.null), l1, l2, l3, l4] S sh mi mj mr = zRun 53 8 [some (.null), l1, l2, l3, l4] (.null :: S) sh mi mj mr := zr_l (zD_of zk_53 d_53_7 rfl rfl) rfl rfl rfl
theorem q_53_8 (h : zIs sh o 0 3) : zRun 53 8 L (.ref o :: S) sh mi mj mr = zRun 53 11 L (.int (mi o 3) :: S) sh mi mj mr := zr_getI (zD_of zk_53 d_53_8 rfl rfl) rfl rfl (Or.inl rfl) h
theorem q_53_11  : zRun 53 11 L (.int y :: .int x :: S) sh mi mj mr = if y ≤ x then zRun 53 34 L S sh mi mj mr else zRun 53 14 L S sh mi mj mr := zr_if (off := 23) (P := y ≤ x) (zD_of zk_53 d_53_11 rfl rfl) rfl rfl (by decide)
theorem q_53_14 : zRun 53 14 [l0, l1, some (.long u), l3, l4] S sh mi mj mr = zRun 53 15 [l0, l1, some (.long u), l3, l4] (.long u :: S) sh mi mj mr := zr_l (zD_of zk_53 d_53_14 rfl rfl) rfl rfl rfl
theorem q_53_15r : zRun 53 15 [some (.ref o), l1, l2, l3, l4] S sh mi mj mr = zRun 53 16 [some (.ref o), l1, l2, l3, l4] (.ref o :: S) sh mi mj mr := zr_l (zD_of zk_53 d_53_15 rfl rfl) rfl rfl rfl
theorem q_53_15n : zRun 53 15 [some (.null), l1, l2, l3, l4] S sh mi mj mr = zRun 53 16 [some (.null), l1, l2, l3, l4] (.null :: S) sh mi mj mr := zr_l (zD_of zk_53 d_53_15 rfl rfl) rfl rfl rfl
theorem q_53_16 (h : zIs sh o 0 3) : zRun 53 16 L (.ref o :: S) sh mi mj mr = zRun 53 19 L (va_rf (mr o 0) :: S) sh mi mj mr := zr_getR (zD_of zk_53 d_53_16 rfl rfl) rfl rfl rfl h
theorem q_53_19 : zRun 53 19 [l0, l1, l2, l3, some (.int x)] S sh mi mj mr = zRun 53 21 [l0, l1, l2, l3, some (.int x)] (.int x :: S) sh mi mj mr := zr_l (zD_of zk_53 d_53_19 rfl rfl) rfl rfl rfl
theorem q_53_21t7 (h : zAt sh o 7 x) : zRun 53 21 L (.int x :: .ref o :: S) sh mi mj mr = zRun 53 22 L (va_rf (mr o x.toNatClampNeg) :: S) sh mi mj mr := zr_aald (zD_of zk_53 d_53_21 rfl rfl) (by decide) h
theorem q_53_21t10 (h : zAt sh o 10 x) : zRun 53 21 L (.int x :: .ref o :: S) sh mi mj mr = zRun 53 22 L (va_rf (mr o x.toNatClampNeg) :: S) sh mi mj mr := zr_aald (zD_of zk_53 d_53_21 rfl rfl) (by decide) h
theorem q_53_21t11 (h : zAt sh o 11 x) : zRun 53 21 L (.int x :: .ref o :: S) sh mi mj mr = zRun 53 22 L (va_rf (mr o x.toNatClampNeg) :: S) sh mi mj mr := zr_aald (zD_of zk_53 d_53_21 rfl rfl) (by decide) h
theorem q_53_22 : zRun 53 22 [l0, some (.int x), l2, l3, l4] S sh mi mj mr = zRun 53 23 [l0, some (.int x), l2, l3, l4] (.int x :: S) sh mi mj mr := zr_l (zD_of zk_53 d_53_22 rfl rfl) rfl rfl rfl
theorem q_53_23  {x0 : Int32} (hS : zcat S ≤ 8) (h : zIs sh o 0 2) : zRun 53 23 L (.int x0 :: .ref o :: S) sh mi mj mr = (zCall 23 [.ref o, .int x0] sh mi mj mr).bind fun r => zRun 53 26 L (r.1.toList ++ S) r.2.1 r.2.2.1 r.2.2.2.1 r.2.2.2.2 := zr_V (zD_of zk_53 d_53_23 rfl rfl) rfl zk_23 rfl rfl rfl hS h
theorem q_53_26  : zRun 53 26 L (.long v :: .long u :: S) sh mi mj mr = zRun 53 27 L (.long (u + v) :: S) sh mi mj mr := zr_p (zD_of zk_53 d_53_26 rfl rfl) rfl
theorem q_53_27 : zRun 53 27 [l0, l1, l2, l3, l4] (.long u :: S) sh mi mj mr = zRun 53 28 [l0, zk2 l1, some (.long u), none, l4] S sh mi mj mr := zr_s2 (i := 2) (v := .long u) (L := [l0, l1, l2, l3, l4]) (zD_of zk_53 d_53_27 rfl rfl) rfl rfl rfl rfl
theorem q_53_28  : zRun 53 28 [l0, l1, l2, l3, some (.int x)] S sh mi mj mr = zRun 53 31 [l0, l1, l2, zk2 l3, some (.int (x + 1))] S sh mi mj mr := zr_s1 (i := 4) (v := .int (x + 1)) (L := [l0, l1, l2, l3, some (.int x)]) (zD_of zk_53 d_53_28 rfl rfl) rfl rfl rfl rfl
theorem q_53_31  : zRun 53 31 L S sh mi mj mr = zRun 53 5 L S sh mi mj mr := zr_go (off := (-26)) (zD_of zk_53 d_53_31 rfl rfl) rfl rfl (by decide)
theorem q_53_34 : zRun 53 34 [l0, l1, some (.long u), l3, l4] S sh mi mj mr = zRun 53 35 [l0, l1, some (.long u), l3, l4] (.long u :: S) sh mi mj mr := zr_l (zD_of zk_53 d_53_34 rfl rfl) rfl rfl rfl
theorem q_53_35  : zRun 53 35 L ([.long u]) sh mi mj mr = some (some (.long u), sh, mi, mj, mr) := zr_ret (zD_of zk_53 d_53_35 rfl rfl) rfl rfl rfl rfl rfl rfl
theorem e_53 {x0 : Int32} : zCall 53 [.ref o, .int x0] sh mi mj mr = zRun 53 0 [some (.ref o), some (.int x0), none, none, none] [] sh mi mj mr := rfl
theorem d_54_0 : decode cX4_init 0 = .ok (.aload_n 0, 1) := by decide +kernel
theorem d_54_1 : decode cX4_init 1 = .ok (.invokespecial 3, 3) := by decide +kernel
theorem d_54_4 : decode cX4_init 4 = .ok (.aload_n 0, 1) := by decide +kernel
theorem d_54_5 : decode cX4_init 5 = .ok (.new 9, 3) := by decide +kernel
theorem d_54_8 : decode cX4_init 8 = .ok (.dup, 1) := by decide +kernel
theorem d_54_9 : decode cX4_init 9 = .ok (.invokespecial 11, 3) := by decide +kernel
theorem d_54_12 : decode cX4_init 12 = .ok (.putfield 12, 3) := by decide +kernel
theorem d_54_15 : decode cX4_init 15 = .ok (.aload_n 0, 1) := by decide +kernel
theorem d_54_16 : decode cX4_init 16 = .ok (.bipush 48, 2) := by decide +kernel
theorem d_54_18 : decode cX4_init 18 = .ok (.newarray .int, 2) := by decide +kernel
theorem d_54_20 : decode cX4_init 20 = .ok (.putfield 18, 3) := by decide +kernel
theorem d_54_23 : decode cX4_init 23 = .ok (.return_, 1) := by decide +kernel
theorem q_54_0r : zRun 54 0 [some (.ref o)] S sh mi mj mr = zRun 54 1 [some (.ref o)] (.ref o :: S) sh mi mj mr := zr_l (zD_of zk_54 d_54_0 rfl rfl) rfl rfl rfl
theorem q_54_0n : zRun 54 0 [some (.null)] S sh mi mj mr = zRun 54 1 [some (.null)] (.null :: S) sh mi mj mr := zr_l (zD_of zk_54 d_54_0 rfl rfl) rfl rfl rfl
theorem q_54_1 (h : zcat S ≤ 8) : zRun 54 1 L (.ref o :: S) sh mi mj mr = zRun 54 4 L S sh mi mj mr := zr_obj (zD_of zk_54 d_54_1 rfl rfl) rfl h
theorem q_54_4r : zRun 54 4 [some (.ref o)] S sh mi mj mr = zRun 54 5 [some (.ref o)] (.ref o :: S) sh mi mj mr := zr_l (zD_of zk_54 d_54_4 rfl rfl) rfl rfl rfl
theorem q_54_4n : zRun 54 4 [some (.null)] S sh mi mj mr = zRun 54 5 [some (.null)] (.null :: S) sh mi mj mr := zr_l (zD_of zk_54 d_54_4 rfl rfl) rfl rfl rfl
theorem q_54_5  : zRun 54 5 L S sh mi mj mr = zRun 54 8 L (.ref sh.length :: S) (sh ++ [(0, 6)]) mi mj mr := zr_new (zD_of zk_54 d_54_5 rfl rfl) rfl (by decide)
theorem q_54_8r : zRun 54 8 L (.ref o :: S) sh mi mj mr = zRun 54 9 L (.ref o :: .ref o :: S) sh mi mj mr := zr_p (zD_of zk_54 d_54_8 rfl rfl) rfl
theorem q_54_8i : zRun 54 8 L (.int x :: S) sh mi mj mr = zRun 54 9 L (.int x :: .int x :: S) sh mi mj mr := zr_p (zD_of zk_54 d_54_8 rfl rfl) rfl
theorem q_54_9  (hS : zcat S ≤ 8) (h : 1 ≤ o) : zRun 54 9 L (.ref o :: S) sh mi mj mr = (zCall 73 [.ref o] sh mi mj mr).bind fun r => zRun 54 12 L (r.1.toList ++ S) r.2.1 r.2.2.1 r.2.2.2.1 r.2.2.2.2 := zr_I (zD_of zk_54 d_54_9 rfl rfl) (Or.inr rfl) rfl zk_73 rfl rfl rfl hS h
theorem q_54_12 (h : zIs sh o 0 4) : zRun 54 12 L (.ref o2 :: .ref o :: S) sh mi mj mr = zRun 54 15 L S sh mi mj (zup mr o 0 (some o2)) := zr_putR (zD_of zk_54 d_54_12 rfl rfl) rfl rfl rfl (Or.inr ⟨rfl, rfl⟩) h
theorem q_54_15r : zRun 54 15 [some (.ref o)] S sh mi mj mr = zRun 54 16 [some (.ref o)] (.ref o :: S) sh mi mj mr := zr_l (zD_of zk_54 d_54_15 rfl rfl) rfl rfl rfl
theorem q_54_15n : zRun 54 15 [some (.null)] S sh mi mj mr = zRun 54 16 [some (.null)] (.null :: S) sh mi mj mr := zr_l (zD_of zk_54 d_54_15 rfl rfl) rfl rfl rfl
theorem q_54_16  : zRun 54 16 L S sh mi mj mr = zRun 54 18 L (.int 48 :: S) sh mi mj mr := zr_p (zD_of zk_54 d_54_16 rfl rfl) rfl
theorem q_54_18 (h : 0 ≤ x ∧ x ≤ 100000) : zRun 54 18 L (.int x :: S) sh mi mj mr = zRun 54 20 L (.ref sh.length :: S) (sh ++ [(1, x.toNatClampNeg)]) mi mj mr := zr_w (zD_of zk_54 d_54_18 rfl rfl) rfl rfl rfl rfl (if_pos h)
theorem q_54_20 (h : zIs sh o 0 4) : zRun 54 20 L (.ref o2 :: .ref o :: S) sh mi mj mr = zRun 54 23 L S sh mi mj (zup mr o 1 (some o2)) := zr_putR (zD_of zk_54 d_54_20 rfl rfl) rfl rfl rfl (Or.inr ⟨rfl, rfl⟩) h
theorem q_54_23  : zRun 54 23 L [] sh mi mj mr = some (none, sh, mi, mj, mr) := zr_ret (zD_of zk_54 d_54_23 rfl rfl) rfl rfl rfl rfl rfl rfl
theorem e_54 : zCall 54 [.ref o] sh mi mj mr = zRun 54 0 [some (.ref o)] [] sh mi mj mr := rfl
theorem d_55_0 : decode cX4_read 0 = .ok (.aload_n 0, 1) := by decide +kernel
theorem d_55_1 : decode cX4_read 1 = .ok (.getfield 12, 3) := by decide +kernel
theorem d_55_4 : decode cX4_read 4 = .ok (.iconst 0, 1) := by decide +kernel
theorem d_55_5 : decode cX4_read 5 = .ok (.putfield 22, 3) := by decide +kernel
theorem d_55_8 : decode cX4_read 8 = .ok (.aload_n 0, 1) := by decide +kernel
theorem d_55_9 : decode cX4_read 9 = .ok (.iconst 0, 1) := by decide +kernel
theorem d_55_10 : decode cX4_read 10 = .ok (.putfield 26, 3) := by decide +kernel
theorem d_55_13 : decode cX4_read 13 = .ok (.aload_n 0, 1) := by decide +kernel
theorem d_55_14 : decode cX4_read 14 = .ok (.iconst 0, 1) := by decide +kernel
theorem d_55_15 : decode cX4_read 15 = .ok (.putfield 29, 3) := by decide +kernel
theorem d_55_18 : decode cX4_read 18 = .ok (.iload_n 2, 1) := by decide +kernel
theorem d_55_19 : decode cX4_read 19 = .ok (.aload_n 1, 1) := by decide +kernel
theorem d_55_20 : decode cX4_read 20 = .ok (.arraylength, 1) := by decide +kernel
theorem d_55_21 : decode cX4_read 21 = .ok (.invokestatic 32, 3) := by decide +kernel
theorem d_55_24 : decode cX4_read 24 = .ok (.istore_n 3, 1) := by decide +kernel
theorem d_55_25 : decode cX4_read 25 = .ok (.iconst 0, 1) := by decide +kernel
theorem d_55_26 : decode cX4_read 26 = .ok (.istore 4, 2) := by decide +kernel
theorem d_55_28 : decode cX4_read 28 = .ok (.iload 4, 2) := by decide +kernel
theorem d_55_30 : decode cX4_read 30 = .ok (.iload_n 3, 1) := by decide +kernel
theorem d_55_31 : decode cX4_read 31 = .ok (.if_icmp .ge 23, 3) := by decide +kernel
theorem d_55_34 : decode cX4_read 34 = .ok (.aload_n 0, 1) := by decide +kernel
theorem d_55_35 : decode cX4_read 35 = .ok (.aload_n 1, 1) := by decide +kernel
theorem d_55_36 : decode cX4_read 36 = .ok (.iload 4, 2) := by decide +kernel
theorem d_55_38 : decode cX4_read 38 = .ok (.caload, 1) := by decide +kernel
theorem d_55_39 : decode cX4_read 39 = .ok (.invokevirtual 38, 3) := by decide +kernel
theorem d_55_42 : decode cX4_read 42 = .ok (.ifCond .ne 6, 3) := by decide +kernel
theorem d_55_45 : decode cX4_read 45 = .ok (.iload 4, 2) := by decide +kernel
theorem d_55_47 : decode cX4_read 47 = .ok (.ireturn, 1) := by decide +kernel
theorem d_55_48 : decode cX4_read 48 = .ok (.iinc 4 1, 3) := by decide +kernel
theorem d_55_51 : decode cX4_read 51 = .ok (.goto (-23), 3) := by decide +kernel
theorem d_55_54 : decode cX4_read 54 = .ok (.aload_n 0, 1) := by decide +kernel
theorem d_55_55 : decode cX4_read 55 = .ok (.getfield 29, 3) := by decide +kernel
theorem d_55_58 : decode cX4_read 58 = .ok (.ifCond .eq 36, 3) := by decide +kernel
theorem d_55_61 : decode cX4_read 61 = .ok (.aload_n 0, 1) := by decide +kernel
theorem d_55_62 : decode cX4_read 62 = .ok (.getfield 29, 3) := by decide +kernel
theorem d_55_65 : decode cX4_read 65 = .ok (.iconst 1, 1) := by decide +kernel
theorem d_55_66 : decode cX4_read 66 = .ok (.if_icmp .eq 28, 3) := by decide +kernel
theorem d_55_69 : decode cX4_read 69 = .ok (.aload_n 0, 1) := by decide +kernel
theorem d_55_70 : decode cX4_read 70 = .ok (.getfield 29, 3) := by decide +kernel
theorem d_55_73 : decode cX4_read 73 = .ok (.iconst 2, 1) := by decide +kernel
theorem d_55_74 : decode cX4_read 74 = .ok (.if_icmp .eq 20, 3) := by decide +kernel
theorem d_55_77 : decode cX4_read 77 = .ok (.aload_n 0, 1) := by decide +kernel
theorem d_55_78 : decode cX4_read 78 = .ok (.getfield 29, 3) := by decide +kernel
theorem d_55_81 : decode cX4_read 81 = .ok (.iconst 4, 1) := by decide +kernel
theorem d_55_82 : decode cX4_read 82 = .ok (.if_icmp .eq 12, 3) := by decide +kernel
theorem d_55_85 : decode cX4_read 85 = .ok (.aload_n 0, 1) := by decide +kernel
theorem d_55_86 : decode cX4_read 86 = .ok (.getfield 29, 3) := by decide +kernel
theorem d_55_89 : decode cX4_read 89 = .ok (.bipush 7, 2) := by decide +kernel
theorem d_55_91 : decode cX4_read 91 = .ok (.if_icmp .ne 5, 3) := by decide +kernel
theorem d_55_94 : decode cX4_read 94 = .ok (.iload_n 2, 1) := by decide +kernel
theorem d_55_95 : decode cX4_read 95 = .ok (.ireturn, 1) := by decide +kernel
theorem d_55_96 : decode cX4_read 96 = .ok (.aload_n 0, 1) := by decide +kernel
theorem d_55_97 : decode cX4_read 97 = .ok (.iconst 1, 1) := by decide +kernel
theorem d_55_98 : decode cX4_read 98 = .ok (.invokevirtual 42, 3) := by decide +kernel
theorem d_55_101 : decode cX4_read 101 = .ok (.aload_n 0, 1) := by decide +kernel
theorem d_55_102 : decode cX4_read 102 = .ok (.getfield 26, 3) := by decide +kernel
theorem d_55_105 : decode cX4_read 105 = .ok (.ifCond .le 7, 3) := by decide +kernel
theorem d_55_108 : decode cX4_read 108 = .ok (.iload_n 2, 1) := by decide +kernel
theorem d_55_109 : decode cX4_read 109 = .ok (.goto 5, 3) := by decide +kernel
theorem d_55_112 : decode cX4_read 112 = .ok (.bipush (-6), 2) := by decide +kernel
theorem d_55_114 : decode cX4_read 114 = .ok (.ireturn, 1) := by decide +kernel
theorem q_55_0r : zRun 55 0 [some (.ref o), l1, l2, l3, l4] S sh mi mj mr = zRun 55 1 [some (.ref o), l1, l2, l3, l4] (.ref o :: S) sh mi mj mr := zr_l (zD_of zk_55 d_55_0 rfl rfl) rfl rfl rfl
theorem q_55_0n : zRun 55 0 [some (.null), l1, l2, l3, l4] S sh mi mj mr = zRun 55 1 [some (.null), l1, l2, l3, l4] (.null :: S) sh mi mj mr := zr_l (zD_of zk_55 d_55_0 rfl rfl) rfl rfl rfl
theorem q_55_1 (h : zIs sh o 0 4) : zRun 55 1 L (.ref o :: S) sh mi mj mr = zRun 55 4 L (va_rf (mr o 0) :: S) sh mi mj mr := zr_getR (zD_of zk_55 d_55_1 rfl rfl) rfl rfl rfl h
theorem q_55_4  : zRun 55 4 L S sh mi mj mr = zRun 55 5 L (.int 0 :: S) sh mi mj mr := zr_p (zD_of zk_55 d_55_4 rfl rfl) rfl
theorem q_55_5 (h : zIs sh o 0 6) : zRun 55 5 L (.int x :: .ref o :: S) sh mi mj mr = zRun 55 8 L S sh (zup mi o 2 x) mj mr := zr_putI (zD_of zk_55 d_55_5 rfl rfl) rfl rfl rfl (Or.inl rfl) h
theorem q_55_8r : zRun 55 8 [some (.ref o), l1, l2, l3, l4] S sh mi mj mr = zRun 55 9 [some (.ref o), l1, l2, l3, l4] (.ref o :: S) sh mi mj mr := zr_l (zD_of zk_55 d_55_8 rfl rfl) rfl rfl rfl
theorem q_55_8n : zRun 55 8 [some (.null), l1, l2, l3, l4] S sh mi mj mr = zRun 55 9 [some (.null), l1, l2, l3, l4] (.null :: S) sh mi mj mr := zr_l (zD_of zk_55 d_55_8 rfl rfl) rfl rfl rfl
theorem q_55_9  : zRun 55 9 L S sh mi mj mr = zRun 55 10 L (.int 0 :: S) sh mi mj mr := zr_p (zD_of zk_55 d_55_9 rfl rfl) rfl
theorem q_55_10 (h : zIs sh o 0 4) : zRun 55 10 L (.int x :: .ref o :: S) sh mi mj mr = zRun 55 13 L S sh (zup mi o 2 x) mj mr := zr_putI (zD_of zk_55 d_55_10 rfl rfl) rfl rfl rfl (Or.inl rfl) h
theorem q_55_13r : zRun 55 13 [some (.ref o), l1, l2, l3, l4] S sh mi mj mr = zRun 55 14 [some (.ref o), l1, l2, l3, l4] (.ref o :: S) sh mi mj mr := zr_l (zD_of zk_55 d_55_13 rfl rfl) rfl rfl rfl
theorem q_55_13n : zRun 55 13 [some (.null), l1, l2, l3, l4] S sh mi mj mr = zRun 55 14 [some (.null), l1, l2, l3, l4] (.null :: S) sh mi mj mr := zr_l (zD_of zk_55 d_55_13 rfl rfl) rfl rfl rfl
theorem q_55_14  : zRun 55 14 L S sh mi mj mr = zRun 55 15 L (.int 0 :: S) sh mi mj mr := zr_p (zD_of zk_55 d_55_14 rfl rfl) rfl
theorem q_55_15 (h : zIs sh o 0 4) : zRun 55 15 L (.int x :: .ref o :: S) sh mi mj mr = zRun 55 18 L S sh (zup mi o 3 x) mj mr := zr_putI (zD_of zk_55 d_55_15 rfl rfl) rfl rfl rfl (Or.inl rfl) h
theorem q_55_18 : zRun 55 18 [l0, l1, some (.int x), l3, l4] S sh mi mj mr = zRun 55 19 [l0, l1, some (.int x), l3, l4] (.int x :: S) sh mi mj mr := zr_l (zD_of zk_55 d_55_18 rfl rfl) rfl rfl rfl
theorem q_55_19r : zRun 55 19 [l0, some (.ref o), l2, l3, l4] S sh mi mj mr = zRun 55 20 [l0, some (.ref o), l2, l3, l4] (.ref o :: S) sh mi mj mr := zr_l (zD_of zk_55 d_55_19 rfl rfl) rfl rfl rfl
theorem q_55_19n : zRun 55 19 [l0, some (.null), l2, l3, l4] S sh mi mj mr = zRun 55 20 [l0, some (.null), l2, l3, l4] (.null :: S) sh mi mj mr := zr_l (zD_of zk_55 d_55_19 rfl rfl) rfl rfl rfl
theorem q_55_20 {n : Nat} (h : zIs sh o 3 n) : zRun 55 20 L (.ref o :: S) sh mi mj mr = zRun 55 21 L (.int (Int32.ofNat n) :: S) sh mi mj mr := zr_len (zD_of zk_55 d_55_20 rfl rfl) (by decide) h
theorem q_55_21  {x0 x1 : Int32} (hS : zcat S ≤ 8) : zRun 55 21 L (.int x1 :: .int x0 :: S) sh mi mj mr = (zCall 113 [.int x0, .int x1] sh mi mj mr).bind fun r => zRun 55 24 L (r.1.toList ++ S) r.2.1 r.2.2.1 r.2.2.2.1 r.2.2.2.2 := zr_S (zD_of zk_55 d_55_21 rfl rfl) rfl zk_113 rfl rfl rfl hS
theorem q_55_24 : zRun 55 24 [l0, l1, l2, l3, l4] (.int x :: S) sh mi mj mr = zRun 55 25 [l0, l1, zk2 l2, some (.int x), l4] S sh mi mj mr := zr_s1 (i := 3) (v := .int x) (L := [l0, l1, l2, l3, l4]) (zD_of zk_55 d_55_24 rfl rfl) rfl rfl rfl rfl
theorem q_55_25  : zRun 55 25 L S sh mi mj mr = zRun 55 26 L (.int 0 :: S) sh mi mj mr := zr_p (zD_of zk_55 d_55_25 rfl rfl) rfl
theorem q_55_26 : zRun 55 26 [l0, l1, l2, l3, l4] (.int x :: S) sh mi mj mr = zRun 55 28 [l0, l1, l2, zk2 l3, some (.int x)] S sh mi mj mr := zr_s1 (i := 4) (v := .int x) (L := [l0, l1, l2, l3, l4]) (zD_of zk_55 d_55_26 rfl rfl) rfl rfl rfl rfl
theorem q_55_28 : zRun 55 28 [l0, l1, l2, l3, some (.int x)] S sh mi mj mr = zRun 55 30 [l0, l1, l2, l3, some (.int x)] (.int x :: S) sh mi mj mr := zr_l (zD_of zk_55 d_55_28 rfl rfl) rfl rfl rfl
theorem q_55_30 : zRun 55 30 [l0, l1, l2, some (.int x), l4] S sh mi mj mr = zRun 55 31 [l0, l1, l2, some (.int x), l4] (.int x :: S) sh mi mj mr := zr_l (zD_of zk_55 d_55_30 rfl rfl) rfl rfl rfl
theorem q_55_31  : zRun 55 31 L (.int y :: .int x :: S) sh mi mj mr = if y ≤ x then zRun 55 54 L S sh mi mj mr else zRun 55 34 L S sh mi mj mr := zr_if (off := 23) (P := y ≤ x) (zD_of zk_55 d_55_31 rfl rfl) rfl rfl (by decide)
theorem q_55_34r : zRun 55 34 [some (.ref o), l1, l2, l3, l4] S sh mi mj mr = zRun 55 35 [some (.ref o), l1, l2, l3, l4] (.ref o :: S) sh mi mj mr := zr_l (zD_of zk_55 d_55_34 rfl rfl) rfl rfl rfl
theorem q_55_34n : zRun 55 34 [some (.null), l1, l2, l3, l4] S sh mi mj mr = zRun 55 35 [some (.null), l1, l2, l3, l4] (.null :: S) sh mi mj mr := zr_l (zD_of zk_55 d_55_34 rfl rfl) rfl rfl rfl
theorem q_55_35r : zRun 55 35 [l0, some (.ref o), l2, l3, l4] S sh mi mj mr = zRun 55 36 [l0, some (.ref o), l2, l3, l4] (.ref o :: S) sh mi mj mr := zr_l (zD_of zk_55 d_55_35 rfl rfl) rfl rfl rfl
theorem q_55_35n : zRun 55 35 [l0, some (.null), l2, l3, l4] S sh mi mj mr = zRun 55 36 [l0, some (.null), l2, l3, l4] (.null :: S) sh mi mj mr := zr_l (zD_of zk_55 d_55_35 rfl rfl) rfl rfl rfl
theorem q_55_36 : zRun 55 36 [l0, l1, l2, l3, some (.int x)] S sh mi mj mr = zRun 55 38 [l0, l1, l2, l3, some (.int x)] (.int x :: S) sh mi mj mr := zr_l (zD_of zk_55 d_55_36 rfl rfl) rfl rfl rfl
theorem q_55_38 (h : zAt sh o 3 x) : zRun 55 38 L (.int x :: .ref o :: S) sh mi mj mr = zRun 55 39 L (.int (mi o x.toNatClampNeg) :: S) sh mi mj mr := zr_cald (zD_of zk_55 d_55_38 rfl rfl) h
theorem q_55_39  {x0 : Int32} (hS : zcat S ≤ 8) (h : zIs sh o 0 4) : zRun 55 39 L (.int x0 :: .ref o :: S) sh mi mj mr = (zCall 56 [.ref o, .int x0] sh mi mj mr).bind fun r => zRun 55 42 L (r.1.toList ++ S) r.2.1 r.2.2.1 r.2.2.2.1 r.2.2.2.2 := zr_V (zD_of zk_55 d_55_39 rfl rfl) rfl zk_56 rfl rfl rfl hS h
theorem q_55_42  : zRun 55 42 L (.int x :: S) sh mi mj mr = if ¬ x = 0 then zRun 55 48 L S sh mi mj mr else zRun 55 45 L S sh mi mj mr := zr_if (off := 6) (P := ¬ x = 0) (zD_of zk_55 d_55_42 rfl rfl) rfl rfl (by decide)
theorem q_55_45 : zRun 55 45 [l0, l1, l2, l3, some (.int x)] S sh mi mj mr = zRun 55 47 [l0, l1, l2, l3, some (.int x)] (.int x :: S) sh mi mj mr := zr_l (zD_of zk_55 d_55_45 rfl rfl) rfl rfl rfl
theorem q_55_47  : zRun 55 47 L ([.int x]) sh mi mj mr = some (some (.int x), sh, mi, mj, mr) := zr_ret (zD_of zk_55 d_55_47 rfl rfl) rfl rfl rfl rfl rfl (if_pos rfl)
theorem q_55_48  : zRun 55 48 [l0, l1, l2, l3, some (.int x)] S sh mi mj mr = zRun 55 51 [l0, l1, l2, zk2 l3, some (.int (x + 1))] S sh mi mj mr := zr_s1 (i := 4) (v := .int (x + 1)) (L := [l0, l1, l2, l3, some (.int x)]) (zD_of zk_55 d_55_48 rfl rfl) rfl rfl rfl rfl
theorem q_55_51  : zRun 55 51 L S sh mi mj mr = zRun 55 28 L S sh mi mj mr := zr_go (off := (-23)) (zD_of zk_55 d_55_51 rfl rfl) rfl rfl (by decide)
theorem q_55_54r : zRun 55 54 [some (.ref o), l1, l2, l3, l4] S sh mi mj mr = zRun 55 55 [some (.ref o), l1, l2, l3, l4] (.ref o :: S) sh mi mj mr := zr_l (zD_of zk_55 d_55_54 rfl rfl) rfl rfl rfl
theorem q_55_54n : zRun 55 54 [some (.null), l1, l2, l3, l4] S sh mi mj mr = zRun 55 55 [some (.null), l1, l2, l3, l4] (.null :: S) sh mi mj mr := zr_l (zD_of zk_55 d_55_54 rfl rfl) rfl rfl rfl
theorem q_55_55 (h : zIs sh o 0 4) : zRun 55 55 L (.ref o :: S) sh mi mj mr = zRun 55 58 L (.int (mi o 3) :: S) sh mi mj mr := zr_getI (zD_of zk_55 d_55_55 rfl rfl) rfl rfl (Or.inl rfl) h
theorem q_55_58  : zRun 55 58 L (.int x :: S) sh mi mj mr = if x = 0 then zRun 55 94 L S sh mi mj mr else zRun 55 61 L S sh mi mj mr := zr_if (off := 36) (P := x = 0) (zD_of zk_55 d_55_58 rfl rfl) rfl rfl (by decide)
theorem q_55_61r : zRun 55 61 [some (.ref o), l1, l2, l3, l4] S sh mi mj mr = zRun 55 62 [some (.ref o), l1, l2, l3, l4] (.ref o :: S) sh mi mj mr := zr_l (zD_of zk_55 d_55_61 rfl rfl) rfl rfl rfl
theorem q_55_61n : zRun 55 61 [some (.null), l1, l2, l3, l4] S sh mi mj mr = zRun 55 62 [some (.null), l1, l2, l3, l4] (.null :: S) sh mi mj mr := zr_l (zD_of zk_55 d_55_61 rfl rfl) rfl rfl rfl
theorem q_55_62 (h : zIs sh o 0 4) : zRun 55 62 L (.ref o :: S) sh mi mj mr = zRun 55 65 L (.int (mi o 3) :: S) sh mi mj mr := zr_getI (zD_of zk_55 d_55_62 rfl rfl) rfl rfl (Or.inl rfl) h
theorem q_55_65  : zRun 55 65 L S sh mi mj mr = zRun 55 66 L (.int 1 :: S) sh mi mj mr := zr_p (zD_of zk_55 d_55_65 rfl rfl) rfl
theorem q_55_66  : zRun 55 66 L (.int y :: .int x :: S) sh mi mj mr = if x = y then zRun 55 94 L S sh mi mj mr else zRun 55 69 L S sh mi mj mr := zr_if (off := 28) (P := x = y) (zD_of zk_55 d_55_66 rfl rfl) rfl rfl (by decide)
theorem q_55_69r : zRun 55 69 [some (.ref o), l1, l2, l3, l4] S sh mi mj mr = zRun 55 70 [some (.ref o), l1, l2, l3, l4] (.ref o :: S) sh mi mj mr := zr_l (zD_of zk_55 d_55_69 rfl rfl) rfl rfl rfl
theorem q_55_69n : zRun 55 69 [some (.null), l1, l2, l3, l4] S sh mi mj mr = zRun 55 70 [some (.null), l1, l2, l3, l4] (.null :: S) sh mi mj mr := zr_l (zD_of zk_55 d_55_69 rfl rfl) rfl rfl rfl
theorem q_55_70 (h : zIs sh o 0 4) : zRun 55 70 L (.ref o :: S) sh mi mj mr = zRun 55 73 L (.int (mi o 3) :: S) sh mi mj mr := zr_getI (zD_of zk_55 d_55_70 rfl rfl) rfl rfl (Or.inl rfl) h
theorem q_55_73  : zRun 55 73 L S sh mi mj mr = zRun 55 74 L (.int 2 :: S) sh mi mj mr := zr_p (zD_of zk_55 d_55_73 rfl rfl) rfl
theorem q_55_74  : zRun 55 74 L (.int y :: .int x :: S) sh mi mj mr = if x = y then zRun 55 94 L S sh mi mj mr else zRun 55 77 L S sh mi mj mr := zr_if (off := 20) (P := x = y) (zD_of zk_55 d_55_74 rfl rfl) rfl rfl (by decide)
theorem q_55_77r : zRun 55 77 [some (.ref o), l1, l2, l3, l4] S sh mi mj mr = zRun 55 78 [some (.ref o), l1, l2, l3, l4] (.ref o :: S) sh mi mj mr := zr_l (zD_of zk_55 d_55_77 rfl rfl) rfl rfl rfl
theorem q_55_77n : zRun 55 77 [some (.null), l1, l2, l3, l4] S sh mi mj mr = zRun 55 78 [some (.null), l1, l2, l3, l4] (.null :: S) sh mi mj mr := zr_l (zD_of zk_55 d_55_77 rfl rfl) rfl rfl rfl
theorem q_55_78 (h : zIs sh o 0 4) : zRun 55 78 L (.ref o :: S) sh mi mj mr = zRun 55 81 L (.int (mi o 3) :: S) sh mi mj mr := zr_getI (zD_of zk_55 d_55_78 rfl rfl) rfl rfl (Or.inl rfl) h
theorem q_55_81  : zRun 55 81 L S sh mi mj mr = zRun 55 82 L (.int 4 :: S) sh mi mj mr := zr_p (zD_of zk_55 d_55_81 rfl rfl) rfl
theorem q_55_82  : zRun 55 82 L (.int y :: .int x :: S) sh mi mj mr = if x = y then zRun 55 94 L S sh mi mj mr else zRun 55 85 L S sh mi mj mr := zr_if (off := 12) (P := x = y) (zD_of zk_55 d_55_82 rfl rfl) rfl rfl (by decide)
theorem q_55_85r : zRun 55 85 [some (.ref o), l1, l2, l3, l4] S sh mi mj mr = zRun 55 86 [some (.ref o), l1, l2, l3, l4] (.ref o :: S) sh mi mj mr := zr_l (zD_of zk_55 d_55_85 rfl rfl) rfl rfl rfl
theorem q_55_85n : zRun 55 85 [some (.null), l1, l2, l3, l4] S sh mi mj mr = zRun 55 86 [some (.null), l1, l2, l3, l4] (.null :: S) sh mi mj mr := zr_l (zD_of zk_55 d_55_85 rfl rfl) rfl rfl rfl
theorem q_55_86 (h : zIs sh o 0 4) : zRun 55 86 L (.ref o :: S) sh mi mj mr = zRun 55 89 L (.int (mi o 3) :: S) sh mi mj mr := zr_getI (zD_of zk_55 d_55_86 rfl rfl) rfl rfl (Or.inl rfl) h
theorem q_55_89  : zRun 55 89 L S sh mi mj mr = zRun 55 91 L (.int 7 :: S) sh mi mj mr := zr_p (zD_of zk_55 d_55_89 rfl rfl) rfl
theorem q_55_91  : zRun 55 91 L (.int y :: .int x :: S) sh mi mj mr = if ¬ x = y then zRun 55 96 L S sh mi mj mr else zRun 55 94 L S sh mi mj mr := zr_if (off := 5) (P := ¬ x = y) (zD_of zk_55 d_55_91 rfl rfl) rfl rfl (by decide)
theorem q_55_94 : zRun 55 94 [l0, l1, some (.int x), l3, l4] S sh mi mj mr = zRun 55 95 [l0, l1, some (.int x), l3, l4] (.int x :: S) sh mi mj mr := zr_l (zD_of zk_55 d_55_94 rfl rfl) rfl rfl rfl
theorem q_55_95  : zRun 55 95 L ([.int x]) sh mi mj mr = some (some (.int x), sh, mi, mj, mr) := zr_ret (zD_of zk_55 d_55_95 rfl rfl) rfl rfl rfl rfl rfl (if_pos rfl)
theorem q_55_96r : zRun 55 96 [some (.ref o), l1, l2, l3, l4] S sh mi mj mr = zRun 55 97 [some (.ref o), l1, l2, l3, l4] (.ref o :: S) sh mi mj mr := zr_l (zD_of zk_55 d_55_96 rfl rfl) rfl rfl rfl
theorem q_55_96n : zRun 55 96 [some (.null), l1, l2, l3, l4] S sh mi mj mr = zRun 55 97 [some (.null), l1, l2, l3, l4] (.null :: S) sh mi mj mr := zr_l (zD_of zk_55 d_55_96 rfl rfl) rfl rfl rfl
theorem q_55_97  : zRun 55 97 L S sh mi mj mr = zRun 55 98 L (.int 1 :: S) sh mi mj mr := zr_p (zD_of zk_55 d_55_97 rfl rfl) rfl
theorem q_55_98  {x0 : Int32} (hS : zcat S ≤ 8) (h : zIs sh o 0 4) : zRun 55 98 L (.int x0 :: .ref o :: S) sh mi mj mr = (zCall 67 [.ref o, .int x0] sh mi mj mr).bind fun r => zRun 55 101 L (r.1.toList ++ S) r.2.1 r.2.2.1 r.2.2.2.1 r.2.2.2.2 := zr_V (zD_of zk_55 d_55_98 rfl rfl) rfl zk_67 rfl rfl rfl hS h
theorem q_55_101r : zRun 55 101 [some (.ref o), l1, l2, l3, l4] S sh mi mj mr = zRun 55 102 [some (.ref o), l1, l2, l3, l4] (.ref o :: S) sh mi mj mr := zr_l (zD_of zk_55 d_55_101 rfl rfl) rfl rfl rfl
theorem q_55_101n : zRun 55 101 [some (.null), l1, l2, l3, l4] S sh mi mj mr = zRun 55 102 [some (.null), l1, l2, l3, l4] (.null :: S) sh mi mj mr := zr_l (zD_of zk_55 d_55_101 rfl rfl) rfl rfl rfl
theorem q_55_102 (h : zIs sh o 0 4) : zRun 55 102 L (.ref o :: S) sh mi mj mr = zRun 55 105 L (.int (mi o 2) :: S) sh mi mj mr := zr_getI (zD_of zk_55 d_55_102 rfl rfl) rfl rfl (Or.inl rfl) h
theorem q_55_105  : zRun 55 105 L (.int x :: S) sh mi mj mr = if x ≤ 0 then zRun 55 112 L S sh mi mj mr else zRun 55 108 L S sh mi mj mr := zr_if (off := 7) (P := x ≤ 0) (zD_of zk_55 d_55_105 rfl rfl) rfl rfl (by decide)
theorem q_55_108 : zRun 55 108 [l0, l1, some (.int x), l3, l4] S sh mi mj mr = zRun 55 109 [l0, l1, some (.int x), l3, l4] (.int x :: S) sh mi mj mr := zr_l (zD_of zk_55 d_55_108 rfl rfl) rfl rfl rfl
theorem q_55_109  : zRun 55 109 L S sh mi mj mr = zRun 55 114 L S sh mi mj mr := zr_go (off := 5) (zD_of zk_55 d_55_109 rfl rfl) rfl rfl (by decide)
theorem q_55_112  : zRun 55 112 L S sh mi mj mr = zRun 55 114 L (.int (-6) :: S) sh mi mj mr := zr_p (zD_of zk_55 d_55_112 rfl rfl) rfl
theorem q_55_114  : zRun 55 114 L ([.int x]) sh mi mj mr = some (some (.int x), sh, mi, mj, mr) := zr_ret (zD_of zk_55 d_55_114 rfl rfl) rfl rfl rfl rfl rfl (if_pos rfl)
theorem e_55 {x0 : Int32} {o0 : Nat} : zCall 55 [.ref o, .ref o0, .int x0] sh mi mj mr = zRun 55 0 [some (.ref o), some (.ref o0), some (.int x0), none, none] [] sh mi mj mr := rfl
theorem d_56_0 : decode cX4_take 0 = .ok (.aload_n 0, 1) := by decide +kernel
theorem d_56_1 : decode cX4_take 1 = .ok (.getfield 29, 3) := by decide +kernel
theorem d_56_4 : decode cX4_take 4 = .ok (.tableswitch 181 0 7 #[48, 70, 76, 100, 127, 151, 181, 175], 48) := by decide +kernel
theorem d_56_52 : decode cX4_take 52 = .ok (.iload_n 1, 1) := by decide +kernel
theorem d_56_53 : decode cX4_take 53 = .ok (.bipush 45, 2) := by decide +kernel
theorem d_56_55 : decode cX4_take 55 = .ok (.if_icmp .ne 13, 3) := by decide +kernel
theorem d_56_58 : decode cX4_take 58 = .ok (.aload_n 0, 1) := by decide +kernel
theorem d_56_59 : decode cX4_take 59 = .ok (.bipush 7, 2) := by decide +kernel
theorem d_56_61 : decode cX4_take 61 = .ok (.iconst 1, 1) := by decide +kernel
theorem d_56_62 : decode cX4_take 62 = .ok (.invokevirtual 46, 3) := by decide +kernel
theorem d_56_65 : decode cX4_take 65 = .ok (.goto 8, 3) := by decide +kernel
theorem d_56_68 : decode cX4_take 68 = .ok (.aload_n 0, 1) := by decide +kernel
theorem d_56_69 : decode cX4_take 69 = .ok (.iload_n 1, 1) := by decide +kernel
theorem d_56_70 : decode cX4_take 70 = .ok (.invokevirtual 50, 3) := by decide +kernel
theorem d_56_73 : decode cX4_take 73 = .ok (.ireturn, 1) := by decide +kernel
theorem d_56_74 : decode cX4_take 74 = .ok (.aload_n 0, 1) := by decide +kernel
theorem d_56_75 : decode cX4_take 75 = .ok (.iload_n 1, 1) := by decide +kernel
theorem d_56_76 : decode cX4_take 76 = .ok (.invokevirtual 50, 3) := by decide +kernel
theorem d_56_79 : decode cX4_take 79 = .ok (.ireturn, 1) := by decide +kernel
theorem d_56_80 : decode cX4_take 80 = .ok (.iload_n 1, 1) := by decide +kernel
theorem d_56_81 : decode cX4_take 81 = .ok (.bipush 40, 2) := by decide +kernel
theorem d_56_83 : decode cX4_take 83 = .ok (.if_icmp .ne 19, 3) := by decide +kernel
theorem d_56_86 : decode cX4_take 86 = .ok (.aload_n 0, 1) := by decide +kernel
theorem d_56_87 : decode cX4_take 87 = .ok (.aload_n 0, 1) := by decide +kernel
theorem d_56_88 : decode cX4_take 88 = .ok (.getfield 53, 3) := by decide +kernel
theorem d_56_91 : decode cX4_take 91 = .ok (.iconst 0, 1) := by decide +kernel
theorem d_56_92 : decode cX4_take 92 = .ok (.invokevirtual 46, 3) := by decide +kernel
theorem d_56_95 : decode cX4_take 95 = .ok (.ifCond .eq 7, 3) := by decide +kernel
theorem d_56_98 : decode cX4_take 98 = .ok (.iconst 1, 1) := by decide +kernel
theorem d_56_99 : decode cX4_take 99 = .ok (.goto 4, 3) := by decide +kernel
theorem d_56_102 : decode cX4_take 102 = .ok (.iconst 0, 1) := by decide +kernel
theorem d_56_103 : decode cX4_take 103 = .ok (.ireturn, 1) := by decide +kernel
theorem d_56_104 : decode cX4_take 104 = .ok (.iload_n 1, 1) := by decide +kernel
theorem d_56_105 : decode cX4_take 105 = .ok (.invokestatic 56, 3) := by decide +kernel
theorem d_56_108 : decode cX4_take 108 = .ok (.ifCond .ne 9, 3) := by decide +kernel
theorem d_56_111 : decode cX4_take 111 = .ok (.iload_n 1, 1) := by decide +kernel
theorem d_56_112 : decode cX4_take 112 = .ok (.bipush 46, 2) := by decide +kernel
theorem d_56_114 : decode cX4_take 114 = .ok (.if_icmp .ne 11, 3) := by decide +kernel
theorem d_56_117 : decode cX4_take 117 = .ok (.aload_n 0, 1) := by decide +kernel
theorem d_56_118 : decode cX4_take 118 = .ok (.iload_n 1, 1) := by decide +kernel
theorem d_56_119 : decode cX4_take 119 = .ok (.invokevirtual 59, 3) := by decide +kernel
theorem d_56_122 : decode cX4_take 122 = .ok (.goto 8, 3) := by decide +kernel
theorem d_56_125 : decode cX4_take 125 = .ok (.aload_n 0, 1) := by decide +kernel
theorem d_56_126 : decode cX4_take 126 = .ok (.iload_n 1, 1) := by decide +kernel
theorem d_56_127 : decode cX4_take 127 = .ok (.invokevirtual 62, 3) := by decide +kernel
theorem d_56_130 : decode cX4_take 130 = .ok (.ireturn, 1) := by decide +kernel
theorem d_56_131 : decode cX4_take 131 = .ok (.iload_n 1, 1) := by decide +kernel
theorem d_56_132 : decode cX4_take 132 = .ok (.invokestatic 56, 3) := by decide +kernel
theorem d_56_135 : decode cX4_take 135 = .ok (.ifCond .eq 18, 3) := by decide +kernel
theorem d_56_138 : decode cX4_take 138 = .ok (.aload_n 0, 1) := by decide +kernel
theorem d_56_139 : decode cX4_take 139 = .ok (.iload_n 1, 1) := by decide +kernel
theorem d_56_140 : decode cX4_take 140 = .ok (.bipush 10, 2) := by decide +kernel
theorem d_56_142 : decode cX4_take 142 = .ok (.iconst 5, 1) := by decide +kernel
theorem d_56_143 : decode cX4_take 143 = .ok (.invokevirtual 65, 3) := by decide +kernel
theorem d_56_146 : decode cX4_take 146 = .ok (.ifCond .eq 7, 3) := by decide +kernel
theorem d_56_149 : decode cX4_take 149 = .ok (.iconst 1, 1) := by decide +kernel
theorem d_56_150 : decode cX4_take 150 = .ok (.goto 4, 3) := by decide +kernel
theorem d_56_153 : decode cX4_take 153 = .ok (.iconst 0, 1) := by decide +kernel
theorem d_56_154 : decode cX4_take 154 = .ok (.ireturn, 1) := by decide +kernel
theorem d_56_155 : decode cX4_take 155 = .ok (.iload_n 1, 1) := by decide +kernel
theorem d_56_156 : decode cX4_take 156 = .ok (.invokestatic 56, 3) := by decide +kernel
theorem d_56_159 : decode cX4_take 159 = .ok (.ifCond .eq 14, 3) := by decide +kernel
theorem d_56_162 : decode cX4_take 162 = .ok (.aload_n 0, 1) := by decide +kernel
theorem d_56_163 : decode cX4_take 163 = .ok (.iload_n 1, 1) := by decide +kernel
theorem d_56_164 : decode cX4_take 164 = .ok (.iconst 1, 1) := by decide +kernel
theorem d_56_165 : decode cX4_take 165 = .ok (.bipush 6, 2) := by decide +kernel
theorem d_56_167 : decode cX4_take 167 = .ok (.invokevirtual 65, 3) := by decide +kernel
theorem d_56_170 : decode cX4_take 170 = .ok (.goto 8, 3) := by decide +kernel
theorem d_56_173 : decode cX4_take 173 = .ok (.aload_n 0, 1) := by decide +kernel
theorem d_56_174 : decode cX4_take 174 = .ok (.iload_n 1, 1) := by decide +kernel
theorem d_56_175 : decode cX4_take 175 = .ok (.invokevirtual 62, 3) := by decide +kernel
theorem d_56_178 : decode cX4_take 178 = .ok (.ireturn, 1) := by decide +kernel
theorem d_56_179 : decode cX4_take 179 = .ok (.aload_n 0, 1) := by decide +kernel
theorem d_56_180 : decode cX4_take 180 = .ok (.iload_n 1, 1) := by decide +kernel
theorem d_56_181 : decode cX4_take 181 = .ok (.invokevirtual 69, 3) := by decide +kernel
theorem d_56_184 : decode cX4_take 184 = .ok (.ireturn, 1) := by decide +kernel
theorem d_56_185 : decode cX4_take 185 = .ok (.aload_n 0, 1) := by decide +kernel
theorem d_56_186 : decode cX4_take 186 = .ok (.iload_n 1, 1) := by decide +kernel
theorem d_56_187 : decode cX4_take 187 = .ok (.invokevirtual 62, 3) := by decide +kernel
theorem d_56_190 : decode cX4_take 190 = .ok (.ireturn, 1) := by decide +kernel
theorem q_56_0r : zRun 56 0 [some (.ref o), l1] S sh mi mj mr = zRun 56 1 [some (.ref o), l1] (.ref o :: S) sh mi mj mr := zr_l (zD_of zk_56 d_56_0 rfl rfl) rfl rfl rfl
theorem q_56_0n : zRun 56 0 [some (.null), l1] S sh mi mj mr = zRun 56 1 [some (.null), l1] (.null :: S) sh mi mj mr := zr_l (zD_of zk_56 d_56_0 rfl rfl) rfl rfl rfl
theorem q_56_1 (h : zIs sh o 0 4) : zRun 56 1 L (.ref o :: S) sh mi mj mr = zRun 56 4 L (.int (mi o 3) :: S) sh mi mj mr := zr_getI (zD_of zk_56 d_56_1 rfl rfl) rfl rfl (Or.inl rfl) h
theorem q_56_4 : zRun 56 4 L (.int x :: S) sh mi mj mr = if x = 0 then zRun 56 52 L S sh mi mj mr else if x = 1 then zRun 56 74 L S sh mi mj mr else if x = 2 then zRun 56 80 L S sh mi mj mr else if x = 3 then zRun 56 104 L S sh mi mj mr else if x = 4 then zRun 56 131 L S sh mi mj mr else if x = 5 then zRun 56 155 L S sh mi mj mr else if x = 6 then zRun 56 185 L S sh mi mj mr else if x = 7 then zRun 56 179 L S sh mi mj mr else zRun 56 185 L S sh mi mj mr := by
  by_cases h : x = 0
  · subst h; exact zr_go (off := 48) (zD_of zk_56 d_56_4 rfl rfl) rfl rfl (by decide)
  rw [if_neg h]
  have a0 := zsw_ne (v := 0) h (by decide) (by decide)
  by_cases h : x = 1
  · subst h; exact zr_go (off := 70) (zD_of zk_56 d_56_4 rfl rfl) rfl rfl (by decide)
  rw [if_neg h]
  have a1 := zsw_ne (v := 1) h (by decide) (by decide)
  by_cases h : x = 2
  · subst h; exact zr_go (off := 76) (zD_of zk_56 d_56_4 rfl rfl) rfl rfl (by decide)
  rw [if_neg h]
  have a2 := zsw_ne (v := 2) h (by decide) (by decide)
  by_cases h : x = 3
  · subst h; exact zr_go (off := 100) (zD_of zk_56 d_56_4 rfl rfl) rfl rfl (by decide)
  rw [if_neg h]
  have a3 := zsw_ne (v := 3) h (by decide) (by decide)
  by_cases h : x = 4
  · subst h; exact zr_go (off := 127) (zD_of zk_56 d_56_4 rfl rfl) rfl rfl (by decide)
  rw [if_neg h]
  have a4 := zsw_ne (v := 4) h (by decide) (by decide)
  by_cases h : x = 5
  · subst h; exact zr_go (off := 151) (zD_of zk_56 d_56_4 rfl rfl) rfl rfl (by decide)
  rw [if_neg h]
  have a5 := zsw_ne (v := 5) h (by decide) (by decide)
  by_cases h : x = 6
  · subst h; exact zr_go (off := 181) (zD_of zk_56 d_56_4 rfl rfl) rfl rfl (by decide)
  rw [if_neg h]
  have a6 := zsw_ne (v := 6) h (by decide) (by decide)
  by_cases h : x = 7
  · subst h; exact zr_go (off := 175) (zD_of zk_56 d_56_4 rfl rfl) rfl rfl (by decide)
  rw [if_neg h]
  have a7 := zsw_ne (v := 7) h (by decide) (by decide)
  exact zr_go (S' := S) (off := 181) (zD_of zk_56 d_56_4 rfl rfl) rfl (by simp only [zjump, zsw_out (x := x) 181 0 7 (by omega)]) (by decide)
theorem q_56_52 : zRun 56 52 [l0, some (.int x)] S sh mi mj mr = zRun 56 53 [l0, some (.int x)] (.int x :: S) sh mi mj mr := zr_l (zD_of zk_56 d_56_52 rfl rfl) rfl rfl rfl
theorem q_56_53  : zRun 56 53 L S sh mi mj mr = zRun 56 55 L (.int 45 :: S) sh mi mj mr := zr_p (zD_of zk_56 d_56_53 rfl rfl) rfl
theorem q_56_55  : zRun 56 55 L (.int y :: .int x :: S) sh mi mj mr = if ¬ x = y then zRun 56 68 L S sh mi mj mr else zRun 56 58 L S sh mi mj mr := zr_if (off := 13) (P := ¬ x = y) (zD_of zk_56 d_56_55 rfl rfl) rfl rfl (by decide)
theorem q_56_58r : zRun 56 58 [some (.ref o), l1] S sh mi mj mr = zRun 56 59 [some (.ref o), l1] (.ref o :: S) sh mi mj mr := zr_l (zD_of zk_56 d_56_58 rfl rfl) rfl rfl rfl
theorem q_56_58n : zRun 56 58 [some (.null), l1] S sh mi mj mr = zRun 56 59 [some (.null), l1] (.null :: S) sh mi mj mr := zr_l (zD_of zk_56 d_56_58 rfl rfl) rfl rfl rfl
theorem q_56_59  : zRun 56 59 L S sh mi mj mr = zRun 56 61 L (.int 7 :: S) sh mi mj mr := zr_p (zD_of zk_56 d_56_59 rfl rfl) rfl
theorem q_56_61  : zRun 56 61 L S sh mi mj mr = zRun 56 62 L (.int 1 :: S) sh mi mj mr := zr_p (zD_of zk_56 d_56_61 rfl rfl) rfl
theorem q_56_62  {x0 x1 : Int32} (hS : zcat S ≤ 8) (h : zIs sh o 0 4) : zRun 56 62 L (.int x1 :: .int x0 :: .ref o :: S) sh mi mj mr = (zCall 66 [.ref o, .int x0, .int x1] sh mi mj mr).bind fun r => zRun 56 65 L (r.1.toList ++ S) r.2.1 r.2.2.1 r.2.2.2.1 r.2.2.2.2 := zr_V (zD_of zk_56 d_56_62 rfl rfl) rfl zk_66 rfl rfl rfl hS h
theorem q_56_65  : zRun 56 65 L S sh mi mj mr = zRun 56 73 L S sh mi mj mr := zr_go (off := 8) (zD_of zk_56 d_56_65 rfl rfl) rfl rfl (by decide)
theorem q_56_68r : zRun 56 68 [some (.ref o), l1] S sh mi mj mr = zRun 56 69 [some (.ref o), l1] (.ref o :: S) sh mi mj mr := zr_l (zD_of zk_56 d_56_68 rfl rfl) rfl rfl rfl
theorem q_56_68n : zRun 56 68 [some (.null), l1] S sh mi mj mr = zRun 56 69 [some (.null), l1] (.null :: S) sh mi mj mr := zr_l (zD_of zk_56 d_56_68 rfl rfl) rfl rfl rfl
theorem q_56_69 : zRun 56 69 [l0, some (.int x)] S sh mi mj mr = zRun 56 70 [l0, some (.int x)] (.int x :: S) sh mi mj mr := zr_l (zD_of zk_56 d_56_69 rfl rfl) rfl rfl rfl
theorem q_56_70  {x0 : Int32} (hS : zcat S ≤ 8) (h : zIs sh o 0 4) : zRun 56 70 L (.int x0 :: .ref o :: S) sh mi mj mr = (zCall 57 [.ref o, .int x0] sh mi mj mr).bind fun r => zRun 56 73 L (r.1.toList ++ S) r.2.1 r.2.2.1 r.2.2.2.1 r.2.2.2.2 := zr_V (zD_of zk_56 d_56_70 rfl rfl) rfl zk_57 rfl rfl rfl hS h
theorem q_56_73 (h : x = 0 ∨ x = 1) : zRun 56 73 L ([.int x]) sh mi mj mr = some (some (.int x), sh, mi, mj, mr) := zr_ret (zD_of zk_56 d_56_73 rfl rfl) rfl rfl rfl rfl rfl (if_pos (zna_b h))
theorem q_56_74r : zRun 56 74 [some (.ref o), l1] S sh mi mj mr = zRun 56 75 [some (.ref o), l1] (.ref o :: S) sh mi mj mr := zr_l (zD_of zk_56 d_56_74 rfl rfl) rfl rfl rfl
theorem q_56_74n : zRun 56 74 [some (.null), l1] S sh mi mj mr = zRun 56 75 [some (.null), l1] (.null :: S) sh mi mj mr := zr_l (zD_of zk_56 d_56_74 rfl rfl) rfl rfl rfl
theorem q_56_75 : zRun 56 75 [l0, some (.int x)] S sh mi mj mr = zRun 56 76 [l0, some (.int x)] (.int x :: S) sh mi mj mr := zr_l (zD_of zk_56 d_56_75 rfl rfl) rfl rfl rfl
theorem q_56_76  {x0 : Int32} (hS : zcat S ≤ 8) (h : zIs sh o 0 4) : zRun 56 76 L (.int x0 :: .ref o :: S) sh mi mj mr = (zCall 57 [.ref o, .int x0] sh mi mj mr).bind fun r => zRun 56 79 L (r.1.toList ++ S) r.2.1 r.2.2.1 r.2.2.2.1 r.2.2.2.2 := zr_V (zD_of zk_56 d_56_76 rfl rfl) rfl zk_57 rfl rfl rfl hS h
theorem q_56_79 (h : x = 0 ∨ x = 1) : zRun 56 79 L ([.int x]) sh mi mj mr = some (some (.int x), sh, mi, mj, mr) := zr_ret (zD_of zk_56 d_56_79 rfl rfl) rfl rfl rfl rfl rfl (if_pos (zna_b h))
theorem q_56_80 : zRun 56 80 [l0, some (.int x)] S sh mi mj mr = zRun 56 81 [l0, some (.int x)] (.int x :: S) sh mi mj mr := zr_l (zD_of zk_56 d_56_80 rfl rfl) rfl rfl rfl
theorem q_56_81  : zRun 56 81 L S sh mi mj mr = zRun 56 83 L (.int 40 :: S) sh mi mj mr := zr_p (zD_of zk_56 d_56_81 rfl rfl) rfl
theorem q_56_83  : zRun 56 83 L (.int y :: .int x :: S) sh mi mj mr = if ¬ x = y then zRun 56 102 L S sh mi mj mr else zRun 56 86 L S sh mi mj mr := zr_if (off := 19) (P := ¬ x = y) (zD_of zk_56 d_56_83 rfl rfl) rfl rfl (by decide)
theorem q_56_86r : zRun 56 86 [some (.ref o), l1] S sh mi mj mr = zRun 56 87 [some (.ref o), l1] (.ref o :: S) sh mi mj mr := zr_l (zD_of zk_56 d_56_86 rfl rfl) rfl rfl rfl
theorem q_56_86n : zRun 56 86 [some (.null), l1] S sh mi mj mr = zRun 56 87 [some (.null), l1] (.null :: S) sh mi mj mr := zr_l (zD_of zk_56 d_56_86 rfl rfl) rfl rfl rfl
theorem q_56_87r : zRun 56 87 [some (.ref o), l1] S sh mi mj mr = zRun 56 88 [some (.ref o), l1] (.ref o :: S) sh mi mj mr := zr_l (zD_of zk_56 d_56_87 rfl rfl) rfl rfl rfl
theorem q_56_87n : zRun 56 87 [some (.null), l1] S sh mi mj mr = zRun 56 88 [some (.null), l1] (.null :: S) sh mi mj mr := zr_l (zD_of zk_56 d_56_87 rfl rfl) rfl rfl rfl
theorem q_56_88 (h : zIs sh o 0 4) : zRun 56 88 L (.ref o :: S) sh mi mj mr = zRun 56 91 L (.int (mi o 4) :: S) sh mi mj mr := zr_getI (zD_of zk_56 d_56_88 rfl rfl) rfl rfl (Or.inl rfl) h
theorem q_56_91  : zRun 56 91 L S sh mi mj mr = zRun 56 92 L (.int 0 :: S) sh mi mj mr := zr_p (zD_of zk_56 d_56_91 rfl rfl) rfl
theorem q_56_92  {x0 x1 : Int32} (hS : zcat S ≤ 8) (h : zIs sh o 0 4) : zRun 56 92 L (.int x1 :: .int x0 :: .ref o :: S) sh mi mj mr = (zCall 66 [.ref o, .int x0, .int x1] sh mi mj mr).bind fun r => zRun 56 95 L (r.1.toList ++ S) r.2.1 r.2.2.1 r.2.2.2.1 r.2.2.2.2 := zr_V (zD_of zk_56 d_56_92 rfl rfl) rfl zk_66 rfl rfl rfl hS h
theorem q_56_95  : zRun 56 95 L (.int x :: S) sh mi mj mr = if x = 0 then zRun 56 102 L S sh mi mj mr else zRun 56 98 L S sh mi mj mr := zr_if (off := 7) (P := x = 0) (zD_of zk_56 d_56_95 rfl rfl) rfl rfl (by decide)
theorem q_56_98  : zRun 56 98 L S sh mi mj mr = zRun 56 99 L (.int 1 :: S) sh mi mj mr := zr_p (zD_of zk_56 d_56_98 rfl rfl) rfl
theorem q_56_99  : zRun 56 99 L S sh mi mj mr = zRun 56 103 L S sh mi mj mr := zr_go (off := 4) (zD_of zk_56 d_56_99 rfl rfl) rfl rfl (by decide)
theorem q_56_102  : zRun 56 102 L S sh mi mj mr = zRun 56 103 L (.int 0 :: S) sh mi mj mr := zr_p (zD_of zk_56 d_56_102 rfl rfl) rfl
theorem q_56_103 (h : x = 0 ∨ x = 1) : zRun 56 103 L ([.int x]) sh mi mj mr = some (some (.int x), sh, mi, mj, mr) := zr_ret (zD_of zk_56 d_56_103 rfl rfl) rfl rfl rfl rfl rfl (if_pos (zna_b h))
theorem q_56_104 : zRun 56 104 [l0, some (.int x)] S sh mi mj mr = zRun 56 105 [l0, some (.int x)] (.int x :: S) sh mi mj mr := zr_l (zD_of zk_56 d_56_104 rfl rfl) rfl rfl rfl
theorem q_56_105  {x0 : Int32} (hS : zcat S ≤ 8) : zRun 56 105 L (.int x0 :: S) sh mi mj mr = (zCall 69 [.int x0] sh mi mj mr).bind fun r => zRun 56 108 L (r.1.toList ++ S) r.2.1 r.2.2.1 r.2.2.2.1 r.2.2.2.2 := zr_S (zD_of zk_56 d_56_105 rfl rfl) rfl zk_69 rfl rfl rfl hS
theorem q_56_108  : zRun 56 108 L (.int x :: S) sh mi mj mr = if ¬ x = 0 then zRun 56 117 L S sh mi mj mr else zRun 56 111 L S sh mi mj mr := zr_if (off := 9) (P := ¬ x = 0) (zD_of zk_56 d_56_108 rfl rfl) rfl rfl (by decide)
theorem q_56_111 : zRun 56 111 [l0, some (.int x)] S sh mi mj mr = zRun 56 112 [l0, some (.int x)] (.int x :: S) sh mi mj mr := zr_l (zD_of zk_56 d_56_111 rfl rfl) rfl rfl rfl
theorem q_56_112  : zRun 56 112 L S sh mi mj mr = zRun 56 114 L (.int 46 :: S) sh mi mj mr := zr_p (zD_of zk_56 d_56_112 rfl rfl) rfl
theorem q_56_114  : zRun 56 114 L (.int y :: .int x :: S) sh mi mj mr = if ¬ x = y then zRun 56 125 L S sh mi mj mr else zRun 56 117 L S sh mi mj mr := zr_if (off := 11) (P := ¬ x = y) (zD_of zk_56 d_56_114 rfl rfl) rfl rfl (by decide)
theorem q_56_117r : zRun 56 117 [some (.ref o), l1] S sh mi mj mr = zRun 56 118 [some (.ref o), l1] (.ref o :: S) sh mi mj mr := zr_l (zD_of zk_56 d_56_117 rfl rfl) rfl rfl rfl
theorem q_56_117n : zRun 56 117 [some (.null), l1] S sh mi mj mr = zRun 56 118 [some (.null), l1] (.null :: S) sh mi mj mr := zr_l (zD_of zk_56 d_56_117 rfl rfl) rfl rfl rfl
theorem q_56_118 : zRun 56 118 [l0, some (.int x)] S sh mi mj mr = zRun 56 119 [l0, some (.int x)] (.int x :: S) sh mi mj mr := zr_l (zD_of zk_56 d_56_118 rfl rfl) rfl rfl rfl
theorem q_56_119  {x0 : Int32} (hS : zcat S ≤ 8) (h : zIs sh o 0 4) : zRun 56 119 L (.int x0 :: .ref o :: S) sh mi mj mr = (zCall 58 [.ref o, .int x0] sh mi mj mr).bind fun r => zRun 56 122 L (r.1.toList ++ S) r.2.1 r.2.2.1 r.2.2.2.1 r.2.2.2.2 := zr_V (zD_of zk_56 d_56_119 rfl rfl) rfl zk_58 rfl rfl rfl hS h
theorem q_56_122  : zRun 56 122 L S sh mi mj mr = zRun 56 130 L S sh mi mj mr := zr_go (off := 8) (zD_of zk_56 d_56_122 rfl rfl) rfl rfl (by decide)
theorem q_56_125r : zRun 56 125 [some (.ref o), l1] S sh mi mj mr = zRun 56 126 [some (.ref o), l1] (.ref o :: S) sh mi mj mr := zr_l (zD_of zk_56 d_56_125 rfl rfl) rfl rfl rfl
theorem q_56_125n : zRun 56 125 [some (.null), l1] S sh mi mj mr = zRun 56 126 [some (.null), l1] (.null :: S) sh mi mj mr := zr_l (zD_of zk_56 d_56_125 rfl rfl) rfl rfl rfl
theorem q_56_126 : zRun 56 126 [l0, some (.int x)] S sh mi mj mr = zRun 56 127 [l0, some (.int x)] (.int x :: S) sh mi mj mr := zr_l (zD_of zk_56 d_56_126 rfl rfl) rfl rfl rfl
theorem q_56_127  {x0 : Int32} (hS : zcat S ≤ 8) (h : zIs sh o 0 4) : zRun 56 127 L (.int x0 :: .ref o :: S) sh mi mj mr = (zCall 61 [.ref o, .int x0] sh mi mj mr).bind fun r => zRun 56 130 L (r.1.toList ++ S) r.2.1 r.2.2.1 r.2.2.2.1 r.2.2.2.2 := zr_V (zD_of zk_56 d_56_127 rfl rfl) rfl zk_61 rfl rfl rfl hS h
theorem q_56_130 (h : x = 0 ∨ x = 1) : zRun 56 130 L ([.int x]) sh mi mj mr = some (some (.int x), sh, mi, mj, mr) := zr_ret (zD_of zk_56 d_56_130 rfl rfl) rfl rfl rfl rfl rfl (if_pos (zna_b h))
theorem q_56_131 : zRun 56 131 [l0, some (.int x)] S sh mi mj mr = zRun 56 132 [l0, some (.int x)] (.int x :: S) sh mi mj mr := zr_l (zD_of zk_56 d_56_131 rfl rfl) rfl rfl rfl
theorem q_56_132  {x0 : Int32} (hS : zcat S ≤ 8) : zRun 56 132 L (.int x0 :: S) sh mi mj mr = (zCall 69 [.int x0] sh mi mj mr).bind fun r => zRun 56 135 L (r.1.toList ++ S) r.2.1 r.2.2.1 r.2.2.2.1 r.2.2.2.2 := zr_S (zD_of zk_56 d_56_132 rfl rfl) rfl zk_69 rfl rfl rfl hS
theorem q_56_135  : zRun 56 135 L (.int x :: S) sh mi mj mr = if x = 0 then zRun 56 153 L S sh mi mj mr else zRun 56 138 L S sh mi mj mr := zr_if (off := 18) (P := x = 0) (zD_of zk_56 d_56_135 rfl rfl) rfl rfl (by decide)
theorem q_56_138r : zRun 56 138 [some (.ref o), l1] S sh mi mj mr = zRun 56 139 [some (.ref o), l1] (.ref o :: S) sh mi mj mr := zr_l (zD_of zk_56 d_56_138 rfl rfl) rfl rfl rfl
theorem q_56_138n : zRun 56 138 [some (.null), l1] S sh mi mj mr = zRun 56 139 [some (.null), l1] (.null :: S) sh mi mj mr := zr_l (zD_of zk_56 d_56_138 rfl rfl) rfl rfl rfl
theorem q_56_139 : zRun 56 139 [l0, some (.int x)] S sh mi mj mr = zRun 56 140 [l0, some (.int x)] (.int x :: S) sh mi mj mr := zr_l (zD_of zk_56 d_56_139 rfl rfl) rfl rfl rfl
theorem q_56_140  : zRun 56 140 L S sh mi mj mr = zRun 56 142 L (.int 10 :: S) sh mi mj mr := zr_p (zD_of zk_56 d_56_140 rfl rfl) rfl
theorem q_56_142  : zRun 56 142 L S sh mi mj mr = zRun 56 143 L (.int 5 :: S) sh mi mj mr := zr_p (zD_of zk_56 d_56_142 rfl rfl) rfl
theorem q_56_143  {x0 x1 x2 : Int32} (hS : zcat S ≤ 8) (h : zIs sh o 0 4) : zRun 56 143 L (.int x2 :: .int x1 :: .int x0 :: .ref o :: S) sh mi mj mr = (zCall 59 [.ref o, .int x0, .int x1, .int x2] sh mi mj mr).bind fun r => zRun 56 146 L (r.1.toList ++ S) r.2.1 r.2.2.1 r.2.2.2.1 r.2.2.2.2 := zr_V (zD_of zk_56 d_56_143 rfl rfl) rfl zk_59 rfl rfl rfl hS h
theorem q_56_146  : zRun 56 146 L (.int x :: S) sh mi mj mr = if x = 0 then zRun 56 153 L S sh mi mj mr else zRun 56 149 L S sh mi mj mr := zr_if (off := 7) (P := x = 0) (zD_of zk_56 d_56_146 rfl rfl) rfl rfl (by decide)
theorem q_56_149  : zRun 56 149 L S sh mi mj mr = zRun 56 150 L (.int 1 :: S) sh mi mj mr := zr_p (zD_of zk_56 d_56_149 rfl rfl) rfl
theorem q_56_150  : zRun 56 150 L S sh mi mj mr = zRun 56 154 L S sh mi mj mr := zr_go (off := 4) (zD_of zk_56 d_56_150 rfl rfl) rfl rfl (by decide)
theorem q_56_153  : zRun 56 153 L S sh mi mj mr = zRun 56 154 L (.int 0 :: S) sh mi mj mr := zr_p (zD_of zk_56 d_56_153 rfl rfl) rfl
theorem q_56_154 (h : x = 0 ∨ x = 1) : zRun 56 154 L ([.int x]) sh mi mj mr = some (some (.int x), sh, mi, mj, mr) := zr_ret (zD_of zk_56 d_56_154 rfl rfl) rfl rfl rfl rfl rfl (if_pos (zna_b h))
theorem q_56_155 : zRun 56 155 [l0, some (.int x)] S sh mi mj mr = zRun 56 156 [l0, some (.int x)] (.int x :: S) sh mi mj mr := zr_l (zD_of zk_56 d_56_155 rfl rfl) rfl rfl rfl
theorem q_56_156  {x0 : Int32} (hS : zcat S ≤ 8) : zRun 56 156 L (.int x0 :: S) sh mi mj mr = (zCall 69 [.int x0] sh mi mj mr).bind fun r => zRun 56 159 L (r.1.toList ++ S) r.2.1 r.2.2.1 r.2.2.2.1 r.2.2.2.2 := zr_S (zD_of zk_56 d_56_156 rfl rfl) rfl zk_69 rfl rfl rfl hS
theorem q_56_159  : zRun 56 159 L (.int x :: S) sh mi mj mr = if x = 0 then zRun 56 173 L S sh mi mj mr else zRun 56 162 L S sh mi mj mr := zr_if (off := 14) (P := x = 0) (zD_of zk_56 d_56_159 rfl rfl) rfl rfl (by decide)
theorem q_56_162r : zRun 56 162 [some (.ref o), l1] S sh mi mj mr = zRun 56 163 [some (.ref o), l1] (.ref o :: S) sh mi mj mr := zr_l (zD_of zk_56 d_56_162 rfl rfl) rfl rfl rfl
theorem q_56_162n : zRun 56 162 [some (.null), l1] S sh mi mj mr = zRun 56 163 [some (.null), l1] (.null :: S) sh mi mj mr := zr_l (zD_of zk_56 d_56_162 rfl rfl) rfl rfl rfl
theorem q_56_163 : zRun 56 163 [l0, some (.int x)] S sh mi mj mr = zRun 56 164 [l0, some (.int x)] (.int x :: S) sh mi mj mr := zr_l (zD_of zk_56 d_56_163 rfl rfl) rfl rfl rfl
theorem q_56_164  : zRun 56 164 L S sh mi mj mr = zRun 56 165 L (.int 1 :: S) sh mi mj mr := zr_p (zD_of zk_56 d_56_164 rfl rfl) rfl
theorem q_56_165  : zRun 56 165 L S sh mi mj mr = zRun 56 167 L (.int 6 :: S) sh mi mj mr := zr_p (zD_of zk_56 d_56_165 rfl rfl) rfl
theorem q_56_167  {x0 x1 x2 : Int32} (hS : zcat S ≤ 8) (h : zIs sh o 0 4) : zRun 56 167 L (.int x2 :: .int x1 :: .int x0 :: .ref o :: S) sh mi mj mr = (zCall 59 [.ref o, .int x0, .int x1, .int x2] sh mi mj mr).bind fun r => zRun 56 170 L (r.1.toList ++ S) r.2.1 r.2.2.1 r.2.2.2.1 r.2.2.2.2 := zr_V (zD_of zk_56 d_56_167 rfl rfl) rfl zk_59 rfl rfl rfl hS h
theorem q_56_170  : zRun 56 170 L S sh mi mj mr = zRun 56 178 L S sh mi mj mr := zr_go (off := 8) (zD_of zk_56 d_56_170 rfl rfl) rfl rfl (by decide)
theorem q_56_173r : zRun 56 173 [some (.ref o), l1] S sh mi mj mr = zRun 56 174 [some (.ref o), l1] (.ref o :: S) sh mi mj mr := zr_l (zD_of zk_56 d_56_173 rfl rfl) rfl rfl rfl
theorem q_56_173n : zRun 56 173 [some (.null), l1] S sh mi mj mr = zRun 56 174 [some (.null), l1] (.null :: S) sh mi mj mr := zr_l (zD_of zk_56 d_56_173 rfl rfl) rfl rfl rfl
theorem q_56_174 : zRun 56 174 [l0, some (.int x)] S sh mi mj mr = zRun 56 175 [l0, some (.int x)] (.int x :: S) sh mi mj mr := zr_l (zD_of zk_56 d_56_174 rfl rfl) rfl rfl rfl
theorem q_56_175  {x0 : Int32} (hS : zcat S ≤ 8) (h : zIs sh o 0 4) : zRun 56 175 L (.int x0 :: .ref o :: S) sh mi mj mr = (zCall 61 [.ref o, .int x0] sh mi mj mr).bind fun r => zRun 56 178 L (r.1.toList ++ S) r.2.1 r.2.2.1 r.2.2.2.1 r.2.2.2.2 := zr_V (zD_of zk_56 d_56_175 rfl rfl) rfl zk_61 rfl rfl rfl hS h
theorem q_56_178 (h : x = 0 ∨ x = 1) : zRun 56 178 L ([.int x]) sh mi mj mr = some (some (.int x), sh, mi, mj, mr) := zr_ret (zD_of zk_56 d_56_178 rfl rfl) rfl rfl rfl rfl rfl (if_pos (zna_b h))
theorem q_56_179r : zRun 56 179 [some (.ref o), l1] S sh mi mj mr = zRun 56 180 [some (.ref o), l1] (.ref o :: S) sh mi mj mr := zr_l (zD_of zk_56 d_56_179 rfl rfl) rfl rfl rfl
theorem q_56_179n : zRun 56 179 [some (.null), l1] S sh mi mj mr = zRun 56 180 [some (.null), l1] (.null :: S) sh mi mj mr := zr_l (zD_of zk_56 d_56_179 rfl rfl) rfl rfl rfl
theorem q_56_180 : zRun 56 180 [l0, some (.int x)] S sh mi mj mr = zRun 56 181 [l0, some (.int x)] (.int x :: S) sh mi mj mr := zr_l (zD_of zk_56 d_56_180 rfl rfl) rfl rfl rfl
theorem q_56_181  {x0 : Int32} (hS : zcat S ≤ 8) (h : zIs sh o 0 4) : zRun 56 181 L (.int x0 :: .ref o :: S) sh mi mj mr = (zCall 60 [.ref o, .int x0] sh mi mj mr).bind fun r => zRun 56 184 L (r.1.toList ++ S) r.2.1 r.2.2.1 r.2.2.2.1 r.2.2.2.2 := zr_V (zD_of zk_56 d_56_181 rfl rfl) rfl zk_60 rfl rfl rfl hS h
theorem q_56_184 (h : x = 0 ∨ x = 1) : zRun 56 184 L ([.int x]) sh mi mj mr = some (some (.int x), sh, mi, mj, mr) := zr_ret (zD_of zk_56 d_56_184 rfl rfl) rfl rfl rfl rfl rfl (if_pos (zna_b h))
theorem q_56_185r : zRun 56 185 [some (.ref o), l1] S sh mi mj mr = zRun 56 186 [some (.ref o), l1] (.ref o :: S) sh mi mj mr := zr_l (zD_of zk_56 d_56_185 rfl rfl) rfl rfl rfl
theorem q_56_185n : zRun 56 185 [some (.null), l1] S sh mi mj mr = zRun 56 186 [some (.null), l1] (.null :: S) sh mi mj mr := zr_l (zD_of zk_56 d_56_185 rfl rfl) rfl rfl rfl
theorem q_56_186 : zRun 56 186 [l0, some (.int x)] S sh mi mj mr = zRun 56 187 [l0, some (.int x)] (.int x :: S) sh mi mj mr := zr_l (zD_of zk_56 d_56_186 rfl rfl) rfl rfl rfl
theorem q_56_187  {x0 : Int32} (hS : zcat S ≤ 8) (h : zIs sh o 0 4) : zRun 56 187 L (.int x0 :: .ref o :: S) sh mi mj mr = (zCall 61 [.ref o, .int x0] sh mi mj mr).bind fun r => zRun 56 190 L (r.1.toList ++ S) r.2.1 r.2.2.1 r.2.2.2.1 r.2.2.2.2 := zr_V (zD_of zk_56 d_56_187 rfl rfl) rfl zk_61 rfl rfl rfl hS h
theorem q_56_190 (h : x = 0 ∨ x = 1) : zRun 56 190 L ([.int x]) sh mi mj mr = some (some (.int x), sh, mi, mj, mr) := zr_ret (zD_of zk_56 d_56_190 rfl rfl) rfl rfl rfl rfl rfl (if_pos (zna_b h))
theorem e_56 {x0 : Int32} : zCall 56 [.ref o, .int x0] sh mi mj mr = zRun 56 0 [some (.ref o), some (.int x0)] [] sh mi mj mr := rfl
theorem d_57_0 : decode cX4_takeOperand 0 = .ok (.iload_n 1, 1) := by decide +kernel
theorem d_57_1 : decode cX4_takeOperand 1 = .ok (.bipush 97, 2) := by decide +kernel
theorem d_57_3 : decode cX4_takeOperand 3 = .ok (.if_icmp .lt 31, 3) := by decide +kernel
theorem d_57_6 : decode cX4_takeOperand 6 = .ok (.iload_n 1, 1) := by decide +kernel
theorem d_57_7 : decode cX4_takeOperand 7 = .ok (.bipush 100, 2) := by decide +kernel
theorem d_57_9 : decode cX4_takeOperand 9 = .ok (.if_icmp .gt 25, 3) := by decide +kernel
theorem d_57_12 : decode cX4_takeOperand 12 = .ok (.aload_n 0, 1) := by decide +kernel
theorem d_57_13 : decode cX4_takeOperand 13 = .ok (.getfield 12, 3) := by decide +kernel
theorem d_57_16 : decode cX4_takeOperand 16 = .ok (.iconst 1, 1) := by decide +kernel
theorem d_57_17 : decode cX4_takeOperand 17 = .ok (.iload_n 1, 1) := by decide +kernel
theorem d_57_18 : decode cX4_takeOperand 18 = .ok (.bipush 97, 2) := by decide +kernel
theorem d_57_20 : decode cX4_takeOperand 20 = .ok (.isub, 1) := by decide +kernel
theorem d_57_21 : decode cX4_takeOperand 21 = .ok (.iadd, 1) := by decide +kernel
theorem d_57_22 : decode cX4_takeOperand 22 = .ok (.iconst 0, 1) := by decide +kernel
theorem d_57_23 : decode cX4_takeOperand 23 = .ok (.invokevirtual 72, 3) := by decide +kernel
theorem d_57_26 : decode cX4_takeOperand 26 = .ok (.aload_n 0, 1) := by decide +kernel
theorem d_57_27 : decode cX4_takeOperand 27 = .ok (.bipush 6, 2) := by decide +kernel
theorem d_57_29 : decode cX4_takeOperand 29 = .ok (.putfield 29, 3) := by decide +kernel
theorem d_57_32 : decode cX4_takeOperand 32 = .ok (.iconst 1, 1) := by decide +kernel
theorem d_57_33 : decode cX4_takeOperand 33 = .ok (.ireturn, 1) := by decide +kernel
theorem d_57_34 : decode cX4_takeOperand 34 = .ok (.iload_n 1, 1) := by decide +kernel
theorem d_57_35 : decode cX4_takeOperand 35 = .ok (.invokestatic 56, 3) := by decide +kernel
theorem d_57_38 : decode cX4_takeOperand 38 = .ok (.ifCond .eq 21, 3) := by decide +kernel
theorem d_57_41 : decode cX4_takeOperand 41 = .ok (.aload_n 0, 1) := by decide +kernel
theorem d_57_42 : decode cX4_takeOperand 42 = .ok (.getfield 12, 3) := by decide +kernel
theorem d_57_45 : decode cX4_takeOperand 45 = .ok (.iconst 0, 1) := by decide +kernel
theorem d_57_46 : decode cX4_takeOperand 46 = .ok (.iconst 0, 1) := by decide +kernel
theorem d_57_47 : decode cX4_takeOperand 47 = .ok (.invokevirtual 72, 3) := by decide +kernel
theorem d_57_50 : decode cX4_takeOperand 50 = .ok (.aload_n 0, 1) := by decide +kernel
theorem d_57_51 : decode cX4_takeOperand 51 = .ok (.iload_n 1, 1) := by decide +kernel
theorem d_57_52 : decode cX4_takeOperand 52 = .ok (.bipush 100, 2) := by decide +kernel
theorem d_57_54 : decode cX4_takeOperand 54 = .ok (.iconst 3, 1) := by decide +kernel
theorem d_57_55 : decode cX4_takeOperand 55 = .ok (.invokevirtual 65, 3) := by decide +kernel
theorem d_57_58 : decode cX4_takeOperand 58 = .ok (.ireturn, 1) := by decide +kernel
theorem d_57_59 : decode cX4_takeOperand 59 = .ok (.iload_n 1, 1) := by decide +kernel
theorem d_57_60 : decode cX4_takeOperand 60 = .ok (.lookupswitch 88 #[(40, 52), (65, 60), (71, 81), (76, 74), (82, 67)], 52) := by decide +kernel
theorem d_57_112 : decode cX4_takeOperand 112 = .ok (.aload_n 0, 1) := by decide +kernel
theorem d_57_113 : decode cX4_takeOperand 113 = .ok (.bipush 16, 2) := by decide +kernel
theorem d_57_115 : decode cX4_takeOperand 115 = .ok (.iconst 0, 1) := by decide +kernel
theorem d_57_116 : decode cX4_takeOperand 116 = .ok (.invokevirtual 46, 3) := by decide +kernel
theorem d_57_119 : decode cX4_takeOperand 119 = .ok (.ireturn, 1) := by decide +kernel
theorem d_57_120 : decode cX4_takeOperand 120 = .ok (.aload_n 0, 1) := by decide +kernel
theorem d_57_121 : decode cX4_takeOperand 121 = .ok (.bipush 12, 2) := by decide +kernel
theorem d_57_123 : decode cX4_takeOperand 123 = .ok (.invokevirtual 76, 3) := by decide +kernel
theorem d_57_126 : decode cX4_takeOperand 126 = .ok (.ireturn, 1) := by decide +kernel
theorem d_57_127 : decode cX4_takeOperand 127 = .ok (.aload_n 0, 1) := by decide +kernel
theorem d_57_128 : decode cX4_takeOperand 128 = .ok (.bipush 13, 2) := by decide +kernel
theorem d_57_130 : decode cX4_takeOperand 130 = .ok (.invokevirtual 76, 3) := by decide +kernel
theorem d_57_133 : decode cX4_takeOperand 133 = .ok (.ireturn, 1) := by decide +kernel
theorem d_57_134 : decode cX4_takeOperand 134 = .ok (.aload_n 0, 1) := by decide +kernel
theorem d_57_135 : decode cX4_takeOperand 135 = .ok (.bipush 46, 2) := by decide +kernel
theorem d_57_137 : decode cX4_takeOperand 137 = .ok (.invokevirtual 76, 3) := by decide +kernel
theorem d_57_140 : decode cX4_takeOperand 140 = .ok (.ireturn, 1) := by decide +kernel
theorem d_57_141 : decode cX4_takeOperand 141 = .ok (.aload_n 0, 1) := by decide +kernel
theorem d_57_142 : decode cX4_takeOperand 142 = .ok (.bipush 47, 2) := by decide +kernel
theorem d_57_144 : decode cX4_takeOperand 144 = .ok (.invokevirtual 76, 3) := by decide +kernel
theorem d_57_147 : decode cX4_takeOperand 147 = .ok (.ireturn, 1) := by decide +kernel
theorem d_57_148 : decode cX4_takeOperand 148 = .ok (.iconst 0, 1) := by decide +kernel
theorem d_57_149 : decode cX4_takeOperand 149 = .ok (.ireturn, 1) := by decide +kernel
theorem q_57_0 : zRun 57 0 [l0, some (.int x)] S sh mi mj mr = zRun 57 1 [l0, some (.int x)] (.int x :: S) sh mi mj mr := zr_l (zD_of zk_57 d_57_0 rfl rfl) rfl rfl rfl
theorem q_57_1  : zRun 57 1 L S sh mi mj mr = zRun 57 3 L (.int 97 :: S) sh mi mj mr := zr_p (zD_of zk_57 d_57_1 rfl rfl) rfl
theorem q_57_3  : zRun 57 3 L (.int y :: .int x :: S) sh mi mj mr = if x < y then zRun 57 34 L S sh mi mj mr else zRun 57 6 L S sh mi mj mr := zr_if (off := 31) (P := x < y) (zD_of zk_57 d_57_3 rfl rfl) rfl rfl (by decide)
theorem q_57_6 : zRun 57 6 [l0, some (.int x)] S sh mi mj mr = zRun 57 7 [l0, some (.int x)] (.int x :: S) sh mi mj mr := zr_l (zD_of zk_57 d_57_6 rfl rfl) rfl rfl rfl
theorem q_57_7  : zRun 57 7 L S sh mi mj mr = zRun 57 9 L (.int 100 :: S) sh mi mj mr := zr_p (zD_of zk_57 d_57_7 rfl rfl) rfl
theorem q_57_9  : zRun 57 9 L (.int y :: .int x :: S) sh mi mj mr = if y < x then zRun 57 34 L S sh mi mj mr else zRun 57 12 L S sh mi mj mr := zr_if (off := 25) (P := y < x) (zD_of zk_57 d_57_9 rfl rfl) rfl rfl (by decide)
theorem q_57_12r : zRun 57 12 [some (.ref o), l1] S sh mi mj mr = zRun 57 13 [some (.ref o), l1] (.ref o :: S) sh mi mj mr := zr_l (zD_of zk_57 d_57_12 rfl rfl) rfl rfl rfl
theorem q_57_12n : zRun 57 12 [some (.null), l1] S sh mi mj mr = zRun 57 13 [some (.null), l1] (.null :: S) sh mi mj mr := zr_l (zD_of zk_57 d_57_12 rfl rfl) rfl rfl rfl
theorem q_57_13 (h : zIs sh o 0 4) : zRun 57 13 L (.ref o :: S) sh mi mj mr = zRun 57 16 L (va_rf (mr o 0) :: S) sh mi mj mr := zr_getR (zD_of zk_57 d_57_13 rfl rfl) rfl rfl rfl h
theorem q_57_16  : zRun 57 16 L S sh mi mj mr = zRun 57 17 L (.int 1 :: S) sh mi mj mr := zr_p (zD_of zk_57 d_57_16 rfl rfl) rfl
theorem q_57_17 : zRun 57 17 [l0, some (.int x)] S sh mi mj mr = zRun 57 18 [l0, some (.int x)] (.int x :: S) sh mi mj mr := zr_l (zD_of zk_57 d_57_17 rfl rfl) rfl rfl rfl
theorem q_57_18  : zRun 57 18 L S sh mi mj mr = zRun 57 20 L (.int 97 :: S) sh mi mj mr := zr_p (zD_of zk_57 d_57_18 rfl rfl) rfl
theorem q_57_20  : zRun 57 20 L (.int y :: .int x :: S) sh mi mj mr = zRun 57 21 L (.int (x - y) :: S) sh mi mj mr := zr_p (zD_of zk_57 d_57_20 rfl rfl) rfl
theorem q_57_21  : zRun 57 21 L (.int y :: .int x :: S) sh mi mj mr = zRun 57 22 L (.int (x + y) :: S) sh mi mj mr := zr_p (zD_of zk_57 d_57_21 rfl rfl) rfl
theorem q_57_22  : zRun 57 22 L S sh mi mj mr = zRun 57 23 L (.int 0 :: S) sh mi mj mr := zr_p (zD_of zk_57 d_57_22 rfl rfl) rfl
theorem q_57_23  {x0 x1 : Int32} (hS : zcat S ≤ 8) (h : zIs sh o 0 6) : zRun 57 23 L (.int x1 :: .int x0 :: .ref o :: S) sh mi mj mr = (zCall 75 [.ref o, .int x0, .int x1] sh mi mj mr).bind fun r => zRun 57 26 L (r.1.toList ++ S) r.2.1 r.2.2.1 r.2.2.2.1 r.2.2.2.2 := zr_V (zD_of zk_57 d_57_23 rfl rfl) rfl zk_75 rfl rfl rfl hS h
theorem q_57_26r : zRun 57 26 [some (.ref o), l1] S sh mi mj mr = zRun 57 27 [some (.ref o), l1] (.ref o :: S) sh mi mj mr := zr_l (zD_of zk_57 d_57_26 rfl rfl) rfl rfl rfl
theorem q_57_26n : zRun 57 26 [some (.null), l1] S sh mi mj mr = zRun 57 27 [some (.null), l1] (.null :: S) sh mi mj mr := zr_l (zD_of zk_57 d_57_26 rfl rfl) rfl rfl rfl
theorem q_57_27  : zRun 57 27 L S sh mi mj mr = zRun 57 29 L (.int 6 :: S) sh mi mj mr := zr_p (zD_of zk_57 d_57_27 rfl rfl) rfl
theorem q_57_29 (h : zIs sh o 0 4) : zRun 57 29 L (.int x :: .ref o :: S) sh mi mj mr = zRun 57 32 L S sh (zup mi o 3 x) mj mr := zr_putI (zD_of zk_57 d_57_29 rfl rfl) rfl rfl rfl (Or.inl rfl) h
theorem q_57_32  : zRun 57 32 L S sh mi mj mr = zRun 57 33 L (.int 1 :: S) sh mi mj mr := zr_p (zD_of zk_57 d_57_32 rfl rfl) rfl
theorem q_57_33 (h : x = 0 ∨ x = 1) : zRun 57 33 L ([.int x]) sh mi mj mr = some (some (.int x), sh, mi, mj, mr) := zr_ret (zD_of zk_57 d_57_33 rfl rfl) rfl rfl rfl rfl rfl (if_pos (zna_b h))
theorem q_57_34 : zRun 57 34 [l0, some (.int x)] S sh mi mj mr = zRun 57 35 [l0, some (.int x)] (.int x :: S) sh mi mj mr := zr_l (zD_of zk_57 d_57_34 rfl rfl) rfl rfl rfl
theorem q_57_35  {x0 : Int32} (hS : zcat S ≤ 8) : zRun 57 35 L (.int x0 :: S) sh mi mj mr = (zCall 69 [.int x0] sh mi mj mr).bind fun r => zRun 57 38 L (r.1.toList ++ S) r.2.1 r.2.2.1 r.2.2.2.1 r.2.2.2.2 := zr_S (zD_of zk_57 d_57_35 rfl rfl) rfl zk_69 rfl rfl rfl hS
theorem q_57_38  : zRun 57 38 L (.int x :: S) sh mi mj mr = if x = 0 then zRun 57 59 L S sh mi mj mr else zRun 57 41 L S sh mi mj mr := zr_if (off := 21) (P := x = 0) (zD_of zk_57 d_57_38 rfl rfl) rfl rfl (by decide)
theorem q_57_41r : zRun 57 41 [some (.ref o), l1] S sh mi mj mr = zRun 57 42 [some (.ref o), l1] (.ref o :: S) sh mi mj mr := zr_l (zD_of zk_57 d_57_41 rfl rfl) rfl rfl rfl
theorem q_57_41n : zRun 57 41 [some (.null), l1] S sh mi mj mr = zRun 57 42 [some (.null), l1] (.null :: S) sh mi mj mr := zr_l (zD_of zk_57 d_57_41 rfl rfl) rfl rfl rfl
theorem q_57_42 (h : zIs sh o 0 4) : zRun 57 42 L (.ref o :: S) sh mi mj mr = zRun 57 45 L (va_rf (mr o 0) :: S) sh mi mj mr := zr_getR (zD_of zk_57 d_57_42 rfl rfl) rfl rfl rfl h
theorem q_57_45  : zRun 57 45 L S sh mi mj mr = zRun 57 46 L (.int 0 :: S) sh mi mj mr := zr_p (zD_of zk_57 d_57_45 rfl rfl) rfl
theorem q_57_46  : zRun 57 46 L S sh mi mj mr = zRun 57 47 L (.int 0 :: S) sh mi mj mr := zr_p (zD_of zk_57 d_57_46 rfl rfl) rfl
theorem q_57_47  {x0 x1 : Int32} (hS : zcat S ≤ 8) (h : zIs sh o 0 6) : zRun 57 47 L (.int x1 :: .int x0 :: .ref o :: S) sh mi mj mr = (zCall 75 [.ref o, .int x0, .int x1] sh mi mj mr).bind fun r => zRun 57 50 L (r.1.toList ++ S) r.2.1 r.2.2.1 r.2.2.2.1 r.2.2.2.2 := zr_V (zD_of zk_57 d_57_47 rfl rfl) rfl zk_75 rfl rfl rfl hS h
theorem q_57_50r : zRun 57 50 [some (.ref o), l1] S sh mi mj mr = zRun 57 51 [some (.ref o), l1] (.ref o :: S) sh mi mj mr := zr_l (zD_of zk_57 d_57_50 rfl rfl) rfl rfl rfl
theorem q_57_50n : zRun 57 50 [some (.null), l1] S sh mi mj mr = zRun 57 51 [some (.null), l1] (.null :: S) sh mi mj mr := zr_l (zD_of zk_57 d_57_50 rfl rfl) rfl rfl rfl
theorem q_57_51 : zRun 57 51 [l0, some (.int x)] S sh mi mj mr = zRun 57 52 [l0, some (.int x)] (.int x :: S) sh mi mj mr := zr_l (zD_of zk_57 d_57_51 rfl rfl) rfl rfl rfl
theorem q_57_52  : zRun 57 52 L S sh mi mj mr = zRun 57 54 L (.int 100 :: S) sh mi mj mr := zr_p (zD_of zk_57 d_57_52 rfl rfl) rfl
theorem q_57_54  : zRun 57 54 L S sh mi mj mr = zRun 57 55 L (.int 3 :: S) sh mi mj mr := zr_p (zD_of zk_57 d_57_54 rfl rfl) rfl
theorem q_57_55  {x0 x1 x2 : Int32} (hS : zcat S ≤ 8) (h : zIs sh o 0 4) : zRun 57 55 L (.int x2 :: .int x1 :: .int x0 :: .ref o :: S) sh mi mj mr = (zCall 59 [.ref o, .int x0, .int x1, .int x2] sh mi mj mr).bind fun r => zRun 57 58 L (r.1.toList ++ S) r.2.1 r.2.2.1 r.2.2.2.1 r.2.2.2.2 := zr_V (zD_of zk_57 d_57_55 rfl rfl) rfl zk_59 rfl rfl rfl hS h
theorem q_57_58 (h : x = 0 ∨ x = 1) : zRun 57 58 L ([.int x]) sh mi mj mr = some (some (.int x), sh, mi, mj, mr) := zr_ret (zD_of zk_57 d_57_58 rfl rfl) rfl rfl rfl rfl rfl (if_pos (zna_b h))
theorem q_57_59 : zRun 57 59 [l0, some (.int x)] S sh mi mj mr = zRun 57 60 [l0, some (.int x)] (.int x :: S) sh mi mj mr := zr_l (zD_of zk_57 d_57_59 rfl rfl) rfl rfl rfl
theorem q_57_60 : zRun 57 60 L (.int x :: S) sh mi mj mr = if x = 40 then zRun 57 112 L S sh mi mj mr else if x = 65 then zRun 57 120 L S sh mi mj mr else if x = 71 then zRun 57 141 L S sh mi mj mr else if x = 76 then zRun 57 134 L S sh mi mj mr else if x = 82 then zRun 57 127 L S sh mi mj mr else zRun 57 148 L S sh mi mj mr := by
  by_cases h : x = 40
  · subst h; exact zr_go (off := 52) (zD_of zk_57 d_57_60 rfl rfl) rfl rfl (by decide)
  rw [if_neg h]
  have a40 := zsw_ne (v := 40) h (by decide) (by decide)
  by_cases h : x = 65
  · subst h; exact zr_go (off := 60) (zD_of zk_57 d_57_60 rfl rfl) rfl rfl (by decide)
  rw [if_neg h]
  have a65 := zsw_ne (v := 65) h (by decide) (by decide)
  by_cases h : x = 71
  · subst h; exact zr_go (off := 81) (zD_of zk_57 d_57_60 rfl rfl) rfl rfl (by decide)
  rw [if_neg h]
  have a71 := zsw_ne (v := 71) h (by decide) (by decide)
  by_cases h : x = 76
  · subst h; exact zr_go (off := 74) (zD_of zk_57 d_57_60 rfl rfl) rfl rfl (by decide)
  rw [if_neg h]
  have a76 := zsw_ne (v := 76) h (by decide) (by decide)
  by_cases h : x = 82
  · subst h; exact zr_go (off := 67) (zD_of zk_57 d_57_60 rfl rfl) rfl rfl (by decide)
  rw [if_neg h]
  have a82 := zsw_ne (v := 82) h (by decide) (by decide)
  exact zr_go (S' := S) (off := 88) (zD_of zk_57 d_57_60 rfl rfl) rfl (zlk_out rfl (by simp only [Op.lookupswitch.offset, if_neg (Ne.symm a40), if_neg (Ne.symm a65), if_neg (Ne.symm a71), if_neg (Ne.symm a76), if_neg (Ne.symm a82)])) (by decide)
theorem q_57_112r : zRun 57 112 [some (.ref o), l1] S sh mi mj mr = zRun 57 113 [some (.ref o), l1] (.ref o :: S) sh mi mj mr := zr_l (zD_of zk_57 d_57_112 rfl rfl) rfl rfl rfl
theorem q_57_112n : zRun 57 112 [some (.null), l1] S sh mi mj mr = zRun 57 113 [some (.null), l1] (.null :: S) sh mi mj mr := zr_l (zD_of zk_57 d_57_112 rfl rfl) rfl rfl rfl
theorem q_57_113  : zRun 57 113 L S sh mi mj mr = zRun 57 115 L (.int 16 :: S) sh mi mj mr := zr_p (zD_of zk_57 d_57_113 rfl rfl) rfl
theorem q_57_115  : zRun 57 115 L S sh mi mj mr = zRun 57 116 L (.int 0 :: S) sh mi mj mr := zr_p (zD_of zk_57 d_57_115 rfl rfl) rfl
theorem q_57_116  {x0 x1 : Int32} (hS : zcat S ≤ 8) (h : zIs sh o 0 4) : zRun 57 116 L (.int x1 :: .int x0 :: .ref o :: S) sh mi mj mr = (zCall 66 [.ref o, .int x0, .int x1] sh mi mj mr).bind fun r => zRun 57 119 L (r.1.toList ++ S) r.2.1 r.2.2.1 r.2.2.2.1 r.2.2.2.2 := zr_V (zD_of zk_57 d_57_116 rfl rfl) rfl zk_66 rfl rfl rfl hS h
theorem q_57_119 (h : x = 0 ∨ x = 1) : zRun 57 119 L ([.int x]) sh mi mj mr = some (some (.int x), sh, mi, mj, mr) := zr_ret (zD_of zk_57 d_57_119 rfl rfl) rfl rfl rfl rfl rfl (if_pos (zna_b h))
theorem q_57_120r : zRun 57 120 [some (.ref o), l1] S sh mi mj mr = zRun 57 121 [some (.ref o), l1] (.ref o :: S) sh mi mj mr := zr_l (zD_of zk_57 d_57_120 rfl rfl) rfl rfl rfl
theorem q_57_120n : zRun 57 120 [some (.null), l1] S sh mi mj mr = zRun 57 121 [some (.null), l1] (.null :: S) sh mi mj mr := zr_l (zD_of zk_57 d_57_120 rfl rfl) rfl rfl rfl
theorem q_57_121  : zRun 57 121 L S sh mi mj mr = zRun 57 123 L (.int 12 :: S) sh mi mj mr := zr_p (zD_of zk_57 d_57_121 rfl rfl) rfl
theorem q_57_123  {x0 : Int32} (hS : zcat S ≤ 8) (h : zIs sh o 0 4) : zRun 57 123 L (.int x0 :: .ref o :: S) sh mi mj mr = (zCall 63 [.ref o, .int x0] sh mi mj mr).bind fun r => zRun 57 126 L (r.1.toList ++ S) r.2.1 r.2.2.1 r.2.2.2.1 r.2.2.2.2 := zr_V (zD_of zk_57 d_57_123 rfl rfl) rfl zk_63 rfl rfl rfl hS h
theorem q_57_126 (h : x = 0 ∨ x = 1) : zRun 57 126 L ([.int x]) sh mi mj mr = some (some (.int x), sh, mi, mj, mr) := zr_ret (zD_of zk_57 d_57_126 rfl rfl) rfl rfl rfl rfl rfl (if_pos (zna_b h))
theorem q_57_127r : zRun 57 127 [some (.ref o), l1] S sh mi mj mr = zRun 57 128 [some (.ref o), l1] (.ref o :: S) sh mi mj mr := zr_l (zD_of zk_57 d_57_127 rfl rfl) rfl rfl rfl
theorem q_57_127n : zRun 57 127 [some (.null), l1] S sh mi mj mr = zRun 57 128 [some (.null), l1] (.null :: S) sh mi mj mr := zr_l (zD_of zk_57 d_57_127 rfl rfl) rfl rfl rfl
theorem q_57_128  : zRun 57 128 L S sh mi mj mr = zRun 57 130 L (.int 13 :: S) sh mi mj mr := zr_p (zD_of zk_57 d_57_128 rfl rfl) rfl
theorem q_57_130  {x0 : Int32} (hS : zcat S ≤ 8) (h : zIs sh o 0 4) : zRun 57 130 L (.int x0 :: .ref o :: S) sh mi mj mr = (zCall 63 [.ref o, .int x0] sh mi mj mr).bind fun r => zRun 57 133 L (r.1.toList ++ S) r.2.1 r.2.2.1 r.2.2.2.1 r.2.2.2.2 := zr_V (zD_of zk_57 d_57_130 rfl rfl) rfl zk_63 rfl rfl rfl hS h
theorem q_57_133 (h : x = 0 ∨ x = 1) : zRun 57 133 L ([.int x]) sh mi mj mr = some (some (.int x), sh, mi, mj, mr) := zr_ret (zD_of zk_57 d_57_133 rfl rfl) rfl rfl rfl rfl rfl (if_pos (zna_b h))
theorem q_57_134r : zRun 57 134 [some (.ref o), l1] S sh mi mj mr = zRun 57 135 [some (.ref o), l1] (.ref o :: S) sh mi mj mr := zr_l (zD_of zk_57 d_57_134 rfl rfl) rfl rfl rfl
theorem q_57_134n : zRun 57 134 [some (.null), l1] S sh mi mj mr = zRun 57 135 [some (.null), l1] (.null :: S) sh mi mj mr := zr_l (zD_of zk_57 d_57_134 rfl rfl) rfl rfl rfl
theorem q_57_135  : zRun 57 135 L S sh mi mj mr = zRun 57 137 L (.int 46 :: S) sh mi mj mr := zr_p (zD_of zk_57 d_57_135 rfl rfl) rfl
theorem q_57_137  {x0 : Int32} (hS : zcat S ≤ 8) (h : zIs sh o 0 4) : zRun 57 137 L (.int x0 :: .ref o :: S) sh mi mj mr = (zCall 63 [.ref o, .int x0] sh mi mj mr).bind fun r => zRun 57 140 L (r.1.toList ++ S) r.2.1 r.2.2.1 r.2.2.2.1 r.2.2.2.2 := zr_V (zD_of zk_57 d_57_137 rfl rfl) rfl zk_63 rfl rfl rfl hS h
theorem q_57_140 (h : x = 0 ∨ x = 1) : zRun 57 140 L ([.int x]) sh mi mj mr = some (some (.int x), sh, mi, mj, mr) := zr_ret (zD_of zk_57 d_57_140 rfl rfl) rfl rfl rfl rfl rfl (if_pos (zna_b h))
theorem q_57_141r : zRun 57 141 [some (.ref o), l1] S sh mi mj mr = zRun 57 142 [some (.ref o), l1] (.ref o :: S) sh mi mj mr := zr_l (zD_of zk_57 d_57_141 rfl rfl) rfl rfl rfl
theorem q_57_141n : zRun 57 141 [some (.null), l1] S sh mi mj mr = zRun 57 142 [some (.null), l1] (.null :: S) sh mi mj mr := zr_l (zD_of zk_57 d_57_141 rfl rfl) rfl rfl rfl
theorem q_57_142  : zRun 57 142 L S sh mi mj mr = zRun 57 144 L (.int 47 :: S) sh mi mj mr := zr_p (zD_of zk_57 d_57_142 rfl rfl) rfl
theorem q_57_144  {x0 : Int32} (hS : zcat S ≤ 8) (h : zIs sh o 0 4) : zRun 57 144 L (.int x0 :: .ref o :: S) sh mi mj mr = (zCall 63 [.ref o, .int x0] sh mi mj mr).bind fun r => zRun 57 147 L (r.1.toList ++ S) r.2.1 r.2.2.1 r.2.2.2.1 r.2.2.2.2 := zr_V (zD_of zk_57 d_57_144 rfl rfl) rfl zk_63 rfl rfl rfl hS h
theorem q_57_147 (h : x = 0 ∨ x = 1) : zRun 57 147 L ([.int x]) sh mi mj mr = some (some (.int x), sh, mi, mj, mr) := zr_ret (zD_of zk_57 d_57_147 rfl rfl) rfl rfl rfl rfl rfl (if_pos (zna_b h))
theorem q_57_148  : zRun 57 148 L S sh mi mj mr = zRun 57 149 L (.int 0 :: S) sh mi mj mr := zr_p (zD_of zk_57 d_57_148 rfl rfl) rfl
theorem q_57_149 (h : x = 0 ∨ x = 1) : zRun 57 149 L ([.int x]) sh mi mj mr = some (some (.int x), sh, mi, mj, mr) := zr_ret (zD_of zk_57 d_57_149 rfl rfl) rfl rfl rfl rfl rfl (if_pos (zna_b h))
theorem e_57 {x0 : Int32} : zCall 57 [.ref o, .int x0] sh mi mj mr = zRun 57 0 [some (.ref o), some (.int x0)] [] sh mi mj mr := rfl
theorem d_58_0 : decode cX4_takeInWhole 0 = .ok (.iload_n 1, 1) := by decide +kernel
theorem d_58_1 : decode cX4_takeInWhole 1 = .ok (.bipush 46, 2) := by decide +kernel
theorem d_58_3 : decode cX4_takeInWhole 3 = .ok (.if_icmp .ne 10, 3) := by decide +kernel
theorem d_58_6 : decode cX4_takeInWhole 6 = .ok (.aload_n 0, 1) := by decide +kernel
theorem d_58_7 : decode cX4_takeInWhole 7 = .ok (.iconst 4, 1) := by decide +kernel
theorem d_58_8 : decode cX4_takeInWhole 8 = .ok (.putfield 29, 3) := by decide +kernel
theorem d_58_11 : decode cX4_takeInWhole 11 = .ok (.iconst 1, 1) := by decide +kernel
theorem d_58_12 : decode cX4_takeInWhole 12 = .ok (.ireturn, 1) := by decide +kernel
theorem d_58_13 : decode cX4_takeInWhole 13 = .ok (.aload_n 0, 1) := by decide +kernel
theorem d_58_14 : decode cX4_takeInWhole 14 = .ok (.getfield 12, 3) := by decide +kernel
theorem d_58_17 : decode cX4_takeInWhole 17 = .ok (.invokevirtual 80, 3) := by decide +kernel
theorem d_58_20 : decode cX4_takeInWhole 20 = .ok (.istore_n 2, 1) := by decide +kernel
theorem d_58_21 : decode cX4_takeInWhole 21 = .ok (.iload_n 2, 1) := by decide +kernel
theorem d_58_22 : decode cX4_takeInWhole 22 = .ok (.ifCond .eq 10, 3) := by decide +kernel
theorem d_58_25 : decode cX4_takeInWhole 25 = .ok (.iload_n 2, 1) := by decide +kernel
theorem d_58_26 : decode cX4_takeInWhole 26 = .ok (.sipush 10000, 3) := by decide +kernel
theorem d_58_29 : decode cX4_takeInWhole 29 = .ok (.if_icmp .lt 5, 3) := by decide +kernel
theorem d_58_32 : decode cX4_takeInWhole 32 = .ok (.iconst 0, 1) := by decide +kernel
theorem d_58_33 : decode cX4_takeInWhole 33 = .ok (.ireturn, 1) := by decide +kernel
theorem d_58_34 : decode cX4_takeInWhole 34 = .ok (.aload_n 0, 1) := by decide +kernel
theorem d_58_35 : decode cX4_takeInWhole 35 = .ok (.getfield 12, 3) := by decide +kernel
theorem d_58_38 : decode cX4_takeInWhole 38 = .ok (.iload_n 2, 1) := by decide +kernel
theorem d_58_39 : decode cX4_takeInWhole 39 = .ok (.bipush 10, 2) := by decide +kernel
theorem d_58_41 : decode cX4_takeInWhole 41 = .ok (.imul, 1) := by decide +kernel
theorem d_58_42 : decode cX4_takeInWhole 42 = .ok (.invokevirtual 84, 3) := by decide +kernel
theorem d_58_45 : decode cX4_takeInWhole 45 = .ok (.aload_n 0, 1) := by decide +kernel
theorem d_58_46 : decode cX4_takeInWhole 46 = .ok (.iload_n 1, 1) := by decide +kernel
theorem d_58_47 : decode cX4_takeInWhole 47 = .ok (.bipush 100, 2) := by decide +kernel
theorem d_58_49 : decode cX4_takeInWhole 49 = .ok (.iconst 3, 1) := by decide +kernel
theorem d_58_50 : decode cX4_takeInWhole 50 = .ok (.invokevirtual 65, 3) := by decide +kernel
theorem d_58_53 : decode cX4_takeInWhole 53 = .ok (.ireturn, 1) := by decide +kernel
theorem q_58_0 : zRun 58 0 [l0, some (.int x), l2] S sh mi mj mr = zRun 58 1 [l0, some (.int x), l2] (.int x :: S) sh mi mj mr := zr_l (zD_of zk_58 d_58_0 rfl rfl) rfl rfl rfl
theorem q_58_1  : zRun 58 1 L S sh mi mj mr = zRun 58 3 L (.int 46 :: S) sh mi mj mr := zr_p (zD_of zk_58 d_58_1 rfl rfl) rfl
theorem q_58_3  : zRun 58 3 L (.int y :: .int x :: S) sh mi mj mr = if ¬ x = y then zRun 58 13 L S sh mi mj mr else zRun 58 6 L S sh mi mj mr := zr_if (off := 10) (P := ¬ x = y) (zD_of zk_58 d_58_3 rfl rfl) rfl rfl (by decide)
theorem q_58_6r : zRun 58 6 [some (.ref o), l1, l2] S sh mi mj mr = zRun 58 7 [some (.ref o), l1, l2] (.ref o :: S) sh mi mj mr := zr_l (zD_of zk_58 d_58_6 rfl rfl) rfl rfl rfl
theorem q_58_6n : zRun 58 6 [some (.null), l1, l2] S sh mi mj mr = zRun 58 7 [some (.null), l1, l2] (.null :: S) sh mi mj mr := zr_l (zD_of zk_58 d_58_6 rfl rfl) rfl rfl rfl
theorem q_58_7  : zRun 58 7 L S sh mi mj mr = zRun 58 8 L (.int 4 :: S) sh mi mj mr := zr_p (zD_of zk_58 d_58_7 rfl rfl) rfl
theorem q_58_8 (h : zIs sh o 0 4) : zRun 58 8 L (.int x :: .ref o :: S) sh mi mj mr = zRun 58 11 L S sh (zup mi o 3 x) mj mr := zr_putI (zD_of zk_58 d_58_8 rfl rfl) rfl rfl rfl (Or.inl rfl) h
theorem q_58_11  : zRun 58 11 L S sh mi mj mr = zRun 58 12 L (.int 1 :: S) sh mi mj mr := zr_p (zD_of zk_58 d_58_11 rfl rfl) rfl
theorem q_58_12 (h : x = 0 ∨ x = 1) : zRun 58 12 L ([.int x]) sh mi mj mr = some (some (.int x), sh, mi, mj, mr) := zr_ret (zD_of zk_58 d_58_12 rfl rfl) rfl rfl rfl rfl rfl (if_pos (zna_b h))
theorem q_58_13r : zRun 58 13 [some (.ref o), l1, l2] S sh mi mj mr = zRun 58 14 [some (.ref o), l1, l2] (.ref o :: S) sh mi mj mr := zr_l (zD_of zk_58 d_58_13 rfl rfl) rfl rfl rfl
theorem q_58_13n : zRun 58 13 [some (.null), l1, l2] S sh mi mj mr = zRun 58 14 [some (.null), l1, l2] (.null :: S) sh mi mj mr := zr_l (zD_of zk_58 d_58_13 rfl rfl) rfl rfl rfl
theorem q_58_14 (h : zIs sh o 0 4) : zRun 58 14 L (.ref o :: S) sh mi mj mr = zRun 58 17 L (va_rf (mr o 0) :: S) sh mi mj mr := zr_getR (zD_of zk_58 d_58_14 rfl rfl) rfl rfl rfl h
theorem q_58_17  (hS : zcat S ≤ 8) (h : zIs sh o 0 6) : zRun 58 17 L (.ref o :: S) sh mi mj mr = (zCall 76 [.ref o] sh mi mj mr).bind fun r => zRun 58 20 L (r.1.toList ++ S) r.2.1 r.2.2.1 r.2.2.2.1 r.2.2.2.2 := zr_V (zD_of zk_58 d_58_17 rfl rfl) rfl zk_76 rfl rfl rfl hS h
theorem q_58_20 : zRun 58 20 [l0, l1, l2] (.int x :: S) sh mi mj mr = zRun 58 21 [l0, zk2 l1, some (.int x)] S sh mi mj mr := zr_s1 (i := 2) (v := .int x) (L := [l0, l1, l2]) (zD_of zk_58 d_58_20 rfl rfl) rfl rfl rfl rfl
theorem q_58_21 : zRun 58 21 [l0, l1, some (.int x)] S sh mi mj mr = zRun 58 22 [l0, l1, some (.int x)] (.int x :: S) sh mi mj mr := zr_l (zD_of zk_58 d_58_21 rfl rfl) rfl rfl rfl
theorem q_58_22  : zRun 58 22 L (.int x :: S) sh mi mj mr = if x = 0 then zRun 58 32 L S sh mi mj mr else zRun 58 25 L S sh mi mj mr := zr_if (off := 10) (P := x = 0) (zD_of zk_58 d_58_22 rfl rfl) rfl rfl (by decide)
theorem q_58_25 : zRun 58 25 [l0, l1, some (.int x)] S sh mi mj mr = zRun 58 26 [l0, l1, some (.int x)] (.int x :: S) sh mi mj mr := zr_l (zD_of zk_58 d_58_25 rfl rfl) rfl rfl rfl
theorem q_58_26  : zRun 58 26 L S sh mi mj mr = zRun 58 29 L (.int 10000 :: S) sh mi mj mr := zr_p (zD_of zk_58 d_58_26 rfl rfl) rfl
theorem q_58_29  : zRun 58 29 L (.int y :: .int x :: S) sh mi mj mr = if x < y then zRun 58 34 L S sh mi mj mr else zRun 58 32 L S sh mi mj mr := zr_if (off := 5) (P := x < y) (zD_of zk_58 d_58_29 rfl rfl) rfl rfl (by decide)
theorem q_58_32  : zRun 58 32 L S sh mi mj mr = zRun 58 33 L (.int 0 :: S) sh mi mj mr := zr_p (zD_of zk_58 d_58_32 rfl rfl) rfl
theorem q_58_33 (h : x = 0 ∨ x = 1) : zRun 58 33 L ([.int x]) sh mi mj mr = some (some (.int x), sh, mi, mj, mr) := zr_ret (zD_of zk_58 d_58_33 rfl rfl) rfl rfl rfl rfl rfl (if_pos (zna_b h))
theorem q_58_34r : zRun 58 34 [some (.ref o), l1, l2] S sh mi mj mr = zRun 58 35 [some (.ref o), l1, l2] (.ref o :: S) sh mi mj mr := zr_l (zD_of zk_58 d_58_34 rfl rfl) rfl rfl rfl
theorem q_58_34n : zRun 58 34 [some (.null), l1, l2] S sh mi mj mr = zRun 58 35 [some (.null), l1, l2] (.null :: S) sh mi mj mr := zr_l (zD_of zk_58 d_58_34 rfl rfl) rfl rfl rfl
theorem q_58_35 (h : zIs sh o 0 4) : zRun 58 35 L (.ref o :: S) sh mi mj mr = zRun 58 38 L (va_rf (mr o 0) :: S) sh mi mj mr := zr_getR (zD_of zk_58 d_58_35 rfl rfl) rfl rfl rfl h
theorem q_58_38 : zRun 58 38 [l0, l1, some (.int x)] S sh mi mj mr = zRun 58 39 [l0, l1, some (.int x)] (.int x :: S) sh mi mj mr := zr_l (zD_of zk_58 d_58_38 rfl rfl) rfl rfl rfl
theorem q_58_39  : zRun 58 39 L S sh mi mj mr = zRun 58 41 L (.int 10 :: S) sh mi mj mr := zr_p (zD_of zk_58 d_58_39 rfl rfl) rfl
theorem q_58_41  : zRun 58 41 L (.int y :: .int x :: S) sh mi mj mr = zRun 58 42 L (.int (x * y) :: S) sh mi mj mr := zr_p (zD_of zk_58 d_58_41 rfl rfl) rfl
theorem q_58_42  {x0 : Int32} (hS : zcat S ≤ 8) (h : zIs sh o 0 6) : zRun 58 42 L (.int x0 :: .ref o :: S) sh mi mj mr = (zCall 77 [.ref o, .int x0] sh mi mj mr).bind fun r => zRun 58 45 L (r.1.toList ++ S) r.2.1 r.2.2.1 r.2.2.2.1 r.2.2.2.2 := zr_V (zD_of zk_58 d_58_42 rfl rfl) rfl zk_77 rfl rfl rfl hS h
theorem q_58_45r : zRun 58 45 [some (.ref o), l1, l2] S sh mi mj mr = zRun 58 46 [some (.ref o), l1, l2] (.ref o :: S) sh mi mj mr := zr_l (zD_of zk_58 d_58_45 rfl rfl) rfl rfl rfl
theorem q_58_45n : zRun 58 45 [some (.null), l1, l2] S sh mi mj mr = zRun 58 46 [some (.null), l1, l2] (.null :: S) sh mi mj mr := zr_l (zD_of zk_58 d_58_45 rfl rfl) rfl rfl rfl
theorem q_58_46 : zRun 58 46 [l0, some (.int x), l2] S sh mi mj mr = zRun 58 47 [l0, some (.int x), l2] (.int x :: S) sh mi mj mr := zr_l (zD_of zk_58 d_58_46 rfl rfl) rfl rfl rfl
theorem q_58_47  : zRun 58 47 L S sh mi mj mr = zRun 58 49 L (.int 100 :: S) sh mi mj mr := zr_p (zD_of zk_58 d_58_47 rfl rfl) rfl
theorem q_58_49  : zRun 58 49 L S sh mi mj mr = zRun 58 50 L (.int 3 :: S) sh mi mj mr := zr_p (zD_of zk_58 d_58_49 rfl rfl) rfl
theorem q_58_50  {x0 x1 x2 : Int32} (hS : zcat S ≤ 8) (h : zIs sh o 0 4) : zRun 58 50 L (.int x2 :: .int x1 :: .int x0 :: .ref o :: S) sh mi mj mr = (zCall 59 [.ref o, .int x0, .int x1, .int x2] sh mi mj mr).bind fun r => zRun 58 53 L (r.1.toList ++ S) r.2.1 r.2.2.1 r.2.2.2.1 r.2.2.2.2 := zr_V (zD_of zk_58 d_58_50 rfl rfl) rfl zk_59 rfl rfl rfl hS h
theorem q_58_53 (h : x = 0 ∨ x = 1) : zRun 58 53 L ([.int x]) sh mi mj mr = some (some (.int x), sh, mi, mj, mr) := zr_ret (zD_of zk_58 d_58_53 rfl rfl) rfl rfl rfl rfl rfl (if_pos (zna_b h))
theorem e_58 {x0 : Int32} : zCall 58 [.ref o, .int x0] sh mi mj mr = zRun 58 0 [some (.ref o), some (.int x0), none] [] sh mi mj mr := rfl
theorem d_59_0 : decode cX4_addDigit 0 = .ok (.aload_n 0, 1) := by decide +kernel
theorem d_59_1 : decode cX4_addDigit 1 = .ok (.getfield 12, 3) := by decide +kernel
theorem d_59_4 : decode cX4_addDigit 4 = .ok (.aload_n 0, 1) := by decide +kernel
theorem d_59_5 : decode cX4_addDigit 5 = .ok (.getfield 12, 3) := by decide +kernel
theorem d_59_8 : decode cX4_addDigit 8 = .ok (.invokevirtual 80, 3) := by decide +kernel
theorem d_59_11 : decode cX4_addDigit 11 = .ok (.iload_n 1, 1) := by decide +kernel
theorem d_59_12 : decode cX4_addDigit 12 = .ok (.bipush 48, 2) := by decide +kernel
theorem d_59_14 : decode cX4_addDigit 14 = .ok (.isub, 1) := by decide +kernel
theorem d_59_15 : decode cX4_addDigit 15 = .ok (.iload_n 2, 1) := by decide +kernel
theorem d_59_16 : decode cX4_addDigit 16 = .ok (.imul, 1) := by decide +kernel
theorem d_59_17 : decode cX4_addDigit 17 = .ok (.iadd, 1) := by decide +kernel
theorem d_59_18 : decode cX4_addDigit 18 = .ok (.invokevirtual 84, 3) := by decide +kernel
theorem d_59_21 : decode cX4_addDigit 21 = .ok (.aload_n 0, 1) := by decide +kernel
theorem d_59_22 : decode cX4_addDigit 22 = .ok (.iload_n 3, 1) := by decide +kernel
theorem d_59_23 : decode cX4_addDigit 23 = .ok (.putfield 29, 3) := by decide +kernel
theorem d_59_26 : decode cX4_addDigit 26 = .ok (.iconst 1, 1) := by decide +kernel
theorem d_59_27 : decode cX4_addDigit 27 = .ok (.ireturn, 1) := by decide +kernel
theorem q_59_0r : zRun 59 0 [some (.ref o), l1, l2, l3] S sh mi mj mr = zRun 59 1 [some (.ref o), l1, l2, l3] (.ref o :: S) sh mi mj mr := zr_l (zD_of zk_59 d_59_0 rfl rfl) rfl rfl rfl
theorem q_59_0n : zRun 59 0 [some (.null), l1, l2, l3] S sh mi mj mr = zRun 59 1 [some (.null), l1, l2, l3] (.null :: S) sh mi mj mr := zr_l (zD_of zk_59 d_59_0 rfl rfl) rfl rfl rfl
theorem q_59_1 (h : zIs sh o 0 4) : zRun 59 1 L (.ref o :: S) sh mi mj mr = zRun 59 4 L (va_rf (mr o 0) :: S) sh mi mj mr := zr_getR (zD_of zk_59 d_59_1 rfl rfl) rfl rfl rfl h
theorem q_59_4r : zRun 59 4 [some (.ref o), l1, l2, l3] S sh mi mj mr = zRun 59 5 [some (.ref o), l1, l2, l3] (.ref o :: S) sh mi mj mr := zr_l (zD_of zk_59 d_59_4 rfl rfl) rfl rfl rfl
theorem q_59_4n : zRun 59 4 [some (.null), l1, l2, l3] S sh mi mj mr = zRun 59 5 [some (.null), l1, l2, l3] (.null :: S) sh mi mj mr := zr_l (zD_of zk_59 d_59_4 rfl rfl) rfl rfl rfl
theorem q_59_5 (h : zIs sh o 0 4) : zRun 59 5 L (.ref o :: S) sh mi mj mr = zRun 59 8 L (va_rf (mr o 0) :: S) sh mi mj mr := zr_getR (zD_of zk_59 d_59_5 rfl rfl) rfl rfl rfl h
theorem q_59_8  (hS : zcat S ≤ 8) (h : zIs sh o 0 6) : zRun 59 8 L (.ref o :: S) sh mi mj mr = (zCall 76 [.ref o] sh mi mj mr).bind fun r => zRun 59 11 L (r.1.toList ++ S) r.2.1 r.2.2.1 r.2.2.2.1 r.2.2.2.2 := zr_V (zD_of zk_59 d_59_8 rfl rfl) rfl zk_76 rfl rfl rfl hS h
theorem q_59_11 : zRun 59 11 [l0, some (.int x), l2, l3] S sh mi mj mr = zRun 59 12 [l0, some (.int x), l2, l3] (.int x :: S) sh mi mj mr := zr_l (zD_of zk_59 d_59_11 rfl rfl) rfl rfl rfl
theorem q_59_12  : zRun 59 12 L S sh mi mj mr = zRun 59 14 L (.int 48 :: S) sh mi mj mr := zr_p (zD_of zk_59 d_59_12 rfl rfl) rfl
theorem q_59_14  : zRun 59 14 L (.int y :: .int x :: S) sh mi mj mr = zRun 59 15 L (.int (x - y) :: S) sh mi mj mr := zr_p (zD_of zk_59 d_59_14 rfl rfl) rfl
theorem q_59_15 : zRun 59 15 [l0, l1, some (.int x), l3] S sh mi mj mr = zRun 59 16 [l0, l1, some (.int x), l3] (.int x :: S) sh mi mj mr := zr_l (zD_of zk_59 d_59_15 rfl rfl) rfl rfl rfl
theorem q_59_16  : zRun 59 16 L (.int y :: .int x :: S) sh mi mj mr = zRun 59 17 L (.int (x * y) :: S) sh mi mj mr := zr_p (zD_of zk_59 d_59_16 rfl rfl) rfl
theorem q_59_17  : zRun 59 17 L (.int y :: .int x :: S) sh mi mj mr = zRun 59 18 L (.int (x + y) :: S) sh mi mj mr := zr_p (zD_of zk_59 d_59_17 rfl rfl) rfl
theorem q_59_18  {x0 : Int32} (hS : zcat S ≤ 8) (h : zIs sh o 0 6) : zRun 59 18 L (.int x0 :: .ref o :: S) sh mi mj mr = (zCall 77 [.ref o, .int x0] sh mi mj mr).bind fun r => zRun 59 21 L (r.1.toList ++ S) r.2.1 r.2.2.1 r.2.2.2.1 r.2.2.2.2 := zr_V (zD_of zk_59 d_59_18 rfl rfl) rfl zk_77 rfl rfl rfl hS h
theorem q_59_21r : zRun 59 21 [some (.ref o), l1, l2, l3] S sh mi mj mr = zRun 59 22 [some (.ref o), l1, l2, l3] (.ref o :: S) sh mi mj mr := zr_l (zD_of zk_59 d_59_21 rfl rfl) rfl rfl rfl
theorem q_59_21n : zRun 59 21 [some (.null), l1, l2, l3] S sh mi mj mr = zRun 59 22 [some (.null), l1, l2, l3] (.null :: S) sh mi mj mr := zr_l (zD_of zk_59 d_59_21 rfl rfl) rfl rfl rfl
theorem q_59_22 : zRun 59 22 [l0, l1, l2, some (.int x)] S sh mi mj mr = zRun 59 23 [l0, l1, l2, some (.int x)] (.int x :: S) sh mi mj mr := zr_l (zD_of zk_59 d_59_22 rfl rfl) rfl rfl rfl
theorem q_59_23 (h : zIs sh o 0 4) : zRun 59 23 L (.int x :: .ref o :: S) sh mi mj mr = zRun 59 26 L S sh (zup mi o 3 x) mj mr := zr_putI (zD_of zk_59 d_59_23 rfl rfl) rfl rfl rfl (Or.inl rfl) h
theorem q_59_26  : zRun 59 26 L S sh mi mj mr = zRun 59 27 L (.int 1 :: S) sh mi mj mr := zr_p (zD_of zk_59 d_59_26 rfl rfl) rfl
theorem q_59_27 (h : x = 0 ∨ x = 1) : zRun 59 27 L ([.int x]) sh mi mj mr = some (some (.int x), sh, mi, mj, mr) := zr_ret (zD_of zk_59 d_59_27 rfl rfl) rfl rfl rfl rfl rfl (if_pos (zna_b h))
theorem e_59 {x0 x1 x2 : Int32} : zCall 59 [.ref o, .int x0, .int x1, .int x2] sh mi mj mr = zRun 59 0 [some (.ref o), some (.int x0), some (.int x1), some (.int x2)] [] sh mi mj mr := rfl
theorem d_60_0 : decode cX4_takePower 0 = .ok (.iload_n 1, 1) := by decide +kernel
theorem d_60_1 : decode cX4_takePower 1 = .ok (.bipush 50, 2) := by decide +kernel
theorem d_60_3 : decode cX4_takePower 3 = .ok (.if_icmp .lt 9, 3) := by decide +kernel
theorem d_60_6 : decode cX4_takePower 6 = .ok (.iload_n 1, 1) := by decide +kernel
theorem d_60_7 : decode cX4_takePower 7 = .ok (.bipush 52, 2) := by decide +kernel
theorem d_60_9 : decode cX4_takePower 9 = .ok (.if_icmp .le 5, 3) := by decide +kernel
theorem d_60_12 : decode cX4_takePower 12 = .ok (.iconst 0, 1) := by decide +kernel
theorem d_60_13 : decode cX4_takePower 13 = .ok (.ireturn, 1) := by decide +kernel
theorem d_60_14 : decode cX4_takePower 14 = .ok (.iload_n 1, 1) := by decide +kernel
theorem d_60_15 : decode cX4_takePower 15 = .ok (.bipush 51, 2) := by decide +kernel
theorem d_60_17 : decode cX4_takePower 17 = .ok (.if_icmp .ne 13, 3) := by decide +kernel
theorem d_60_20 : decode cX4_takePower 20 = .ok (.aload_n 0, 1) := by decide +kernel
theorem d_60_21 : decode cX4_takePower 21 = .ok (.getfield 12, 3) := by decide +kernel
theorem d_60_24 : decode cX4_takePower 24 = .ok (.bipush 8, 2) := by decide +kernel
theorem d_60_26 : decode cX4_takePower 26 = .ok (.iconst 0, 1) := by decide +kernel
theorem d_60_27 : decode cX4_takePower 27 = .ok (.invokevirtual 72, 3) := by decide +kernel
theorem d_60_30 : decode cX4_takePower 30 = .ok (.aload_n 0, 1) := by decide +kernel
theorem d_60_31 : decode cX4_takePower 31 = .ok (.getfield 12, 3) := by decide +kernel
theorem d_60_34 : decode cX4_takePower 34 = .ok (.bipush 10, 2) := by decide +kernel
theorem d_60_36 : decode cX4_takePower 36 = .ok (.iconst 0, 1) := by decide +kernel
theorem d_60_37 : decode cX4_takePower 37 = .ok (.invokevirtual 72, 3) := by decide +kernel
theorem d_60_40 : decode cX4_takePower 40 = .ok (.iload_n 1, 1) := by decide +kernel
theorem d_60_41 : decode cX4_takePower 41 = .ok (.bipush 51, 2) := by decide +kernel
theorem d_60_43 : decode cX4_takePower 43 = .ok (.if_icmp .ne 13, 3) := by decide +kernel
theorem d_60_46 : decode cX4_takePower 46 = .ok (.aload_n 0, 1) := by decide +kernel
theorem d_60_47 : decode cX4_takePower 47 = .ok (.getfield 12, 3) := by decide +kernel
theorem d_60_50 : decode cX4_takePower 50 = .ok (.bipush 9, 2) := by decide +kernel
theorem d_60_52 : decode cX4_takePower 52 = .ok (.iconst 0, 1) := by decide +kernel
theorem d_60_53 : decode cX4_takePower 53 = .ok (.invokevirtual 72, 3) := by decide +kernel
theorem d_60_56 : decode cX4_takePower 56 = .ok (.iload_n 1, 1) := by decide +kernel
theorem d_60_57 : decode cX4_takePower 57 = .ok (.bipush 52, 2) := by decide +kernel
theorem d_60_59 : decode cX4_takePower 59 = .ok (.if_icmp .ne 13, 3) := by decide +kernel
theorem d_60_62 : decode cX4_takePower 62 = .ok (.aload_n 0, 1) := by decide +kernel
theorem d_60_63 : decode cX4_takePower 63 = .ok (.getfield 12, 3) := by decide +kernel
theorem d_60_66 : decode cX4_takePower 66 = .ok (.bipush 10, 2) := by decide +kernel
theorem d_60_68 : decode cX4_takePower 68 = .ok (.iconst 0, 1) := by decide +kernel
theorem d_60_69 : decode cX4_takePower 69 = .ok (.invokevirtual 72, 3) := by decide +kernel
theorem d_60_72 : decode cX4_takePower 72 = .ok (.aload_n 0, 1) := by decide +kernel
theorem d_60_73 : decode cX4_takePower 73 = .ok (.bipush 8, 2) := by decide +kernel
theorem d_60_75 : decode cX4_takePower 75 = .ok (.putfield 29, 3) := by decide +kernel
theorem d_60_78 : decode cX4_takePower 78 = .ok (.iconst 1, 1) := by decide +kernel
theorem d_60_79 : decode cX4_takePower 79 = .ok (.ireturn, 1) := by decide +kernel
theorem q_60_0 : zRun 60 0 [l0, some (.int x)] S sh mi mj mr = zRun 60 1 [l0, some (.int x)] (.int x :: S) sh mi mj mr := zr_l (zD_of zk_60 d_60_0 rfl rfl) rfl rfl rfl
theorem q_60_1  : zRun 60 1 L S sh mi mj mr = zRun 60 3 L (.int 50 :: S) sh mi mj mr := zr_p (zD_of zk_60 d_60_1 rfl rfl) rfl
theorem q_60_3  : zRun 60 3 L (.int y :: .int x :: S) sh mi mj mr = if x < y then zRun 60 12 L S sh mi mj mr else zRun 60 6 L S sh mi mj mr := zr_if (off := 9) (P := x < y) (zD_of zk_60 d_60_3 rfl rfl) rfl rfl (by decide)
theorem q_60_6 : zRun 60 6 [l0, some (.int x)] S sh mi mj mr = zRun 60 7 [l0, some (.int x)] (.int x :: S) sh mi mj mr := zr_l (zD_of zk_60 d_60_6 rfl rfl) rfl rfl rfl
theorem q_60_7  : zRun 60 7 L S sh mi mj mr = zRun 60 9 L (.int 52 :: S) sh mi mj mr := zr_p (zD_of zk_60 d_60_7 rfl rfl) rfl
theorem q_60_9  : zRun 60 9 L (.int y :: .int x :: S) sh mi mj mr = if x ≤ y then zRun 60 14 L S sh mi mj mr else zRun 60 12 L S sh mi mj mr := zr_if (off := 5) (P := x ≤ y) (zD_of zk_60 d_60_9 rfl rfl) rfl rfl (by decide)
theorem q_60_12  : zRun 60 12 L S sh mi mj mr = zRun 60 13 L (.int 0 :: S) sh mi mj mr := zr_p (zD_of zk_60 d_60_12 rfl rfl) rfl
theorem q_60_13 (h : x = 0 ∨ x = 1) : zRun 60 13 L ([.int x]) sh mi mj mr = some (some (.int x), sh, mi, mj, mr) := zr_ret (zD_of zk_60 d_60_13 rfl rfl) rfl rfl rfl rfl rfl (if_pos (zna_b h))
theorem q_60_14 : zRun 60 14 [l0, some (.int x)] S sh mi mj mr = zRun 60 15 [l0, some (.int x)] (.int x :: S) sh mi mj mr := zr_l (zD_of zk_60 d_60_14 rfl rfl) rfl rfl rfl
theorem q_60_15  : zRun 60 15 L S sh mi mj mr = zRun 60 17 L (.int 51 :: S) sh mi mj mr := zr_p (zD_of zk_60 d_60_15 rfl rfl) rfl
theorem q_60_17  : zRun 60 17 L (.int y :: .int x :: S) sh mi mj mr = if ¬ x = y then zRun 60 30 L S sh mi mj mr else zRun 60 20 L S sh mi mj mr := zr_if (off := 13) (P := ¬ x = y) (zD_of zk_60 d_60_17 rfl rfl) rfl rfl (by decide)
theorem q_60_20r : zRun 60 20 [some (.ref o), l1] S sh mi mj mr = zRun 60 21 [some (.ref o), l1] (.ref o :: S) sh mi mj mr := zr_l (zD_of zk_60 d_60_20 rfl rfl) rfl rfl rfl
theorem q_60_20n : zRun 60 20 [some (.null), l1] S sh mi mj mr = zRun 60 21 [some (.null), l1] (.null :: S) sh mi mj mr := zr_l (zD_of zk_60 d_60_20 rfl rfl) rfl rfl rfl
theorem q_60_21 (h : zIs sh o 0 4) : zRun 60 21 L (.ref o :: S) sh mi mj mr = zRun 60 24 L (va_rf (mr o 0) :: S) sh mi mj mr := zr_getR (zD_of zk_60 d_60_21 rfl rfl) rfl rfl rfl h
theorem q_60_24  : zRun 60 24 L S sh mi mj mr = zRun 60 26 L (.int 8 :: S) sh mi mj mr := zr_p (zD_of zk_60 d_60_24 rfl rfl) rfl
theorem q_60_26  : zRun 60 26 L S sh mi mj mr = zRun 60 27 L (.int 0 :: S) sh mi mj mr := zr_p (zD_of zk_60 d_60_26 rfl rfl) rfl
theorem q_60_27  {x0 x1 : Int32} (hS : zcat S ≤ 8) (h : zIs sh o 0 6) : zRun 60 27 L (.int x1 :: .int x0 :: .ref o :: S) sh mi mj mr = (zCall 75 [.ref o, .int x0, .int x1] sh mi mj mr).bind fun r => zRun 60 30 L (r.1.toList ++ S) r.2.1 r.2.2.1 r.2.2.2.1 r.2.2.2.2 := zr_V (zD_of zk_60 d_60_27 rfl rfl) rfl zk_75 rfl rfl rfl hS h
theorem q_60_30r : zRun 60 30 [some (.ref o), l1] S sh mi mj mr = zRun 60 31 [some (.ref o), l1] (.ref o :: S) sh mi mj mr := zr_l (zD_of zk_60 d_60_30 rfl rfl) rfl rfl rfl
theorem q_60_30n : zRun 60 30 [some (.null), l1] S sh mi mj mr = zRun 60 31 [some (.null), l1] (.null :: S) sh mi mj mr := zr_l (zD_of zk_60 d_60_30 rfl rfl) rfl rfl rfl
theorem q_60_31 (h : zIs sh o 0 4) : zRun 60 31 L (.ref o :: S) sh mi mj mr = zRun 60 34 L (va_rf (mr o 0) :: S) sh mi mj mr := zr_getR (zD_of zk_60 d_60_31 rfl rfl) rfl rfl rfl h
theorem q_60_34  : zRun 60 34 L S sh mi mj mr = zRun 60 36 L (.int 10 :: S) sh mi mj mr := zr_p (zD_of zk_60 d_60_34 rfl rfl) rfl
theorem q_60_36  : zRun 60 36 L S sh mi mj mr = zRun 60 37 L (.int 0 :: S) sh mi mj mr := zr_p (zD_of zk_60 d_60_36 rfl rfl) rfl
theorem q_60_37  {x0 x1 : Int32} (hS : zcat S ≤ 8) (h : zIs sh o 0 6) : zRun 60 37 L (.int x1 :: .int x0 :: .ref o :: S) sh mi mj mr = (zCall 75 [.ref o, .int x0, .int x1] sh mi mj mr).bind fun r => zRun 60 40 L (r.1.toList ++ S) r.2.1 r.2.2.1 r.2.2.2.1 r.2.2.2.2 := zr_V (zD_of zk_60 d_60_37 rfl rfl) rfl zk_75 rfl rfl rfl hS h
theorem q_60_40 : zRun 60 40 [l0, some (.int x)] S sh mi mj mr = zRun 60 41 [l0, some (.int x)] (.int x :: S) sh mi mj mr := zr_l (zD_of zk_60 d_60_40 rfl rfl) rfl rfl rfl
theorem q_60_41  : zRun 60 41 L S sh mi mj mr = zRun 60 43 L (.int 51 :: S) sh mi mj mr := zr_p (zD_of zk_60 d_60_41 rfl rfl) rfl
theorem q_60_43  : zRun 60 43 L (.int y :: .int x :: S) sh mi mj mr = if ¬ x = y then zRun 60 56 L S sh mi mj mr else zRun 60 46 L S sh mi mj mr := zr_if (off := 13) (P := ¬ x = y) (zD_of zk_60 d_60_43 rfl rfl) rfl rfl (by decide)
theorem q_60_46r : zRun 60 46 [some (.ref o), l1] S sh mi mj mr = zRun 60 47 [some (.ref o), l1] (.ref o :: S) sh mi mj mr := zr_l (zD_of zk_60 d_60_46 rfl rfl) rfl rfl rfl
theorem q_60_46n : zRun 60 46 [some (.null), l1] S sh mi mj mr = zRun 60 47 [some (.null), l1] (.null :: S) sh mi mj mr := zr_l (zD_of zk_60 d_60_46 rfl rfl) rfl rfl rfl
theorem q_60_47 (h : zIs sh o 0 4) : zRun 60 47 L (.ref o :: S) sh mi mj mr = zRun 60 50 L (va_rf (mr o 0) :: S) sh mi mj mr := zr_getR (zD_of zk_60 d_60_47 rfl rfl) rfl rfl rfl h
theorem q_60_50  : zRun 60 50 L S sh mi mj mr = zRun 60 52 L (.int 9 :: S) sh mi mj mr := zr_p (zD_of zk_60 d_60_50 rfl rfl) rfl
theorem q_60_52  : zRun 60 52 L S sh mi mj mr = zRun 60 53 L (.int 0 :: S) sh mi mj mr := zr_p (zD_of zk_60 d_60_52 rfl rfl) rfl
theorem q_60_53  {x0 x1 : Int32} (hS : zcat S ≤ 8) (h : zIs sh o 0 6) : zRun 60 53 L (.int x1 :: .int x0 :: .ref o :: S) sh mi mj mr = (zCall 75 [.ref o, .int x0, .int x1] sh mi mj mr).bind fun r => zRun 60 56 L (r.1.toList ++ S) r.2.1 r.2.2.1 r.2.2.2.1 r.2.2.2.2 := zr_V (zD_of zk_60 d_60_53 rfl rfl) rfl zk_75 rfl rfl rfl hS h
theorem q_60_56 : zRun 60 56 [l0, some (.int x)] S sh mi mj mr = zRun 60 57 [l0, some (.int x)] (.int x :: S) sh mi mj mr := zr_l (zD_of zk_60 d_60_56 rfl rfl) rfl rfl rfl
theorem q_60_57  : zRun 60 57 L S sh mi mj mr = zRun 60 59 L (.int 52 :: S) sh mi mj mr := zr_p (zD_of zk_60 d_60_57 rfl rfl) rfl
theorem q_60_59  : zRun 60 59 L (.int y :: .int x :: S) sh mi mj mr = if ¬ x = y then zRun 60 72 L S sh mi mj mr else zRun 60 62 L S sh mi mj mr := zr_if (off := 13) (P := ¬ x = y) (zD_of zk_60 d_60_59 rfl rfl) rfl rfl (by decide)
theorem q_60_62r : zRun 60 62 [some (.ref o), l1] S sh mi mj mr = zRun 60 63 [some (.ref o), l1] (.ref o :: S) sh mi mj mr := zr_l (zD_of zk_60 d_60_62 rfl rfl) rfl rfl rfl
theorem q_60_62n : zRun 60 62 [some (.null), l1] S sh mi mj mr = zRun 60 63 [some (.null), l1] (.null :: S) sh mi mj mr := zr_l (zD_of zk_60 d_60_62 rfl rfl) rfl rfl rfl
theorem q_60_63 (h : zIs sh o 0 4) : zRun 60 63 L (.ref o :: S) sh mi mj mr = zRun 60 66 L (va_rf (mr o 0) :: S) sh mi mj mr := zr_getR (zD_of zk_60 d_60_63 rfl rfl) rfl rfl rfl h
theorem q_60_66  : zRun 60 66 L S sh mi mj mr = zRun 60 68 L (.int 10 :: S) sh mi mj mr := zr_p (zD_of zk_60 d_60_66 rfl rfl) rfl
theorem q_60_68  : zRun 60 68 L S sh mi mj mr = zRun 60 69 L (.int 0 :: S) sh mi mj mr := zr_p (zD_of zk_60 d_60_68 rfl rfl) rfl
theorem q_60_69  {x0 x1 : Int32} (hS : zcat S ≤ 8) (h : zIs sh o 0 6) : zRun 60 69 L (.int x1 :: .int x0 :: .ref o :: S) sh mi mj mr = (zCall 75 [.ref o, .int x0, .int x1] sh mi mj mr).bind fun r => zRun 60 72 L (r.1.toList ++ S) r.2.1 r.2.2.1 r.2.2.2.1 r.2.2.2.2 := zr_V (zD_of zk_60 d_60_69 rfl rfl) rfl zk_75 rfl rfl rfl hS h
theorem q_60_72r : zRun 60 72 [some (.ref o), l1] S sh mi mj mr = zRun 60 73 [some (.ref o), l1] (.ref o :: S) sh mi mj mr := zr_l (zD_of zk_60 d_60_72 rfl rfl) rfl rfl rfl
theorem q_60_72n : zRun 60 72 [some (.null), l1] S sh mi mj mr = zRun 60 73 [some (.null), l1] (.null :: S) sh mi mj mr := zr_l (zD_of zk_60 d_60_72 rfl rfl) rfl rfl rfl
theorem q_60_73  : zRun 60 73 L S sh mi mj mr = zRun 60 75 L (.int 8 :: S) sh mi mj mr := zr_p (zD_of zk_60 d_60_73 rfl rfl) rfl
theorem q_60_75 (h : zIs sh o 0 4) : zRun 60 75 L (.int x :: .ref o :: S) sh mi mj mr = zRun 60 78 L S sh (zup mi o 3 x) mj mr := zr_putI (zD_of zk_60 d_60_75 rfl rfl) rfl rfl rfl (Or.inl rfl) h
theorem q_60_78  : zRun 60 78 L S sh mi mj mr = zRun 60 79 L (.int 1 :: S) sh mi mj mr := zr_p (zD_of zk_60 d_60_78 rfl rfl) rfl
theorem q_60_79 (h : x = 0 ∨ x = 1) : zRun 60 79 L ([.int x]) sh mi mj mr = some (some (.int x), sh, mi, mj, mr) := zr_ret (zD_of zk_60 d_60_79 rfl rfl) rfl rfl rfl rfl rfl (if_pos (zna_b h))
theorem e_60 {x0 : Int32} : zCall 60 [.ref o, .int x0] sh mi mj mr = zRun 60 0 [some (.ref o), some (.int x0)] [] sh mi mj mr := rfl
theorem d_61_0 : decode cX4_takeBehind 0 = .ok (.iload_n 1, 1) := by decide +kernel
theorem d_61_1 : decode cX4_takeBehind 1 = .ok (.lookupswitch 127 #[(41, 117), (42, 86), (43, 102), (44, 122), (45, 109), (47, 94), (94, 67)], 67) := by decide +kernel
theorem d_61_68 : decode cX4_takeBehind 68 = .ok (.aload_n 0, 1) := by decide +kernel
theorem d_61_69 : decode cX4_takeBehind 69 = .ok (.getfield 29, 3) := by decide +kernel
theorem d_61_72 : decode cX4_takeBehind 72 = .ok (.bipush 8, 2) := by decide +kernel
theorem d_61_74 : decode cX4_takeBehind 74 = .ok (.if_icmp .ne 5, 3) := by decide +kernel
theorem d_61_77 : decode cX4_takeBehind 77 = .ok (.iconst 0, 1) := by decide +kernel
theorem d_61_78 : decode cX4_takeBehind 78 = .ok (.ireturn, 1) := by decide +kernel
theorem d_61_79 : decode cX4_takeBehind 79 = .ok (.aload_n 0, 1) := by decide +kernel
theorem d_61_80 : decode cX4_takeBehind 80 = .ok (.bipush 7, 2) := by decide +kernel
theorem d_61_82 : decode cX4_takeBehind 82 = .ok (.putfield 29, 3) := by decide +kernel
theorem d_61_85 : decode cX4_takeBehind 85 = .ok (.iconst 1, 1) := by decide +kernel
theorem d_61_86 : decode cX4_takeBehind 86 = .ok (.ireturn, 1) := by decide +kernel
theorem d_61_87 : decode cX4_takeBehind 87 = .ok (.aload_n 0, 1) := by decide +kernel
theorem d_61_88 : decode cX4_takeBehind 88 = .ok (.bipush 9, 2) := by decide +kernel
theorem d_61_90 : decode cX4_takeBehind 90 = .ok (.iconst 2, 1) := by decide +kernel
theorem d_61_91 : decode cX4_takeBehind 91 = .ok (.invokevirtual 87, 3) := by decide +kernel
theorem d_61_94 : decode cX4_takeBehind 94 = .ok (.ireturn, 1) := by decide +kernel
theorem d_61_95 : decode cX4_takeBehind 95 = .ok (.aload_n 0, 1) := by decide +kernel
theorem d_61_96 : decode cX4_takeBehind 96 = .ok (.bipush 11, 2) := by decide +kernel
theorem d_61_98 : decode cX4_takeBehind 98 = .ok (.iconst 2, 1) := by decide +kernel
theorem d_61_99 : decode cX4_takeBehind 99 = .ok (.invokevirtual 87, 3) := by decide +kernel
theorem d_61_102 : decode cX4_takeBehind 102 = .ok (.ireturn, 1) := by decide +kernel
theorem d_61_103 : decode cX4_takeBehind 103 = .ok (.aload_n 0, 1) := by decide +kernel
theorem d_61_104 : decode cX4_takeBehind 104 = .ok (.iconst 5, 1) := by decide +kernel
theorem d_61_105 : decode cX4_takeBehind 105 = .ok (.iconst 1, 1) := by decide +kernel
theorem d_61_106 : decode cX4_takeBehind 106 = .ok (.invokevirtual 87, 3) := by decide +kernel
theorem d_61_109 : decode cX4_takeBehind 109 = .ok (.ireturn, 1) := by decide +kernel
theorem d_61_110 : decode cX4_takeBehind 110 = .ok (.aload_n 0, 1) := by decide +kernel
theorem d_61_111 : decode cX4_takeBehind 111 = .ok (.bipush 6, 2) := by decide +kernel
theorem d_61_113 : decode cX4_takeBehind 113 = .ok (.iconst 1, 1) := by decide +kernel
theorem d_61_114 : decode cX4_takeBehind 114 = .ok (.invokevirtual 87, 3) := by decide +kernel
theorem d_61_117 : decode cX4_takeBehind 117 = .ok (.ireturn, 1) := by decide +kernel
theorem d_61_118 : decode cX4_takeBehind 118 = .ok (.aload_n 0, 1) := by decide +kernel
theorem d_61_119 : decode cX4_takeBehind 119 = .ok (.invokevirtual 90, 3) := by decide +kernel
theorem d_61_122 : decode cX4_takeBehind 122 = .ok (.ireturn, 1) := by decide +kernel
theorem d_61_123 : decode cX4_takeBehind 123 = .ok (.aload_n 0, 1) := by decide +kernel
theorem d_61_124 : decode cX4_takeBehind 124 = .ok (.invokevirtual 94, 3) := by decide +kernel
theorem d_61_127 : decode cX4_takeBehind 127 = .ok (.ireturn, 1) := by decide +kernel
theorem d_61_128 : decode cX4_takeBehind 128 = .ok (.iconst 0, 1) := by decide +kernel
theorem d_61_129 : decode cX4_takeBehind 129 = .ok (.ireturn, 1) := by decide +kernel
theorem q_61_0 : zRun 61 0 [l0, some (.int x)] S sh mi mj mr = zRun 61 1 [l0, some (.int x)] (.int x :: S) sh mi mj mr := zr_l (zD_of zk_61 d_61_0 rfl rfl) rfl rfl rfl
theorem q_61_1 : zRun 61 1 L (.int x :: S) sh mi mj mr = if x = 41 then zRun 61 118 L S sh mi mj mr else if x = 42 then zRun 61 87 L S sh mi mj mr else if x = 43 then zRun 61 103 L S sh mi mj mr else if x = 44 then zRun 61 123 L S sh mi mj mr else if x = 45 then zRun 61 110 L S sh mi mj mr else if x = 47 then zRun 61 95 L S sh mi mj mr else if x = 94 then zRun 61 68 L S sh mi mj mr else zRun 61 128 L S sh mi mj mr := by
  by_cases h : x = 41
  · subst h; exact zr_go (off := 117) (zD_of zk_61 d_61_1 rfl rfl) rfl rfl (by decide)
  rw [if_neg h]
  have a41 := zsw_ne (v := 41) h (by decide) (by decide)
  by_cases h : x = 42
  · subst h; exact zr_go (off := 86) (zD_of zk_61 d_61_1 rfl rfl) rfl rfl (by decide)
  rw [if_neg h]
  have a42 := zsw_ne (v := 42) h (by decide) (by decide)
  by_cases h : x = 43
  · subst h; exact zr_go (off := 102) (zD_of zk_61 d_61_1 rfl rfl) rfl rfl (by decide)
  rw [if_neg h]
  have a43 := zsw_ne (v := 43) h (by decide) (by decide)
  by_cases h : x = 44
  · subst h; exact zr_go (off := 122) (zD_of zk_61 d_61_1 rfl rfl) rfl rfl (by decide)
  rw [if_neg h]
  have a44 := zsw_ne (v := 44) h (by decide) (by decide)
  by_cases h : x = 45
  · subst h; exact zr_go (off := 109) (zD_of zk_61 d_61_1 rfl rfl) rfl rfl (by decide)
  rw [if_neg h]
  have a45 := zsw_ne (v := 45) h (by decide) (by decide)
  by_cases h : x = 47
  · subst h; exact zr_go (off := 94) (zD_of zk_61 d_61_1 rfl rfl) rfl rfl (by decide)
  rw [if_neg h]
  have a47 := zsw_ne (v := 47) h (by decide) (by decide)
  by_cases h : x = 94
  · subst h; exact zr_go (off := 67) (zD_of zk_61 d_61_1 rfl rfl) rfl rfl (by decide)
  rw [if_neg h]
  have a94 := zsw_ne (v := 94) h (by decide) (by decide)
  exact zr_go (S' := S) (off := 127) (zD_of zk_61 d_61_1 rfl rfl) rfl (zlk_out rfl (by simp only [Op.lookupswitch.offset, if_neg (Ne.symm a41), if_neg (Ne.symm a42), if_neg (Ne.symm a43), if_neg (Ne.symm a44), if_neg (Ne.symm a45), if_neg (Ne.symm a47), if_neg (Ne.symm a94)])) (by decide)
theorem q_61_68r : zRun 61 68 [some (.ref o), l1] S sh mi mj mr = zRun 61 69 [some (.ref o), l1] (.ref o :: S) sh mi mj mr := zr_l (zD_of zk_61 d_61_68 rfl rfl) rfl rfl rfl
theorem q_61_68n : zRun 61 68 [some (.null), l1] S sh mi mj mr = zRun 61 69 [some (.null), l1] (.null :: S) sh mi mj mr := zr_l (zD_of zk_61 d_61_68 rfl rfl) rfl rfl rfl
theorem q_61_69 (h : zIs sh o 0 4) : zRun 61 69 L (.ref o :: S) sh mi mj mr = zRun 61 72 L (.int (mi o 3) :: S) sh mi mj mr := zr_getI (zD_of zk_61 d_61_69 rfl rfl) rfl rfl (Or.inl rfl) h
theorem q_61_72  : zRun 61 72 L S sh mi mj mr = zRun 61 74 L (.int 8 :: S) sh mi mj mr := zr_p (zD_of zk_61 d_61_72 rfl rfl) rfl
theorem q_61_74  : zRun 61 74 L (.int y :: .int x :: S) sh mi mj mr = if ¬ x = y then zRun 61 79 L S sh mi mj mr else zRun 61 77 L S sh mi mj mr := zr_if (off := 5) (P := ¬ x = y) (zD_of zk_61 d_61_74 rfl rfl) rfl rfl (by decide)
theorem q_61_77  : zRun 61 77 L S sh mi mj mr = zRun 61 78 L (.int 0 :: S) sh mi mj mr := zr_p (zD_of zk_61 d_61_77 rfl rfl) rfl
theorem q_61_78 (h : x = 0 ∨ x = 1) : zRun 61 78 L ([.int x]) sh mi mj mr = some (some (.int x), sh, mi, mj, mr) := zr_ret (zD_of zk_61 d_61_78 rfl rfl) rfl rfl rfl rfl rfl (if_pos (zna_b h))
theorem q_61_79r : zRun 61 79 [some (.ref o), l1] S sh mi mj mr = zRun 61 80 [some (.ref o), l1] (.ref o :: S) sh mi mj mr := zr_l (zD_of zk_61 d_61_79 rfl rfl) rfl rfl rfl
theorem q_61_79n : zRun 61 79 [some (.null), l1] S sh mi mj mr = zRun 61 80 [some (.null), l1] (.null :: S) sh mi mj mr := zr_l (zD_of zk_61 d_61_79 rfl rfl) rfl rfl rfl
theorem q_61_80  : zRun 61 80 L S sh mi mj mr = zRun 61 82 L (.int 7 :: S) sh mi mj mr := zr_p (zD_of zk_61 d_61_80 rfl rfl) rfl
theorem q_61_82 (h : zIs sh o 0 4) : zRun 61 82 L (.int x :: .ref o :: S) sh mi mj mr = zRun 61 85 L S sh (zup mi o 3 x) mj mr := zr_putI (zD_of zk_61 d_61_82 rfl rfl) rfl rfl rfl (Or.inl rfl) h
theorem q_61_85  : zRun 61 85 L S sh mi mj mr = zRun 61 86 L (.int 1 :: S) sh mi mj mr := zr_p (zD_of zk_61 d_61_85 rfl rfl) rfl
theorem q_61_86 (h : x = 0 ∨ x = 1) : zRun 61 86 L ([.int x]) sh mi mj mr = some (some (.int x), sh, mi, mj, mr) := zr_ret (zD_of zk_61 d_61_86 rfl rfl) rfl rfl rfl rfl rfl (if_pos (zna_b h))
theorem q_61_87r : zRun 61 87 [some (.ref o), l1] S sh mi mj mr = zRun 61 88 [some (.ref o), l1] (.ref o :: S) sh mi mj mr := zr_l (zD_of zk_61 d_61_87 rfl rfl) rfl rfl rfl
theorem q_61_87n : zRun 61 87 [some (.null), l1] S sh mi mj mr = zRun 61 88 [some (.null), l1] (.null :: S) sh mi mj mr := zr_l (zD_of zk_61 d_61_87 rfl rfl) rfl rfl rfl
theorem q_61_88  : zRun 61 88 L S sh mi mj mr = zRun 61 90 L (.int 9 :: S) sh mi mj mr := zr_p (zD_of zk_61 d_61_88 rfl rfl) rfl
theorem q_61_90  : zRun 61 90 L S sh mi mj mr = zRun 61 91 L (.int 2 :: S) sh mi mj mr := zr_p (zD_of zk_61 d_61_90 rfl rfl) rfl
theorem q_61_91  {x0 x1 : Int32} (hS : zcat S ≤ 8) (h : zIs sh o 0 4) : zRun 61 91 L (.int x1 :: .int x0 :: .ref o :: S) sh mi mj mr = (zCall 62 [.ref o, .int x0, .int x1] sh mi mj mr).bind fun r => zRun 61 94 L (r.1.toList ++ S) r.2.1 r.2.2.1 r.2.2.2.1 r.2.2.2.2 := zr_V (zD_of zk_61 d_61_91 rfl rfl) rfl zk_62 rfl rfl rfl hS h
theorem q_61_94 (h : x = 0 ∨ x = 1) : zRun 61 94 L ([.int x]) sh mi mj mr = some (some (.int x), sh, mi, mj, mr) := zr_ret (zD_of zk_61 d_61_94 rfl rfl) rfl rfl rfl rfl rfl (if_pos (zna_b h))
theorem q_61_95r : zRun 61 95 [some (.ref o), l1] S sh mi mj mr = zRun 61 96 [some (.ref o), l1] (.ref o :: S) sh mi mj mr := zr_l (zD_of zk_61 d_61_95 rfl rfl) rfl rfl rfl
theorem q_61_95n : zRun 61 95 [some (.null), l1] S sh mi mj mr = zRun 61 96 [some (.null), l1] (.null :: S) sh mi mj mr := zr_l (zD_of zk_61 d_61_95 rfl rfl) rfl rfl rfl
theorem q_61_96  : zRun 61 96 L S sh mi mj mr = zRun 61 98 L (.int 11 :: S) sh mi mj mr := zr_p (zD_of zk_61 d_61_96 rfl rfl) rfl
theorem q_61_98  : zRun 61 98 L S sh mi mj mr = zRun 61 99 L (.int 2 :: S) sh mi mj mr := zr_p (zD_of zk_61 d_61_98 rfl rfl) rfl
theorem q_61_99  {x0 x1 : Int32} (hS : zcat S ≤ 8) (h : zIs sh o 0 4) : zRun 61 99 L (.int x1 :: .int x0 :: .ref o :: S) sh mi mj mr = (zCall 62 [.ref o, .int x0, .int x1] sh mi mj mr).bind fun r => zRun 61 102 L (r.1.toList ++ S) r.2.1 r.2.2.1 r.2.2.2.1 r.2.2.2.2 := zr_V (zD_of zk_61 d_61_99 rfl rfl) rfl zk_62 rfl rfl rfl hS h
theorem q_61_102 (h : x = 0 ∨ x = 1) : zRun 61 102 L ([.int x]) sh mi mj mr = some (some (.int x), sh, mi, mj, mr) := zr_ret (zD_of zk_61 d_61_102 rfl rfl) rfl rfl rfl rfl rfl (if_pos (zna_b h))
theorem q_61_103r : zRun 61 103 [some (.ref o), l1] S sh mi mj mr = zRun 61 104 [some (.ref o), l1] (.ref o :: S) sh mi mj mr := zr_l (zD_of zk_61 d_61_103 rfl rfl) rfl rfl rfl
theorem q_61_103n : zRun 61 103 [some (.null), l1] S sh mi mj mr = zRun 61 104 [some (.null), l1] (.null :: S) sh mi mj mr := zr_l (zD_of zk_61 d_61_103 rfl rfl) rfl rfl rfl
theorem q_61_104  : zRun 61 104 L S sh mi mj mr = zRun 61 105 L (.int 5 :: S) sh mi mj mr := zr_p (zD_of zk_61 d_61_104 rfl rfl) rfl
theorem q_61_105  : zRun 61 105 L S sh mi mj mr = zRun 61 106 L (.int 1 :: S) sh mi mj mr := zr_p (zD_of zk_61 d_61_105 rfl rfl) rfl
theorem q_61_106  {x0 x1 : Int32} (hS : zcat S ≤ 8) (h : zIs sh o 0 4) : zRun 61 106 L (.int x1 :: .int x0 :: .ref o :: S) sh mi mj mr = (zCall 62 [.ref o, .int x0, .int x1] sh mi mj mr).bind fun r => zRun 61 109 L (r.1.toList ++ S) r.2.1 r.2.2.1 r.2.2.2.1 r.2.2.2.2 := zr_V (zD_of zk_61 d_61_106 rfl rfl) rfl zk_62 rfl rfl rfl hS h
theorem q_61_109 (h : x = 0 ∨ x = 1) : zRun 61 109 L ([.int x]) sh mi mj mr = some (some (.int x), sh, mi, mj, mr) := zr_ret (zD_of zk_61 d_61_109 rfl rfl) rfl rfl rfl rfl rfl (if_pos (zna_b h))
theorem q_61_110r : zRun 61 110 [some (.ref o), l1] S sh mi mj mr = zRun 61 111 [some (.ref o), l1] (.ref o :: S) sh mi mj mr := zr_l (zD_of zk_61 d_61_110 rfl rfl) rfl rfl rfl
theorem q_61_110n : zRun 61 110 [some (.null), l1] S sh mi mj mr = zRun 61 111 [some (.null), l1] (.null :: S) sh mi mj mr := zr_l (zD_of zk_61 d_61_110 rfl rfl) rfl rfl rfl
theorem q_61_111  : zRun 61 111 L S sh mi mj mr = zRun 61 113 L (.int 6 :: S) sh mi mj mr := zr_p (zD_of zk_61 d_61_111 rfl rfl) rfl
theorem q_61_113  : zRun 61 113 L S sh mi mj mr = zRun 61 114 L (.int 1 :: S) sh mi mj mr := zr_p (zD_of zk_61 d_61_113 rfl rfl) rfl
theorem q_61_114  {x0 x1 : Int32} (hS : zcat S ≤ 8) (h : zIs sh o 0 4) : zRun 61 114 L (.int x1 :: .int x0 :: .ref o :: S) sh mi mj mr = (zCall 62 [.ref o, .int x0, .int x1] sh mi mj mr).bind fun r => zRun 61 117 L (r.1.toList ++ S) r.2.1 r.2.2.1 r.2.2.2.1 r.2.2.2.2 := zr_V (zD_of zk_61 d_61_114 rfl rfl) rfl zk_62 rfl rfl rfl hS h
theorem q_61_117 (h : x = 0 ∨ x = 1) : zRun 61 117 L ([.int x]) sh mi mj mr = some (some (.int x), sh, mi, mj, mr) := zr_ret (zD_of zk_61 d_61_117 rfl rfl) rfl rfl rfl rfl rfl (if_pos (zna_b h))
theorem q_61_118r : zRun 61 118 [some (.ref o), l1] S sh mi mj mr = zRun 61 119 [some (.ref o), l1] (.ref o :: S) sh mi mj mr := zr_l (zD_of zk_61 d_61_118 rfl rfl) rfl rfl rfl
theorem q_61_118n : zRun 61 118 [some (.null), l1] S sh mi mj mr = zRun 61 119 [some (.null), l1] (.null :: S) sh mi mj mr := zr_l (zD_of zk_61 d_61_118 rfl rfl) rfl rfl rfl
theorem q_61_119  (hS : zcat S ≤ 8) (h : zIs sh o 0 4) : zRun 61 119 L (.ref o :: S) sh mi mj mr = (zCall 64 [.ref o] sh mi mj mr).bind fun r => zRun 61 122 L (r.1.toList ++ S) r.2.1 r.2.2.1 r.2.2.2.1 r.2.2.2.2 := zr_V (zD_of zk_61 d_61_119 rfl rfl) rfl zk_64 rfl rfl rfl hS h
theorem q_61_122 (h : x = 0 ∨ x = 1) : zRun 61 122 L ([.int x]) sh mi mj mr = some (some (.int x), sh, mi, mj, mr) := zr_ret (zD_of zk_61 d_61_122 rfl rfl) rfl rfl rfl rfl rfl (if_pos (zna_b h))
theorem q_61_123r : zRun 61 123 [some (.ref o), l1] S sh mi mj mr = zRun 61 124 [some (.ref o), l1] (.ref o :: S) sh mi mj mr := zr_l (zD_of zk_61 d_61_123 rfl rfl) rfl rfl rfl
theorem q_61_123n : zRun 61 123 [some (.null), l1] S sh mi mj mr = zRun 61 124 [some (.null), l1] (.null :: S) sh mi mj mr := zr_l (zD_of zk_61 d_61_123 rfl rfl) rfl rfl rfl
theorem q_61_124  (hS : zcat S ≤ 8) (h : zIs sh o 0 4) : zRun 61 124 L (.ref o :: S) sh mi mj mr = (zCall 65 [.ref o] sh mi mj mr).bind fun r => zRun 61 127 L (r.1.toList ++ S) r.2.1 r.2.2.1 r.2.2.2.1 r.2.2.2.2 := zr_V (zD_of zk_61 d_61_124 rfl rfl) rfl zk_65 rfl rfl rfl hS h
theorem q_61_127 (h : x = 0 ∨ x = 1) : zRun 61 127 L ([.int x]) sh mi mj mr = some (some (.int x), sh, mi, mj, mr) := zr_ret (zD_of zk_61 d_61_127 rfl rfl) rfl rfl rfl rfl rfl (if_pos (zna_b h))
theorem q_61_128  : zRun 61 128 L S sh mi mj mr = zRun 61 129 L (.int 0 :: S) sh mi mj mr := zr_p (zD_of zk_61 d_61_128 rfl rfl) rfl
theorem q_61_129 (h : x = 0 ∨ x = 1) : zRun 61 129 L ([.int x]) sh mi mj mr = some (some (.int x), sh, mi, mj, mr) := zr_ret (zD_of zk_61 d_61_129 rfl rfl) rfl rfl rfl rfl rfl (if_pos (zna_b h))
theorem e_61 {x0 : Int32} : zCall 61 [.ref o, .int x0] sh mi mj mr = zRun 61 0 [some (.ref o), some (.int x0)] [] sh mi mj mr := rfl
theorem d_62_0 : decode cX4_operator 0 = .ok (.aload_n 0, 1) := by decide +kernel
theorem d_62_1 : decode cX4_operator 1 = .ok (.iload_n 2, 1) := by decide +kernel
theorem d_62_2 : decode cX4_operator 2 = .ok (.invokevirtual 42, 3) := by decide +kernel
theorem d_62_5 : decode cX4_operator 5 = .ok (.aload_n 0, 1) := by decide +kernel
theorem d_62_6 : decode cX4_operator 6 = .ok (.iload_n 1, 1) := by decide +kernel
theorem d_62_7 : decode cX4_operator 7 = .ok (.iconst 1, 1) := by decide +kernel
theorem d_62_8 : decode cX4_operator 8 = .ok (.invokevirtual 46, 3) := by decide +kernel
theorem d_62_11 : decode cX4_operator 11 = .ok (.ireturn, 1) := by decide +kernel
theorem q_62_0r : zRun 62 0 [some (.ref o), l1, l2] S sh mi mj mr = zRun 62 1 [some (.ref o), l1, l2] (.ref o :: S) sh mi mj mr := zr_l (zD_of zk_62 d_62_0 rfl rfl) rfl rfl rfl
theorem q_62_0n : zRun 62 0 [some (.null), l1, l2] S sh mi mj mr = zRun 62 1 [some (.null), l1, l2] (.null :: S) sh mi mj mr := zr_l (zD_of zk_62 d_62_0 rfl rfl) rfl rfl rfl
theorem q_62_1 : zRun 62 1 [l0, l1, some (.int x)] S sh mi mj mr = zRun 62 2 [l0, l1, some (.int x)] (.int x :: S) sh mi mj mr := zr_l (zD_of zk_62 d_62_1 rfl rfl) rfl rfl rfl
theorem q_62_2  {x0 : Int32} (hS : zcat S ≤ 8) (h : zIs sh o 0 4) : zRun 62 2 L (.int x0 :: .ref o :: S) sh mi mj mr = (zCall 67 [.ref o, .int x0] sh mi mj mr).bind fun r => zRun 62 5 L (r.1.toList ++ S) r.2.1 r.2.2.1 r.2.2.2.1 r.2.2.2.2 := zr_V (zD_of zk_62 d_62_2 rfl rfl) rfl zk_67 rfl rfl rfl hS h
theorem q_62_5r : zRun 62 5 [some (.ref o), l1, l2] S sh mi mj mr = zRun 62 6 [some (.ref o), l1, l2] (.ref o :: S) sh mi mj mr := zr_l (zD_of zk_62 d_62_5 rfl rfl) rfl rfl rfl
theorem q_62_5n : zRun 62 5 [some (.null), l1, l2] S sh mi mj mr = zRun 62 6 [some (.null), l1, l2] (.null :: S) sh mi mj mr := zr_l (zD_of zk_62 d_62_5 rfl rfl) rfl rfl rfl
theorem q_62_6 : zRun 62 6 [l0, some (.int x), l2] S sh mi mj mr = zRun 62 7 [l0, some (.int x), l2] (.int x :: S) sh mi mj mr := zr_l (zD_of zk_62 d_62_6 rfl rfl) rfl rfl rfl
theorem q_62_7  : zRun 62 7 L S sh mi mj mr = zRun 62 8 L (.int 1 :: S) sh mi mj mr := zr_p (zD_of zk_62 d_62_7 rfl rfl) rfl
theorem q_62_8  {x0 x1 : Int32} (hS : zcat S ≤ 8) (h : zIs sh o 0 4) : zRun 62 8 L (.int x1 :: .int x0 :: .ref o :: S) sh mi mj mr = (zCall 66 [.ref o, .int x0, .int x1] sh mi mj mr).bind fun r => zRun 62 11 L (r.1.toList ++ S) r.2.1 r.2.2.1 r.2.2.2.1 r.2.2.2.2 := zr_V (zD_of zk_62 d_62_8 rfl rfl) rfl zk_66 rfl rfl rfl hS h
theorem q_62_11 (h : x = 0 ∨ x = 1) : zRun 62 11 L ([.int x]) sh mi mj mr = some (some (.int x), sh, mi, mj, mr) := zr_ret (zD_of zk_62 d_62_11 rfl rfl) rfl rfl rfl rfl rfl (if_pos (zna_b h))
theorem e_62 {x0 x1 : Int32} : zCall 62 [.ref o, .int x0, .int x1] sh mi mj mr = zRun 62 0 [some (.ref o), some (.int x0), some (.int x1)] [] sh mi mj mr := rfl
theorem d_63_0 : decode cX4_open 0 = .ok (.aload_n 0, 1) := by decide +kernel
theorem d_63_1 : decode cX4_open 1 = .ok (.iload_n 1, 1) := by decide +kernel
theorem d_63_2 : decode cX4_open 2 = .ok (.putfield 53, 3) := by decide +kernel
theorem d_63_5 : decode cX4_open 5 = .ok (.aload_n 0, 1) := by decide +kernel
theorem d_63_6 : decode cX4_open 6 = .ok (.iconst 2, 1) := by decide +kernel
theorem d_63_7 : decode cX4_open 7 = .ok (.putfield 29, 3) := by decide +kernel
theorem d_63_10 : decode cX4_open 10 = .ok (.iconst 1, 1) := by decide +kernel
theorem d_63_11 : decode cX4_open 11 = .ok (.ireturn, 1) := by decide +kernel
theorem q_63_0r : zRun 63 0 [some (.ref o), l1] S sh mi mj mr = zRun 63 1 [some (.ref o), l1] (.ref o :: S) sh mi mj mr := zr_l (zD_of zk_63 d_63_0 rfl rfl) rfl rfl rfl
theorem q_63_0n : zRun 63 0 [some (.null), l1] S sh mi mj mr = zRun 63 1 [some (.null), l1] (.null :: S) sh mi mj mr := zr_l (zD_of zk_63 d_63_0 rfl rfl) rfl rfl rfl
theorem q_63_1 : zRun 63 1 [l0, some (.int x)] S sh mi mj mr = zRun 63 2 [l0, some (.int x)] (.int x :: S) sh mi mj mr := zr_l (zD_of zk_63 d_63_1 rfl rfl) rfl rfl rfl
theorem q_63_2 (h : zIs sh o 0 4) : zRun 63 2 L (.int x :: .ref o :: S) sh mi mj mr = zRun 63 5 L S sh (zup mi o 4 x) mj mr := zr_putI (zD_of zk_63 d_63_2 rfl rfl) rfl rfl rfl (Or.inl rfl) h
theorem q_63_5r : zRun 63 5 [some (.ref o), l1] S sh mi mj mr = zRun 63 6 [some (.ref o), l1] (.ref o :: S) sh mi mj mr := zr_l (zD_of zk_63 d_63_5 rfl rfl) rfl rfl rfl
theorem q_63_5n : zRun 63 5 [some (.null), l1] S sh mi mj mr = zRun 63 6 [some (.null), l1] (.null :: S) sh mi mj mr := zr_l (zD_of zk_63 d_63_5 rfl rfl) rfl rfl rfl
theorem q_63_6  : zRun 63 6 L S sh mi mj mr = zRun 63 7 L (.int 2 :: S) sh mi mj mr := zr_p (zD_of zk_63 d_63_6 rfl rfl) rfl
theorem q_63_7 (h : zIs sh o 0 4) : zRun 63 7 L (.int x :: .ref o :: S) sh mi mj mr = zRun 63 10 L S sh (zup mi o 3 x) mj mr := zr_putI (zD_of zk_63 d_63_7 rfl rfl) rfl rfl rfl (Or.inl rfl) h
theorem q_63_10  : zRun 63 10 L S sh mi mj mr = zRun 63 11 L (.int 1 :: S) sh mi mj mr := zr_p (zD_of zk_63 d_63_10 rfl rfl) rfl
theorem q_63_11 (h : x = 0 ∨ x = 1) : zRun 63 11 L ([.int x]) sh mi mj mr = some (some (.int x), sh, mi, mj, mr) := zr_ret (zD_of zk_63 d_63_11 rfl rfl) rfl rfl rfl rfl rfl (if_pos (zna_b h))
theorem e_63 {x0 : Int32} : zCall 63 [.ref o, .int x0] sh mi mj mr = zRun 63 0 [some (.ref o), some (.int x0)] [] sh mi mj mr := rfl
theorem d_64_0 : decode cX4_close 0 = .ok (.aload_n 0, 1) := by decide +kernel
theorem d_64_1 : decode cX4_close 1 = .ok (.iconst 1, 1) := by decide +kernel
theorem d_64_2 : decode cX4_close 2 = .ok (.invokevirtual 42, 3) := by decide +kernel
theorem d_64_5 : decode cX4_close 5 = .ok (.aload_n 0, 1) := by decide +kernel
theorem d_64_6 : decode cX4_close 6 = .ok (.getfield 26, 3) := by decide +kernel
theorem d_64_9 : decode cX4_close 9 = .ok (.ifCond .ne 5, 3) := by decide +kernel
theorem d_64_12 : decode cX4_close 12 = .ok (.iconst 0, 1) := by decide +kernel
theorem d_64_13 : decode cX4_close 13 = .ok (.ireturn, 1) := by decide +kernel
theorem d_64_14 : decode cX4_close 14 = .ok (.aload_n 0, 1) := by decide +kernel
theorem d_64_15 : decode cX4_close 15 = .ok (.getfield 18, 3) := by decide +kernel
theorem d_64_18 : decode cX4_close 18 = .ok (.aload_n 0, 1) := by decide +kernel
theorem d_64_19 : decode cX4_close 19 = .ok (.getfield 26, 3) := by decide +kernel
theorem d_64_22 : decode cX4_close 22 = .ok (.iconst 1, 1) := by decide +kernel
theorem d_64_23 : decode cX4_close 23 = .ok (.isub, 1) := by decide +kernel
theorem d_64_24 : decode cX4_close 24 = .ok (.iaload, 1) := by decide +kernel
theorem d_64_25 : decode cX4_close 25 = .ok (.istore_n 1, 1) := by decide +kernel
theorem d_64_26 : decode cX4_close 26 = .ok (.iload_n 1, 1) := by decide +kernel
theorem d_64_27 : decode cX4_close 27 = .ok (.bipush 32, 2) := by decide +kernel
theorem d_64_29 : decode cX4_close 29 = .ok (.if_icmp .lt 5, 3) := by decide +kernel
theorem d_64_32 : decode cX4_close 32 = .ok (.iconst 0, 1) := by decide +kernel
theorem d_64_33 : decode cX4_close 33 = .ok (.ireturn, 1) := by decide +kernel
theorem d_64_34 : decode cX4_close 34 = .ok (.aload_n 0, 1) := by decide +kernel
theorem d_64_35 : decode cX4_close 35 = .ok (.dup, 1) := by decide +kernel
theorem d_64_36 : decode cX4_close 36 = .ok (.getfield 26, 3) := by decide +kernel
theorem d_64_39 : decode cX4_close 39 = .ok (.iconst 1, 1) := by decide +kernel
theorem d_64_40 : decode cX4_close 40 = .ok (.isub, 1) := by decide +kernel
theorem d_64_41 : decode cX4_close 41 = .ok (.putfield 26, 3) := by decide +kernel
theorem d_64_44 : decode cX4_close 44 = .ok (.iload_n 1, 1) := by decide +kernel
theorem d_64_45 : decode cX4_close 45 = .ok (.bipush 16, 2) := by decide +kernel
theorem d_64_47 : decode cX4_close 47 = .ok (.if_icmp .eq 12, 3) := by decide +kernel
theorem d_64_50 : decode cX4_close 50 = .ok (.aload_n 0, 1) := by decide +kernel
theorem d_64_51 : decode cX4_close 51 = .ok (.getfield 12, 3) := by decide +kernel
theorem d_64_54 : decode cX4_close 54 = .ok (.iload_n 1, 1) := by decide +kernel
theorem d_64_55 : decode cX4_close 55 = .ok (.iconst 0, 1) := by decide +kernel
theorem d_64_56 : decode cX4_close 56 = .ok (.invokevirtual 72, 3) := by decide +kernel
theorem d_64_59 : decode cX4_close 59 = .ok (.aload_n 0, 1) := by decide +kernel
theorem d_64_60 : decode cX4_close 60 = .ok (.bipush 6, 2) := by decide +kernel
theorem d_64_62 : decode cX4_close 62 = .ok (.putfield 29, 3) := by decide +kernel
theorem d_64_65 : decode cX4_close 65 = .ok (.iconst 1, 1) := by decide +kernel
theorem d_64_66 : decode cX4_close 66 = .ok (.ireturn, 1) := by decide +kernel
theorem q_64_0r : zRun 64 0 [some (.ref o), l1] S sh mi mj mr = zRun 64 1 [some (.ref o), l1] (.ref o :: S) sh mi mj mr := zr_l (zD_of zk_64 d_64_0 rfl rfl) rfl rfl rfl
theorem q_64_0n : zRun 64 0 [some (.null), l1] S sh mi mj mr = zRun 64 1 [some (.null), l1] (.null :: S) sh mi mj mr := zr_l (zD_of zk_64 d_64_0 rfl rfl) rfl rfl rfl
theorem q_64_1  : zRun 64 1 L S sh mi mj mr = zRun 64 2 L (.int 1 :: S) sh mi mj mr := zr_p (zD_of zk_64 d_64_1 rfl rfl) rfl
theorem q_64_2  {x0 : Int32} (hS : zcat S ≤ 8) (h : zIs sh o 0 4) : zRun 64 2 L (.int x0 :: .ref o :: S) sh mi mj mr = (zCall 67 [.ref o, .int x0] sh mi mj mr).bind fun r => zRun 64 5 L (r.1.toList ++ S) r.2.1 r.2.2.1 r.2.2.2.1 r.2.2.2.2 := zr_V (zD_of zk_64 d_64_2 rfl rfl) rfl zk_67 rfl rfl rfl hS h
theorem q_64_5r : zRun 64 5 [some (.ref o), l1] S sh mi mj mr = zRun 64 6 [some (.ref o), l1] (.ref o :: S) sh mi mj mr := zr_l (zD_of zk_64 d_64_5 rfl rfl) rfl rfl rfl
theorem q_64_5n : zRun 64 5 [some (.null), l1] S sh mi mj mr = zRun 64 6 [some (.null), l1] (.null :: S) sh mi mj mr := zr_l (zD_of zk_64 d_64_5 rfl rfl) rfl rfl rfl
theorem q_64_6 (h : zIs sh o 0 4) : zRun 64 6 L (.ref o :: S) sh mi mj mr = zRun 64 9 L (.int (mi o 2) :: S) sh mi mj mr := zr_getI (zD_of zk_64 d_64_6 rfl rfl) rfl rfl (Or.inl rfl) h
theorem q_64_9  : zRun 64 9 L (.int x :: S) sh mi mj mr = if ¬ x = 0 then zRun 64 14 L S sh mi mj mr else zRun 64 12 L S sh mi mj mr := zr_if (off := 5) (P := ¬ x = 0) (zD_of zk_64 d_64_9 rfl rfl) rfl rfl (by decide)
theorem q_64_12  : zRun 64 12 L S sh mi mj mr = zRun 64 13 L (.int 0 :: S) sh mi mj mr := zr_p (zD_of zk_64 d_64_12 rfl rfl) rfl
theorem q_64_13 (h : x = 0 ∨ x = 1) : zRun 64 13 L ([.int x]) sh mi mj mr = some (some (.int x), sh, mi, mj, mr) := zr_ret (zD_of zk_64 d_64_13 rfl rfl) rfl rfl rfl rfl rfl (if_pos (zna_b h))
theorem q_64_14r : zRun 64 14 [some (.ref o), l1] S sh mi mj mr = zRun 64 15 [some (.ref o), l1] (.ref o :: S) sh mi mj mr := zr_l (zD_of zk_64 d_64_14 rfl rfl) rfl rfl rfl
theorem q_64_14n : zRun 64 14 [some (.null), l1] S sh mi mj mr = zRun 64 15 [some (.null), l1] (.null :: S) sh mi mj mr := zr_l (zD_of zk_64 d_64_14 rfl rfl) rfl rfl rfl
theorem q_64_15 (h : zIs sh o 0 4) : zRun 64 15 L (.ref o :: S) sh mi mj mr = zRun 64 18 L (va_rf (mr o 1) :: S) sh mi mj mr := zr_getR (zD_of zk_64 d_64_15 rfl rfl) rfl rfl rfl h
theorem q_64_18r : zRun 64 18 [some (.ref o), l1] S sh mi mj mr = zRun 64 19 [some (.ref o), l1] (.ref o :: S) sh mi mj mr := zr_l (zD_of zk_64 d_64_18 rfl rfl) rfl rfl rfl
theorem q_64_18n : zRun 64 18 [some (.null), l1] S sh mi mj mr = zRun 64 19 [some (.null), l1] (.null :: S) sh mi mj mr := zr_l (zD_of zk_64 d_64_18 rfl rfl) rfl rfl rfl
theorem q_64_19 (h : zIs sh o 0 4) : zRun 64 19 L (.ref o :: S) sh mi mj mr = zRun 64 22 L (.int (mi o 2) :: S) sh mi mj mr := zr_getI (zD_of zk_64 d_64_19 rfl rfl) rfl rfl (Or.inl rfl) h
theorem q_64_22  : zRun 64 22 L S sh mi mj mr = zRun 64 23 L (.int 1 :: S) sh mi mj mr := zr_p (zD_of zk_64 d_64_22 rfl rfl) rfl
theorem q_64_23  : zRun 64 23 L (.int y :: .int x :: S) sh mi mj mr = zRun 64 24 L (.int (x - y) :: S) sh mi mj mr := zr_p (zD_of zk_64 d_64_23 rfl rfl) rfl
theorem q_64_24 (h : zAt sh o 1 x) : zRun 64 24 L (.int x :: .ref o :: S) sh mi mj mr = zRun 64 25 L (.int (mi o x.toNatClampNeg) :: S) sh mi mj mr := zr_iald (zD_of zk_64 d_64_24 rfl rfl) h
theorem q_64_25 : zRun 64 25 [l0, l1] (.int x :: S) sh mi mj mr = zRun 64 26 [zk2 l0, some (.int x)] S sh mi mj mr := zr_s1 (i := 1) (v := .int x) (L := [l0, l1]) (zD_of zk_64 d_64_25 rfl rfl) rfl rfl rfl rfl
theorem q_64_26 : zRun 64 26 [l0, some (.int x)] S sh mi mj mr = zRun 64 27 [l0, some (.int x)] (.int x :: S) sh mi mj mr := zr_l (zD_of zk_64 d_64_26 rfl rfl) rfl rfl rfl
theorem q_64_27  : zRun 64 27 L S sh mi mj mr = zRun 64 29 L (.int 32 :: S) sh mi mj mr := zr_p (zD_of zk_64 d_64_27 rfl rfl) rfl
theorem q_64_29  : zRun 64 29 L (.int y :: .int x :: S) sh mi mj mr = if x < y then zRun 64 34 L S sh mi mj mr else zRun 64 32 L S sh mi mj mr := zr_if (off := 5) (P := x < y) (zD_of zk_64 d_64_29 rfl rfl) rfl rfl (by decide)
theorem q_64_32  : zRun 64 32 L S sh mi mj mr = zRun 64 33 L (.int 0 :: S) sh mi mj mr := zr_p (zD_of zk_64 d_64_32 rfl rfl) rfl
theorem q_64_33 (h : x = 0 ∨ x = 1) : zRun 64 33 L ([.int x]) sh mi mj mr = some (some (.int x), sh, mi, mj, mr) := zr_ret (zD_of zk_64 d_64_33 rfl rfl) rfl rfl rfl rfl rfl (if_pos (zna_b h))
theorem q_64_34r : zRun 64 34 [some (.ref o), l1] S sh mi mj mr = zRun 64 35 [some (.ref o), l1] (.ref o :: S) sh mi mj mr := zr_l (zD_of zk_64 d_64_34 rfl rfl) rfl rfl rfl
theorem q_64_34n : zRun 64 34 [some (.null), l1] S sh mi mj mr = zRun 64 35 [some (.null), l1] (.null :: S) sh mi mj mr := zr_l (zD_of zk_64 d_64_34 rfl rfl) rfl rfl rfl
theorem q_64_35r : zRun 64 35 L (.ref o :: S) sh mi mj mr = zRun 64 36 L (.ref o :: .ref o :: S) sh mi mj mr := zr_p (zD_of zk_64 d_64_35 rfl rfl) rfl
theorem q_64_35i : zRun 64 35 L (.int x :: S) sh mi mj mr = zRun 64 36 L (.int x :: .int x :: S) sh mi mj mr := zr_p (zD_of zk_64 d_64_35 rfl rfl) rfl
theorem q_64_36 (h : zIs sh o 0 4) : zRun 64 36 L (.ref o :: S) sh mi mj mr = zRun 64 39 L (.int (mi o 2) :: S) sh mi mj mr := zr_getI (zD_of zk_64 d_64_36 rfl rfl) rfl rfl (Or.inl rfl) h
theorem q_64_39  : zRun 64 39 L S sh mi mj mr = zRun 64 40 L (.int 1 :: S) sh mi mj mr := zr_p (zD_of zk_64 d_64_39 rfl rfl) rfl
theorem q_64_40  : zRun 64 40 L (.int y :: .int x :: S) sh mi mj mr = zRun 64 41 L (.int (x - y) :: S) sh mi mj mr := zr_p (zD_of zk_64 d_64_40 rfl rfl) rfl
theorem q_64_41 (h : zIs sh o 0 4) : zRun 64 41 L (.int x :: .ref o :: S) sh mi mj mr = zRun 64 44 L S sh (zup mi o 2 x) mj mr := zr_putI (zD_of zk_64 d_64_41 rfl rfl) rfl rfl rfl (Or.inl rfl) h
theorem q_64_44 : zRun 64 44 [l0, some (.int x)] S sh mi mj mr = zRun 64 45 [l0, some (.int x)] (.int x :: S) sh mi mj mr := zr_l (zD_of zk_64 d_64_44 rfl rfl) rfl rfl rfl
theorem q_64_45  : zRun 64 45 L S sh mi mj mr = zRun 64 47 L (.int 16 :: S) sh mi mj mr := zr_p (zD_of zk_64 d_64_45 rfl rfl) rfl
theorem q_64_47  : zRun 64 47 L (.int y :: .int x :: S) sh mi mj mr = if x = y then zRun 64 59 L S sh mi mj mr else zRun 64 50 L S sh mi mj mr := zr_if (off := 12) (P := x = y) (zD_of zk_64 d_64_47 rfl rfl) rfl rfl (by decide)
theorem q_64_50r : zRun 64 50 [some (.ref o), l1] S sh mi mj mr = zRun 64 51 [some (.ref o), l1] (.ref o :: S) sh mi mj mr := zr_l (zD_of zk_64 d_64_50 rfl rfl) rfl rfl rfl
theorem q_64_50n : zRun 64 50 [some (.null), l1] S sh mi mj mr = zRun 64 51 [some (.null), l1] (.null :: S) sh mi mj mr := zr_l (zD_of zk_64 d_64_50 rfl rfl) rfl rfl rfl
theorem q_64_51 (h : zIs sh o 0 4) : zRun 64 51 L (.ref o :: S) sh mi mj mr = zRun 64 54 L (va_rf (mr o 0) :: S) sh mi mj mr := zr_getR (zD_of zk_64 d_64_51 rfl rfl) rfl rfl rfl h
theorem q_64_54 : zRun 64 54 [l0, some (.int x)] S sh mi mj mr = zRun 64 55 [l0, some (.int x)] (.int x :: S) sh mi mj mr := zr_l (zD_of zk_64 d_64_54 rfl rfl) rfl rfl rfl
theorem q_64_55  : zRun 64 55 L S sh mi mj mr = zRun 64 56 L (.int 0 :: S) sh mi mj mr := zr_p (zD_of zk_64 d_64_55 rfl rfl) rfl
theorem q_64_56  {x0 x1 : Int32} (hS : zcat S ≤ 8) (h : zIs sh o 0 6) : zRun 64 56 L (.int x1 :: .int x0 :: .ref o :: S) sh mi mj mr = (zCall 75 [.ref o, .int x0, .int x1] sh mi mj mr).bind fun r => zRun 64 59 L (r.1.toList ++ S) r.2.1 r.2.2.1 r.2.2.2.1 r.2.2.2.2 := zr_V (zD_of zk_64 d_64_56 rfl rfl) rfl zk_75 rfl rfl rfl hS h
theorem q_64_59r : zRun 64 59 [some (.ref o), l1] S sh mi mj mr = zRun 64 60 [some (.ref o), l1] (.ref o :: S) sh mi mj mr := zr_l (zD_of zk_64 d_64_59 rfl rfl) rfl rfl rfl
theorem q_64_59n : zRun 64 59 [some (.null), l1] S sh mi mj mr = zRun 64 60 [some (.null), l1] (.null :: S) sh mi mj mr := zr_l (zD_of zk_64 d_64_59 rfl rfl) rfl rfl rfl
theorem q_64_60  : zRun 64 60 L S sh mi mj mr = zRun 64 62 L (.int 6 :: S) sh mi mj mr := zr_p (zD_of zk_64 d_64_60 rfl rfl) rfl
theorem q_64_62 (h : zIs sh o 0 4) : zRun 64 62 L (.int x :: .ref o :: S) sh mi mj mr = zRun 64 65 L S sh (zup mi o 3 x) mj mr := zr_putI (zD_of zk_64 d_64_62 rfl rfl) rfl rfl rfl (Or.inl rfl) h
theorem q_64_65  : zRun 64 65 L S sh mi mj mr = zRun 64 66 L (.int 1 :: S) sh mi mj mr := zr_p (zD_of zk_64 d_64_65 rfl rfl) rfl
theorem q_64_66 (h : x = 0 ∨ x = 1) : zRun 64 66 L ([.int x]) sh mi mj mr = some (some (.int x), sh, mi, mj, mr) := zr_ret (zD_of zk_64 d_64_66 rfl rfl) rfl rfl rfl rfl rfl (if_pos (zna_b h))
theorem e_64 : zCall 64 [.ref o] sh mi mj mr = zRun 64 0 [some (.ref o), none] [] sh mi mj mr := rfl
theorem d_65_0 : decode cX4_passComma 0 = .ok (.aload_n 0, 1) := by decide +kernel
theorem d_65_1 : decode cX4_passComma 1 = .ok (.iconst 1, 1) := by decide +kernel
theorem d_65_2 : decode cX4_passComma 2 = .ok (.invokevirtual 42, 3) := by decide +kernel
theorem d_65_5 : decode cX4_passComma 5 = .ok (.aload_n 0, 1) := by decide +kernel
theorem d_65_6 : decode cX4_passComma 6 = .ok (.getfield 26, 3) := by decide +kernel
theorem d_65_9 : decode cX4_passComma 9 = .ok (.ifCond .eq 19, 3) := by decide +kernel
theorem d_65_12 : decode cX4_passComma 12 = .ok (.aload_n 0, 1) := by decide +kernel
theorem d_65_13 : decode cX4_passComma 13 = .ok (.getfield 18, 3) := by decide +kernel
theorem d_65_16 : decode cX4_passComma 16 = .ok (.aload_n 0, 1) := by decide +kernel
theorem d_65_17 : decode cX4_passComma 17 = .ok (.getfield 26, 3) := by decide +kernel
theorem d_65_20 : decode cX4_passComma 20 = .ok (.iconst 1, 1) := by decide +kernel
theorem d_65_21 : decode cX4_passComma 21 = .ok (.isub, 1) := by decide +kernel
theorem d_65_22 : decode cX4_passComma 22 = .ok (.iaload, 1) := by decide +kernel
theorem d_65_23 : decode cX4_passComma 23 = .ok (.bipush 32, 2) := by decide +kernel
theorem d_65_25 : decode cX4_passComma 25 = .ok (.if_icmp .ge 5, 3) := by decide +kernel
theorem d_65_28 : decode cX4_passComma 28 = .ok (.iconst 0, 1) := by decide +kernel
theorem d_65_29 : decode cX4_passComma 29 = .ok (.ireturn, 1) := by decide +kernel
theorem d_65_30 : decode cX4_passComma 30 = .ok (.aload_n 0, 1) := by decide +kernel
theorem d_65_31 : decode cX4_passComma 31 = .ok (.getfield 18, 3) := by decide +kernel
theorem d_65_34 : decode cX4_passComma 34 = .ok (.aload_n 0, 1) := by decide +kernel
theorem d_65_35 : decode cX4_passComma 35 = .ok (.getfield 26, 3) := by decide +kernel
theorem d_65_38 : decode cX4_passComma 38 = .ok (.iconst 1, 1) := by decide +kernel
theorem d_65_39 : decode cX4_passComma 39 = .ok (.isub, 1) := by decide +kernel
theorem d_65_40 : decode cX4_passComma 40 = .ok (.dup2, 1) := by decide +kernel
theorem d_65_41 : decode cX4_passComma 41 = .ok (.iaload, 1) := by decide +kernel
theorem d_65_42 : decode cX4_passComma 42 = .ok (.bipush 32, 2) := by decide +kernel
theorem d_65_44 : decode cX4_passComma 44 = .ok (.isub, 1) := by decide +kernel
theorem d_65_45 : decode cX4_passComma 45 = .ok (.iastore, 1) := by decide +kernel
theorem d_65_46 : decode cX4_passComma 46 = .ok (.aload_n 0, 1) := by decide +kernel
theorem d_65_47 : decode cX4_passComma 47 = .ok (.iconst 0, 1) := by decide +kernel
theorem d_65_48 : decode cX4_passComma 48 = .ok (.putfield 29, 3) := by decide +kernel
theorem d_65_51 : decode cX4_passComma 51 = .ok (.iconst 1, 1) := by decide +kernel
theorem d_65_52 : decode cX4_passComma 52 = .ok (.ireturn, 1) := by decide +kernel
theorem q_65_0r : zRun 65 0 [some (.ref o)] S sh mi mj mr = zRun 65 1 [some (.ref o)] (.ref o :: S) sh mi mj mr := zr_l (zD_of zk_65 d_65_0 rfl rfl) rfl rfl rfl
theorem q_65_0n : zRun 65 0 [some (.null)] S sh mi mj mr = zRun 65 1 [some (.null)] (.null :: S) sh mi mj mr := zr_l (zD_of zk_65 d_65_0 rfl rfl) rfl rfl rfl
theorem q_65_1  : zRun 65 1 L S sh mi mj mr = zRun 65 2 L (.int 1 :: S) sh mi mj mr := zr_p (zD_of zk_65 d_65_1 rfl rfl) rfl
theorem q_65_2  {x0 : Int32} (hS : zcat S ≤ 8) (h : zIs sh o 0 4) : zRun 65 2 L (.int x0 :: .ref o :: S) sh mi mj mr = (zCall 67 [.ref o, .int x0] sh mi mj mr).bind fun r => zRun 65 5 L (r.1.toList ++ S) r.2.1 r.2.2.1 r.2.2.2.1 r.2.2.2.2 := zr_V (zD_of zk_65 d_65_2 rfl rfl) rfl zk_67 rfl rfl rfl hS h
theorem q_65_5r : zRun 65 5 [some (.ref o)] S sh mi mj mr = zRun 65 6 [some (.ref o)] (.ref o :: S) sh mi mj mr := zr_l (zD_of zk_65 d_65_5 rfl rfl) rfl rfl rfl
theorem q_65_5n : zRun 65 5 [some (.null)] S sh mi mj mr = zRun 65 6 [some (.null)] (.null :: S) sh mi mj mr := zr_l (zD_of zk_65 d_65_5 rfl rfl) rfl rfl rfl
theorem q_65_6 (h : zIs sh o 0 4) : zRun 65 6 L (.ref o :: S) sh mi mj mr = zRun 65 9 L (.int (mi o 2) :: S) sh mi mj mr := zr_getI (zD_of zk_65 d_65_6 rfl rfl) rfl rfl (Or.inl rfl) h
theorem q_65_9  : zRun 65 9 L (.int x :: S) sh mi mj mr = if x = 0 then zRun 65 28 L S sh mi mj mr else zRun 65 12 L S sh mi mj mr := zr_if (off := 19) (P := x = 0) (zD_of zk_65 d_65_9 rfl rfl) rfl rfl (by decide)
theorem q_65_12r : zRun 65 12 [some (.ref o)] S sh mi mj mr = zRun 65 13 [some (.ref o)] (.ref o :: S) sh mi mj mr := zr_l (zD_of zk_65 d_65_12 rfl rfl) rfl rfl rfl
theorem q_65_12n : zRun 65 12 [some (.null)] S sh mi mj mr = zRun 65 13 [some (.null)] (.null :: S) sh mi mj mr := zr_l (zD_of zk_65 d_65_12 rfl rfl) rfl rfl rfl
theorem q_65_13 (h : zIs sh o 0 4) : zRun 65 13 L (.ref o :: S) sh mi mj mr = zRun 65 16 L (va_rf (mr o 1) :: S) sh mi mj mr := zr_getR (zD_of zk_65 d_65_13 rfl rfl) rfl rfl rfl h
theorem q_65_16r : zRun 65 16 [some (.ref o)] S sh mi mj mr = zRun 65 17 [some (.ref o)] (.ref o :: S) sh mi mj mr := zr_l (zD_of zk_65 d_65_16 rfl rfl) rfl rfl rfl
theorem q_65_16n : zRun 65 16 [some (.null)] S sh mi mj mr = zRun 65 17 [some (.null)] (.null :: S) sh mi mj mr := zr_l (zD_of zk_65 d_65_16 rfl rfl) rfl rfl rfl
theorem q_65_17 (h : zIs sh o 0 4) : zRun 65 17 L (.ref o :: S) sh mi mj mr = zRun 65 20 L (.int (mi o 2) :: S) sh mi mj mr := zr_getI (zD_of zk_65 d_65_17 rfl rfl) rfl rfl (Or.inl rfl) h
theorem q_65_20  : zRun 65 20 L S sh mi mj mr = zRun 65 21 L (.int 1 :: S) sh mi mj mr := zr_p (zD_of zk_65 d_65_20 rfl rfl) rfl
theorem q_65_21  : zRun 65 21 L (.int y :: .int x :: S) sh mi mj mr = zRun 65 22 L (.int (x - y) :: S) sh mi mj mr := zr_p (zD_of zk_65 d_65_21 rfl rfl) rfl
theorem q_65_22 (h : zAt sh o 1 x) : zRun 65 22 L (.int x :: .ref o :: S) sh mi mj mr = zRun 65 23 L (.int (mi o x.toNatClampNeg) :: S) sh mi mj mr := zr_iald (zD_of zk_65 d_65_22 rfl rfl) h
theorem q_65_23  : zRun 65 23 L S sh mi mj mr = zRun 65 25 L (.int 32 :: S) sh mi mj mr := zr_p (zD_of zk_65 d_65_23 rfl rfl) rfl
theorem q_65_25  : zRun 65 25 L (.int y :: .int x :: S) sh mi mj mr = if y ≤ x then zRun 65 30 L S sh mi mj mr else zRun 65 28 L S sh mi mj mr := zr_if (off := 5) (P := y ≤ x) (zD_of zk_65 d_65_25 rfl rfl) rfl rfl (by decide)
theorem q_65_28  : zRun 65 28 L S sh mi mj mr = zRun 65 29 L (.int 0 :: S) sh mi mj mr := zr_p (zD_of zk_65 d_65_28 rfl rfl) rfl
theorem q_65_29 (h : x = 0 ∨ x = 1) : zRun 65 29 L ([.int x]) sh mi mj mr = some (some (.int x), sh, mi, mj, mr) := zr_ret (zD_of zk_65 d_65_29 rfl rfl) rfl rfl rfl rfl rfl (if_pos (zna_b h))
theorem q_65_30r : zRun 65 30 [some (.ref o)] S sh mi mj mr = zRun 65 31 [some (.ref o)] (.ref o :: S) sh mi mj mr := zr_l (zD_of zk_65 d_65_30 rfl rfl) rfl rfl rfl
theorem q_65_30n : zRun 65 30 [some (.null)] S sh mi mj mr = zRun 65 31 [some (.null)] (.null :: S) sh mi mj mr := zr_l (zD_of zk_65 d_65_30 rfl rfl) rfl rfl rfl
theorem q_65_31 (h : zIs sh o 0 4) : zRun 65 31 L (.ref o :: S) sh mi mj mr = zRun 65 34 L (va_rf (mr o 1) :: S) sh mi mj mr := zr_getR (zD_of zk_65 d_65_31 rfl rfl) rfl rfl rfl h
theorem q_65_34r : zRun 65 34 [some (.ref o)] S sh mi mj mr = zRun 65 35 [some (.ref o)] (.ref o :: S) sh mi mj mr := zr_l (zD_of zk_65 d_65_34 rfl rfl) rfl rfl rfl
theorem q_65_34n : zRun 65 34 [some (.null)] S sh mi mj mr = zRun 65 35 [some (.null)] (.null :: S) sh mi mj mr := zr_l (zD_of zk_65 d_65_34 rfl rfl) rfl rfl rfl
theorem q_65_35 (h : zIs sh o 0 4) : zRun 65 35 L (.ref o :: S) sh mi mj mr = zRun 65 38 L (.int (mi o 2) :: S) sh mi mj mr := zr_getI (zD_of zk_65 d_65_35 rfl rfl) rfl rfl (Or.inl rfl) h
theorem q_65_38  : zRun 65 38 L S sh mi mj mr = zRun 65 39 L (.int 1 :: S) sh mi mj mr := zr_p (zD_of zk_65 d_65_38 rfl rfl) rfl
theorem q_65_39  : zRun 65 39 L (.int y :: .int x :: S) sh mi mj mr = zRun 65 40 L (.int (x - y) :: S) sh mi mj mr := zr_p (zD_of zk_65 d_65_39 rfl rfl) rfl
theorem q_65_40  : zRun 65 40 L (.int x :: .ref o :: S) sh mi mj mr = zRun 65 41 L (.int x :: .ref o :: .int x :: .ref o :: S) sh mi mj mr := zr_p (zD_of zk_65 d_65_40 rfl rfl) rfl
theorem q_65_41 (h : zAt sh o 1 x) : zRun 65 41 L (.int x :: .ref o :: S) sh mi mj mr = zRun 65 42 L (.int (mi o x.toNatClampNeg) :: S) sh mi mj mr := zr_iald (zD_of zk_65 d_65_41 rfl rfl) h
theorem q_65_42  : zRun 65 42 L S sh mi mj mr = zRun 65 44 L (.int 32 :: S) sh mi mj mr := zr_p (zD_of zk_65 d_65_42 rfl rfl) rfl
theorem q_65_44  : zRun 65 44 L (.int y :: .int x :: S) sh mi mj mr = zRun 65 45 L (.int (x - y) :: S) sh mi mj mr := zr_p (zD_of zk_65 d_65_44 rfl rfl) rfl
theorem q_65_45 (h : zAt sh o 1 x) : zRun 65 45 L (.int y :: .int x :: .ref o :: S) sh mi mj mr = zRun 65 46 L S sh (zup mi o x.toNatClampNeg y) mj mr := zr_iast (zD_of zk_65 d_65_45 rfl rfl) h
theorem q_65_46r : zRun 65 46 [some (.ref o)] S sh mi mj mr = zRun 65 47 [some (.ref o)] (.ref o :: S) sh mi mj mr := zr_l (zD_of zk_65 d_65_46 rfl rfl) rfl rfl rfl
theorem q_65_46n : zRun 65 46 [some (.null)] S sh mi mj mr = zRun 65 47 [some (.null)] (.null :: S) sh mi mj mr := zr_l (zD_of zk_65 d_65_46 rfl rfl) rfl rfl rfl
theorem q_65_47  : zRun 65 47 L S sh mi mj mr = zRun 65 48 L (.int 0 :: S) sh mi mj mr := zr_p (zD_of zk_65 d_65_47 rfl rfl) rfl
theorem q_65_48 (h : zIs sh o 0 4) : zRun 65 48 L (.int x :: .ref o :: S) sh mi mj mr = zRun 65 51 L S sh (zup mi o 3 x) mj mr := zr_putI (zD_of zk_65 d_65_48 rfl rfl) rfl rfl rfl (Or.inl rfl) h
theorem q_65_51  : zRun 65 51 L S sh mi mj mr = zRun 65 52 L (.int 1 :: S) sh mi mj mr := zr_p (zD_of zk_65 d_65_51 rfl rfl) rfl
theorem q_65_52 (h : x = 0 ∨ x = 1) : zRun 65 52 L ([.int x]) sh mi mj mr = some (some (.int x), sh, mi, mj, mr) := zr_ret (zD_of zk_65 d_65_52 rfl rfl) rfl rfl rfl rfl rfl (if_pos (zna_b h))
theorem e_65 : zCall 65 [.ref o] sh mi mj mr = zRun 65 0 [some (.ref o)] [] sh mi mj mr := rfl
theorem d_66_0 : decode cX4_hold 0 = .ok (.aload_n 0, 1) := by decide +kernel
theorem d_66_1 : decode cX4_hold 1 = .ok (.getfield 26, 3) := by decide +kernel
theorem d_66_4 : decode cX4_hold 4 = .ok (.aload_n 0, 1) := by decide +kernel
theorem d_66_5 : decode cX4_hold 5 = .ok (.getfield 18, 3) := by decide +kernel
theorem d_66_8 : decode cX4_hold 8 = .ok (.arraylength, 1) := by decide +kernel
theorem d_66_9 : decode cX4_hold 9 = .ok (.if_icmp .lt 5, 3) := by decide +kernel
theorem d_66_12 : decode cX4_hold 12 = .ok (.iconst 0, 1) := by decide +kernel
theorem d_66_13 : decode cX4_hold 13 = .ok (.ireturn, 1) := by decide +kernel
theorem d_66_14 : decode cX4_hold 14 = .ok (.aload_n 0, 1) := by decide +kernel
theorem d_66_15 : decode cX4_hold 15 = .ok (.getfield 18, 3) := by decide +kernel
theorem d_66_18 : decode cX4_hold 18 = .ok (.aload_n 0, 1) := by decide +kernel
theorem d_66_19 : decode cX4_hold 19 = .ok (.getfield 26, 3) := by decide +kernel
theorem d_66_22 : decode cX4_hold 22 = .ok (.iload_n 1, 1) := by decide +kernel
theorem d_66_23 : decode cX4_hold 23 = .ok (.iastore, 1) := by decide +kernel
theorem d_66_24 : decode cX4_hold 24 = .ok (.aload_n 0, 1) := by decide +kernel
theorem d_66_25 : decode cX4_hold 25 = .ok (.dup, 1) := by decide +kernel
theorem d_66_26 : decode cX4_hold 26 = .ok (.getfield 26, 3) := by decide +kernel
theorem d_66_29 : decode cX4_hold 29 = .ok (.iconst 1, 1) := by decide +kernel
theorem d_66_30 : decode cX4_hold 30 = .ok (.iadd, 1) := by decide +kernel
theorem d_66_31 : decode cX4_hold 31 = .ok (.putfield 26, 3) := by decide +kernel
theorem d_66_34 : decode cX4_hold 34 = .ok (.aload_n 0, 1) := by decide +kernel
theorem d_66_35 : decode cX4_hold 35 = .ok (.iload_n 2, 1) := by decide +kernel
theorem d_66_36 : decode cX4_hold 36 = .ok (.putfield 29, 3) := by decide +kernel
theorem d_66_39 : decode cX4_hold 39 = .ok (.iconst 1, 1) := by decide +kernel
theorem d_66_40 : decode cX4_hold 40 = .ok (.ireturn, 1) := by decide +kernel
theorem q_66_0r : zRun 66 0 [some (.ref o), l1, l2] S sh mi mj mr = zRun 66 1 [some (.ref o), l1, l2] (.ref o :: S) sh mi mj mr := zr_l (zD_of zk_66 d_66_0 rfl rfl) rfl rfl rfl
theorem q_66_0n : zRun 66 0 [some (.null), l1, l2] S sh mi mj mr = zRun 66 1 [some (.null), l1, l2] (.null :: S) sh mi mj mr := zr_l (zD_of zk_66 d_66_0 rfl rfl) rfl rfl rfl
theorem q_66_1 (h : zIs sh o 0 4) : zRun 66 1 L (.ref o :: S) sh mi mj mr = zRun 66 4 L (.int (mi o 2) :: S) sh mi mj mr := zr_getI (zD_of zk_66 d_66_1 rfl rfl) rfl rfl (Or.inl rfl) h
theorem q_66_4r : zRun 66 4 [some (.ref o), l1, l2] S sh mi mj mr = zRun 66 5 [some (.ref o), l1, l2] (.ref o :: S) sh mi mj mr := zr_l (zD_of zk_66 d_66_4 rfl rfl) rfl rfl rfl
theorem q_66_4n : zRun 66 4 [some (.null), l1, l2] S sh mi mj mr = zRun 66 5 [some (.null), l1, l2] (.null :: S) sh mi mj mr := zr_l (zD_of zk_66 d_66_4 rfl rfl) rfl rfl rfl
theorem q_66_5 (h : zIs sh o 0 4) : zRun 66 5 L (.ref o :: S) sh mi mj mr = zRun 66 8 L (va_rf (mr o 1) :: S) sh mi mj mr := zr_getR (zD_of zk_66 d_66_5 rfl rfl) rfl rfl rfl h
theorem q_66_8 {n : Nat} (h : zIs sh o 1 n) : zRun 66 8 L (.ref o :: S) sh mi mj mr = zRun 66 9 L (.int (Int32.ofNat n) :: S) sh mi mj mr := zr_len (zD_of zk_66 d_66_8 rfl rfl) (by decide) h
theorem q_66_9  : zRun 66 9 L (.int y :: .int x :: S) sh mi mj mr = if x < y then zRun 66 14 L S sh mi mj mr else zRun 66 12 L S sh mi mj mr := zr_if (off := 5) (P := x < y) (zD_of zk_66 d_66_9 rfl rfl) rfl rfl (by decide)
theorem q_66_12  : zRun 66 12 L S sh mi mj mr = zRun 66 13 L (.int 0 :: S) sh mi mj mr := zr_p (zD_of zk_66 d_66_12 rfl rfl) rfl
theorem q_66_13 (h : x = 0 ∨ x = 1) : zRun 66 13 L ([.int x]) sh mi mj mr = some (some (.int x), sh, mi, mj, mr) := zr_ret (zD_of zk_66 d_66_13 rfl rfl) rfl rfl rfl rfl rfl (if_pos (zna_b h))
theorem q_66_14r : zRun 66 14 [some (.ref o), l1, l2] S sh mi mj mr = zRun 66 15 [some (.ref o), l1, l2] (.ref o :: S) sh mi mj mr := zr_l (zD_of zk_66 d_66_14 rfl rfl) rfl rfl rfl
theorem q_66_14n : zRun 66 14 [some (.null), l1, l2] S sh mi mj mr = zRun 66 15 [some (.null), l1, l2] (.null :: S) sh mi mj mr := zr_l (zD_of zk_66 d_66_14 rfl rfl) rfl rfl rfl
theorem q_66_15 (h : zIs sh o 0 4) : zRun 66 15 L (.ref o :: S) sh mi mj mr = zRun 66 18 L (va_rf (mr o 1) :: S) sh mi mj mr := zr_getR (zD_of zk_66 d_66_15 rfl rfl) rfl rfl rfl h
theorem q_66_18r : zRun 66 18 [some (.ref o), l1, l2] S sh mi mj mr = zRun 66 19 [some (.ref o), l1, l2] (.ref o :: S) sh mi mj mr := zr_l (zD_of zk_66 d_66_18 rfl rfl) rfl rfl rfl
theorem q_66_18n : zRun 66 18 [some (.null), l1, l2] S sh mi mj mr = zRun 66 19 [some (.null), l1, l2] (.null :: S) sh mi mj mr := zr_l (zD_of zk_66 d_66_18 rfl rfl) rfl rfl rfl
theorem q_66_19 (h : zIs sh o 0 4) : zRun 66 19 L (.ref o :: S) sh mi mj mr = zRun 66 22 L (.int (mi o 2) :: S) sh mi mj mr := zr_getI (zD_of zk_66 d_66_19 rfl rfl) rfl rfl (Or.inl rfl) h
theorem q_66_22 : zRun 66 22 [l0, some (.int x), l2] S sh mi mj mr = zRun 66 23 [l0, some (.int x), l2] (.int x :: S) sh mi mj mr := zr_l (zD_of zk_66 d_66_22 rfl rfl) rfl rfl rfl
theorem q_66_23 (h : zAt sh o 1 x) : zRun 66 23 L (.int y :: .int x :: .ref o :: S) sh mi mj mr = zRun 66 24 L S sh (zup mi o x.toNatClampNeg y) mj mr := zr_iast (zD_of zk_66 d_66_23 rfl rfl) h
theorem q_66_24r : zRun 66 24 [some (.ref o), l1, l2] S sh mi mj mr = zRun 66 25 [some (.ref o), l1, l2] (.ref o :: S) sh mi mj mr := zr_l (zD_of zk_66 d_66_24 rfl rfl) rfl rfl rfl
theorem q_66_24n : zRun 66 24 [some (.null), l1, l2] S sh mi mj mr = zRun 66 25 [some (.null), l1, l2] (.null :: S) sh mi mj mr := zr_l (zD_of zk_66 d_66_24 rfl rfl) rfl rfl rfl
theorem q_66_25r : zRun 66 25 L (.ref o :: S) sh mi mj mr = zRun 66 26 L (.ref o :: .ref o :: S) sh mi mj mr := zr_p (zD_of zk_66 d_66_25 rfl rfl) rfl
theorem q_66_25i : zRun 66 25 L (.int x :: S) sh mi mj mr = zRun 66 26 L (.int x :: .int x :: S) sh mi mj mr := zr_p (zD_of zk_66 d_66_25 rfl rfl) rfl
theorem q_66_26 (h : zIs sh o 0 4) : zRun 66 26 L (.ref o :: S) sh mi mj mr = zRun 66 29 L (.int (mi o 2) :: S) sh mi mj mr := zr_getI (zD_of zk_66 d_66_26 rfl rfl) rfl rfl (Or.inl rfl) h
theorem q_66_29  : zRun 66 29 L S sh mi mj mr = zRun 66 30 L (.int 1 :: S) sh mi mj mr := zr_p (zD_of zk_66 d_66_29 rfl rfl) rfl
theorem q_66_30  : zRun 66 30 L (.int y :: .int x :: S) sh mi mj mr = zRun 66 31 L (.int (x + y) :: S) sh mi mj mr := zr_p (zD_of zk_66 d_66_30 rfl rfl) rfl
theorem q_66_31 (h : zIs sh o 0 4) : zRun 66 31 L (.int x :: .ref o :: S) sh mi mj mr = zRun 66 34 L S sh (zup mi o 2 x) mj mr := zr_putI (zD_of zk_66 d_66_31 rfl rfl) rfl rfl rfl (Or.inl rfl) h
theorem q_66_34r : zRun 66 34 [some (.ref o), l1, l2] S sh mi mj mr = zRun 66 35 [some (.ref o), l1, l2] (.ref o :: S) sh mi mj mr := zr_l (zD_of zk_66 d_66_34 rfl rfl) rfl rfl rfl
theorem q_66_34n : zRun 66 34 [some (.null), l1, l2] S sh mi mj mr = zRun 66 35 [some (.null), l1, l2] (.null :: S) sh mi mj mr := zr_l (zD_of zk_66 d_66_34 rfl rfl) rfl rfl rfl
theorem q_66_35 : zRun 66 35 [l0, l1, some (.int x)] S sh mi mj mr = zRun 66 36 [l0, l1, some (.int x)] (.int x :: S) sh mi mj mr := zr_l (zD_of zk_66 d_66_35 rfl rfl) rfl rfl rfl
theorem q_66_36 (h : zIs sh o 0 4) : zRun 66 36 L (.int x :: .ref o :: S) sh mi mj mr = zRun 66 39 L S sh (zup mi o 3 x) mj mr := zr_putI (zD_of zk_66 d_66_36 rfl rfl) rfl rfl rfl (Or.inl rfl) h
theorem q_66_39  : zRun 66 39 L S sh mi mj mr = zRun 66 40 L (.int 1 :: S) sh mi mj mr := zr_p (zD_of zk_66 d_66_39 rfl rfl) rfl
theorem q_66_40 (h : x = 0 ∨ x = 1) : zRun 66 40 L ([.int x]) sh mi mj mr = some (some (.int x), sh, mi, mj, mr) := zr_ret (zD_of zk_66 d_66_40 rfl rfl) rfl rfl rfl rfl rfl (if_pos (zna_b h))
theorem e_66 {x0 x1 : Int32} : zCall 66 [.ref o, .int x0, .int x1] sh mi mj mr = zRun 66 0 [some (.ref o), some (.int x0), some (.int x1)] [] sh mi mj mr := rfl
theorem d_67_0 : decode cX4_complete 0 = .ok (.aload_n 0, 1) := by decide +kernel
theorem d_67_1 : decode cX4_complete 1 = .ok (.getfield 26, 3) := by decide +kernel
theorem d_67_4 : decode cX4_complete 4 = .ok (.ifCond .le 51, 3) := by decide +kernel
theorem d_67_7 : decode cX4_complete 7 = .ok (.aload_n 0, 1) := by decide +kernel
theorem d_67_8 : decode cX4_complete 8 = .ok (.getfield 18, 3) := by decide +kernel
theorem d_67_11 : decode cX4_complete 11 = .ok (.aload_n 0, 1) := by decide +kernel
theorem d_67_12 : decode cX4_complete 12 = .ok (.getfield 26, 3) := by decide +kernel
theorem d_67_15 : decode cX4_complete 15 = .ok (.iconst 1, 1) := by decide +kernel
theorem d_67_16 : decode cX4_complete 16 = .ok (.isub, 1) := by decide +kernel
theorem d_67_17 : decode cX4_complete 17 = .ok (.iaload, 1) := by decide +kernel
theorem d_67_18 : decode cX4_complete 18 = .ok (.invokestatic 97, 3) := by decide +kernel
theorem d_67_21 : decode cX4_complete 21 = .ok (.iload_n 1, 1) := by decide +kernel
theorem d_67_22 : decode cX4_complete 22 = .ok (.if_icmp .lt 33, 3) := by decide +kernel
theorem d_67_25 : decode cX4_complete 25 = .ok (.aload_n 0, 1) := by decide +kernel
theorem d_67_26 : decode cX4_complete 26 = .ok (.dup, 1) := by decide +kernel
theorem d_67_27 : decode cX4_complete 27 = .ok (.getfield 26, 3) := by decide +kernel
theorem d_67_30 : decode cX4_complete 30 = .ok (.iconst 1, 1) := by decide +kernel
theorem d_67_31 : decode cX4_complete 31 = .ok (.isub, 1) := by decide +kernel
theorem d_67_32 : decode cX4_complete 32 = .ok (.putfield 26, 3) := by decide +kernel
theorem d_67_35 : decode cX4_complete 35 = .ok (.aload_n 0, 1) := by decide +kernel
theorem d_67_36 : decode cX4_complete 36 = .ok (.getfield 12, 3) := by decide +kernel
theorem d_67_39 : decode cX4_complete 39 = .ok (.aload_n 0, 1) := by decide +kernel
theorem d_67_40 : decode cX4_complete 40 = .ok (.getfield 18, 3) := by decide +kernel
theorem d_67_43 : decode cX4_complete 43 = .ok (.aload_n 0, 1) := by decide +kernel
theorem d_67_44 : decode cX4_complete 44 = .ok (.getfield 26, 3) := by decide +kernel
theorem d_67_47 : decode cX4_complete 47 = .ok (.iaload, 1) := by decide +kernel
theorem d_67_48 : decode cX4_complete 48 = .ok (.iconst 0, 1) := by decide +kernel
theorem d_67_49 : decode cX4_complete 49 = .ok (.invokevirtual 72, 3) := by decide +kernel
theorem d_67_52 : decode cX4_complete 52 = .ok (.goto (-52), 3) := by decide +kernel
theorem d_67_55 : decode cX4_complete 55 = .ok (.return_, 1) := by decide +kernel
theorem q_67_0r : zRun 67 0 [some (.ref o), l1] S sh mi mj mr = zRun 67 1 [some (.ref o), l1] (.ref o :: S) sh mi mj mr := zr_l (zD_of zk_67 d_67_0 rfl rfl) rfl rfl rfl
theorem q_67_0n : zRun 67 0 [some (.null), l1] S sh mi mj mr = zRun 67 1 [some (.null), l1] (.null :: S) sh mi mj mr := zr_l (zD_of zk_67 d_67_0 rfl rfl) rfl rfl rfl
theorem q_67_1 (h : zIs sh o 0 4) : zRun 67 1 L (.ref o :: S) sh mi mj mr = zRun 67 4 L (.int (mi o 2) :: S) sh mi mj mr := zr_getI (zD_of zk_67 d_67_1 rfl rfl) rfl rfl (Or.inl rfl) h
theorem q_67_4  : zRun 67 4 L (.int x :: S) sh mi mj mr = if x ≤ 0 then zRun 67 55 L S sh mi mj mr else zRun 67 7 L S sh mi mj mr := zr_if (off := 51) (P := x ≤ 0) (zD_of zk_67 d_67_4 rfl rfl) rfl rfl (by decide)
theorem q_67_7r : zRun 67 7 [some (.ref o), l1] S sh mi mj mr = zRun 67 8 [some (.ref o), l1] (.ref o :: S) sh mi mj mr := zr_l (zD_of zk_67 d_67_7 rfl rfl) rfl rfl rfl
theorem q_67_7n : zRun 67 7 [some (.null), l1] S sh mi mj mr = zRun 67 8 [some (.null), l1] (.null :: S) sh mi mj mr := zr_l (zD_of zk_67 d_67_7 rfl rfl) rfl rfl rfl
theorem q_67_8 (h : zIs sh o 0 4) : zRun 67 8 L (.ref o :: S) sh mi mj mr = zRun 67 11 L (va_rf (mr o 1) :: S) sh mi mj mr := zr_getR (zD_of zk_67 d_67_8 rfl rfl) rfl rfl rfl h
theorem q_67_11r : zRun 67 11 [some (.ref o), l1] S sh mi mj mr = zRun 67 12 [some (.ref o), l1] (.ref o :: S) sh mi mj mr := zr_l (zD_of zk_67 d_67_11 rfl rfl) rfl rfl rfl
theorem q_67_11n : zRun 67 11 [some (.null), l1] S sh mi mj mr = zRun 67 12 [some (.null), l1] (.null :: S) sh mi mj mr := zr_l (zD_of zk_67 d_67_11 rfl rfl) rfl rfl rfl
theorem q_67_12 (h : zIs sh o 0 4) : zRun 67 12 L (.ref o :: S) sh mi mj mr = zRun 67 15 L (.int (mi o 2) :: S) sh mi mj mr := zr_getI (zD_of zk_67 d_67_12 rfl rfl) rfl rfl (Or.inl rfl) h
theorem q_67_15  : zRun 67 15 L S sh mi mj mr = zRun 67 16 L (.int 1 :: S) sh mi mj mr := zr_p (zD_of zk_67 d_67_15 rfl rfl) rfl
theorem q_67_16  : zRun 67 16 L (.int y :: .int x :: S) sh mi mj mr = zRun 67 17 L (.int (x - y) :: S) sh mi mj mr := zr_p (zD_of zk_67 d_67_16 rfl rfl) rfl
theorem q_67_17 (h : zAt sh o 1 x) : zRun 67 17 L (.int x :: .ref o :: S) sh mi mj mr = zRun 67 18 L (.int (mi o x.toNatClampNeg) :: S) sh mi mj mr := zr_iald (zD_of zk_67 d_67_17 rfl rfl) h
theorem q_67_18  {x0 : Int32} (hS : zcat S ≤ 8) : zRun 67 18 L (.int x0 :: S) sh mi mj mr = (zCall 68 [.int x0] sh mi mj mr).bind fun r => zRun 67 21 L (r.1.toList ++ S) r.2.1 r.2.2.1 r.2.2.2.1 r.2.2.2.2 := zr_S (zD_of zk_67 d_67_18 rfl rfl) rfl zk_68 rfl rfl rfl hS
theorem q_67_21 : zRun 67 21 [l0, some (.int x)] S sh mi mj mr = zRun 67 22 [l0, some (.int x)] (.int x :: S) sh mi mj mr := zr_l (zD_of zk_67 d_67_21 rfl rfl) rfl rfl rfl
theorem q_67_22  : zRun 67 22 L (.int y :: .int x :: S) sh mi mj mr = if x < y then zRun 67 55 L S sh mi mj mr else zRun 67 25 L S sh mi mj mr := zr_if (off := 33) (P := x < y) (zD_of zk_67 d_67_22 rfl rfl) rfl rfl (by decide)
theorem q_67_25r : zRun 67 25 [some (.ref o), l1] S sh mi mj mr = zRun 67 26 [some (.ref o), l1] (.ref o :: S) sh mi mj mr := zr_l (zD_of zk_67 d_67_25 rfl rfl) rfl rfl rfl
theorem q_67_25n : zRun 67 25 [some (.null), l1] S sh mi mj mr = zRun 67 26 [some (.null), l1] (.null :: S) sh mi mj mr := zr_l (zD_of zk_67 d_67_25 rfl rfl) rfl rfl rfl
theorem q_67_26r : zRun 67 26 L (.ref o :: S) sh mi mj mr = zRun 67 27 L (.ref o :: .ref o :: S) sh mi mj mr := zr_p (zD_of zk_67 d_67_26 rfl rfl) rfl
theorem q_67_26i : zRun 67 26 L (.int x :: S) sh mi mj mr = zRun 67 27 L (.int x :: .int x :: S) sh mi mj mr := zr_p (zD_of zk_67 d_67_26 rfl rfl) rfl
theorem q_67_27 (h : zIs sh o 0 4) : zRun 67 27 L (.ref o :: S) sh mi mj mr = zRun 67 30 L (.int (mi o 2) :: S) sh mi mj mr := zr_getI (zD_of zk_67 d_67_27 rfl rfl) rfl rfl (Or.inl rfl) h
theorem q_67_30  : zRun 67 30 L S sh mi mj mr = zRun 67 31 L (.int 1 :: S) sh mi mj mr := zr_p (zD_of zk_67 d_67_30 rfl rfl) rfl
theorem q_67_31  : zRun 67 31 L (.int y :: .int x :: S) sh mi mj mr = zRun 67 32 L (.int (x - y) :: S) sh mi mj mr := zr_p (zD_of zk_67 d_67_31 rfl rfl) rfl
theorem q_67_32 (h : zIs sh o 0 4) : zRun 67 32 L (.int x :: .ref o :: S) sh mi mj mr = zRun 67 35 L S sh (zup mi o 2 x) mj mr := zr_putI (zD_of zk_67 d_67_32 rfl rfl) rfl rfl rfl (Or.inl rfl) h
theorem q_67_35r : zRun 67 35 [some (.ref o), l1] S sh mi mj mr = zRun 67 36 [some (.ref o), l1] (.ref o :: S) sh mi mj mr := zr_l (zD_of zk_67 d_67_35 rfl rfl) rfl rfl rfl
theorem q_67_35n : zRun 67 35 [some (.null), l1] S sh mi mj mr = zRun 67 36 [some (.null), l1] (.null :: S) sh mi mj mr := zr_l (zD_of zk_67 d_67_35 rfl rfl) rfl rfl rfl
theorem q_67_36 (h : zIs sh o 0 4) : zRun 67 36 L (.ref o :: S) sh mi mj mr = zRun 67 39 L (va_rf (mr o 0) :: S) sh mi mj mr := zr_getR (zD_of zk_67 d_67_36 rfl rfl) rfl rfl rfl h
theorem q_67_39r : zRun 67 39 [some (.ref o), l1] S sh mi mj mr = zRun 67 40 [some (.ref o), l1] (.ref o :: S) sh mi mj mr := zr_l (zD_of zk_67 d_67_39 rfl rfl) rfl rfl rfl
theorem q_67_39n : zRun 67 39 [some (.null), l1] S sh mi mj mr = zRun 67 40 [some (.null), l1] (.null :: S) sh mi mj mr := zr_l (zD_of zk_67 d_67_39 rfl rfl) rfl rfl rfl
theorem q_67_40 (h : zIs sh o 0 4) : zRun 67 40 L (.ref o :: S) sh mi mj mr = zRun 67 43 L (va_rf (mr o 1) :: S) sh mi mj mr := zr_getR (zD_of zk_67 d_67_40 rfl rfl) rfl rfl rfl h
theorem q_67_43r : zRun 67 43 [some (.ref o), l1] S sh mi mj mr = zRun 67 44 [some (.ref o), l1] (.ref o :: S) sh mi mj mr := zr_l (zD_of zk_67 d_67_43 rfl rfl) rfl rfl rfl
theorem q_67_43n : zRun 67 43 [some (.null), l1] S sh mi mj mr = zRun 67 44 [some (.null), l1] (.null :: S) sh mi mj mr := zr_l (zD_of zk_67 d_67_43 rfl rfl) rfl rfl rfl
theorem q_67_44 (h : zIs sh o 0 4) : zRun 67 44 L (.ref o :: S) sh mi mj mr = zRun 67 47 L (.int (mi o 2) :: S) sh mi mj mr := zr_getI (zD_of zk_67 d_67_44 rfl rfl) rfl rfl (Or.inl rfl) h
theorem q_67_47 (h : zAt sh o 1 x) : zRun 67 47 L (.int x :: .ref o :: S) sh mi mj mr = zRun 67 48 L (.int (mi o x.toNatClampNeg) :: S) sh mi mj mr := zr_iald (zD_of zk_67 d_67_47 rfl rfl) h
theorem q_67_48  : zRun 67 48 L S sh mi mj mr = zRun 67 49 L (.int 0 :: S) sh mi mj mr := zr_p (zD_of zk_67 d_67_48 rfl rfl) rfl
theorem q_67_49  {x0 x1 : Int32} (hS : zcat S ≤ 8) (h : zIs sh o 0 6) : zRun 67 49 L (.int x1 :: .int x0 :: .ref o :: S) sh mi mj mr = (zCall 75 [.ref o, .int x0, .int x1] sh mi mj mr).bind fun r => zRun 67 52 L (r.1.toList ++ S) r.2.1 r.2.2.1 r.2.2.2.1 r.2.2.2.2 := zr_V (zD_of zk_67 d_67_49 rfl rfl) rfl zk_75 rfl rfl rfl hS h
theorem q_67_52  : zRun 67 52 L S sh mi mj mr = zRun 67 0 L S sh mi mj mr := zr_go (off := (-52)) (zD_of zk_67 d_67_52 rfl rfl) rfl rfl (by decide)
theorem q_67_55  : zRun 67 55 L [] sh mi mj mr = some (none, sh, mi, mj, mr) := zr_ret (zD_of zk_67 d_67_55 rfl rfl) rfl rfl rfl rfl rfl rfl
theorem e_67 {x0 : Int32} : zCall 67 [.ref o, .int x0] sh mi mj mr = zRun 67 0 [some (.ref o), some (.int x0)] [] sh mi mj mr := rfl
theorem d_68_0 : decode cX4_bindingOf 0 = .ok (.iload_n 0, 1) := by decide +kernel
theorem d_68_1 : decode cX4_bindingOf 1 = .ok (.bipush 9, 2) := by decide +kernel
theorem d_68_3 : decode cX4_bindingOf 3 = .ok (.if_icmp .eq 9, 3) := by decide +kernel
theorem d_68_6 : decode cX4_bindingOf 6 = .ok (.iload_n 0, 1) := by decide +kernel
theorem d_68_7 : decode cX4_bindingOf 7 = .ok (.bipush 11, 2) := by decide +kernel
theorem d_68_9 : decode cX4_bindingOf 9 = .ok (.if_icmp .ne 5, 3) := by decide +kernel
theorem d_68_12 : decode cX4_bindingOf 12 = .ok (.iconst 2, 1) := by decide +kernel
theorem d_68_13 : decode cX4_bindingOf 13 = .ok (.ireturn, 1) := by decide +kernel
theorem d_68_14 : decode cX4_bindingOf 14 = .ok (.iload_n 0, 1) := by decide +kernel
theorem d_68_15 : decode cX4_bindingOf 15 = .ok (.iconst 5, 1) := by decide +kernel
theorem d_68_16 : decode cX4_bindingOf 16 = .ok (.if_icmp .eq 15, 3) := by decide +kernel
theorem d_68_19 : decode cX4_bindingOf 19 = .ok (.iload_n 0, 1) := by decide +kernel
theorem d_68_20 : decode cX4_bindingOf 20 = .ok (.bipush 6, 2) := by decide +kernel
theorem d_68_22 : decode cX4_bindingOf 22 = .ok (.if_icmp .eq 9, 3) := by decide +kernel
theorem d_68_25 : decode cX4_bindingOf 25 = .ok (.iload_n 0, 1) := by decide +kernel
theorem d_68_26 : decode cX4_bindingOf 26 = .ok (.bipush 7, 2) := by decide +kernel
theorem d_68_28 : decode cX4_bindingOf 28 = .ok (.if_icmp .ne 7, 3) := by decide +kernel
theorem d_68_31 : decode cX4_bindingOf 31 = .ok (.iconst 1, 1) := by decide +kernel
theorem d_68_32 : decode cX4_bindingOf 32 = .ok (.goto 4, 3) := by decide +kernel
theorem d_68_35 : decode cX4_bindingOf 35 = .ok (.iconst 0, 1) := by decide +kernel
theorem d_68_36 : decode cX4_bindingOf 36 = .ok (.ireturn, 1) := by decide +kernel
theorem q_68_0 : zRun 68 0 [some (.int x)] S sh mi mj mr = zRun 68 1 [some (.int x)] (.int x :: S) sh mi mj mr := zr_l (zD_of zk_68 d_68_0 rfl rfl) rfl rfl rfl
theorem q_68_1  : zRun 68 1 L S sh mi mj mr = zRun 68 3 L (.int 9 :: S) sh mi mj mr := zr_p (zD_of zk_68 d_68_1 rfl rfl) rfl
theorem q_68_3  : zRun 68 3 L (.int y :: .int x :: S) sh mi mj mr = if x = y then zRun 68 12 L S sh mi mj mr else zRun 68 6 L S sh mi mj mr := zr_if (off := 9) (P := x = y) (zD_of zk_68 d_68_3 rfl rfl) rfl rfl (by decide)
theorem q_68_6 : zRun 68 6 [some (.int x)] S sh mi mj mr = zRun 68 7 [some (.int x)] (.int x :: S) sh mi mj mr := zr_l (zD_of zk_68 d_68_6 rfl rfl) rfl rfl rfl
theorem q_68_7  : zRun 68 7 L S sh mi mj mr = zRun 68 9 L (.int 11 :: S) sh mi mj mr := zr_p (zD_of zk_68 d_68_7 rfl rfl) rfl
theorem q_68_9  : zRun 68 9 L (.int y :: .int x :: S) sh mi mj mr = if ¬ x = y then zRun 68 14 L S sh mi mj mr else zRun 68 12 L S sh mi mj mr := zr_if (off := 5) (P := ¬ x = y) (zD_of zk_68 d_68_9 rfl rfl) rfl rfl (by decide)
theorem q_68_12  : zRun 68 12 L S sh mi mj mr = zRun 68 13 L (.int 2 :: S) sh mi mj mr := zr_p (zD_of zk_68 d_68_12 rfl rfl) rfl
theorem q_68_13  : zRun 68 13 L ([.int x]) sh mi mj mr = some (some (.int x), sh, mi, mj, mr) := zr_ret (zD_of zk_68 d_68_13 rfl rfl) rfl rfl rfl rfl rfl (if_pos rfl)
theorem q_68_14 : zRun 68 14 [some (.int x)] S sh mi mj mr = zRun 68 15 [some (.int x)] (.int x :: S) sh mi mj mr := zr_l (zD_of zk_68 d_68_14 rfl rfl) rfl rfl rfl
theorem q_68_15  : zRun 68 15 L S sh mi mj mr = zRun 68 16 L (.int 5 :: S) sh mi mj mr := zr_p (zD_of zk_68 d_68_15 rfl rfl) rfl
theorem q_68_16  : zRun 68 16 L (.int y :: .int x :: S) sh mi mj mr = if x = y then zRun 68 31 L S sh mi mj mr else zRun 68 19 L S sh mi mj mr := zr_if (off := 15) (P := x = y) (zD_of zk_68 d_68_16 rfl rfl) rfl rfl (by decide)
theorem q_68_19 : zRun 68 19 [some (.int x)] S sh mi mj mr = zRun 68 20 [some (.int x)] (.int x :: S) sh mi mj mr := zr_l (zD_of zk_68 d_68_19 rfl rfl) rfl rfl rfl
theorem q_68_20  : zRun 68 20 L S sh mi mj mr = zRun 68 22 L (.int 6 :: S) sh mi mj mr := zr_p (zD_of zk_68 d_68_20 rfl rfl) rfl
theorem q_68_22  : zRun 68 22 L (.int y :: .int x :: S) sh mi mj mr = if x = y then zRun 68 31 L S sh mi mj mr else zRun 68 25 L S sh mi mj mr := zr_if (off := 9) (P := x = y) (zD_of zk_68 d_68_22 rfl rfl) rfl rfl (by decide)
theorem q_68_25 : zRun 68 25 [some (.int x)] S sh mi mj mr = zRun 68 26 [some (.int x)] (.int x :: S) sh mi mj mr := zr_l (zD_of zk_68 d_68_25 rfl rfl) rfl rfl rfl
theorem q_68_26  : zRun 68 26 L S sh mi mj mr = zRun 68 28 L (.int 7 :: S) sh mi mj mr := zr_p (zD_of zk_68 d_68_26 rfl rfl) rfl
theorem q_68_28  : zRun 68 28 L (.int y :: .int x :: S) sh mi mj mr = if ¬ x = y then zRun 68 35 L S sh mi mj mr else zRun 68 31 L S sh mi mj mr := zr_if (off := 7) (P := ¬ x = y) (zD_of zk_68 d_68_28 rfl rfl) rfl rfl (by decide)
theorem q_68_31  : zRun 68 31 L S sh mi mj mr = zRun 68 32 L (.int 1 :: S) sh mi mj mr := zr_p (zD_of zk_68 d_68_31 rfl rfl) rfl
theorem q_68_32  : zRun 68 32 L S sh mi mj mr = zRun 68 36 L S sh mi mj mr := zr_go (off := 4) (zD_of zk_68 d_68_32 rfl rfl) rfl rfl (by decide)
theorem q_68_35  : zRun 68 35 L S sh mi mj mr = zRun 68 36 L (.int 0 :: S) sh mi mj mr := zr_p (zD_of zk_68 d_68_35 rfl rfl) rfl
theorem q_68_36  : zRun 68 36 L ([.int x]) sh mi mj mr = some (some (.int x), sh, mi, mj, mr) := zr_ret (zD_of zk_68 d_68_36 rfl rfl) rfl rfl rfl rfl rfl (if_pos rfl)
theorem e_68 {x0 : Int32} : zCall 68 [.int x0] sh mi mj mr = zRun 68 0 [some (.int x0)] [] sh mi mj mr := rfl
theorem d_69_0 : decode cX4_isDigit 0 = .ok (.iload_n 0, 1) := by decide +kernel
theorem d_69_1 : decode cX4_isDigit 1 = .ok (.bipush 48, 2) := by decide +kernel
theorem d_69_3 : decode cX4_isDigit 3 = .ok (.if_icmp .lt 13, 3) := by decide +kernel
theorem d_69_6 : decode cX4_isDigit 6 = .ok (.iload_n 0, 1) := by decide +kernel
theorem d_69_7 : decode cX4_isDigit 7 = .ok (.bipush 57, 2) := by decide +kernel
theorem d_69_9 : decode cX4_isDigit 9 = .ok (.if_icmp .gt 7, 3) := by decide +kernel
theorem d_69_12 : decode cX4_isDigit 12 = .ok (.iconst 1, 1) := by decide +kernel
theorem d_69_13 : decode cX4_isDigit 13 = .ok (.goto 4, 3) := by decide +kernel
theorem d_69_16 : decode cX4_isDigit 16 = .ok (.iconst 0, 1) := by decide +kernel
theorem d_69_17 : decode cX4_isDigit 17 = .ok (.ireturn, 1) := by decide +kernel
theorem q_69_0 : zRun 69 0 [some (.int x)] S sh mi mj mr = zRun 69 1 [some (.int x)] (.int x :: S) sh mi mj mr := zr_l (zD_of zk_69 d_69_0 rfl rfl) rfl rfl rfl
theorem q_69_1  : zRun 69 1 L S sh mi mj mr = zRun 69 3 L (.int 48 :: S) sh mi mj mr := zr_p (zD_of zk_69 d_69_1 rfl rfl) rfl
theorem q_69_3  : zRun 69 3 L (.int y :: .int x :: S) sh mi mj mr = if x < y then zRun 69 16 L S sh mi mj mr else zRun 69 6 L S sh mi mj mr := zr_if (off := 13) (P := x < y) (zD_of zk_69 d_69_3 rfl rfl) rfl rfl (by decide)
theorem q_69_6 : zRun 69 6 [some (.int x)] S sh mi mj mr = zRun 69 7 [some (.int x)] (.int x :: S) sh mi mj mr := zr_l (zD_of zk_69 d_69_6 rfl rfl) rfl rfl rfl
theorem q_69_7  : zRun 69 7 L S sh mi mj mr = zRun 69 9 L (.int 57 :: S) sh mi mj mr := zr_p (zD_of zk_69 d_69_7 rfl rfl) rfl
theorem q_69_9  : zRun 69 9 L (.int y :: .int x :: S) sh mi mj mr = if y < x then zRun 69 16 L S sh mi mj mr else zRun 69 12 L S sh mi mj mr := zr_if (off := 7) (P := y < x) (zD_of zk_69 d_69_9 rfl rfl) rfl rfl (by decide)
theorem q_69_12  : zRun 69 12 L S sh mi mj mr = zRun 69 13 L (.int 1 :: S) sh mi mj mr := zr_p (zD_of zk_69 d_69_12 rfl rfl) rfl
theorem q_69_13  : zRun 69 13 L S sh mi mj mr = zRun 69 17 L S sh mi mj mr := zr_go (off := 4) (zD_of zk_69 d_69_13 rfl rfl) rfl rfl (by decide)
theorem q_69_16  : zRun 69 16 L S sh mi mj mr = zRun 69 17 L (.int 0 :: S) sh mi mj mr := zr_p (zD_of zk_69 d_69_16 rfl rfl) rfl
theorem q_69_17 (h : x = 0 ∨ x = 1) : zRun 69 17 L ([.int x]) sh mi mj mr = some (some (.int x), sh, mi, mj, mr) := zr_ret (zD_of zk_69 d_69_17 rfl rfl) rfl rfl rfl rfl rfl (if_pos (zna_b h))
theorem e_69 {x0 : Int32} : zCall 69 [.int x0] sh mi mj mr = zRun 69 0 [some (.int x0)] [] sh mi mj mr := rfl
end
