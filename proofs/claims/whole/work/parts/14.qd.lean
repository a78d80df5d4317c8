/-! ===== one rule for each instruction of the model (1) ===== -/
section
variable {L : zLS} {S : List Value} {sh : zSh} {mi : zI} {mj : zJ} {mr : zR} {x y z : Int32} {u v : Int64} {o o2 : Nat} {l0 l1 l2 l3 l4 l5 l6 l7 l8 l9 l10 l11 l12 l13 l14 l15 l16 l17 l18 : Option Value}
theorem d_110_0 : decode cX8_init 0 = .ok (.aload_n 0, 1) := by decide +kernel
theorem d_110_1 : decode cX8_init 1 = .ok (.invokespecial 1, 3) := by decide +kernel
theorem d_110_4 : decode cX8_init 4 = .ok (.aload_n 0, 1) := by decide +kernel
theorem d_110_5 : decode cX8_init 5 = .ok (.sipush 493, 3) := by decide +kernel
theorem d_110_8 : decode cX8_init 8 = .ok (.newarray .int, 2) := by decide +kernel
theorem d_110_10 : decode cX8_init 10 = .ok (.putfield 7, 3) := by decide +kernel
theorem d_110_13 : decode cX8_init 13 = .ok (.aload_n 0, 1) := by decide +kernel
theorem d_110_14 : decode cX8_init 14 = .ok (.sipush 986, 3) := by decide +kernel
theorem d_110_17 : decode cX8_init 17 = .ok (.newarray .int, 2) := by decide +kernel
theorem d_110_19 : decode cX8_init 19 = .ok (.putfield 13, 3) := by decide +kernel
theorem d_110_22 : decode cX8_init 22 = .ok (.aload_n 0, 1) := by decide +kernel
theorem d_110_23 : decode cX8_init 23 = .ok (.iconst 2, 1) := by decide +kernel
theorem d_110_24 : decode cX8_init 24 = .ok (.newarray .boolean, 2) := by decide +kernel
theorem d_110_26 : decode cX8_init 26 = .ok (.putfield 16, 3) := by decide +kernel
theorem d_110_29 : decode cX8_init 29 = .ok (.aload_n 0, 1) := by decide +kernel
theorem d_110_30 : decode cX8_init 30 = .ok (.bipush 48, 2) := by decide +kernel
theorem d_110_32 : decode cX8_init 32 = .ok (.newarray .int, 2) := by decide +kernel
theorem d_110_34 : decode cX8_init 34 = .ok (.putfield 20, 3) := by decide +kernel
theorem d_110_37 : decode cX8_init 37 = .ok (.aload_n 0, 1) := by decide +kernel
theorem d_110_38 : decode cX8_init 38 = .ok (.bipush 48, 2) := by decide +kernel
theorem d_110_40 : decode cX8_init 40 = .ok (.newarray .int, 2) := by decide +kernel
theorem d_110_42 : decode cX8_init 42 = .ok (.putfield 23, 3) := by decide +kernel
theorem d_110_45 : decode cX8_init 45 = .ok (.aload_n 0, 1) := by decide +kernel
theorem d_110_46 : decode cX8_init 46 = .ok (.bipush 48, 2) := by decide +kernel
theorem d_110_48 : decode cX8_init 48 = .ok (.newarray .int, 2) := by decide +kernel
theorem d_110_50 : decode cX8_init 50 = .ok (.putfield 26, 3) := by decide +kernel
theorem d_110_53 : decode cX8_init 53 = .ok (.aload_n 0, 1) := by decide +kernel
theorem d_110_54 : decode cX8_init 54 = .ok (.sipush 1700, 3) := by decide +kernel
theorem d_110_57 : decode cX8_init 57 = .ok (.newarray .long, 2) := by decide +kernel
theorem d_110_59 : decode cX8_init 59 = .ok (.putfield 29, 3) := by decide +kernel
theorem d_110_62 : decode cX8_init 62 = .ok (.aload_n 0, 1) := by decide +kernel
theorem d_110_63 : decode cX8_init 63 = .ok (.sipush 130, 3) := by decide +kernel
theorem d_110_66 : decode cX8_init 66 = .ok (.newarray .int, 2) := by decide +kernel
theorem d_110_68 : decode cX8_init 68 = .ok (.putfield 33, 3) := by decide +kernel
theorem d_110_71 : decode cX8_init 71 = .ok (.aload_n 0, 1) := by decide +kernel
theorem d_110_72 : decode cX8_init 72 = .ok (.sipush 130, 3) := by decide +kernel
theorem d_110_75 : decode cX8_init 75 = .ok (.newarray .int, 2) := by decide +kernel
theorem d_110_77 : decode cX8_init 77 = .ok (.putfield 36, 3) := by decide +kernel
theorem d_110_80 : decode cX8_init 80 = .ok (.aload_n 0, 1) := by decide +kernel
theorem d_110_81 : decode cX8_init 81 = .ok (.iconst 4, 1) := by decide +kernel
theorem d_110_82 : decode cX8_init 82 = .ok (.newarray .int, 2) := by decide +kernel
theorem d_110_84 : decode cX8_init 84 = .ok (.putfield 39, 3) := by decide +kernel
theorem d_110_87 : decode cX8_init 87 = .ok (.aload_n 0, 1) := by decide +kernel
theorem d_110_88 : decode cX8_init 88 = .ok (.iconst 4, 1) := by decide +kernel
theorem d_110_89 : decode cX8_init 89 = .ok (.newarray .int, 2) := by decide +kernel
theorem d_110_91 : decode cX8_init 91 = .ok (.putfield 42, 3) := by decide +kernel
theorem d_110_94 : decode cX8_init 94 = .ok (.aload_n 0, 1) := by decide +kernel
theorem d_110_95 : decode cX8_init 95 = .ok (.sipush 130, 3) := by decide +kernel
theorem d_110_98 : decode cX8_init 98 = .ok (.newarray .long, 2) := by decide +kernel
theorem d_110_100 : decode cX8_init 100 = .ok (.putfield 45, 3) := by decide +kernel
theorem d_110_103 : decode cX8_init 103 = .ok (.aload_n 0, 1) := by decide +kernel
theorem d_110_104 : decode cX8_init 104 = .ok (.sipush 130, 3) := by decide +kernel
theorem d_110_107 : decode cX8_init 107 = .ok (.newarray .long, 2) := by decide +kernel
theorem d_110_109 : decode cX8_init 109 = .ok (.putfield 48, 3) := by decide +kernel
theorem d_110_112 : decode cX8_init 112 = .ok (.aload_n 0, 1) := by decide +kernel
theorem d_110_113 : decode cX8_init 113 = .ok (.sipush 130, 3) := by decide +kernel
theorem d_110_116 : decode cX8_init 116 = .ok (.newarray .boolean, 2) := by decide +kernel
theorem d_110_118 : decode cX8_init 118 = .ok (.putfield 51, 3) := by decide +kernel
theorem d_110_121 : decode cX8_init 121 = .ok (.aload_n 0, 1) := by decide +kernel
theorem d_110_122 : decode cX8_init 122 = .ok (.sipush 1680, 3) := by decide +kernel
theorem d_110_125 : decode cX8_init 125 = .ok (.newarray .int, 2) := by decide +kernel
theorem d_110_127 : decode cX8_init 127 = .ok (.putfield 54, 3) := by decide +kernel
theorem d_110_130 : decode cX8_init 130 = .ok (.aload_n 0, 1) := by decide +kernel
theorem d_110_131 : decode cX8_init 131 = .ok (.bipush 9, 2) := by decide +kernel
theorem d_110_133 : decode cX8_init 133 = .ok (.newarray .long, 2) := by decide +kernel
theorem d_110_135 : decode cX8_init 135 = .ok (.putfield 57, 3) := by decide +kernel
theorem d_110_138 : decode cX8_init 138 = .ok (.aload_n 0, 1) := by decide +kernel
theorem d_110_139 : decode cX8_init 139 = .ok (.bipush 8, 2) := by decide +kernel
theorem d_110_141 : decode cX8_init 141 = .ok (.newarray .int, 2) := by decide +kernel
theorem d_110_143 : decode cX8_init 143 = .ok (.putfield 60, 3) := by decide +kernel
theorem d_110_146 : decode cX8_init 146 = .ok (.aload_n 0, 1) := by decide +kernel
theorem d_110_147 : decode cX8_init 147 = .ok (.bipush 110, 2) := by decide +kernel
theorem d_110_149 : decode cX8_init 149 = .ok (.newarray .boolean, 2) := by decide +kernel
theorem d_110_151 : decode cX8_init 151 = .ok (.putfield 63, 3) := by decide +kernel
theorem d_110_154 : decode cX8_init 154 = .ok (.aload_n 0, 1) := by decide +kernel
theorem d_110_155 : decode cX8_init 155 = .ok (.bipush 110, 2) := by decide +kernel
theorem d_110_157 : decode cX8_init 157 = .ok (.newarray .long, 2) := by decide +kernel
theorem d_110_159 : decode cX8_init 159 = .ok (.putfield 66, 3) := by decide +kernel
theorem d_110_162 : decode cX8_init 162 = .ok (.aload_n 0, 1) := by decide +kernel
theorem d_110_163 : decode cX8_init 163 = .ok (.bipush 110, 2) := by decide +kernel
theorem d_110_165 : decode cX8_init 165 = .ok (.newarray .long, 2) := by decide +kernel
theorem d_110_167 : decode cX8_init 167 = .ok (.putfield 69, 3) := by decide +kernel
theorem d_110_170 : decode cX8_init 170 = .ok (.iconst 0, 1) := by decide +kernel
theorem d_110_171 : decode cX8_init 171 = .ok (.istore_n 1, 1) := by decide +kernel
theorem d_110_172 : decode cX8_init 172 = .ok (.iload_n 1, 1) := by decide +kernel
theorem d_110_173 : decode cX8_init 173 = .ok (.iconst 4, 1) := by decide +kernel
theorem d_110_174 : decode cX8_init 174 = .ok (.if_icmp .ge 20, 3) := by decide +kernel
theorem d_110_177 : decode cX8_init 177 = .ok (.aload_n 0, 1) := by decide +kernel
theorem d_110_178 : decode cX8_init 178 = .ok (.getfield 7, 3) := by decide +kernel
theorem d_110_181 : decode cX8_init 181 = .ok (.iconst 4, 1) := by decide +kernel
theorem d_110_182 : decode cX8_init 182 = .ok (.iload_n 1, 1) := by decide +kernel
theorem d_110_183 : decode cX8_init 183 = .ok (.iadd, 1) := by decide +kernel
theorem d_110_184 : decode cX8_init 184 = .ok (.sipush 256, 3) := by decide +kernel
theorem d_110_187 : decode cX8_init 187 = .ok (.iastore, 1) := by decide +kernel
theorem d_110_188 : decode cX8_init 188 = .ok (.iinc 1 1, 3) := by decide +kernel
theorem d_110_191 : decode cX8_init 191 = .ok (.goto (-19), 3) := by decide +kernel
theorem d_110_194 : decode cX8_init 194 = .ok (.aload_n 0, 1) := by decide +kernel
theorem d_110_195 : decode cX8_init 195 = .ok (.getfield 7, 3) := by decide +kernel
theorem d_110_198 : decode cX8_init 198 = .ok (.bipush 8, 2) := by decide +kernel
theorem d_110_200 : decode cX8_init 200 = .ok (.iconst 4, 1) := by decide +kernel
theorem d_110_201 : decode cX8_init 201 = .ok (.iastore, 1) := by decide +kernel
theorem d_110_202 : decode cX8_init 202 = .ok (.return_, 1) := by decide +kernel
theorem q_110_0r : zRun 110 0 [some (.ref o), l1] S sh mi mj mr = zRun 110 1 [some (.ref o), l1] (.ref o :: S) sh mi mj mr := zr_l (zD_of zk_110 d_110_0 rfl rfl) rfl rfl rfl
theorem q_110_0n : zRun 110 0 [some (.null), l1] S sh mi mj mr = zRun 110 1 [some (.null), l1] (.null :: S) sh mi mj mr := zr_l (zD_of zk_110 d_110_0 rfl rfl) rfl rfl rfl
theorem q_110_1 (h : zcat S ≤ 8) : zRun 110 1 L (.ref o :: S) sh mi mj mr = zRun 110 4 L S sh mi mj mr := zr_obj (zD_of zk_110 d_110_1 rfl rfl) rfl h
theorem q_110_4r : zRun 110 4 [some (.ref o), l1] S sh mi mj mr = zRun 110 5 [some (.ref o), l1] (.ref o :: S) sh mi mj mr := zr_l (zD_of zk_110 d_110_4 rfl rfl) rfl rfl rfl
theorem q_110_4n : zRun 110 4 [some (.null), l1] S sh mi mj mr = zRun 110 5 [some (.null), l1] (.null :: S) sh mi mj mr := zr_l (zD_of zk_110 d_110_4 rfl rfl) rfl rfl rfl
theorem q_110_5  : zRun 110 5 L S sh mi mj mr = zRun 110 8 L (.int 493 :: S) sh mi mj mr := zr_p (zD_of zk_110 d_110_5 rfl rfl) rfl
theorem q_110_8 (h : 0 ≤ x ∧ x ≤ 100000) : zRun 110 8 L (.int x :: S) sh mi mj mr = zRun 110 10 L (.ref sh.length :: S) (sh ++ [(1, x.toNatClampNeg)]) mi mj mr := zr_w (zD_of zk_110 d_110_8 rfl rfl) rfl rfl rfl rfl (if_pos h)
theorem q_110_10 (h : zIs sh o 0 8) : zRun 110 10 L (.ref o2 :: .ref o :: S) sh mi mj mr = zRun 110 13 L S sh mi mj (zup mr o 0 (some o2)) := zr_putR (zD_of zk_110 d_110_10 rfl rfl) rfl rfl rfl (Or.inr ⟨rfl, rfl⟩) h
theorem q_110_13r : zRun 110 13 [some (.ref o), l1] S sh mi mj mr = zRun 110 14 [some (.ref o), l1] (.ref o :: S) sh mi mj mr := zr_l (zD_of zk_110 d_110_13 rfl rfl) rfl rfl rfl
theorem q_110_13n : zRun 110 13 [some (.null), l1] S sh mi mj mr = zRun 110 14 [some (.null), l1] (.null :: S) sh mi mj mr := zr_l (zD_of zk_110 d_110_13 rfl rfl) rfl rfl rfl
theorem q_110_14  : zRun 110 14 L S sh mi mj mr = zRun 110 17 L (.int 986 :: S) sh mi mj mr := zr_p (zD_of zk_110 d_110_14 rfl rfl) rfl
theorem q_110_17 (h : 0 ≤ x ∧ x ≤ 100000) : zRun 110 17 L (.int x :: S) sh mi mj mr = zRun 110 19 L (.ref sh.length :: S) (sh ++ [(1, x.toNatClampNeg)]) mi mj mr := zr_w (zD_of zk_110 d_110_17 rfl rfl) rfl rfl rfl rfl (if_pos h)
theorem q_110_19 (h : zIs sh o 0 8) : zRun 110 19 L (.ref o2 :: .ref o :: S) sh mi mj mr = zRun 110 22 L S sh mi mj (zup mr o 1 (some o2)) := zr_putR (zD_of zk_110 d_110_19 rfl rfl) rfl rfl rfl (Or.inr ⟨rfl, rfl⟩) h
theorem q_110_22r : zRun 110 22 [some (.ref o), l1] S sh mi mj mr = zRun 110 23 [some (.ref o), l1] (.ref o :: S) sh mi mj mr := zr_l (zD_of zk_110 d_110_22 rfl rfl) rfl rfl rfl
theorem q_110_22n : zRun 110 22 [some (.null), l1] S sh mi mj mr = zRun 110 23 [some (.null), l1] (.null :: S) sh mi mj mr := zr_l (zD_of zk_110 d_110_22 rfl rfl) rfl rfl rfl
theorem q_110_23  : zRun 110 23 L S sh mi mj mr = zRun 110 24 L (.int 2 :: S) sh mi mj mr := zr_p (zD_of zk_110 d_110_23 rfl rfl) rfl
theorem q_110_24 (h : 0 ≤ x ∧ x ≤ 100000) : zRun 110 24 L (.int x :: S) sh mi mj mr = zRun 110 26 L (.ref sh.length :: S) (sh ++ [(4, x.toNatClampNeg)]) mi mj mr := zr_w (zD_of zk_110 d_110_24 rfl rfl) rfl rfl rfl rfl (if_pos h)
theorem q_110_26 (h : zIs sh o 0 8) : zRun 110 26 L (.ref o2 :: .ref o :: S) sh mi mj mr = zRun 110 29 L S sh mi mj (zup mr o 2 (some o2)) := zr_putR (zD_of zk_110 d_110_26 rfl rfl) rfl rfl rfl (Or.inr ⟨rfl, rfl⟩) h
theorem q_110_29r : zRun 110 29 [some (.ref o), l1] S sh mi mj mr = zRun 110 30 [some (.ref o), l1] (.ref o :: S) sh mi mj mr := zr_l (zD_of zk_110 d_110_29 rfl rfl) rfl rfl rfl
theorem q_110_29n : zRun 110 29 [some (.null), l1] S sh mi mj mr = zRun 110 30 [some (.null), l1] (.null :: S) sh mi mj mr := zr_l (zD_of zk_110 d_110_29 rfl rfl) rfl rfl rfl
theorem q_110_30  : zRun 110 30 L S sh mi mj mr = zRun 110 32 L (.int 48 :: S) sh mi mj mr := zr_p (zD_of zk_110 d_110_30 rfl rfl) rfl
theorem q_110_32 (h : 0 ≤ x ∧ x ≤ 100000) : zRun 110 32 L (.int x :: S) sh mi mj mr = zRun 110 34 L (.ref sh.length :: S) (sh ++ [(1, x.toNatClampNeg)]) mi mj mr := zr_w (zD_of zk_110 d_110_32 rfl rfl) rfl rfl rfl rfl (if_pos h)
theorem q_110_34 (h : zIs sh o 0 8) : zRun 110 34 L (.ref o2 :: .ref o :: S) sh mi mj mr = zRun 110 37 L S sh mi mj (zup mr o 3 (some o2)) := zr_putR (zD_of zk_110 d_110_34 rfl rfl) rfl rfl rfl (Or.inr ⟨rfl, rfl⟩) h
theorem q_110_37r : zRun 110 37 [some (.ref o), l1] S sh mi mj mr = zRun 110 38 [some (.ref o), l1] (.ref o :: S) sh mi mj mr := zr_l (zD_of zk_110 d_110_37 rfl rfl) rfl rfl rfl
theorem q_110_37n : zRun 110 37 [some (.null), l1] S sh mi mj mr = zRun 110 38 [some (.null), l1] (.null :: S) sh mi mj mr := zr_l (zD_of zk_110 d_110_37 rfl rfl) rfl rfl rfl
theorem q_110_38  : zRun 110 38 L S sh mi mj mr = zRun 110 40 L (.int 48 :: S) sh mi mj mr := zr_p (zD_of zk_110 d_110_38 rfl rfl) rfl
theorem q_110_40 (h : 0 ≤ x ∧ x ≤ 100000) : zRun 110 40 L (.int x :: S) sh mi mj mr = zRun 110 42 L (.ref sh.length :: S) (sh ++ [(1, x.toNatClampNeg)]) mi mj mr := zr_w (zD_of zk_110 d_110_40 rfl rfl) rfl rfl rfl rfl (if_pos h)
theorem q_110_42 (h : zIs sh o 0 8) : zRun 110 42 L (.ref o2 :: .ref o :: S) sh mi mj mr = zRun 110 45 L S sh mi mj (zup mr o 5 (some o2)) := zr_putR (zD_of zk_110 d_110_42 rfl rfl) rfl rfl rfl (Or.inr ⟨rfl, rfl⟩) h
theorem q_110_45r : zRun 110 45 [some (.ref o), l1] S sh mi mj mr = zRun 110 46 [some (.ref o), l1] (.ref o :: S) sh mi mj mr := zr_l (zD_of zk_110 d_110_45 rfl rfl) rfl rfl rfl
theorem q_110_45n : zRun 110 45 [some (.null), l1] S sh mi mj mr = zRun 110 46 [some (.null), l1] (.null :: S) sh mi mj mr := zr_l (zD_of zk_110 d_110_45 rfl rfl) rfl rfl rfl
theorem q_110_46  : zRun 110 46 L S sh mi mj mr = zRun 110 48 L (.int 48 :: S) sh mi mj mr := zr_p (zD_of zk_110 d_110_46 rfl rfl) rfl
theorem q_110_48 (h : 0 ≤ x ∧ x ≤ 100000) : zRun 110 48 L (.int x :: S) sh mi mj mr = zRun 110 50 L (.ref sh.length :: S) (sh ++ [(1, x.toNatClampNeg)]) mi mj mr := zr_w (zD_of zk_110 d_110_48 rfl rfl) rfl rfl rfl rfl (if_pos h)
theorem q_110_50 (h : zIs sh o 0 8) : zRun 110 50 L (.ref o2 :: .ref o :: S) sh mi mj mr = zRun 110 53 L S sh mi mj (zup mr o 7 (some o2)) := zr_putR (zD_of zk_110 d_110_50 rfl rfl) rfl rfl rfl (Or.inr ⟨rfl, rfl⟩) h
theorem q_110_53r : zRun 110 53 [some (.ref o), l1] S sh mi mj mr = zRun 110 54 [some (.ref o), l1] (.ref o :: S) sh mi mj mr := zr_l (zD_of zk_110 d_110_53 rfl rfl) rfl rfl rfl
theorem q_110_53n : zRun 110 53 [some (.null), l1] S sh mi mj mr = zRun 110 54 [some (.null), l1] (.null :: S) sh mi mj mr := zr_l (zD_of zk_110 d_110_53 rfl rfl) rfl rfl rfl
theorem q_110_54  : zRun 110 54 L S sh mi mj mr = zRun 110 57 L (.int 1700 :: S) sh mi mj mr := zr_p (zD_of zk_110 d_110_54 rfl rfl) rfl
theorem q_110_57 (h : 0 ≤ x ∧ x ≤ 100000) : zRun 110 57 L (.int x :: S) sh mi mj mr = zRun 110 59 L (.ref sh.length :: S) (sh ++ [(2, x.toNatClampNeg)]) mi mj mr := zr_w (zD_of zk_110 d_110_57 rfl rfl) rfl rfl rfl rfl (if_pos h)
theorem q_110_59 (h : zIs sh o 0 8) : zRun 110 59 L (.ref o2 :: .ref o :: S) sh mi mj mr = zRun 110 62 L S sh mi mj (zup mr o 10 (some o2)) := zr_putR (zD_of zk_110 d_110_59 rfl rfl) rfl rfl rfl (Or.inr ⟨rfl, rfl⟩) h
theorem q_110_62r : zRun 110 62 [some (.ref o), l1] S sh mi mj mr = zRun 110 63 [some (.ref o), l1] (.ref o :: S) sh mi mj mr := zr_l (zD_of zk_110 d_110_62 rfl rfl) rfl rfl rfl
theorem q_110_62n : zRun 110 62 [some (.null), l1] S sh mi mj mr = zRun 110 63 [some (.null), l1] (.null :: S) sh mi mj mr := zr_l (zD_of zk_110 d_110_62 rfl rfl) rfl rfl rfl
theorem q_110_63  : zRun 110 63 L S sh mi mj mr = zRun 110 66 L (.int 130 :: S) sh mi mj mr := zr_p (zD_of zk_110 d_110_63 rfl rfl) rfl
theorem q_110_66 (h : 0 ≤ x ∧ x ≤ 100000) : zRun 110 66 L (.int x :: S) sh mi mj mr = zRun 110 68 L (.ref sh.length :: S) (sh ++ [(1, x.toNatClampNeg)]) mi mj mr := zr_w (zD_of zk_110 d_110_66 rfl rfl) rfl rfl rfl rfl (if_pos h)
theorem q_110_68 (h : zIs sh o 0 8) : zRun 110 68 L (.ref o2 :: .ref o :: S) sh mi mj mr = zRun 110 71 L S sh mi mj (zup mr o 13 (some o2)) := zr_putR (zD_of zk_110 d_110_68 rfl rfl) rfl rfl rfl (Or.inr ⟨rfl, rfl⟩) h
theorem q_110_71r : zRun 110 71 [some (.ref o), l1] S sh mi mj mr = zRun 110 72 [some (.ref o), l1] (.ref o :: S) sh mi mj mr := zr_l (zD_of zk_110 d_110_71 rfl rfl) rfl rfl rfl
theorem q_110_71n : zRun 110 71 [some (.null), l1] S sh mi mj mr = zRun 110 72 [some (.null), l1] (.null :: S) sh mi mj mr := zr_l (zD_of zk_110 d_110_71 rfl rfl) rfl rfl rfl
theorem q_110_72  : zRun 110 72 L S sh mi mj mr = zRun 110 75 L (.int 130 :: S) sh mi mj mr := zr_p (zD_of zk_110 d_110_72 rfl rfl) rfl
theorem q_110_75 (h : 0 ≤ x ∧ x ≤ 100000) : zRun 110 75 L (.int x :: S) sh mi mj mr = zRun 110 77 L (.ref sh.length :: S) (sh ++ [(1, x.toNatClampNeg)]) mi mj mr := zr_w (zD_of zk_110 d_110_75 rfl rfl) rfl rfl rfl rfl (if_pos h)
theorem q_110_77 (h : zIs sh o 0 8) : zRun 110 77 L (.ref o2 :: .ref o :: S) sh mi mj mr = zRun 110 80 L S sh mi mj (zup mr o 14 (some o2)) := zr_putR (zD_of zk_110 d_110_77 rfl rfl) rfl rfl rfl (Or.inr ⟨rfl, rfl⟩) h
theorem q_110_80r : zRun 110 80 [some (.ref o), l1] S sh mi mj mr = zRun 110 81 [some (.ref o), l1] (.ref o :: S) sh mi mj mr := zr_l (zD_of zk_110 d_110_80 rfl rfl) rfl rfl rfl
theorem q_110_80n : zRun 110 80 [some (.null), l1] S sh mi mj mr = zRun 110 81 [some (.null), l1] (.null :: S) sh mi mj mr := zr_l (zD_of zk_110 d_110_80 rfl rfl) rfl rfl rfl
theorem q_110_81  : zRun 110 81 L S sh mi mj mr = zRun 110 82 L (.int 4 :: S) sh mi mj mr := zr_p (zD_of zk_110 d_110_81 rfl rfl) rfl
theorem q_110_82 (h : 0 ≤ x ∧ x ≤ 100000) : zRun 110 82 L (.int x :: S) sh mi mj mr = zRun 110 84 L (.ref sh.length :: S) (sh ++ [(1, x.toNatClampNeg)]) mi mj mr := zr_w (zD_of zk_110 d_110_82 rfl rfl) rfl rfl rfl rfl (if_pos h)
theorem q_110_84 (h : zIs sh o 0 8) : zRun 110 84 L (.ref o2 :: .ref o :: S) sh mi mj mr = zRun 110 87 L S sh mi mj (zup mr o 16 (some o2)) := zr_putR (zD_of zk_110 d_110_84 rfl rfl) rfl rfl rfl (Or.inr ⟨rfl, rfl⟩) h
theorem q_110_87r : zRun 110 87 [some (.ref o), l1] S sh mi mj mr = zRun 110 88 [some (.ref o), l1] (.ref o :: S) sh mi mj mr := zr_l (zD_of zk_110 d_110_87 rfl rfl) rfl rfl rfl
theorem q_110_87n : zRun 110 87 [some (.null), l1] S sh mi mj mr = zRun 110 88 [some (.null), l1] (.null :: S) sh mi mj mr := zr_l (zD_of zk_110 d_110_87 rfl rfl) rfl rfl rfl
theorem q_110_88  : zRun 110 88 L S sh mi mj mr = zRun 110 89 L (.int 4 :: S) sh mi mj mr := zr_p (zD_of zk_110 d_110_88 rfl rfl) rfl
theorem q_110_89 (h : 0 ≤ x ∧ x ≤ 100000) : zRun 110 89 L (.int x :: S) sh mi mj mr = zRun 110 91 L (.ref sh.length :: S) (sh ++ [(1, x.toNatClampNeg)]) mi mj mr := zr_w (zD_of zk_110 d_110_89 rfl rfl) rfl rfl rfl rfl (if_pos h)
theorem q_110_91 (h : zIs sh o 0 8) : zRun 110 91 L (.ref o2 :: .ref o :: S) sh mi mj mr = zRun 110 94 L S sh mi mj (zup mr o 17 (some o2)) := zr_putR (zD_of zk_110 d_110_91 rfl rfl) rfl rfl rfl (Or.inr ⟨rfl, rfl⟩) h
theorem q_110_94r : zRun 110 94 [some (.ref o), l1] S sh mi mj mr = zRun 110 95 [some (.ref o), l1] (.ref o :: S) sh mi mj mr := zr_l (zD_of zk_110 d_110_94 rfl rfl) rfl rfl rfl
theorem q_110_94n : zRun 110 94 [some (.null), l1] S sh mi mj mr = zRun 110 95 [some (.null), l1] (.null :: S) sh mi mj mr := zr_l (zD_of zk_110 d_110_94 rfl rfl) rfl rfl rfl
theorem q_110_95  : zRun 110 95 L S sh mi mj mr = zRun 110 98 L (.int 130 :: S) sh mi mj mr := zr_p (zD_of zk_110 d_110_95 rfl rfl) rfl
theorem q_110_98 (h : 0 ≤ x ∧ x ≤ 100000) : zRun 110 98 L (.int x :: S) sh mi mj mr = zRun 110 100 L (.ref sh.length :: S) (sh ++ [(2, x.toNatClampNeg)]) mi mj mr := zr_w (zD_of zk_110 d_110_98 rfl rfl) rfl rfl rfl rfl (if_pos h)
theorem q_110_100 (h : zIs sh o 0 8) : zRun 110 100 L (.ref o2 :: .ref o :: S) sh mi mj mr = zRun 110 103 L S sh mi mj (zup mr o 18 (some o2)) := zr_putR (zD_of zk_110 d_110_100 rfl rfl) rfl rfl rfl (Or.inr ⟨rfl, rfl⟩) h
theorem q_110_103r : zRun 110 103 [some (.ref o), l1] S sh mi mj mr = zRun 110 104 [some (.ref o), l1] (.ref o :: S) sh mi mj mr := zr_l (zD_of zk_110 d_110_103 rfl rfl) rfl rfl rfl
theorem q_110_103n : zRun 110 103 [some (.null), l1] S sh mi mj mr = zRun 110 104 [some (.null), l1] (.null :: S) sh mi mj mr := zr_l (zD_of zk_110 d_110_103 rfl rfl) rfl rfl rfl
theorem q_110_104  : zRun 110 104 L S sh mi mj mr = zRun 110 107 L (.int 130 :: S) sh mi mj mr := zr_p (zD_of zk_110 d_110_104 rfl rfl) rfl
theorem q_110_107 (h : 0 ≤ x ∧ x ≤ 100000) : zRun 110 107 L (.int x :: S) sh mi mj mr = zRun 110 109 L (.ref sh.length :: S) (sh ++ [(2, x.toNatClampNeg)]) mi mj mr := zr_w (zD_of zk_110 d_110_107 rfl rfl) rfl rfl rfl rfl (if_pos h)
theorem q_110_109 (h : zIs sh o 0 8) : zRun 110 109 L (.ref o2 :: .ref o :: S) sh mi mj mr = zRun 110 112 L S sh mi mj (zup mr o 19 (some o2)) := zr_putR (zD_of zk_110 d_110_109 rfl rfl) rfl rfl rfl (Or.inr ⟨rfl, rfl⟩) h
theorem q_110_112r : zRun 110 112 [some (.ref o), l1] S sh mi mj mr = zRun 110 113 [some (.ref o), l1] (.ref o :: S) sh mi mj mr := zr_l (zD_of zk_110 d_110_112 rfl rfl) rfl rfl rfl
theorem q_110_112n : zRun 110 112 [some (.null), l1] S sh mi mj mr = zRun 110 113 [some (.null), l1] (.null :: S) sh mi mj mr := zr_l (zD_of zk_110 d_110_112 rfl rfl) rfl rfl rfl
theorem q_110_113  : zRun 110 113 L S sh mi mj mr = zRun 110 116 L (.int 130 :: S) sh mi mj mr := zr_p (zD_of zk_110 d_110_113 rfl rfl) rfl
theorem q_110_116 (h : 0 ≤ x ∧ x ≤ 100000) : zRun 110 116 L (.int x :: S) sh mi mj mr = zRun 110 118 L (.ref sh.length :: S) (sh ++ [(4, x.toNatClampNeg)]) mi mj mr := zr_w (zD_of zk_110 d_110_116 rfl rfl) rfl rfl rfl rfl (if_pos h)
theorem q_110_118 (h : zIs sh o 0 8) : zRun 110 118 L (.ref o2 :: .ref o :: S) sh mi mj mr = zRun 110 121 L S sh mi mj (zup mr o 20 (some o2)) := zr_putR (zD_of zk_110 d_110_118 rfl rfl) rfl rfl rfl (Or.inr ⟨rfl, rfl⟩) h
theorem q_110_121r : zRun 110 121 [some (.ref o), l1] S sh mi mj mr = zRun 110 122 [some (.ref o), l1] (.ref o :: S) sh mi mj mr := zr_l (zD_of zk_110 d_110_121 rfl rfl) rfl rfl rfl
theorem q_110_121n : zRun 110 121 [some (.null), l1] S sh mi mj mr = zRun 110 122 [some (.null), l1] (.null :: S) sh mi mj mr := zr_l (zD_of zk_110 d_110_121 rfl rfl) rfl rfl rfl
theorem q_110_122  : zRun 110 122 L S sh mi mj mr = zRun 110 125 L (.int 1680 :: S) sh mi mj mr := zr_p (zD_of zk_110 d_110_122 rfl rfl) rfl
theorem q_110_125 (h : 0 ≤ x ∧ x ≤ 100000) : zRun 110 125 L (.int x :: S) sh mi mj mr = zRun 110 127 L (.ref sh.length :: S) (sh ++ [(1, x.toNatClampNeg)]) mi mj mr := zr_w (zD_of zk_110 d_110_125 rfl rfl) rfl rfl rfl rfl (if_pos h)
theorem q_110_127 (h : zIs sh o 0 8) : zRun 110 127 L (.ref o2 :: .ref o :: S) sh mi mj mr = zRun 110 130 L S sh mi mj (zup mr o 21 (some o2)) := zr_putR (zD_of zk_110 d_110_127 rfl rfl) rfl rfl rfl (Or.inr ⟨rfl, rfl⟩) h
theorem q_110_130r : zRun 110 130 [some (.ref o), l1] S sh mi mj mr = zRun 110 131 [some (.ref o), l1] (.ref o :: S) sh mi mj mr := zr_l (zD_of zk_110 d_110_130 rfl rfl) rfl rfl rfl
theorem q_110_130n : zRun 110 130 [some (.null), l1] S sh mi mj mr = zRun 110 131 [some (.null), l1] (.null :: S) sh mi mj mr := zr_l (zD_of zk_110 d_110_130 rfl rfl) rfl rfl rfl
theorem q_110_131  : zRun 110 131 L S sh mi mj mr = zRun 110 133 L (.int 9 :: S) sh mi mj mr := zr_p (zD_of zk_110 d_110_131 rfl rfl) rfl
theorem q_110_133 (h : 0 ≤ x ∧ x ≤ 100000) : zRun 110 133 L (.int x :: S) sh mi mj mr = zRun 110 135 L (.ref sh.length :: S) (sh ++ [(2, x.toNatClampNeg)]) mi mj mr := zr_w (zD_of zk_110 d_110_133 rfl rfl) rfl rfl rfl rfl (if_pos h)
theorem q_110_135 (h : zIs sh o 0 8) : zRun 110 135 L (.ref o2 :: .ref o :: S) sh mi mj mr = zRun 110 138 L S sh mi mj (zup mr o 24 (some o2)) := zr_putR (zD_of zk_110 d_110_135 rfl rfl) rfl rfl rfl (Or.inr ⟨rfl, rfl⟩) h
theorem q_110_138r : zRun 110 138 [some (.ref o), l1] S sh mi mj mr = zRun 110 139 [some (.ref o), l1] (.ref o :: S) sh mi mj mr := zr_l (zD_of zk_110 d_110_138 rfl rfl) rfl rfl rfl
theorem q_110_138n : zRun 110 138 [some (.null), l1] S sh mi mj mr = zRun 110 139 [some (.null), l1] (.null :: S) sh mi mj mr := zr_l (zD_of zk_110 d_110_138 rfl rfl) rfl rfl rfl
theorem q_110_139  : zRun 110 139 L S sh mi mj mr = zRun 110 141 L (.int 8 :: S) sh mi mj mr := zr_p (zD_of zk_110 d_110_139 rfl rfl) rfl
theorem q_110_141 (h : 0 ≤ x ∧ x ≤ 100000) : zRun 110 141 L (.int x :: S) sh mi mj mr = zRun 110 143 L (.ref sh.length :: S) (sh ++ [(1, x.toNatClampNeg)]) mi mj mr := zr_w (zD_of zk_110 d_110_141 rfl rfl) rfl rfl rfl rfl (if_pos h)
theorem q_110_143 (h : zIs sh o 0 8) : zRun 110 143 L (.ref o2 :: .ref o :: S) sh mi mj mr = zRun 110 146 L S sh mi mj (zup mr o 26 (some o2)) := zr_putR (zD_of zk_110 d_110_143 rfl rfl) rfl rfl rfl (Or.inr ⟨rfl, rfl⟩) h
theorem q_110_146r : zRun 110 146 [some (.ref o), l1] S sh mi mj mr = zRun 110 147 [some (.ref o), l1] (.ref o :: S) sh mi mj mr := zr_l (zD_of zk_110 d_110_146 rfl rfl) rfl rfl rfl
theorem q_110_146n : zRun 110 146 [some (.null), l1] S sh mi mj mr = zRun 110 147 [some (.null), l1] (.null :: S) sh mi mj mr := zr_l (zD_of zk_110 d_110_146 rfl rfl) rfl rfl rfl
theorem q_110_147  : zRun 110 147 L S sh mi mj mr = zRun 110 149 L (.int 110 :: S) sh mi mj mr := zr_p (zD_of zk_110 d_110_147 rfl rfl) rfl
theorem q_110_149 (h : 0 ≤ x ∧ x ≤ 100000) : zRun 110 149 L (.int x :: S) sh mi mj mr = zRun 110 151 L (.ref sh.length :: S) (sh ++ [(4, x.toNatClampNeg)]) mi mj mr := zr_w (zD_of zk_110 d_110_149 rfl rfl) rfl rfl rfl rfl (if_pos h)
theorem q_110_151 (h : zIs sh o 0 8) : zRun 110 151 L (.ref o2 :: .ref o :: S) sh mi mj mr = zRun 110 154 L S sh mi mj (zup mr o 27 (some o2)) := zr_putR (zD_of zk_110 d_110_151 rfl rfl) rfl rfl rfl (Or.inr ⟨rfl, rfl⟩) h
theorem q_110_154r : zRun 110 154 [some (.ref o), l1] S sh mi mj mr = zRun 110 155 [some (.ref o), l1] (.ref o :: S) sh mi mj mr := zr_l (zD_of zk_110 d_110_154 rfl rfl) rfl rfl rfl
theorem q_110_154n : zRun 110 154 [some (.null), l1] S sh mi mj mr = zRun 110 155 [some (.null), l1] (.null :: S) sh mi mj mr := zr_l (zD_of zk_110 d_110_154 rfl rfl) rfl rfl rfl
theorem q_110_155  : zRun 110 155 L S sh mi mj mr = zRun 110 157 L (.int 110 :: S) sh mi mj mr := zr_p (zD_of zk_110 d_110_155 rfl rfl) rfl
theorem q_110_157 (h : 0 ≤ x ∧ x ≤ 100000) : zRun 110 157 L (.int x :: S) sh mi mj mr = zRun 110 159 L (.ref sh.length :: S) (sh ++ [(2, x.toNatClampNeg)]) mi mj mr := zr_w (zD_of zk_110 d_110_157 rfl rfl) rfl rfl rfl rfl (if_pos h)
theorem q_110_159 (h : zIs sh o 0 8) : zRun 110 159 L (.ref o2 :: .ref o :: S) sh mi mj mr = zRun 110 162 L S sh mi mj (zup mr o 28 (some o2)) := zr_putR (zD_of zk_110 d_110_159 rfl rfl) rfl rfl rfl (Or.inr ⟨rfl, rfl⟩) h
theorem q_110_162r : zRun 110 162 [some (.ref o), l1] S sh mi mj mr = zRun 110 163 [some (.ref o), l1] (.ref o :: S) sh mi mj mr := zr_l (zD_of zk_110 d_110_162 rfl rfl) rfl rfl rfl
theorem q_110_162n : zRun 110 162 [some (.null), l1] S sh mi mj mr = zRun 110 163 [some (.null), l1] (.null :: S) sh mi mj mr := zr_l (zD_of zk_110 d_110_162 rfl rfl) rfl rfl rfl
theorem q_110_163  : zRun 110 163 L S sh mi mj mr = zRun 110 165 L (.int 110 :: S) sh mi mj mr := zr_p (zD_of zk_110 d_110_163 rfl rfl) rfl
theorem q_110_165 (h : 0 ≤ x ∧ x ≤ 100000) : zRun 110 165 L (.int x :: S) sh mi mj mr = zRun 110 167 L (.ref sh.length :: S) (sh ++ [(2, x.toNatClampNeg)]) mi mj mr := zr_w (zD_of zk_110 d_110_165 rfl rfl) rfl rfl rfl rfl (if_pos h)
theorem q_110_167 (h : zIs sh o 0 8) : zRun 110 167 L (.ref o2 :: .ref o :: S) sh mi mj mr = zRun 110 170 L S sh mi mj (zup mr o 29 (some o2)) := zr_putR (zD_of zk_110 d_110_167 rfl rfl) rfl rfl rfl (Or.inr ⟨rfl, rfl⟩) h
theorem q_110_170  : zRun 110 170 L S sh mi mj mr = zRun 110 171 L (.int 0 :: S) sh mi mj mr := zr_p (zD_of zk_110 d_110_170 rfl rfl) rfl
theorem q_110_171 : zRun 110 171 [l0, l1] (.int x :: S) sh mi mj mr = zRun 110 172 [zk2 l0, some (.int x)] S sh mi mj mr := zr_s1 (i := 1) (v := .int x) (L := [l0, l1]) (zD_of zk_110 d_110_171 rfl rfl) rfl rfl rfl rfl
theorem q_110_172 : zRun 110 172 [l0, some (.int x)] S sh mi mj mr = zRun 110 173 [l0, some (.int x)] (.int x :: S) sh mi mj mr := zr_l (zD_of zk_110 d_110_172 rfl rfl) rfl rfl rfl
theorem q_110_173  : zRun 110 173 L S sh mi mj mr = zRun 110 174 L (.int 4 :: S) sh mi mj mr := zr_p (zD_of zk_110 d_110_173 rfl rfl) rfl
theorem q_110_174  : zRun 110 174 L (.int y :: .int x :: S) sh mi mj mr = if y ≤ x then zRun 110 194 L S sh mi mj mr else zRun 110 177 L S sh mi mj mr := zr_if (off := 20) (P := y ≤ x) (zD_of zk_110 d_110_174 rfl rfl) rfl rfl (by decide)
theorem q_110_177r : zRun 110 177 [some (.ref o), l1] S sh mi mj mr = zRun 110 178 [some (.ref o), l1] (.ref o :: S) sh mi mj mr := zr_l (zD_of zk_110 d_110_177 rfl rfl) rfl rfl rfl
theorem q_110_177n : zRun 110 177 [some (.null), l1] S sh mi mj mr = zRun 110 178 [some (.null), l1] (.null :: S) sh mi mj mr := zr_l (zD_of zk_110 d_110_177 rfl rfl) rfl rfl rfl
theorem q_110_178 (h : zIs sh o 0 8) : zRun 110 178 L (.ref o :: S) sh mi mj mr = zRun 110 181 L (va_rf (mr o 0) :: S) sh mi mj mr := zr_getR (zD_of zk_110 d_110_178 rfl rfl) rfl rfl rfl h
theorem q_110_181  : zRun 110 181 L S sh mi mj mr = zRun 110 182 L (.int 4 :: S) sh mi mj mr := zr_p (zD_of zk_110 d_110_181 rfl rfl) rfl
theorem q_110_182 : zRun 110 182 [l0, some (.int x)] S sh mi mj mr = zRun 110 183 [l0, some (.int x)] (.int x :: S) sh mi mj mr := zr_l (zD_of zk_110 d_110_182 rfl rfl) rfl rfl rfl
theorem q_110_183  : zRun 110 183 L (.int y :: .int x :: S) sh mi mj mr = zRun 110 184 L (.int (x + y) :: S) sh mi mj mr := zr_p (zD_of zk_110 d_110_183 rfl rfl) rfl
theorem q_110_184  : zRun 110 184 L S sh mi mj mr = zRun 110 187 L (.int 256 :: S) sh mi mj mr := zr_p (zD_of zk_110 d_110_184 rfl rfl) rfl
theorem q_110_187 (h : zAt sh o 1 x) : zRun 110 187 L (.int y :: .int x :: .ref o :: S) sh mi mj mr = zRun 110 188 L S sh (zup mi o x.toNatClampNeg y) mj mr := zr_iast (zD_of zk_110 d_110_187 rfl rfl) h
theorem q_110_188  : zRun 110 188 [l0, some (.int x)] S sh mi mj mr = zRun 110 191 [zk2 l0, some (.int (x + 1))] S sh mi mj mr := zr_s1 (i := 1) (v := .int (x + 1)) (L := [l0, some (.int x)]) (zD_of zk_110 d_110_188 rfl rfl) rfl rfl rfl rfl
theorem q_110_191  : zRun 110 191 L S sh mi mj mr = zRun 110 172 L S sh mi mj mr := zr_go (off := (-19)) (zD_of zk_110 d_110_191 rfl rfl) rfl rfl (by decide)
theorem q_110_194r : zRun 110 194 [some (.ref o), l1] S sh mi mj mr = zRun 110 195 [some (.ref o), l1] (.ref o :: S) sh mi mj mr := zr_l (zD_of zk_110 d_110_194 rfl rfl) rfl rfl rfl
theorem q_110_194n : zRun 110 194 [some (.null), l1] S sh mi mj mr = zRun 110 195 [some (.null), l1] (.null :: S) sh mi mj mr := zr_l (zD_of zk_110 d_110_194 rfl rfl) rfl rfl rfl
theorem q_110_195 (h : zIs sh o 0 8) : zRun 110 195 L (.ref o :: S) sh mi mj mr = zRun 110 198 L (va_rf (mr o 0) :: S) sh mi mj mr := zr_getR (zD_of zk_110 d_110_195 rfl rfl) rfl rfl rfl h
theorem q_110_198  : zRun 110 198 L S sh mi mj mr = zRun 110 200 L (.int 8 :: S) sh mi mj mr := zr_p (zD_of zk_110 d_110_198 rfl rfl) rfl
theorem q_110_200  : zRun 110 200 L S sh mi mj mr = zRun 110 201 L (.int 4 :: S) sh mi mj mr := zr_p (zD_of zk_110 d_110_200 rfl rfl) rfl
theorem q_110_201 (h : zAt sh o 1 x) : zRun 110 201 L (.int y :: .int x :: .ref o :: S) sh mi mj mr = zRun 110 202 L S sh (zup mi o x.toNatClampNeg y) mj mr := zr_iast (zD_of zk_110 d_110_201 rfl rfl) h
theorem q_110_202  : zRun 110 202 L [] sh mi mj mr = some (none, sh, mi, mj, mr) := zr_ret (zD_of zk_110 d_110_202 rfl rfl) rfl rfl rfl rfl rfl rfl
theorem e_110 : zCall 110 [.ref o] sh mi mj mr = zRun 110 0 [some (.ref o), none] [] sh mi mj mr := rfl
theorem d_111_0 : decode cX8_in 0 = .ok (.iload_n 0, 1) := by decide +kernel
theorem d_111_1 : decode cX8_in 1 = .ok (.iload_n 1, 1) := by decide +kernel
theorem d_111_2 : decode cX8_in 2 = .ok (.if_icmp .lt 12, 3) := by decide +kernel
theorem d_111_5 : decode cX8_in 5 = .ok (.iload_n 0, 1) := by decide +kernel
theorem d_111_6 : decode cX8_in 6 = .ok (.iload_n 2, 1) := by decide +kernel
theorem d_111_7 : decode cX8_in 7 = .ok (.if_icmp .gt 7, 3) := by decide +kernel
theorem d_111_10 : decode cX8_in 10 = .ok (.iconst 1, 1) := by decide +kernel
theorem d_111_11 : decode cX8_in 11 = .ok (.goto 4, 3) := by decide +kernel
theorem d_111_14 : decode cX8_in 14 = .ok (.iconst 0, 1) := by decide +kernel
theorem d_111_15 : decode cX8_in 15 = .ok (.ireturn, 1) := by decide +kernel
theorem q_111_0 : zRun 111 0 [some (.int x), l1, l2] S sh mi mj mr = zRun 111 1 [some (.int x), l1, l2] (.int x :: S) sh mi mj mr := zr_l (zD_of zk_111 d_111_0 rfl rfl) rfl rfl rfl
theorem q_111_1 : zRun 111 1 [l0, some (.int x), l2] S sh mi mj mr = zRun 111 2 [l0, some (.int x), l2] (.int x :: S) sh mi mj mr := zr_l (zD_of zk_111 d_111_1 rfl rfl) rfl rfl rfl
theorem q_111_2  : zRun 111 2 L (.int y :: .int x :: S) sh mi mj mr = if x < y then zRun 111 14 L S sh mi mj mr else zRun 111 5 L S sh mi mj mr := zr_if (off := 12) (P := x < y) (zD_of zk_111 d_111_2 rfl rfl) rfl rfl (by decide)
theorem q_111_5 : zRun 111 5 [some (.int x), l1, l2] S sh mi mj mr = zRun 111 6 [some (.int x), l1, l2] (.int x :: S) sh mi mj mr := zr_l (zD_of zk_111 d_111_5 rfl rfl) rfl rfl rfl
theorem q_111_6 : zRun 111 6 [l0, l1, some (.int x)] S sh mi mj mr = zRun 111 7 [l0, l1, some (.int x)] (.int x :: S) sh mi mj mr := zr_l (zD_of zk_111 d_111_6 rfl rfl) rfl rfl rfl
theorem q_111_7  : zRun 111 7 L (.int y :: .int x :: S) sh mi mj mr = if y < x then zRun 111 14 L S sh mi mj mr else zRun 111 10 L S sh mi mj mr := zr_if (off := 7) (P := y < x) (zD_of zk_111 d_111_7 rfl rfl) rfl rfl (by decide)
theorem q_111_10  : zRun 111 10 L S sh mi mj mr = zRun 111 11 L (.int 1 :: S) sh mi mj mr := zr_p (zD_of zk_111 d_111_10 rfl rfl) rfl
theorem q_111_11  : zRun 111 11 L S sh mi mj mr = zRun 111 15 L S sh mi mj mr := zr_go (off := 4) (zD_of zk_111 d_111_11 rfl rfl) rfl rfl (by decide)
theorem q_111_14  : zRun 111 14 L S sh mi mj mr = zRun 111 15 L (.int 0 :: S) sh mi mj mr := zr_p (zD_of zk_111 d_111_14 rfl rfl) rfl
theorem q_111_15 (h : x = 0 ∨ x = 1) : zRun 111 15 L ([.int x]) sh mi mj mr = some (some (.int x), sh, mi, mj, mr) := zr_ret (zD_of zk_111 d_111_15 rfl rfl) rfl rfl rfl rfl rfl (if_pos (zna_b h))
theorem e_111 {x0 x1 x2 : Int32} : zCall 111 [.int x0, .int x1, .int x2] sh mi mj mr = zRun 111 0 [some (.int x0), some (.int x1), some (.int x2)] [] sh mi mj mr := rfl
theorem d_112_0 : decode cX8_isInput 0 = .ok (.iload_n 0, 1) := by decide +kernel
theorem d_112_1 : decode cX8_isInput 1 = .ok (.iconst 0, 1) := by decide +kernel
theorem d_112_2 : decode cX8_isInput 2 = .ok (.iconst 3, 1) := by decide +kernel
theorem d_112_3 : decode cX8_isInput 3 = .ok (.invokestatic 72, 3) := by decide +kernel
theorem d_112_6 : decode cX8_isInput 6 = .ok (.ireturn, 1) := by decide +kernel
theorem q_112_0 : zRun 112 0 [some (.int x)] S sh mi mj mr = zRun 112 1 [some (.int x)] (.int x :: S) sh mi mj mr := zr_l (zD_of zk_112 d_112_0 rfl rfl) rfl rfl rfl
theorem q_112_1  : zRun 112 1 L S sh mi mj mr = zRun 112 2 L (.int 0 :: S) sh mi mj mr := zr_p (zD_of zk_112 d_112_1 rfl rfl) rfl
theorem q_112_2  : zRun 112 2 L S sh mi mj mr = zRun 112 3 L (.int 3 :: S) sh mi mj mr := zr_p (zD_of zk_112 d_112_2 rfl rfl) rfl
theorem q_112_3  {x0 x1 x2 : Int32} (hS : zcat S ≤ 8) : zRun 112 3 L (.int x2 :: .int x1 :: .int x0 :: S) sh mi mj mr = (zCall 111 [.int x0, .int x1, .int x2] sh mi mj mr).bind fun r => zRun 112 6 L (r.1.toList ++ S) r.2.1 r.2.2.1 r.2.2.2.1 r.2.2.2.2 := zr_S (zD_of zk_112 d_112_3 rfl rfl) rfl zk_111 rfl rfl rfl hS
theorem q_112_6 (h : x = 0 ∨ x = 1) : zRun 112 6 L ([.int x]) sh mi mj mr = some (some (.int x), sh, mi, mj, mr) := zr_ret (zD_of zk_112 d_112_6 rfl rfl) rfl rfl rfl rfl rfl (if_pos (zna_b h))
theorem e_112 {x0 : Int32} : zCall 112 [.int x0] sh mi mj mr = zRun 112 0 [some (.int x0)] [] sh mi mj mr := rfl
theorem d_113_0 : decode cX8_isExpression 0 = .ok (.iload_n 1, 1) := by decide +kernel
theorem d_113_1 : decode cX8_isExpression 1 = .ok (.iconst 0, 1) := by decide +kernel
theorem d_113_2 : decode cX8_isExpression 2 = .ok (.iconst 3, 1) := by decide +kernel
theorem d_113_3 : decode cX8_isExpression 3 = .ok (.invokestatic 72, 3) := by decide +kernel
theorem d_113_6 : decode cX8_isExpression 6 = .ok (.ifCond .eq 19, 3) := by decide +kernel
theorem d_113_9 : decode cX8_isExpression 9 = .ok (.aload_n 0, 1) := by decide +kernel
theorem d_113_10 : decode cX8_isExpression 10 = .ok (.getfield 7, 3) := by decide +kernel
theorem d_113_13 : decode cX8_isExpression 13 = .ok (.bipush 9, 2) := by decide +kernel
theorem d_113_15 : decode cX8_isExpression 15 = .ok (.iload_n 1, 1) := by decide +kernel
theorem d_113_16 : decode cX8_isExpression 16 = .ok (.iadd, 1) := by decide +kernel
theorem d_113_17 : decode cX8_isExpression 17 = .ok (.iaload, 1) := by decide +kernel
theorem d_113_18 : decode cX8_isExpression 18 = .ok (.ifCond .le 7, 3) := by decide +kernel
theorem d_113_21 : decode cX8_isExpression 21 = .ok (.iconst 1, 1) := by decide +kernel
theorem d_113_22 : decode cX8_isExpression 22 = .ok (.goto 4, 3) := by decide +kernel
theorem d_113_25 : decode cX8_isExpression 25 = .ok (.iconst 0, 1) := by decide +kernel
theorem d_113_26 : decode cX8_isExpression 26 = .ok (.ireturn, 1) := by decide +kernel
theorem q_113_0 : zRun 113 0 [l0, some (.int x)] S sh mi mj mr = zRun 113 1 [l0, some (.int x)] (.int x :: S) sh mi mj mr := zr_l (zD_of zk_113 d_113_0 rfl rfl) rfl rfl rfl
theorem q_113_1  : zRun 113 1 L S sh mi mj mr = zRun 113 2 L (.int 0 :: S) sh mi mj mr := zr_p (zD_of zk_113 d_113_1 rfl rfl) rfl
theorem q_113_2  : zRun 113 2 L S sh mi mj mr = zRun 113 3 L (.int 3 :: S) sh mi mj mr := zr_p (zD_of zk_113 d_113_2 rfl rfl) rfl
theorem q_113_3  {x0 x1 x2 : Int32} (hS : zcat S ≤ 8) : zRun 113 3 L (.int x2 :: .int x1 :: .int x0 :: S) sh mi mj mr = (zCall 111 [.int x0, .int x1, .int x2] sh mi mj mr).bind fun r => zRun 113 6 L (r.1.toList ++ S) r.2.1 r.2.2.1 r.2.2.2.1 r.2.2.2.2 := zr_S (zD_of zk_113 d_113_3 rfl rfl) rfl zk_111 rfl rfl rfl hS
theorem q_113_6  : zRun 113 6 L (.int x :: S) sh mi mj mr = if x = 0 then zRun 113 25 L S sh mi mj mr else zRun 113 9 L S sh mi mj mr := zr_if (off := 19) (P := x = 0) (zD_of zk_113 d_113_6 rfl rfl) rfl rfl (by decide)
theorem q_113_9r : zRun 113 9 [some (.ref o), l1] S sh mi mj mr = zRun 113 10 [some (.ref o), l1] (.ref o :: S) sh mi mj mr := zr_l (zD_of zk_113 d_113_9 rfl rfl) rfl rfl rfl
theorem q_113_9n : zRun 113 9 [some (.null), l1] S sh mi mj mr = zRun 113 10 [some (.null), l1] (.null :: S) sh mi mj mr := zr_l (zD_of zk_113 d_113_9 rfl rfl) rfl rfl rfl
theorem q_113_10 (h : zIs sh o 0 8) : zRun 113 10 L (.ref o :: S) sh mi mj mr = zRun 113 13 L (va_rf (mr o 0) :: S) sh mi mj mr := zr_getR (zD_of zk_113 d_113_10 rfl rfl) rfl rfl rfl h
theorem q_113_13  : zRun 113 13 L S sh mi mj mr = zRun 113 15 L (.int 9 :: S) sh mi mj mr := zr_p (zD_of zk_113 d_113_13 rfl rfl) rfl
theorem q_113_15 : zRun 113 15 [l0, some (.int x)] S sh mi mj mr = zRun 113 16 [l0, some (.int x)] (.int x :: S) sh mi mj mr := zr_l (zD_of zk_113 d_113_15 rfl rfl) rfl rfl rfl
theorem q_113_16  : zRun 113 16 L (.int y :: .int x :: S) sh mi mj mr = zRun 113 17 L (.int (x + y) :: S) sh mi mj mr := zr_p (zD_of zk_113 d_113_16 rfl rfl) rfl
theorem q_113_17 (h : zAt sh o 1 x) : zRun 113 17 L (.int x :: .ref o :: S) sh mi mj mr = zRun 113 18 L (.int (mi o x.toNatClampNeg) :: S) sh mi mj mr := zr_iald (zD_of zk_113 d_113_17 rfl rfl) h
theorem q_113_18  : zRun 113 18 L (.int x :: S) sh mi mj mr = if x ≤ 0 then zRun 113 25 L S sh mi mj mr else zRun 113 21 L S sh mi mj mr := zr_if (off := 7) (P := x ≤ 0) (zD_of zk_113 d_113_18 rfl rfl) rfl rfl (by decide)
theorem q_113_21  : zRun 113 21 L S sh mi mj mr = zRun 113 22 L (.int 1 :: S) sh mi mj mr := zr_p (zD_of zk_113 d_113_21 rfl rfl) rfl
theorem q_113_22  : zRun 113 22 L S sh mi mj mr = zRun 113 26 L S sh mi mj mr := zr_go (off := 4) (zD_of zk_113 d_113_22 rfl rfl) rfl rfl (by decide)
theorem q_113_25  : zRun 113 25 L S sh mi mj mr = zRun 113 26 L (.int 0 :: S) sh mi mj mr := zr_p (zD_of zk_113 d_113_25 rfl rfl) rfl
theorem q_113_26 (h : x = 0 ∨ x = 1) : zRun 113 26 L ([.int x]) sh mi mj mr = some (some (.int x), sh, mi, mj, mr) := zr_ret (zD_of zk_113 d_113_26 rfl rfl) rfl rfl rfl rfl rfl (if_pos (zna_b h))
theorem e_113 {x0 : Int32} : zCall 113 [.ref o, .int x0] sh mi mj mr = zRun 113 0 [some (.ref o), some (.int x0)] [] sh mi mj mr := rfl
theorem d_114_0 : decode cX8_isSide 0 = .ok (.iload_n 0, 1) := by decide +kernel
theorem d_114_1 : decode cX8_isSide 1 = .ok (.iconst 0, 1) := by decide +kernel
theorem d_114_2 : decode cX8_isSide 2 = .ok (.iconst 1, 1) := by decide +kernel
theorem d_114_3 : decode cX8_isSide 3 = .ok (.invokestatic 72, 3) := by decide +kernel
theorem d_114_6 : decode cX8_isSide 6 = .ok (.ireturn, 1) := by decide +kernel
theorem q_114_0 : zRun 114 0 [some (.int x)] S sh mi mj mr = zRun 114 1 [some (.int x)] (.int x :: S) sh mi mj mr := zr_l (zD_of zk_114 d_114_0 rfl rfl) rfl rfl rfl
theorem q_114_1  : zRun 114 1 L S sh mi mj mr = zRun 114 2 L (.int 0 :: S) sh mi mj mr := zr_p (zD_of zk_114 d_114_1 rfl rfl) rfl
theorem q_114_2  : zRun 114 2 L S sh mi mj mr = zRun 114 3 L (.int 1 :: S) sh mi mj mr := zr_p (zD_of zk_114 d_114_2 rfl rfl) rfl
theorem q_114_3  {x0 x1 x2 : Int32} (hS : zcat S ≤ 8) : zRun 114 3 L (.int x2 :: .int x1 :: .int x0 :: S) sh mi mj mr = (zCall 111 [.int x0, .int x1, .int x2] sh mi mj mr).bind fun r => zRun 114 6 L (r.1.toList ++ S) r.2.1 r.2.2.1 r.2.2.2.1 r.2.2.2.2 := zr_S (zD_of zk_114 d_114_3 rfl rfl) rfl zk_111 rfl rfl rfl hS
theorem q_114_6 (h : x = 0 ∨ x = 1) : zRun 114 6 L ([.int x]) sh mi mj mr = some (some (.int x), sh, mi, mj, mr) := zr_ret (zD_of zk_114 d_114_6 rfl rfl) rfl rfl rfl rfl rfl (if_pos (zna_b h))
theorem e_114 {x0 : Int32} : zCall 114 [.int x0] sh mi mj mr = zRun 114 0 [some (.int x0)] [] sh mi mj mr := rfl
theorem d_115_0 : decode cX8_setDomain 0 = .ok (.iload_n 1, 1) := by decide +kernel
theorem d_115_1 : decode cX8_setDomain 1 = .ok (.invokestatic 76, 3) := by decide +kernel
theorem d_115_4 : decode cX8_setDomain 4 = .ok (.ifCond .ne 5, 3) := by decide +kernel
theorem d_115_7 : decode cX8_setDomain 7 = .ok (.iconst (-1), 1) := by decide +kernel
theorem d_115_8 : decode cX8_setDomain 8 = .ok (.ireturn, 1) := by decide +kernel
theorem d_115_9 : decode cX8_setDomain 9 = .ok (.iload_n 2, 1) := by decide +kernel
theorem d_115_10 : decode cX8_setDomain 10 = .ok (.ldc 80, 2) := by decide +kernel
theorem d_115_12 : decode cX8_setDomain 12 = .ok (.ldc 81, 2) := by decide +kernel
theorem d_115_14 : decode cX8_setDomain 14 = .ok (.invokestatic 72, 3) := by decide +kernel
theorem d_115_17 : decode cX8_setDomain 17 = .ok (.ifCond .eq 13, 3) := by decide +kernel
theorem d_115_20 : decode cX8_setDomain 20 = .ok (.iload_n 3, 1) := by decide +kernel
theorem d_115_21 : decode cX8_setDomain 21 = .ok (.iload_n 2, 1) := by decide +kernel
theorem d_115_22 : decode cX8_setDomain 22 = .ok (.ldc 81, 2) := by decide +kernel
theorem d_115_24 : decode cX8_setDomain 24 = .ok (.invokestatic 72, 3) := by decide +kernel
theorem d_115_27 : decode cX8_setDomain 27 = .ok (.ifCond .ne 6, 3) := by decide +kernel
theorem d_115_30 : decode cX8_setDomain 30 = .ok (.bipush (-2), 2) := by decide +kernel
theorem d_115_32 : decode cX8_setDomain 32 = .ok (.ireturn, 1) := by decide +kernel
theorem d_115_33 : decode cX8_setDomain 33 = .ok (.aload_n 0, 1) := by decide +kernel
theorem d_115_34 : decode cX8_setDomain 34 = .ok (.getfield 7, 3) := by decide +kernel
theorem d_115_37 : decode cX8_setDomain 37 = .ok (.iconst 4, 1) := by decide +kernel
theorem d_115_38 : decode cX8_setDomain 38 = .ok (.iload_n 1, 1) := by decide +kernel
theorem d_115_39 : decode cX8_setDomain 39 = .ok (.iadd, 1) := by decide +kernel
theorem d_115_40 : decode cX8_setDomain 40 = .ok (.iaload, 1) := by decide +kernel
theorem d_115_41 : decode cX8_setDomain 41 = .ok (.aload_n 0, 1) := by decide +kernel
theorem d_115_42 : decode cX8_setDomain 42 = .ok (.getfield 7, 3) := by decide +kernel
theorem d_115_45 : decode cX8_setDomain 45 = .ok (.iconst 0, 1) := by decide +kernel
theorem d_115_46 : decode cX8_setDomain 46 = .ok (.iload_n 1, 1) := by decide +kernel
theorem d_115_47 : decode cX8_setDomain 47 = .ok (.iadd, 1) := by decide +kernel
theorem d_115_48 : decode cX8_setDomain 48 = .ok (.iaload, 1) := by decide +kernel
theorem d_115_49 : decode cX8_setDomain 49 = .ok (.isub, 1) := by decide +kernel
theorem d_115_50 : decode cX8_setDomain 50 = .ok (.istore 4, 2) := by decide +kernel
theorem d_115_52 : decode cX8_setDomain 52 = .ok (.aload_n 0, 1) := by decide +kernel
theorem d_115_53 : decode cX8_setDomain 53 = .ok (.getfield 7, 3) := by decide +kernel
theorem d_115_56 : decode cX8_setDomain 56 = .ok (.iconst 0, 1) := by decide +kernel
theorem d_115_57 : decode cX8_setDomain 57 = .ok (.iload_n 1, 1) := by decide +kernel
theorem d_115_58 : decode cX8_setDomain 58 = .ok (.iadd, 1) := by decide +kernel
theorem d_115_59 : decode cX8_setDomain 59 = .ok (.iload_n 2, 1) := by decide +kernel
theorem d_115_60 : decode cX8_setDomain 60 = .ok (.iastore, 1) := by decide +kernel
theorem d_115_61 : decode cX8_setDomain 61 = .ok (.aload_n 0, 1) := by decide +kernel
theorem d_115_62 : decode cX8_setDomain 62 = .ok (.getfield 7, 3) := by decide +kernel
theorem d_115_65 : decode cX8_setDomain 65 = .ok (.iconst 4, 1) := by decide +kernel
theorem d_115_66 : decode cX8_setDomain 66 = .ok (.iload_n 1, 1) := by decide +kernel
theorem d_115_67 : decode cX8_setDomain 67 = .ok (.iadd, 1) := by decide +kernel
theorem d_115_68 : decode cX8_setDomain 68 = .ok (.iload_n 3, 1) := by decide +kernel
theorem d_115_69 : decode cX8_setDomain 69 = .ok (.iastore, 1) := by decide +kernel
theorem d_115_70 : decode cX8_setDomain 70 = .ok (.iload 4, 2) := by decide +kernel
theorem d_115_72 : decode cX8_setDomain 72 = .ok (.ireturn, 1) := by decide +kernel
theorem q_115_0 : zRun 115 0 [l0, some (.int x), l2, l3, l4] S sh mi mj mr = zRun 115 1 [l0, some (.int x), l2, l3, l4] (.int x :: S) sh mi mj mr := zr_l (zD_of zk_115 d_115_0 rfl rfl) rfl rfl rfl
theorem q_115_1  {x0 : Int32} (hS : zcat S ≤ 8) : zRun 115 1 L (.int x0 :: S) sh mi mj mr = (zCall 112 [.int x0] sh mi mj mr).bind fun r => zRun 115 4 L (r.1.toList ++ S) r.2.1 r.2.2.1 r.2.2.2.1 r.2.2.2.2 := zr_S (zD_of zk_115 d_115_1 rfl rfl) rfl zk_112 rfl rfl rfl hS
theorem q_115_4  : zRun 115 4 L (.int x :: S) sh mi mj mr = if ¬ x = 0 then zRun 115 9 L S sh mi mj mr else zRun 115 7 L S sh mi mj mr := zr_if (off := 5) (P := ¬ x = 0) (zD_of zk_115 d_115_4 rfl rfl) rfl rfl (by decide)
theorem q_115_7  : zRun 115 7 L S sh mi mj mr = zRun 115 8 L (.int (-1) :: S) sh mi mj mr := zr_p (zD_of zk_115 d_115_7 rfl rfl) rfl
theorem q_115_8  : zRun 115 8 L ([.int x]) sh mi mj mr = some (some (.int x), sh, mi, mj, mr) := zr_ret (zD_of zk_115 d_115_8 rfl rfl) rfl rfl rfl rfl rfl (if_pos rfl)
theorem q_115_9 : zRun 115 9 [l0, l1, some (.int x), l3, l4] S sh mi mj mr = zRun 115 10 [l0, l1, some (.int x), l3, l4] (.int x :: S) sh mi mj mr := zr_l (zD_of zk_115 d_115_9 rfl rfl) rfl rfl rfl
theorem q_115_10  : zRun 115 10 L S sh mi mj mr = zRun 115 12 L (.int (-100000) :: S) sh mi mj mr := zr_k32 (zD_of zk_115 d_115_10 rfl rfl) (by first | exact Or.inl rfl | exact Or.inr rfl) rfl
theorem q_115_12  : zRun 115 12 L S sh mi mj mr = zRun 115 14 L (.int 100000 :: S) sh mi mj mr := zr_k32 (zD_of zk_115 d_115_12 rfl rfl) (by first | exact Or.inl rfl | exact Or.inr rfl) rfl
theorem q_115_14  {x0 x1 x2 : Int32} (hS : zcat S ≤ 8) : zRun 115 14 L (.int x2 :: .int x1 :: .int x0 :: S) sh mi mj mr = (zCall 111 [.int x0, .int x1, .int x2] sh mi mj mr).bind fun r => zRun 115 17 L (r.1.toList ++ S) r.2.1 r.2.2.1 r.2.2.2.1 r.2.2.2.2 := zr_S (zD_of zk_115 d_115_14 rfl rfl) rfl zk_111 rfl rfl rfl hS
theorem q_115_17  : zRun 115 17 L (.int x :: S) sh mi mj mr = if x = 0 then zRun 115 30 L S sh mi mj mr else zRun 115 20 L S sh mi mj mr := zr_if (off := 13) (P := x = 0) (zD_of zk_115 d_115_17 rfl rfl) rfl rfl (by decide)
theorem q_115_20 : zRun 115 20 [l0, l1, l2, some (.int x), l4] S sh mi mj mr = zRun 115 21 [l0, l1, l2, some (.int x), l4] (.int x :: S) sh mi mj mr := zr_l (zD_of zk_115 d_115_20 rfl rfl) rfl rfl rfl
theorem q_115_21 : zRun 115 21 [l0, l1, some (.int x), l3, l4] S sh mi mj mr = zRun 115 22 [l0, l1, some (.int x), l3, l4] (.int x :: S) sh mi mj mr := zr_l (zD_of zk_115 d_115_21 rfl rfl) rfl rfl rfl
theorem q_115_22  : zRun 115 22 L S sh mi mj mr = zRun 115 24 L (.int 100000 :: S) sh mi mj mr := zr_k32 (zD_of zk_115 d_115_22 rfl rfl) (by first | exact Or.inl rfl | exact Or.inr rfl) rfl
theorem q_115_24  {x0 x1 x2 : Int32} (hS : zcat S ≤ 8) : zRun 115 24 L (.int x2 :: .int x1 :: .int x0 :: S) sh mi mj mr = (zCall 111 [.int x0, .int x1, .int x2] sh mi mj mr).bind fun r => zRun 115 27 L (r.1.toList ++ S) r.2.1 r.2.2.1 r.2.2.2.1 r.2.2.2.2 := zr_S (zD_of zk_115 d_115_24 rfl rfl) rfl zk_111 rfl rfl rfl hS
theorem q_115_27  : zRun 115 27 L (.int x :: S) sh mi mj mr = if ¬ x = 0 then zRun 115 33 L S sh mi mj mr else zRun 115 30 L S sh mi mj mr := zr_if (off := 6) (P := ¬ x = 0) (zD_of zk_115 d_115_27 rfl rfl) rfl rfl (by decide)
theorem q_115_30  : zRun 115 30 L S sh mi mj mr = zRun 115 32 L (.int (-2) :: S) sh mi mj mr := zr_p (zD_of zk_115 d_115_30 rfl rfl) rfl
theorem q_115_32  : zRun 115 32 L ([.int x]) sh mi mj mr = some (some (.int x), sh, mi, mj, mr) := zr_ret (zD_of zk_115 d_115_32 rfl rfl) rfl rfl rfl rfl rfl (if_pos rfl)
theorem q_115_33r : zRun 115 33 [some (.ref o), l1, l2, l3, l4] S sh mi mj mr = zRun 115 34 [some (.ref o), l1, l2, l3, l4] (.ref o :: S) sh mi mj mr := zr_l (zD_of zk_115 d_115_33 rfl rfl) rfl rfl rfl
theorem q_115_33n : zRun 115 33 [some (.null), l1, l2, l3, l4] S sh mi mj mr = zRun 115 34 [some (.null), l1, l2, l3, l4] (.null :: S) sh mi mj mr := zr_l (zD_of zk_115 d_115_33 rfl rfl) rfl rfl rfl
theorem q_115_34 (h : zIs sh o 0 8) : zRun 115 34 L (.ref o :: S) sh mi mj mr = zRun 115 37 L (va_rf (mr o 0) :: S) sh mi mj mr := zr_getR (zD_of zk_115 d_115_34 rfl rfl) rfl rfl rfl h
theorem q_115_37  : zRun 115 37 L S sh mi mj mr = zRun 115 38 L (.int 4 :: S) sh mi mj mr := zr_p (zD_of zk_115 d_115_37 rfl rfl) rfl
theorem q_115_38 : zRun 115 38 [l0, some (.int x), l2, l3, l4] S sh mi mj mr = zRun 115 39 [l0, some (.int x), l2, l3, l4] (.int x :: S) sh mi mj mr := zr_l (zD_of zk_115 d_115_38 rfl rfl) rfl rfl rfl
theorem q_115_39  : zRun 115 39 L (.int y :: .int x :: S) sh mi mj mr = zRun 115 40 L (.int (x + y) :: S) sh mi mj mr := zr_p (zD_of zk_115 d_115_39 rfl rfl) rfl
theorem q_115_40 (h : zAt sh o 1 x) : zRun 115 40 L (.int x :: .ref o :: S) sh mi mj mr = zRun 115 41 L (.int (mi o x.toNatClampNeg) :: S) sh mi mj mr := zr_iald (zD_of zk_115 d_115_40 rfl rfl) h
theorem q_115_41r : zRun 115 41 [some (.ref o), l1, l2, l3, l4] S sh mi mj mr = zRun 115 42 [some (.ref o), l1, l2, l3, l4] (.ref o :: S) sh mi mj mr := zr_l (zD_of zk_115 d_115_41 rfl rfl) rfl rfl rfl
theorem q_115_41n : zRun 115 41 [some (.null), l1, l2, l3, l4] S sh mi mj mr = zRun 115 42 [some (.null), l1, l2, l3, l4] (.null :: S) sh mi mj mr := zr_l (zD_of zk_115 d_115_41 rfl rfl) rfl rfl rfl
theorem q_115_42 (h : zIs sh o 0 8) : zRun 115 42 L (.ref o :: S) sh mi mj mr = zRun 115 45 L (va_rf (mr o 0) :: S) sh mi mj mr := zr_getR (zD_of zk_115 d_115_42 rfl rfl) rfl rfl rfl h
theorem q_115_45  : zRun 115 45 L S sh mi mj mr = zRun 115 46 L (.int 0 :: S) sh mi mj mr := zr_p (zD_of zk_115 d_115_45 rfl rfl) rfl
theorem q_115_46 : zRun 115 46 [l0, some (.int x), l2, l3, l4] S sh mi mj mr = zRun 115 47 [l0, some (.int x), l2, l3, l4] (.int x :: S) sh mi mj mr := zr_l (zD_of zk_115 d_115_46 rfl rfl) rfl rfl rfl
theorem q_115_47  : zRun 115 47 L (.int y :: .int x :: S) sh mi mj mr = zRun 115 48 L (.int (x + y) :: S) sh mi mj mr := zr_p (zD_of zk_115 d_115_47 rfl rfl) rfl
theorem q_115_48 (h : zAt sh o 1 x) : zRun 115 48 L (.int x :: .ref o :: S) sh mi mj mr = zRun 115 49 L (.int (mi o x.toNatClampNeg) :: S) sh mi mj mr := zr_iald (zD_of zk_115 d_115_48 rfl rfl) h
theorem q_115_49  : zRun 115 49 L (.int y :: .int x :: S) sh mi mj mr = zRun 115 50 L (.int (x - y) :: S) sh mi mj mr := zr_p (zD_of zk_115 d_115_49 rfl rfl) rfl
theorem q_115_50 : zRun 115 50 [l0, l1, l2, l3, l4] (.int x :: S) sh mi mj mr = zRun 115 52 [l0, l1, l2, zk2 l3, some (.int x)] S sh mi mj mr := zr_s1 (i := 4) (v := .int x) (L := [l0, l1, l2, l3, l4]) (zD_of zk_115 d_115_50 rfl rfl) rfl rfl rfl rfl
theorem q_115_52r : zRun 115 52 [some (.ref o), l1, l2, l3, l4] S sh mi mj mr = zRun 115 53 [some (.ref o), l1, l2, l3, l4] (.ref o :: S) sh mi mj mr := zr_l (zD_of zk_115 d_115_52 rfl rfl) rfl rfl rfl
theorem q_115_52n : zRun 115 52 [some (.null), l1, l2, l3, l4] S sh mi mj mr = zRun 115 53 [some (.null), l1, l2, l3, l4] (.null :: S) sh mi mj mr := zr_l (zD_of zk_115 d_115_52 rfl rfl) rfl rfl rfl
theorem q_115_53 (h : zIs sh o 0 8) : zRun 115 53 L (.ref o :: S) sh mi mj mr = zRun 115 56 L (va_rf (mr o 0) :: S) sh mi mj mr := zr_getR (zD_of zk_115 d_115_53 rfl rfl) rfl rfl rfl h
theorem q_115_56  : zRun 115 56 L S sh mi mj mr = zRun 115 57 L (.int 0 :: S) sh mi mj mr := zr_p (zD_of zk_115 d_115_56 rfl rfl) rfl
theorem q_115_57 : zRun 115 57 [l0, some (.int x), l2, l3, l4] S sh mi mj mr = zRun 115 58 [l0, some (.int x), l2, l3, l4] (.int x :: S) sh mi mj mr := zr_l (zD_of zk_115 d_115_57 rfl rfl) rfl rfl rfl
theorem q_115_58  : zRun 115 58 L (.int y :: .int x :: S) sh mi mj mr = zRun 115 59 L (.int (x + y) :: S) sh mi mj mr := zr_p (zD_of zk_115 d_115_58 rfl rfl) rfl
theorem q_115_59 : zRun 115 59 [l0, l1, some (.int x), l3, l4] S sh mi mj mr = zRun 115 60 [l0, l1, some (.int x), l3, l4] (.int x :: S) sh mi mj mr := zr_l (zD_of zk_115 d_115_59 rfl rfl) rfl rfl rfl
theorem q_115_60 (h : zAt sh o 1 x) : zRun 115 60 L (.int y :: .int x :: .ref o :: S) sh mi mj mr = zRun 115 61 L S sh (zup mi o x.toNatClampNeg y) mj mr := zr_iast (zD_of zk_115 d_115_60 rfl rfl) h
theorem q_115_61r : zRun 115 61 [some (.ref o), l1, l2, l3, l4] S sh mi mj mr = zRun 115 62 [some (.ref o), l1, l2, l3, l4] (.ref o :: S) sh mi mj mr := zr_l (zD_of zk_115 d_115_61 rfl rfl) rfl rfl rfl
theorem q_115_61n : zRun 115 61 [some (.null), l1, l2, l3, l4] S sh mi mj mr = zRun 115 62 [some (.null), l1, l2, l3, l4] (.null :: S) sh mi mj mr := zr_l (zD_of zk_115 d_115_61 rfl rfl) rfl rfl rfl
theorem q_115_62 (h : zIs sh o 0 8) : zRun 115 62 L (.ref o :: S) sh mi mj mr = zRun 115 65 L (va_rf (mr o 0) :: S) sh mi mj mr := zr_getR (zD_of zk_115 d_115_62 rfl rfl) rfl rfl rfl h
theorem q_115_65  : zRun 115 65 L S sh mi mj mr = zRun 115 66 L (.int 4 :: S) sh mi mj mr := zr_p (zD_of zk_115 d_115_65 rfl rfl) rfl
theorem q_115_66 : zRun 115 66 [l0, some (.int x), l2, l3, l4] S sh mi mj mr = zRun 115 67 [l0, some (.int x), l2, l3, l4] (.int x :: S) sh mi mj mr := zr_l (zD_of zk_115 d_115_66 rfl rfl) rfl rfl rfl
theorem q_115_67  : zRun 115 67 L (.int y :: .int x :: S) sh mi mj mr = zRun 115 68 L (.int (x + y) :: S) sh mi mj mr := zr_p (zD_of zk_115 d_115_67 rfl rfl) rfl
theorem q_115_68 : zRun 115 68 [l0, l1, l2, some (.int x), l4] S sh mi mj mr = zRun 115 69 [l0, l1, l2, some (.int x), l4] (.int x :: S) sh mi mj mr := zr_l (zD_of zk_115 d_115_68 rfl rfl) rfl rfl rfl
theorem q_115_69 (h : zAt sh o 1 x) : zRun 115 69 L (.int y :: .int x :: .ref o :: S) sh mi mj mr = zRun 115 70 L S sh (zup mi o x.toNatClampNeg y) mj mr := zr_iast (zD_of zk_115 d_115_69 rfl rfl) h
theorem q_115_70 : zRun 115 70 [l0, l1, l2, l3, some (.int x)] S sh mi mj mr = zRun 115 72 [l0, l1, l2, l3, some (.int x)] (.int x :: S) sh mi mj mr := zr_l (zD_of zk_115 d_115_70 rfl rfl) rfl rfl rfl
theorem q_115_72  : zRun 115 72 L ([.int x]) sh mi mj mr = some (some (.int x), sh, mi, mj, mr) := zr_ret (zD_of zk_115 d_115_72 rfl rfl) rfl rfl rfl rfl rfl (if_pos rfl)
theorem e_115 {x0 x1 x2 : Int32} : zCall 115 [.ref o, .int x0, .int x1, .int x2] sh mi mj mr = zRun 115 0 [some (.ref o), some (.int x0), some (.int x1), some (.int x2), none] [] sh mi mj mr := rfl
theorem d_116_0 : decode cX8_domain 0 = .ok (.iload_n 1, 1) := by decide +kernel
theorem d_116_1 : decode cX8_domain 1 = .ok (.invokestatic 76, 3) := by decide +kernel
theorem d_116_4 : decode cX8_domain 4 = .ok (.ifCond .ne 5, 3) := by decide +kernel
theorem d_116_7 : decode cX8_domain 7 = .ok (.iconst (-1), 1) := by decide +kernel
theorem d_116_8 : decode cX8_domain 8 = .ok (.ireturn, 1) := by decide +kernel
theorem d_116_9 : decode cX8_domain 9 = .ok (.iload_n 2, 1) := by decide +kernel
theorem d_116_10 : decode cX8_domain 10 = .ok (.invokestatic 82, 3) := by decide +kernel
theorem d_116_13 : decode cX8_domain 13 = .ok (.ifCond .eq 25, 3) := by decide +kernel
theorem d_116_16 : decode cX8_domain 16 = .ok (.aload_n 0, 1) := by decide +kernel
theorem d_116_17 : decode cX8_domain 17 = .ok (.getfield 7, 3) := by decide +kernel
theorem d_116_20 : decode cX8_domain 20 = .ok (.iload_n 2, 1) := by decide +kernel
theorem d_116_21 : decode cX8_domain 21 = .ok (.ifCond .ne 7, 3) := by decide +kernel
theorem d_116_24 : decode cX8_domain 24 = .ok (.iconst 0, 1) := by decide +kernel
theorem d_116_25 : decode cX8_domain 25 = .ok (.goto 4, 3) := by decide +kernel
theorem d_116_28 : decode cX8_domain 28 = .ok (.iconst 4, 1) := by decide +kernel
theorem d_116_29 : decode cX8_domain 29 = .ok (.iload_n 1, 1) := by decide +kernel
theorem d_116_30 : decode cX8_domain 30 = .ok (.iadd, 1) := by decide +kernel
theorem d_116_31 : decode cX8_domain 31 = .ok (.iaload, 1) := by decide +kernel
theorem d_116_32 : decode cX8_domain 32 = .ok (.ldc 85, 2) := by decide +kernel
theorem d_116_34 : decode cX8_domain 34 = .ok (.iadd, 1) := by decide +kernel
theorem d_116_35 : decode cX8_domain 35 = .ok (.goto 5, 3) := by decide +kernel
theorem d_116_38 : decode cX8_domain 38 = .ok (.bipush (-2), 2) := by decide +kernel
theorem d_116_40 : decode cX8_domain 40 = .ok (.ireturn, 1) := by decide +kernel
theorem q_116_0 : zRun 116 0 [l0, some (.int x), l2] S sh mi mj mr = zRun 116 1 [l0, some (.int x), l2] (.int x :: S) sh mi mj mr := zr_l (zD_of zk_116 d_116_0 rfl rfl) rfl rfl rfl
theorem q_116_1  {x0 : Int32} (hS : zcat S ≤ 8) : zRun 116 1 L (.int x0 :: S) sh mi mj mr = (zCall 112 [.int x0] sh mi mj mr).bind fun r => zRun 116 4 L (r.1.toList ++ S) r.2.1 r.2.2.1 r.2.2.2.1 r.2.2.2.2 := zr_S (zD_of zk_116 d_116_1 rfl rfl) rfl zk_112 rfl rfl rfl hS
theorem q_116_4  : zRun 116 4 L (.int x :: S) sh mi mj mr = if ¬ x = 0 then zRun 116 9 L S sh mi mj mr else zRun 116 7 L S sh mi mj mr := zr_if (off := 5) (P := ¬ x = 0) (zD_of zk_116 d_116_4 rfl rfl) rfl rfl (by decide)
theorem q_116_7  : zRun 116 7 L S sh mi mj mr = zRun 116 8 L (.int (-1) :: S) sh mi mj mr := zr_p (zD_of zk_116 d_116_7 rfl rfl) rfl
theorem q_116_8  : zRun 116 8 L ([.int x]) sh mi mj mr = some (some (.int x), sh, mi, mj, mr) := zr_ret (zD_of zk_116 d_116_8 rfl rfl) rfl rfl rfl rfl rfl (if_pos rfl)
theorem q_116_9 : zRun 116 9 [l0, l1, some (.int x)] S sh mi mj mr = zRun 116 10 [l0, l1, some (.int x)] (.int x :: S) sh mi mj mr := zr_l (zD_of zk_116 d_116_9 rfl rfl) rfl rfl rfl
theorem q_116_10  {x0 : Int32} (hS : zcat S ≤ 8) : zRun 116 10 L (.int x0 :: S) sh mi mj mr = (zCall 114 [.int x0] sh mi mj mr).bind fun r => zRun 116 13 L (r.1.toList ++ S) r.2.1 r.2.2.1 r.2.2.2.1 r.2.2.2.2 := zr_S (zD_of zk_116 d_116_10 rfl rfl) rfl zk_114 rfl rfl rfl hS
theorem q_116_13  : zRun 116 13 L (.int x :: S) sh mi mj mr = if x = 0 then zRun 116 38 L S sh mi mj mr else zRun 116 16 L S sh mi mj mr := zr_if (off := 25) (P := x = 0) (zD_of zk_116 d_116_13 rfl rfl) rfl rfl (by decide)
theorem q_116_16r : zRun 116 16 [some (.ref o), l1, l2] S sh mi mj mr = zRun 116 17 [some (.ref o), l1, l2] (.ref o :: S) sh mi mj mr := zr_l (zD_of zk_116 d_116_16 rfl rfl) rfl rfl rfl
theorem q_116_16n : zRun 116 16 [some (.null), l1, l2] S sh mi mj mr = zRun 116 17 [some (.null), l1, l2] (.null :: S) sh mi mj mr := zr_l (zD_of zk_116 d_116_16 rfl rfl) rfl rfl rfl
theorem q_116_17 (h : zIs sh o 0 8) : zRun 116 17 L (.ref o :: S) sh mi mj mr = zRun 116 20 L (va_rf (mr o 0) :: S) sh mi mj mr := zr_getR (zD_of zk_116 d_116_17 rfl rfl) rfl rfl rfl h
theorem q_116_20 : zRun 116 20 [l0, l1, some (.int x)] S sh mi mj mr = zRun 116 21 [l0, l1, some (.int x)] (.int x :: S) sh mi mj mr := zr_l (zD_of zk_116 d_116_20 rfl rfl) rfl rfl rfl
theorem q_116_21  : zRun 116 21 L (.int x :: S) sh mi mj mr = if ¬ x = 0 then zRun 116 28 L S sh mi mj mr else zRun 116 24 L S sh mi mj mr := zr_if (off := 7) (P := ¬ x = 0) (zD_of zk_116 d_116_21 rfl rfl) rfl rfl (by decide)
theorem q_116_24  : zRun 116 24 L S sh mi mj mr = zRun 116 25 L (.int 0 :: S) sh mi mj mr := zr_p (zD_of zk_116 d_116_24 rfl rfl) rfl
theorem q_116_25  : zRun 116 25 L S sh mi mj mr = zRun 116 29 L S sh mi mj mr := zr_go (off := 4) (zD_of zk_116 d_116_25 rfl rfl) rfl rfl (by decide)
theorem q_116_28  : zRun 116 28 L S sh mi mj mr = zRun 116 29 L (.int 4 :: S) sh mi mj mr := zr_p (zD_of zk_116 d_116_28 rfl rfl) rfl
theorem q_116_29 : zRun 116 29 [l0, some (.int x), l2] S sh mi mj mr = zRun 116 30 [l0, some (.int x), l2] (.int x :: S) sh mi mj mr := zr_l (zD_of zk_116 d_116_29 rfl rfl) rfl rfl rfl
theorem q_116_30  : zRun 116 30 L (.int y :: .int x :: S) sh mi mj mr = zRun 116 31 L (.int (x + y) :: S) sh mi mj mr := zr_p (zD_of zk_116 d_116_30 rfl rfl) rfl
theorem q_116_31 (h : zAt sh o 1 x) : zRun 116 31 L (.int x :: .ref o :: S) sh mi mj mr = zRun 116 32 L (.int (mi o x.toNatClampNeg) :: S) sh mi mj mr := zr_iald (zD_of zk_116 d_116_31 rfl rfl) h
theorem q_116_32  : zRun 116 32 L S sh mi mj mr = zRun 116 34 L (.int 1000000 :: S) sh mi mj mr := zr_k32 (zD_of zk_116 d_116_32 rfl rfl) (by first | exact Or.inl rfl | exact Or.inr rfl) rfl
theorem q_116_34  : zRun 116 34 L (.int y :: .int x :: S) sh mi mj mr = zRun 116 35 L (.int (x + y) :: S) sh mi mj mr := zr_p (zD_of zk_116 d_116_34 rfl rfl) rfl
theorem q_116_35  : zRun 116 35 L S sh mi mj mr = zRun 116 40 L S sh mi mj mr := zr_go (off := 5) (zD_of zk_116 d_116_35 rfl rfl) rfl rfl (by decide)
theorem q_116_38  : zRun 116 38 L S sh mi mj mr = zRun 116 40 L (.int (-2) :: S) sh mi mj mr := zr_p (zD_of zk_116 d_116_38 rfl rfl) rfl
theorem q_116_40  : zRun 116 40 L ([.int x]) sh mi mj mr = some (some (.int x), sh, mi, mj, mr) := zr_ret (zD_of zk_116 d_116_40 rfl rfl) rfl rfl rfl rfl rfl (if_pos rfl)
theorem e_116 {x0 x1 : Int32} : zCall 116 [.ref o, .int x0, .int x1] sh mi mj mr = zRun 116 0 [some (.ref o), some (.int x0), some (.int x1)] [] sh mi mj mr := rfl
theorem d_117_0 : decode cX8_setSymbols 0 = .ok (.iload_n 1, 1) := by decide +kernel
theorem d_117_1 : decode cX8_setSymbols 1 = .ok (.iconst 0, 1) := by decide +kernel
theorem d_117_2 : decode cX8_setSymbols 2 = .ok (.bipush 8, 2) := by decide +kernel
theorem d_117_4 : decode cX8_setSymbols 4 = .ok (.invokestatic 72, 3) := by decide +kernel
theorem d_117_7 : decode cX8_setSymbols 7 = .ok (.ifCond .ne 6, 3) := by decide +kernel
theorem d_117_10 : decode cX8_setSymbols 10 = .ok (.bipush (-2), 2) := by decide +kernel
theorem d_117_12 : decode cX8_setSymbols 12 = .ok (.ireturn, 1) := by decide +kernel
theorem d_117_13 : decode cX8_setSymbols 13 = .ok (.aload_n 0, 1) := by decide +kernel
theorem d_117_14 : decode cX8_setSymbols 14 = .ok (.getfield 7, 3) := by decide +kernel
theorem d_117_17 : decode cX8_setSymbols 17 = .ok (.bipush 8, 2) := by decide +kernel
theorem d_117_19 : decode cX8_setSymbols 19 = .ok (.iaload, 1) := by decide +kernel
theorem d_117_20 : decode cX8_setSymbols 20 = .ok (.istore_n 2, 1) := by decide +kernel
theorem d_117_21 : decode cX8_setSymbols 21 = .ok (.aload_n 0, 1) := by decide +kernel
theorem d_117_22 : decode cX8_setSymbols 22 = .ok (.getfield 7, 3) := by decide +kernel
theorem d_117_25 : decode cX8_setSymbols 25 = .ok (.bipush 8, 2) := by decide +kernel
theorem d_117_27 : decode cX8_setSymbols 27 = .ok (.iload_n 1, 1) := by decide +kernel
theorem d_117_28 : decode cX8_setSymbols 28 = .ok (.iastore, 1) := by decide +kernel
theorem d_117_29 : decode cX8_setSymbols 29 = .ok (.iload_n 2, 1) := by decide +kernel
theorem d_117_30 : decode cX8_setSymbols 30 = .ok (.ireturn, 1) := by decide +kernel
theorem q_117_0 : zRun 117 0 [l0, some (.int x), l2] S sh mi mj mr = zRun 117 1 [l0, some (.int x), l2] (.int x :: S) sh mi mj mr := zr_l (zD_of zk_117 d_117_0 rfl rfl) rfl rfl rfl
theorem q_117_1  : zRun 117 1 L S sh mi mj mr = zRun 117 2 L (.int 0 :: S) sh mi mj mr := zr_p (zD_of zk_117 d_117_1 rfl rfl) rfl
theorem q_117_2  : zRun 117 2 L S sh mi mj mr = zRun 117 4 L (.int 8 :: S) sh mi mj mr := zr_p (zD_of zk_117 d_117_2 rfl rfl) rfl
theorem q_117_4  {x0 x1 x2 : Int32} (hS : zcat S ≤ 8) : zRun 117 4 L (.int x2 :: .int x1 :: .int x0 :: S) sh mi mj mr = (zCall 111 [.int x0, .int x1, .int x2] sh mi mj mr).bind fun r => zRun 117 7 L (r.1.toList ++ S) r.2.1 r.2.2.1 r.2.2.2.1 r.2.2.2.2 := zr_S (zD_of zk_117 d_117_4 rfl rfl) rfl zk_111 rfl rfl rfl hS
theorem q_117_7  : zRun 117 7 L (.int x :: S) sh mi mj mr = if ¬ x = 0 then zRun 117 13 L S sh mi mj mr else zRun 117 10 L S sh mi mj mr := zr_if (off := 6) (P := ¬ x = 0) (zD_of zk_117 d_117_7 rfl rfl) rfl rfl (by decide)
theorem q_117_10  : zRun 117 10 L S sh mi mj mr = zRun 117 12 L (.int (-2) :: S) sh mi mj mr := zr_p (zD_of zk_117 d_117_10 rfl rfl) rfl
theorem q_117_12  : zRun 117 12 L ([.int x]) sh mi mj mr = some (some (.int x), sh, mi, mj, mr) := zr_ret (zD_of zk_117 d_117_12 rfl rfl) rfl rfl rfl rfl rfl (if_pos rfl)
theorem q_117_13r : zRun 117 13 [some (.ref o), l1, l2] S sh mi mj mr = zRun 117 14 [some (.ref o), l1, l2] (.ref o :: S) sh mi mj mr := zr_l (zD_of zk_117 d_117_13 rfl rfl) rfl rfl rfl
theorem q_117_13n : zRun 117 13 [some (.null), l1, l2] S sh mi mj mr = zRun 117 14 [some (.null), l1, l2] (.null :: S) sh mi mj mr := zr_l (zD_of zk_117 d_117_13 rfl rfl) rfl rfl rfl
theorem q_117_14 (h : zIs sh o 0 8) : zRun 117 14 L (.ref o :: S) sh mi mj mr = zRun 117 17 L (va_rf (mr o 0) :: S) sh mi mj mr := zr_getR (zD_of zk_117 d_117_14 rfl rfl) rfl rfl rfl h
theorem q_117_17  : zRun 117 17 L S sh mi mj mr = zRun 117 19 L (.int 8 :: S) sh mi mj mr := zr_p (zD_of zk_117 d_117_17 rfl rfl) rfl
theorem q_117_19 (h : zAt sh o 1 x) : zRun 117 19 L (.int x :: .ref o :: S) sh mi mj mr = zRun 117 20 L (.int (mi o x.toNatClampNeg) :: S) sh mi mj mr := zr_iald (zD_of zk_117 d_117_19 rfl rfl) h
theorem q_117_20 : zRun 117 20 [l0, l1, l2] (.int x :: S) sh mi mj mr = zRun 117 21 [l0, zk2 l1, some (.int x)] S sh mi mj mr := zr_s1 (i := 2) (v := .int x) (L := [l0, l1, l2]) (zD_of zk_117 d_117_20 rfl rfl) rfl rfl rfl rfl
theorem q_117_21r : zRun 117 21 [some (.ref o), l1, l2] S sh mi mj mr = zRun 117 22 [some (.ref o), l1, l2] (.ref o :: S) sh mi mj mr := zr_l (zD_of zk_117 d_117_21 rfl rfl) rfl rfl rfl
theorem q_117_21n : zRun 117 21 [some (.null), l1, l2] S sh mi mj mr = zRun 117 22 [some (.null), l1, l2] (.null :: S) sh mi mj mr := zr_l (zD_of zk_117 d_117_21 rfl rfl) rfl rfl rfl
theorem q_117_22 (h : zIs sh o 0 8) : zRun 117 22 L (.ref o :: S) sh mi mj mr = zRun 117 25 L (va_rf (mr o 0) :: S) sh mi mj mr := zr_getR (zD_of zk_117 d_117_22 rfl rfl) rfl rfl rfl h
theorem q_117_25  : zRun 117 25 L S sh mi mj mr = zRun 117 27 L (.int 8 :: S) sh mi mj mr := zr_p (zD_of zk_117 d_117_25 rfl rfl) rfl
theorem q_117_27 : zRun 117 27 [l0, some (.int x), l2] S sh mi mj mr = zRun 117 28 [l0, some (.int x), l2] (.int x :: S) sh mi mj mr := zr_l (zD_of zk_117 d_117_27 rfl rfl) rfl rfl rfl
theorem q_117_28 (h : zAt sh o 1 x) : zRun 117 28 L (.int y :: .int x :: .ref o :: S) sh mi mj mr = zRun 117 29 L S sh (zup mi o x.toNatClampNeg y) mj mr := zr_iast (zD_of zk_117 d_117_28 rfl rfl) h
theorem q_117_29 : zRun 117 29 [l0, l1, some (.int x)] S sh mi mj mr = zRun 117 30 [l0, l1, some (.int x)] (.int x :: S) sh mi mj mr := zr_l (zD_of zk_117 d_117_29 rfl rfl) rfl rfl rfl
theorem q_117_30  : zRun 117 30 L ([.int x]) sh mi mj mr = some (some (.int x), sh, mi, mj, mr) := zr_ret (zD_of zk_117 d_117_30 rfl rfl) rfl rfl rfl rfl rfl (if_pos rfl)
theorem e_117 {x0 : Int32} : zCall 117 [.ref o, .int x0] sh mi mj mr = zRun 117 0 [some (.ref o), some (.int x0), none] [] sh mi mj mr := rfl
theorem d_118_0 : decode cX8_say 0 = .ok (.iload_n 1, 1) := by decide +kernel
theorem d_118_1 : decode cX8_say 1 = .ok (.bipush 33, 2) := by decide +kernel
theorem d_118_3 : decode cX8_say 3 = .ok (.bipush 126, 2) := by decide +kernel
theorem d_118_5 : decode cX8_say 5 = .ok (.invokestatic 72, 3) := by decide +kernel
theorem d_118_8 : decode cX8_say 8 = .ok (.ifCond .ne 6, 3) := by decide +kernel
theorem d_118_11 : decode cX8_say 11 = .ok (.bipush (-2), 2) := by decide +kernel
theorem d_118_13 : decode cX8_say 13 = .ok (.ireturn, 1) := by decide +kernel
theorem d_118_14 : decode cX8_say 14 = .ok (.aload_n 0, 1) := by decide +kernel
theorem d_118_15 : decode cX8_say 15 = .ok (.getfield 86, 3) := by decide +kernel
theorem d_118_18 : decode cX8_say 18 = .ok (.bipush 48, 2) := by decide +kernel
theorem d_118_20 : decode cX8_say 20 = .ok (.if_icmp .ne 6, 3) := by decide +kernel
theorem d_118_23 : decode cX8_say 23 = .ok (.bipush (-4), 2) := by decide +kernel
theorem d_118_25 : decode cX8_say 25 = .ok (.ireturn, 1) := by decide +kernel
theorem d_118_26 : decode cX8_say 26 = .ok (.aload_n 0, 1) := by decide +kernel
theorem d_118_27 : decode cX8_say 27 = .ok (.getfield 20, 3) := by decide +kernel
theorem d_118_30 : decode cX8_say 30 = .ok (.aload_n 0, 1) := by decide +kernel
theorem d_118_31 : decode cX8_say 31 = .ok (.getfield 86, 3) := by decide +kernel
theorem d_118_34 : decode cX8_say 34 = .ok (.iload_n 1, 1) := by decide +kernel
theorem d_118_35 : decode cX8_say 35 = .ok (.iastore, 1) := by decide +kernel
theorem d_118_36 : decode cX8_say 36 = .ok (.aload_n 0, 1) := by decide +kernel
theorem d_118_37 : decode cX8_say 37 = .ok (.dup, 1) := by decide +kernel
theorem d_118_38 : decode cX8_say 38 = .ok (.getfield 86, 3) := by decide +kernel
theorem d_118_41 : decode cX8_say 41 = .ok (.iconst 1, 1) := by decide +kernel
theorem d_118_42 : decode cX8_say 42 = .ok (.iadd, 1) := by decide +kernel
theorem d_118_43 : decode cX8_say 43 = .ok (.putfield 86, 3) := by decide +kernel
theorem d_118_46 : decode cX8_say 46 = .ok (.aload_n 0, 1) := by decide +kernel
theorem d_118_47 : decode cX8_say 47 = .ok (.getfield 86, 3) := by decide +kernel
theorem d_118_50 : decode cX8_say 50 = .ok (.ireturn, 1) := by decide +kernel
theorem q_118_0 : zRun 118 0 [l0, some (.int x)] S sh mi mj mr = zRun 118 1 [l0, some (.int x)] (.int x :: S) sh mi mj mr := zr_l (zD_of zk_118 d_118_0 rfl rfl) rfl rfl rfl
theorem q_118_1  : zRun 118 1 L S sh mi mj mr = zRun 118 3 L (.int 33 :: S) sh mi mj mr := zr_p (zD_of zk_118 d_118_1 rfl rfl) rfl
theorem q_118_3  : zRun 118 3 L S sh mi mj mr = zRun 118 5 L (.int 126 :: S) sh mi mj mr := zr_p (zD_of zk_118 d_118_3 rfl rfl) rfl
theorem q_118_5  {x0 x1 x2 : Int32} (hS : zcat S ≤ 8) : zRun 118 5 L (.int x2 :: .int x1 :: .int x0 :: S) sh mi mj mr = (zCall 111 [.int x0, .int x1, .int x2] sh mi mj mr).bind fun r => zRun 118 8 L (r.1.toList ++ S) r.2.1 r.2.2.1 r.2.2.2.1 r.2.2.2.2 := zr_S (zD_of zk_118 d_118_5 rfl rfl) rfl zk_111 rfl rfl rfl hS
theorem q_118_8  : zRun 118 8 L (.int x :: S) sh mi mj mr = if ¬ x = 0 then zRun 118 14 L S sh mi mj mr else zRun 118 11 L S sh mi mj mr := zr_if (off := 6) (P := ¬ x = 0) (zD_of zk_118 d_118_8 rfl rfl) rfl rfl (by decide)
theorem q_118_11  : zRun 118 11 L S sh mi mj mr = zRun 118 13 L (.int (-2) :: S) sh mi mj mr := zr_p (zD_of zk_118 d_118_11 rfl rfl) rfl
theorem q_118_13  : zRun 118 13 L ([.int x]) sh mi mj mr = some (some (.int x), sh, mi, mj, mr) := zr_ret (zD_of zk_118 d_118_13 rfl rfl) rfl rfl rfl rfl rfl (if_pos rfl)
theorem q_118_14r : zRun 118 14 [some (.ref o), l1] S sh mi mj mr = zRun 118 15 [some (.ref o), l1] (.ref o :: S) sh mi mj mr := zr_l (zD_of zk_118 d_118_14 rfl rfl) rfl rfl rfl
theorem q_118_14n : zRun 118 14 [some (.null), l1] S sh mi mj mr = zRun 118 15 [some (.null), l1] (.null :: S) sh mi mj mr := zr_l (zD_of zk_118 d_118_14 rfl rfl) rfl rfl rfl
theorem q_118_15 (h : zIs sh o 0 8) : zRun 118 15 L (.ref o :: S) sh mi mj mr = zRun 118 18 L (.int (mi o 4) :: S) sh mi mj mr := zr_getI (zD_of zk_118 d_118_15 rfl rfl) rfl rfl (Or.inl rfl) h
theorem q_118_18  : zRun 118 18 L S sh mi mj mr = zRun 118 20 L (.int 48 :: S) sh mi mj mr := zr_p (zD_of zk_118 d_118_18 rfl rfl) rfl
theorem q_118_20  : zRun 118 20 L (.int y :: .int x :: S) sh mi mj mr = if ¬ x = y then zRun 118 26 L S sh mi mj mr else zRun 118 23 L S sh mi mj mr := zr_if (off := 6) (P := ¬ x = y) (zD_of zk_118 d_118_20 rfl rfl) rfl rfl (by decide)
theorem q_118_23  : zRun 118 23 L S sh mi mj mr = zRun 118 25 L (.int (-4) :: S) sh mi mj mr := zr_p (zD_of zk_118 d_118_23 rfl rfl) rfl
theorem q_118_25  : zRun 118 25 L ([.int x]) sh mi mj mr = some (some (.int x), sh, mi, mj, mr) := zr_ret (zD_of zk_118 d_118_25 rfl rfl) rfl rfl rfl rfl rfl (if_pos rfl)
theorem q_118_26r : zRun 118 26 [some (.ref o), l1] S sh mi mj mr = zRun 118 27 [some (.ref o), l1] (.ref o :: S) sh mi mj mr := zr_l (zD_of zk_118 d_118_26 rfl rfl) rfl rfl rfl
theorem q_118_26n : zRun 118 26 [some (.null), l1] S sh mi mj mr = zRun 118 27 [some (.null), l1] (.null :: S) sh mi mj mr := zr_l (zD_of zk_118 d_118_26 rfl rfl) rfl rfl rfl
theorem q_118_27 (h : zIs sh o 0 8) : zRun 118 27 L (.ref o :: S) sh mi mj mr = zRun 118 30 L (va_rf (mr o 3) :: S) sh mi mj mr := zr_getR (zD_of zk_118 d_118_27 rfl rfl) rfl rfl rfl h
theorem q_118_30r : zRun 118 30 [some (.ref o), l1] S sh mi mj mr = zRun 118 31 [some (.ref o), l1] (.ref o :: S) sh mi mj mr := zr_l (zD_of zk_118 d_118_30 rfl rfl) rfl rfl rfl
theorem q_118_30n : zRun 118 30 [some (.null), l1] S sh mi mj mr = zRun 118 31 [some (.null), l1] (.null :: S) sh mi mj mr := zr_l (zD_of zk_118 d_118_30 rfl rfl) rfl rfl rfl
theorem q_118_31 (h : zIs sh o 0 8) : zRun 118 31 L (.ref o :: S) sh mi mj mr = zRun 118 34 L (.int (mi o 4) :: S) sh mi mj mr := zr_getI (zD_of zk_118 d_118_31 rfl rfl) rfl rfl (Or.inl rfl) h
theorem q_118_34 : zRun 118 34 [l0, some (.int x)] S sh mi mj mr = zRun 118 35 [l0, some (.int x)] (.int x :: S) sh mi mj mr := zr_l (zD_of zk_118 d_118_34 rfl rfl) rfl rfl rfl
theorem q_118_35 (h : zAt sh o 1 x) : zRun 118 35 L (.int y :: .int x :: .ref o :: S) sh mi mj mr = zRun 118 36 L S sh (zup mi o x.toNatClampNeg y) mj mr := zr_iast (zD_of zk_118 d_118_35 rfl rfl) h
theorem q_118_36r : zRun 118 36 [some (.ref o), l1] S sh mi mj mr = zRun 118 37 [some (.ref o), l1] (.ref o :: S) sh mi mj mr := zr_l (zD_of zk_118 d_118_36 rfl rfl) rfl rfl rfl
theorem q_118_36n : zRun 118 36 [some (.null), l1] S sh mi mj mr = zRun 118 37 [some (.null), l1] (.null :: S) sh mi mj mr := zr_l (zD_of zk_118 d_118_36 rfl rfl) rfl rfl rfl
theorem q_118_37r : zRun 118 37 L (.ref o :: S) sh mi mj mr = zRun 118 38 L (.ref o :: .ref o :: S) sh mi mj mr := zr_p (zD_of zk_118 d_118_37 rfl rfl) rfl
theorem q_118_37i : zRun 118 37 L (.int x :: S) sh mi mj mr = zRun 118 38 L (.int x :: .int x :: S) sh mi mj mr := zr_p (zD_of zk_118 d_118_37 rfl rfl) rfl
theorem q_118_38 (h : zIs sh o 0 8) : zRun 118 38 L (.ref o :: S) sh mi mj mr = zRun 118 41 L (.int (mi o 4) :: S) sh mi mj mr := zr_getI (zD_of zk_118 d_118_38 rfl rfl) rfl rfl (Or.inl rfl) h
theorem q_118_41  : zRun 118 41 L S sh mi mj mr = zRun 118 42 L (.int 1 :: S) sh mi mj mr := zr_p (zD_of zk_118 d_118_41 rfl rfl) rfl
theorem q_118_42  : zRun 118 42 L (.int y :: .int x :: S) sh mi mj mr = zRun 118 43 L (.int (x + y) :: S) sh mi mj mr := zr_p (zD_of zk_118 d_118_42 rfl rfl) rfl
theorem q_118_43 (h : zIs sh o 0 8) : zRun 118 43 L (.int x :: .ref o :: S) sh mi mj mr = zRun 118 46 L S sh (zup mi o 4 x) mj mr := zr_putI (zD_of zk_118 d_118_43 rfl rfl) rfl rfl rfl (Or.inl rfl) h
theorem q_118_46r : zRun 118 46 [some (.ref o), l1] S sh mi mj mr = zRun 118 47 [some (.ref o), l1] (.ref o :: S) sh mi mj mr := zr_l (zD_of zk_118 d_118_46 rfl rfl) rfl rfl rfl
theorem q_118_46n : zRun 118 46 [some (.null), l1] S sh mi mj mr = zRun 118 47 [some (.null), l1] (.null :: S) sh mi mj mr := zr_l (zD_of zk_118 d_118_46 rfl rfl) rfl rfl rfl
theorem q_118_47 (h : zIs sh o 0 8) : zRun 118 47 L (.ref o :: S) sh mi mj mr = zRun 118 50 L (.int (mi o 4) :: S) sh mi mj mr := zr_getI (zD_of zk_118 d_118_47 rfl rfl) rfl rfl (Or.inl rfl) h
theorem q_118_50  : zRun 118 50 L ([.int x]) sh mi mj mr = some (some (.int x), sh, mi, mj, mr) := zr_ret (zD_of zk_118 d_118_50 rfl rfl) rfl rfl rfl rfl rfl (if_pos rfl)
theorem e_118 {x0 : Int32} : zCall 118 [.ref o, .int x0] sh mi mj mr = zRun 118 0 [some (.ref o), some (.int x0)] [] sh mi mj mr := rfl
theorem d_119_0 : decode cX8_wipe 0 = .ok (.aload_n 0, 1) := by decide +kernel
theorem d_119_1 : decode cX8_wipe 1 = .ok (.getfield 86, 3) := by decide +kernel
theorem d_119_4 : decode cX8_wipe 4 = .ok (.istore_n 1, 1) := by decide +kernel
theorem d_119_5 : decode cX8_wipe 5 = .ok (.aload_n 0, 1) := by decide +kernel
theorem d_119_6 : decode cX8_wipe 6 = .ok (.iconst 0, 1) := by decide +kernel
theorem d_119_7 : decode cX8_wipe 7 = .ok (.putfield 86, 3) := by decide +kernel
theorem d_119_10 : decode cX8_wipe 10 = .ok (.iload_n 1, 1) := by decide +kernel
theorem d_119_11 : decode cX8_wipe 11 = .ok (.ireturn, 1) := by decide +kernel
theorem q_119_0r : zRun 119 0 [some (.ref o), l1] S sh mi mj mr = zRun 119 1 [some (.ref o), l1] (.ref o :: S) sh mi mj mr := zr_l (zD_of zk_119 d_119_0 rfl rfl) rfl rfl rfl
theorem q_119_0n : zRun 119 0 [some (.null), l1] S sh mi mj mr = zRun 119 1 [some (.null), l1] (.null :: S) sh mi mj mr := zr_l (zD_of zk_119 d_119_0 rfl rfl) rfl rfl rfl
theorem q_119_1 (h : zIs sh o 0 8) : zRun 119 1 L (.ref o :: S) sh mi mj mr = zRun 119 4 L (.int (mi o 4) :: S) sh mi mj mr := zr_getI (zD_of zk_119 d_119_1 rfl rfl) rfl rfl (Or.inl rfl) h
theorem q_119_4 : zRun 119 4 [l0, l1] (.int x :: S) sh mi mj mr = zRun 119 5 [zk2 l0, some (.int x)] S sh mi mj mr := zr_s1 (i := 1) (v := .int x) (L := [l0, l1]) (zD_of zk_119 d_119_4 rfl rfl) rfl rfl rfl rfl
theorem q_119_5r : zRun 119 5 [some (.ref o), l1] S sh mi mj mr = zRun 119 6 [some (.ref o), l1] (.ref o :: S) sh mi mj mr := zr_l (zD_of zk_119 d_119_5 rfl rfl) rfl rfl rfl
theorem q_119_5n : zRun 119 5 [some (.null), l1] S sh mi mj mr = zRun 119 6 [some (.null), l1] (.null :: S) sh mi mj mr := zr_l (zD_of zk_119 d_119_5 rfl rfl) rfl rfl rfl
theorem q_119_6  : zRun 119 6 L S sh mi mj mr = zRun 119 7 L (.int 0 :: S) sh mi mj mr := zr_p (zD_of zk_119 d_119_6 rfl rfl) rfl
theorem q_119_7 (h : zIs sh o 0 8) : zRun 119 7 L (.int x :: .ref o :: S) sh mi mj mr = zRun 119 10 L S sh (zup mi o 4 x) mj mr := zr_putI (zD_of zk_119 d_119_7 rfl rfl) rfl rfl rfl (Or.inl rfl) h
theorem q_119_10 : zRun 119 10 [l0, some (.int x)] S sh mi mj mr = zRun 119 11 [l0, some (.int x)] (.int x :: S) sh mi mj mr := zr_l (zD_of zk_119 d_119_10 rfl rfl) rfl rfl rfl
theorem q_119_11  : zRun 119 11 L ([.int x]) sh mi mj mr = some (some (.int x), sh, mi, mj, mr) := zr_ret (zD_of zk_119 d_119_11 rfl rfl) rfl rfl rfl rfl rfl (if_pos rfl)
theorem e_119 : zCall 119 [.ref o] sh mi mj mr = zRun 119 0 [some (.ref o), none] [] sh mi mj mr := rfl
theorem d_120_0 : decode cX8_isDigit 0 = .ok (.iload_n 0, 1) := by decide +kernel
theorem d_120_1 : decode cX8_isDigit 1 = .ok (.bipush 48, 2) := by decide +kernel
theorem d_120_3 : decode cX8_isDigit 3 = .ok (.bipush 57, 2) := by decide +kernel
theorem d_120_5 : decode cX8_isDigit 5 = .ok (.invokestatic 72, 3) := by decide +kernel
theorem d_120_8 : decode cX8_isDigit 8 = .ok (.ireturn, 1) := by decide +kernel
theorem q_120_0 : zRun 120 0 [some (.int x)] S sh mi mj mr = zRun 120 1 [some (.int x)] (.int x :: S) sh mi mj mr := zr_l (zD_of zk_120 d_120_0 rfl rfl) rfl rfl rfl
theorem q_120_1  : zRun 120 1 L S sh mi mj mr = zRun 120 3 L (.int 48 :: S) sh mi mj mr := zr_p (zD_of zk_120 d_120_1 rfl rfl) rfl
theorem q_120_3  : zRun 120 3 L S sh mi mj mr = zRun 120 5 L (.int 57 :: S) sh mi mj mr := zr_p (zD_of zk_120 d_120_3 rfl rfl) rfl
theorem q_120_5  {x0 x1 x2 : Int32} (hS : zcat S ≤ 8) : zRun 120 5 L (.int x2 :: .int x1 :: .int x0 :: S) sh mi mj mr = (zCall 111 [.int x0, .int x1, .int x2] sh mi mj mr).bind fun r => zRun 120 8 L (r.1.toList ++ S) r.2.1 r.2.2.1 r.2.2.2.1 r.2.2.2.2 := zr_S (zD_of zk_120 d_120_5 rfl rfl) rfl zk_111 rfl rfl rfl hS
theorem q_120_8 (h : x = 0 ∨ x = 1) : zRun 120 8 L ([.int x]) sh mi mj mr = some (some (.int x), sh, mi, mj, mr) := zr_ret (zD_of zk_120 d_120_8 rfl rfl) rfl rfl rfl rfl rfl (if_pos (zna_b h))
theorem e_120 {x0 : Int32} : zCall 120 [.int x0] sh mi mj mr = zRun 120 0 [some (.int x0)] [] sh mi mj mr := rfl
theorem d_121_0 : decode cX8_beginAtom 0 = .ok (.iload_n 1, 1) := by decide +kernel
theorem d_121_1 : decode cX8_beginAtom 1 = .ok (.bipush 97, 2) := by decide +kernel
theorem d_121_3 : decode cX8_beginAtom 3 = .ok (.bipush 100, 2) := by decide +kernel
theorem d_121_5 : decode cX8_beginAtom 5 = .ok (.invokestatic 72, 3) := by decide +kernel
theorem d_121_8 : decode cX8_beginAtom 8 = .ok (.ifCond .eq 5, 3) := by decide +kernel
theorem d_121_11 : decode cX8_beginAtom 11 = .ok (.iconst 3, 1) := by decide +kernel
theorem d_121_12 : decode cX8_beginAtom 12 = .ok (.ireturn, 1) := by decide +kernel
theorem d_121_13 : decode cX8_beginAtom 13 = .ok (.iload_n 1, 1) := by decide +kernel
theorem d_121_14 : decode cX8_beginAtom 14 = .ok (.invokestatic 90, 3) := by decide +kernel
theorem d_121_17 : decode cX8_beginAtom 17 = .ok (.ifCond .eq 17, 3) := by decide +kernel
theorem d_121_20 : decode cX8_beginAtom 20 = .ok (.iload_n 1, 1) := by decide +kernel
theorem d_121_21 : decode cX8_beginAtom 21 = .ok (.bipush 48, 2) := by decide +kernel
theorem d_121_23 : decode cX8_beginAtom 23 = .ok (.if_icmp .ne 8, 3) := by decide +kernel
theorem d_121_26 : decode cX8_beginAtom 26 = .ok (.bipush 8, 2) := by decide +kernel
theorem d_121_28 : decode cX8_beginAtom 28 = .ok (.goto 5, 3) := by decide +kernel
theorem d_121_31 : decode cX8_beginAtom 31 = .ok (.bipush 9, 2) := by decide +kernel
theorem d_121_33 : decode cX8_beginAtom 33 = .ok (.ireturn, 1) := by decide +kernel
theorem d_121_34 : decode cX8_beginAtom 34 = .ok (.iload_n 1, 1) := by decide +kernel
theorem d_121_35 : decode cX8_beginAtom 35 = .ok (.bipush 40, 2) := by decide +kernel
theorem d_121_37 : decode cX8_beginAtom 37 = .ok (.if_icmp .ne 25, 3) := by decide +kernel
theorem d_121_40 : decode cX8_beginAtom 40 = .ok (.aload_n 0, 1) := by decide +kernel
theorem d_121_41 : decode cX8_beginAtom 41 = .ok (.getfield 23, 3) := by decide +kernel
theorem d_121_44 : decode cX8_beginAtom 44 = .ok (.aload_n 0, 1) := by decide +kernel
theorem d_121_45 : decode cX8_beginAtom 45 = .ok (.getfield 93, 3) := by decide +kernel
theorem d_121_48 : decode cX8_beginAtom 48 = .ok (.iconst 0, 1) := by decide +kernel
theorem d_121_49 : decode cX8_beginAtom 49 = .ok (.iastore, 1) := by decide +kernel
theorem d_121_50 : decode cX8_beginAtom 50 = .ok (.aload_n 0, 1) := by decide +kernel
theorem d_121_51 : decode cX8_beginAtom 51 = .ok (.dup, 1) := by decide +kernel
theorem d_121_52 : decode cX8_beginAtom 52 = .ok (.getfield 93, 3) := by decide +kernel
theorem d_121_55 : decode cX8_beginAtom 55 = .ok (.iconst 1, 1) := by decide +kernel
theorem d_121_56 : decode cX8_beginAtom 56 = .ok (.iadd, 1) := by decide +kernel
theorem d_121_57 : decode cX8_beginAtom 57 = .ok (.putfield 93, 3) := by decide +kernel
theorem d_121_60 : decode cX8_beginAtom 60 = .ok (.iconst 0, 1) := by decide +kernel
theorem d_121_61 : decode cX8_beginAtom 61 = .ok (.ireturn, 1) := by decide +kernel
theorem d_121_62 : decode cX8_beginAtom 62 = .ok (.iload_n 1, 1) := by decide +kernel
theorem d_121_63 : decode cX8_beginAtom 63 = .ok (.bipush 65, 2) := by decide +kernel
theorem d_121_65 : decode cX8_beginAtom 65 = .ok (.if_icmp .eq 9, 3) := by decide +kernel
theorem d_121_68 : decode cX8_beginAtom 68 = .ok (.iload_n 1, 1) := by decide +kernel
theorem d_121_69 : decode cX8_beginAtom 69 = .ok (.bipush 82, 2) := by decide +kernel
theorem d_121_71 : decode cX8_beginAtom 71 = .ok (.if_icmp .ne 7, 3) := by decide +kernel
theorem d_121_74 : decode cX8_beginAtom 74 = .ok (.iconst 5, 1) := by decide +kernel
theorem d_121_75 : decode cX8_beginAtom 75 = .ok (.goto 22, 3) := by decide +kernel
theorem d_121_78 : decode cX8_beginAtom 78 = .ok (.iload_n 1, 1) := by decide +kernel
theorem d_121_79 : decode cX8_beginAtom 79 = .ok (.bipush 76, 2) := by decide +kernel
theorem d_121_81 : decode cX8_beginAtom 81 = .ok (.if_icmp .eq 9, 3) := by decide +kernel
theorem d_121_84 : decode cX8_beginAtom 84 = .ok (.iload_n 1, 1) := by decide +kernel
theorem d_121_85 : decode cX8_beginAtom 85 = .ok (.bipush 71, 2) := by decide +kernel
theorem d_121_87 : decode cX8_beginAtom 87 = .ok (.if_icmp .ne 8, 3) := by decide +kernel
theorem d_121_90 : decode cX8_beginAtom 90 = .ok (.bipush 6, 2) := by decide +kernel
theorem d_121_92 : decode cX8_beginAtom 92 = .ok (.goto 5, 3) := by decide +kernel
theorem d_121_95 : decode cX8_beginAtom 95 = .ok (.bipush (-6), 2) := by decide +kernel
theorem d_121_97 : decode cX8_beginAtom 97 = .ok (.ireturn, 1) := by decide +kernel
theorem q_121_0 : zRun 121 0 [l0, some (.int x)] S sh mi mj mr = zRun 121 1 [l0, some (.int x)] (.int x :: S) sh mi mj mr := zr_l (zD_of zk_121 d_121_0 rfl rfl) rfl rfl rfl
theorem q_121_1  : zRun 121 1 L S sh mi mj mr = zRun 121 3 L (.int 97 :: S) sh mi mj mr := zr_p (zD_of zk_121 d_121_1 rfl rfl) rfl
theorem q_121_3  : zRun 121 3 L S sh mi mj mr = zRun 121 5 L (.int 100 :: S) sh mi mj mr := zr_p (zD_of zk_121 d_121_3 rfl rfl) rfl
theorem q_121_5  {x0 x1 x2 : Int32} (hS : zcat S ≤ 8) : zRun 121 5 L (.int x2 :: .int x1 :: .int x0 :: S) sh mi mj mr = (zCall 111 [.int x0, .int x1, .int x2] sh mi mj mr).bind fun r => zRun 121 8 L (r.1.toList ++ S) r.2.1 r.2.2.1 r.2.2.2.1 r.2.2.2.2 := zr_S (zD_of zk_121 d_121_5 rfl rfl) rfl zk_111 rfl rfl rfl hS
theorem q_121_8  : zRun 121 8 L (.int x :: S) sh mi mj mr = if x = 0 then zRun 121 13 L S sh mi mj mr else zRun 121 11 L S sh mi mj mr := zr_if (off := 5) (P := x = 0) (zD_of zk_121 d_121_8 rfl rfl) rfl rfl (by decide)
theorem q_121_11  : zRun 121 11 L S sh mi mj mr = zRun 121 12 L (.int 3 :: S) sh mi mj mr := zr_p (zD_of zk_121 d_121_11 rfl rfl) rfl
theorem q_121_12  : zRun 121 12 L ([.int x]) sh mi mj mr = some (some (.int x), sh, mi, mj, mr) := zr_ret (zD_of zk_121 d_121_12 rfl rfl) rfl rfl rfl rfl rfl (if_pos rfl)
theorem q_121_13 : zRun 121 13 [l0, some (.int x)] S sh mi mj mr = zRun 121 14 [l0, some (.int x)] (.int x :: S) sh mi mj mr := zr_l (zD_of zk_121 d_121_13 rfl rfl) rfl rfl rfl
theorem q_121_14  {x0 : Int32} (hS : zcat S ≤ 8) : zRun 121 14 L (.int x0 :: S) sh mi mj mr = (zCall 120 [.int x0] sh mi mj mr).bind fun r => zRun 121 17 L (r.1.toList ++ S) r.2.1 r.2.2.1 r.2.2.2.1 r.2.2.2.2 := zr_S (zD_of zk_121 d_121_14 rfl rfl) rfl zk_120 rfl rfl rfl hS
theorem q_121_17  : zRun 121 17 L (.int x :: S) sh mi mj mr = if x = 0 then zRun 121 34 L S sh mi mj mr else zRun 121 20 L S sh mi mj mr := zr_if (off := 17) (P := x = 0) (zD_of zk_121 d_121_17 rfl rfl) rfl rfl (by decide)
theorem q_121_20 : zRun 121 20 [l0, some (.int x)] S sh mi mj mr = zRun 121 21 [l0, some (.int x)] (.int x :: S) sh mi mj mr := zr_l (zD_of zk_121 d_121_20 rfl rfl) rfl rfl rfl
theorem q_121_21  : zRun 121 21 L S sh mi mj mr = zRun 121 23 L (.int 48 :: S) sh mi mj mr := zr_p (zD_of zk_121 d_121_21 rfl rfl) rfl
theorem q_121_23  : zRun 121 23 L (.int y :: .int x :: S) sh mi mj mr = if ¬ x = y then zRun 121 31 L S sh mi mj mr else zRun 121 26 L S sh mi mj mr := zr_if (off := 8) (P := ¬ x = y) (zD_of zk_121 d_121_23 rfl rfl) rfl rfl (by decide)
theorem q_121_26  : zRun 121 26 L S sh mi mj mr = zRun 121 28 L (.int 8 :: S) sh mi mj mr := zr_p (zD_of zk_121 d_121_26 rfl rfl) rfl
theorem q_121_28  : zRun 121 28 L S sh mi mj mr = zRun 121 33 L S sh mi mj mr := zr_go (off := 5) (zD_of zk_121 d_121_28 rfl rfl) rfl rfl (by decide)
theorem q_121_31  : zRun 121 31 L S sh mi mj mr = zRun 121 33 L (.int 9 :: S) sh mi mj mr := zr_p (zD_of zk_121 d_121_31 rfl rfl) rfl
theorem q_121_33  : zRun 121 33 L ([.int x]) sh mi mj mr = some (some (.int x), sh, mi, mj, mr) := zr_ret (zD_of zk_121 d_121_33 rfl rfl) rfl rfl rfl rfl rfl (if_pos rfl)
theorem q_121_34 : zRun 121 34 [l0, some (.int x)] S sh mi mj mr = zRun 121 35 [l0, some (.int x)] (.int x :: S) sh mi mj mr := zr_l (zD_of zk_121 d_121_34 rfl rfl) rfl rfl rfl
theorem q_121_35  : zRun 121 35 L S sh mi mj mr = zRun 121 37 L (.int 40 :: S) sh mi mj mr := zr_p (zD_of zk_121 d_121_35 rfl rfl) rfl
theorem q_121_37  : zRun 121 37 L (.int y :: .int x :: S) sh mi mj mr = if ¬ x = y then zRun 121 62 L S sh mi mj mr else zRun 121 40 L S sh mi mj mr := zr_if (off := 25) (P := ¬ x = y) (zD_of zk_121 d_121_37 rfl rfl) rfl rfl (by decide)
theorem q_121_40r : zRun 121 40 [some (.ref o), l1] S sh mi mj mr = zRun 121 41 [some (.ref o), l1] (.ref o :: S) sh mi mj mr := zr_l (zD_of zk_121 d_121_40 rfl rfl) rfl rfl rfl
theorem q_121_40n : zRun 121 40 [some (.null), l1] S sh mi mj mr = zRun 121 41 [some (.null), l1] (.null :: S) sh mi mj mr := zr_l (zD_of zk_121 d_121_40 rfl rfl) rfl rfl rfl
theorem q_121_41 (h : zIs sh o 0 8) : zRun 121 41 L (.ref o :: S) sh mi mj mr = zRun 121 44 L (va_rf (mr o 5) :: S) sh mi mj mr := zr_getR (zD_of zk_121 d_121_41 rfl rfl) rfl rfl rfl h
theorem q_121_44r : zRun 121 44 [some (.ref o), l1] S sh mi mj mr = zRun 121 45 [some (.ref o), l1] (.ref o :: S) sh mi mj mr := zr_l (zD_of zk_121 d_121_44 rfl rfl) rfl rfl rfl
theorem q_121_44n : zRun 121 44 [some (.null), l1] S sh mi mj mr = zRun 121 45 [some (.null), l1] (.null :: S) sh mi mj mr := zr_l (zD_of zk_121 d_121_44 rfl rfl) rfl rfl rfl
theorem q_121_45 (h : zIs sh o 0 8) : zRun 121 45 L (.ref o :: S) sh mi mj mr = zRun 121 48 L (.int (mi o 6) :: S) sh mi mj mr := zr_getI (zD_of zk_121 d_121_45 rfl rfl) rfl rfl (Or.inl rfl) h
theorem q_121_48  : zRun 121 48 L S sh mi mj mr = zRun 121 49 L (.int 0 :: S) sh mi mj mr := zr_p (zD_of zk_121 d_121_48 rfl rfl) rfl
theorem q_121_49 (h : zAt sh o 1 x) : zRun 121 49 L (.int y :: .int x :: .ref o :: S) sh mi mj mr = zRun 121 50 L S sh (zup mi o x.toNatClampNeg y) mj mr := zr_iast (zD_of zk_121 d_121_49 rfl rfl) h
theorem q_121_50r : zRun 121 50 [some (.ref o), l1] S sh mi mj mr = zRun 121 51 [some (.ref o), l1] (.ref o :: S) sh mi mj mr := zr_l (zD_of zk_121 d_121_50 rfl rfl) rfl rfl rfl
theorem q_121_50n : zRun 121 50 [some (.null), l1] S sh mi mj mr = zRun 121 51 [some (.null), l1] (.null :: S) sh mi mj mr := zr_l (zD_of zk_121 d_121_50 rfl rfl) rfl rfl rfl
theorem q_121_51r : zRun 121 51 L (.ref o :: S) sh mi mj mr = zRun 121 52 L (.ref o :: .ref o :: S) sh mi mj mr := zr_p (zD_of zk_121 d_121_51 rfl rfl) rfl
theorem q_121_51i : zRun 121 51 L (.int x :: S) sh mi mj mr = zRun 121 52 L (.int x :: .int x :: S) sh mi mj mr := zr_p (zD_of zk_121 d_121_51 rfl rfl) rfl
theorem q_121_52 (h : zIs sh o 0 8) : zRun 121 52 L (.ref o :: S) sh mi mj mr = zRun 121 55 L (.int (mi o 6) :: S) sh mi mj mr := zr_getI (zD_of zk_121 d_121_52 rfl rfl) rfl rfl (Or.inl rfl) h
theorem q_121_55  : zRun 121 55 L S sh mi mj mr = zRun 121 56 L (.int 1 :: S) sh mi mj mr := zr_p (zD_of zk_121 d_121_55 rfl rfl) rfl
theorem q_121_56  : zRun 121 56 L (.int y :: .int x :: S) sh mi mj mr = zRun 121 57 L (.int (x + y) :: S) sh mi mj mr := zr_p (zD_of zk_121 d_121_56 rfl rfl) rfl
theorem q_121_57 (h : zIs sh o 0 8) : zRun 121 57 L (.int x :: .ref o :: S) sh mi mj mr = zRun 121 60 L S sh (zup mi o 6 x) mj mr := zr_putI (zD_of zk_121 d_121_57 rfl rfl) rfl rfl rfl (Or.inl rfl) h
theorem q_121_60  : zRun 121 60 L S sh mi mj mr = zRun 121 61 L (.int 0 :: S) sh mi mj mr := zr_p (zD_of zk_121 d_121_60 rfl rfl) rfl
theorem q_121_61  : zRun 121 61 L ([.int x]) sh mi mj mr = some (some (.int x), sh, mi, mj, mr) := zr_ret (zD_of zk_121 d_121_61 rfl rfl) rfl rfl rfl rfl rfl (if_pos rfl)
theorem q_121_62 : zRun 121 62 [l0, some (.int x)] S sh mi mj mr = zRun 121 63 [l0, some (.int x)] (.int x :: S) sh mi mj mr := zr_l (zD_of zk_121 d_121_62 rfl rfl) rfl rfl rfl
theorem q_121_63  : zRun 121 63 L S sh mi mj mr = zRun 121 65 L (.int 65 :: S) sh mi mj mr := zr_p (zD_of zk_121 d_121_63 rfl rfl) rfl
theorem q_121_65  : zRun 121 65 L (.int y :: .int x :: S) sh mi mj mr = if x = y then zRun 121 74 L S sh mi mj mr else zRun 121 68 L S sh mi mj mr := zr_if (off := 9) (P := x = y) (zD_of zk_121 d_121_65 rfl rfl) rfl rfl (by decide)
theorem q_121_68 : zRun 121 68 [l0, some (.int x)] S sh mi mj mr = zRun 121 69 [l0, some (.int x)] (.int x :: S) sh mi mj mr := zr_l (zD_of zk_121 d_121_68 rfl rfl) rfl rfl rfl
theorem q_121_69  : zRun 121 69 L S sh mi mj mr = zRun 121 71 L (.int 82 :: S) sh mi mj mr := zr_p (zD_of zk_121 d_121_69 rfl rfl) rfl
theorem q_121_71  : zRun 121 71 L (.int y :: .int x :: S) sh mi mj mr = if ¬ x = y then zRun 121 78 L S sh mi mj mr else zRun 121 74 L S sh mi mj mr := zr_if (off := 7) (P := ¬ x = y) (zD_of zk_121 d_121_71 rfl rfl) rfl rfl (by decide)
theorem q_121_74  : zRun 121 74 L S sh mi mj mr = zRun 121 75 L (.int 5 :: S) sh mi mj mr := zr_p (zD_of zk_121 d_121_74 rfl rfl) rfl
theorem q_121_75  : zRun 121 75 L S sh mi mj mr = zRun 121 97 L S sh mi mj mr := zr_go (off := 22) (zD_of zk_121 d_121_75 rfl rfl) rfl rfl (by decide)
theorem q_121_78 : zRun 121 78 [l0, some (.int x)] S sh mi mj mr = zRun 121 79 [l0, some (.int x)] (.int x :: S) sh mi mj mr := zr_l (zD_of zk_121 d_121_78 rfl rfl) rfl rfl rfl
theorem q_121_79  : zRun 121 79 L S sh mi mj mr = zRun 121 81 L (.int 76 :: S) sh mi mj mr := zr_p (zD_of zk_121 d_121_79 rfl rfl) rfl
theorem q_121_81  : zRun 121 81 L (.int y :: .int x :: S) sh mi mj mr = if x = y then zRun 121 90 L S sh mi mj mr else zRun 121 84 L S sh mi mj mr := zr_if (off := 9) (P := x = y) (zD_of zk_121 d_121_81 rfl rfl) rfl rfl (by decide)
theorem q_121_84 : zRun 121 84 [l0, some (.int x)] S sh mi mj mr = zRun 121 85 [l0, some (.int x)] (.int x :: S) sh mi mj mr := zr_l (zD_of zk_121 d_121_84 rfl rfl) rfl rfl rfl
theorem q_121_85  : zRun 121 85 L S sh mi mj mr = zRun 121 87 L (.int 71 :: S) sh mi mj mr := zr_p (zD_of zk_121 d_121_85 rfl rfl) rfl
theorem q_121_87  : zRun 121 87 L (.int y :: .int x :: S) sh mi mj mr = if ¬ x = y then zRun 121 95 L S sh mi mj mr else zRun 121 90 L S sh mi mj mr := zr_if (off := 8) (P := ¬ x = y) (zD_of zk_121 d_121_87 rfl rfl) rfl rfl (by decide)
theorem q_121_90  : zRun 121 90 L S sh mi mj mr = zRun 121 92 L (.int 6 :: S) sh mi mj mr := zr_p (zD_of zk_121 d_121_90 rfl rfl) rfl
theorem q_121_92  : zRun 121 92 L S sh mi mj mr = zRun 121 97 L S sh mi mj mr := zr_go (off := 5) (zD_of zk_121 d_121_92 rfl rfl) rfl rfl (by decide)
theorem q_121_95  : zRun 121 95 L S sh mi mj mr = zRun 121 97 L (.int (-6) :: S) sh mi mj mr := zr_p (zD_of zk_121 d_121_95 rfl rfl) rfl
theorem q_121_97  : zRun 121 97 L ([.int x]) sh mi mj mr = some (some (.int x), sh, mi, mj, mr) := zr_ret (zD_of zk_121 d_121_97 rfl rfl) rfl rfl rfl rfl rfl (if_pos rfl)
theorem e_121 {x0 : Int32} : zCall 121 [.ref o, .int x0] sh mi mj mr = zRun 121 0 [some (.ref o), some (.int x0)] [] sh mi mj mr := rfl
theorem d_122_0 : decode cX8_goOn 0 = .ok (.iload_n 1, 1) := by decide +kernel
theorem d_122_1 : decode cX8_goOn 1 = .ok (.bipush 43, 2) := by decide +kernel
theorem d_122_3 : decode cX8_goOn 3 = .ok (.if_icmp .eq 21, 3) := by decide +kernel
theorem d_122_6 : decode cX8_goOn 6 = .ok (.iload_n 1, 1) := by decide +kernel
theorem d_122_7 : decode cX8_goOn 7 = .ok (.bipush 45, 2) := by decide +kernel
theorem d_122_9 : decode cX8_goOn 9 = .ok (.if_icmp .eq 15, 3) := by decide +kernel
theorem d_122_12 : decode cX8_goOn 12 = .ok (.iload_n 1, 1) := by decide +kernel
theorem d_122_13 : decode cX8_goOn 13 = .ok (.bipush 42, 2) := by decide +kernel
theorem d_122_15 : decode cX8_goOn 15 = .ok (.if_icmp .eq 9, 3) := by decide +kernel
theorem d_122_18 : decode cX8_goOn 18 = .ok (.iload_n 1, 1) := by decide +kernel
theorem d_122_19 : decode cX8_goOn 19 = .ok (.bipush 47, 2) := by decide +kernel
theorem d_122_21 : decode cX8_goOn 21 = .ok (.if_icmp .ne 5, 3) := by decide +kernel
theorem d_122_24 : decode cX8_goOn 24 = .ok (.iconst 1, 1) := by decide +kernel
theorem d_122_25 : decode cX8_goOn 25 = .ok (.ireturn, 1) := by decide +kernel
theorem d_122_26 : decode cX8_goOn 26 = .ok (.iload_n 1, 1) := by decide +kernel
theorem d_122_27 : decode cX8_goOn 27 = .ok (.bipush 41, 2) := by decide +kernel
theorem d_122_29 : decode cX8_goOn 29 = .ok (.if_icmp .ne 37, 3) := by decide +kernel
theorem d_122_32 : decode cX8_goOn 32 = .ok (.aload_n 0, 1) := by decide +kernel
theorem d_122_33 : decode cX8_goOn 33 = .ok (.getfield 93, 3) := by decide +kernel
theorem d_122_36 : decode cX8_goOn 36 = .ok (.ifCond .le 30, 3) := by decide +kernel
theorem d_122_39 : decode cX8_goOn 39 = .ok (.aload_n 0, 1) := by decide +kernel
theorem d_122_40 : decode cX8_goOn 40 = .ok (.getfield 23, 3) := by decide +kernel
theorem d_122_43 : decode cX8_goOn 43 = .ok (.aload_n 0, 1) := by decide +kernel
theorem d_122_44 : decode cX8_goOn 44 = .ok (.getfield 93, 3) := by decide +kernel
theorem d_122_47 : decode cX8_goOn 47 = .ok (.iconst 1, 1) := by decide +kernel
theorem d_122_48 : decode cX8_goOn 48 = .ok (.isub, 1) := by decide +kernel
theorem d_122_49 : decode cX8_goOn 49 = .ok (.iaload, 1) := by decide +kernel
theorem d_122_50 : decode cX8_goOn 50 = .ok (.iconst 2, 1) := by decide +kernel
theorem d_122_51 : decode cX8_goOn 51 = .ok (.if_icmp .eq 15, 3) := by decide +kernel
theorem d_122_54 : decode cX8_goOn 54 = .ok (.aload_n 0, 1) := by decide +kernel
theorem d_122_55 : decode cX8_goOn 55 = .ok (.dup, 1) := by decide +kernel
theorem d_122_56 : decode cX8_goOn 56 = .ok (.getfield 93, 3) := by decide +kernel
theorem d_122_59 : decode cX8_goOn 59 = .ok (.iconst 1, 1) := by decide +kernel
theorem d_122_60 : decode cX8_goOn 60 = .ok (.isub, 1) := by decide +kernel
theorem d_122_61 : decode cX8_goOn 61 = .ok (.putfield 93, 3) := by decide +kernel
theorem d_122_64 : decode cX8_goOn 64 = .ok (.iconst 3, 1) := by decide +kernel
theorem d_122_65 : decode cX8_goOn 65 = .ok (.ireturn, 1) := by decide +kernel
theorem d_122_66 : decode cX8_goOn 66 = .ok (.iload_n 1, 1) := by decide +kernel
theorem d_122_67 : decode cX8_goOn 67 = .ok (.bipush 44, 2) := by decide +kernel
theorem d_122_69 : decode cX8_goOn 69 = .ok (.if_icmp .ne 39, 3) := by decide +kernel
theorem d_122_72 : decode cX8_goOn 72 = .ok (.aload_n 0, 1) := by decide +kernel
theorem d_122_73 : decode cX8_goOn 73 = .ok (.getfield 93, 3) := by decide +kernel
theorem d_122_76 : decode cX8_goOn 76 = .ok (.ifCond .le 32, 3) := by decide +kernel
theorem d_122_79 : decode cX8_goOn 79 = .ok (.aload_n 0, 1) := by decide +kernel
theorem d_122_80 : decode cX8_goOn 80 = .ok (.getfield 23, 3) := by decide +kernel
theorem d_122_83 : decode cX8_goOn 83 = .ok (.aload_n 0, 1) := by decide +kernel
theorem d_122_84 : decode cX8_goOn 84 = .ok (.getfield 93, 3) := by decide +kernel
theorem d_122_87 : decode cX8_goOn 87 = .ok (.iconst 1, 1) := by decide +kernel
theorem d_122_88 : decode cX8_goOn 88 = .ok (.isub, 1) := by decide +kernel
theorem d_122_89 : decode cX8_goOn 89 = .ok (.iaload, 1) := by decide +kernel
theorem d_122_90 : decode cX8_goOn 90 = .ok (.iconst 2, 1) := by decide +kernel
theorem d_122_91 : decode cX8_goOn 91 = .ok (.if_icmp .ne 17, 3) := by decide +kernel
theorem d_122_94 : decode cX8_goOn 94 = .ok (.aload_n 0, 1) := by decide +kernel
theorem d_122_95 : decode cX8_goOn 95 = .ok (.getfield 23, 3) := by decide +kernel
theorem d_122_98 : decode cX8_goOn 98 = .ok (.aload_n 0, 1) := by decide +kernel
theorem d_122_99 : decode cX8_goOn 99 = .ok (.getfield 93, 3) := by decide +kernel
theorem d_122_102 : decode cX8_goOn 102 = .ok (.iconst 1, 1) := by decide +kernel
theorem d_122_103 : decode cX8_goOn 103 = .ok (.isub, 1) := by decide +kernel
theorem d_122_104 : decode cX8_goOn 104 = .ok (.iconst 3, 1) := by decide +kernel
theorem d_122_105 : decode cX8_goOn 105 = .ok (.iastore, 1) := by decide +kernel
theorem d_122_106 : decode cX8_goOn 106 = .ok (.iconst 0, 1) := by decide +kernel
theorem d_122_107 : decode cX8_goOn 107 = .ok (.ireturn, 1) := by decide +kernel
theorem d_122_108 : decode cX8_goOn 108 = .ok (.bipush (-6), 2) := by decide +kernel
theorem d_122_110 : decode cX8_goOn 110 = .ok (.ireturn, 1) := by decide +kernel
theorem q_122_0 : zRun 122 0 [l0, some (.int x)] S sh mi mj mr = zRun 122 1 [l0, some (.int x)] (.int x :: S) sh mi mj mr := zr_l (zD_of zk_122 d_122_0 rfl rfl) rfl rfl rfl
theorem q_122_1  : zRun 122 1 L S sh mi mj mr = zRun 122 3 L (.int 43 :: S) sh mi mj mr := zr_p (zD_of zk_122 d_122_1 rfl rfl) rfl
theorem q_122_3  : zRun 122 3 L (.int y :: .int x :: S) sh mi mj mr = if x = y then zRun 122 24 L S sh mi mj mr else zRun 122 6 L S sh mi mj mr := zr_if (off := 21) (P := x = y) (zD_of zk_122 d_122_3 rfl rfl) rfl rfl (by decide)
theorem q_122_6 : zRun 122 6 [l0, some (.int x)] S sh mi mj mr = zRun 122 7 [l0, some (.int x)] (.int x :: S) sh mi mj mr := zr_l (zD_of zk_122 d_122_6 rfl rfl) rfl rfl rfl
theorem q_122_7  : zRun 122 7 L S sh mi mj mr = zRun 122 9 L (.int 45 :: S) sh mi mj mr := zr_p (zD_of zk_122 d_122_7 rfl rfl) rfl
theorem q_122_9  : zRun 122 9 L (.int y :: .int x :: S) sh mi mj mr = if x = y then zRun 122 24 L S sh mi mj mr else zRun 122 12 L S sh mi mj mr := zr_if (off := 15) (P := x = y) (zD_of zk_122 d_122_9 rfl rfl) rfl rfl (by decide)
theorem q_122_12 : zRun 122 12 [l0, some (.int x)] S sh mi mj mr = zRun 122 13 [l0, some (.int x)] (.int x :: S) sh mi mj mr := zr_l (zD_of zk_122 d_122_12 rfl rfl) rfl rfl rfl
theorem q_122_13  : zRun 122 13 L S sh mi mj mr = zRun 122 15 L (.int 42 :: S) sh mi mj mr := zr_p (zD_of zk_122 d_122_13 rfl rfl) rfl
theorem q_122_15  : zRun 122 15 L (.int y :: .int x :: S) sh mi mj mr = if x = y then zRun 122 24 L S sh mi mj mr else zRun 122 18 L S sh mi mj mr := zr_if (off := 9) (P := x = y) (zD_of zk_122 d_122_15 rfl rfl) rfl rfl (by decide)
theorem q_122_18 : zRun 122 18 [l0, some (.int x)] S sh mi mj mr = zRun 122 19 [l0, some (.int x)] (.int x :: S) sh mi mj mr := zr_l (zD_of zk_122 d_122_18 rfl rfl) rfl rfl rfl
theorem q_122_19  : zRun 122 19 L S sh mi mj mr = zRun 122 21 L (.int 47 :: S) sh mi mj mr := zr_p (zD_of zk_122 d_122_19 rfl rfl) rfl
theorem q_122_21  : zRun 122 21 L (.int y :: .int x :: S) sh mi mj mr = if ¬ x = y then zRun 122 26 L S sh mi mj mr else zRun 122 24 L S sh mi mj mr := zr_if (off := 5) (P := ¬ x = y) (zD_of zk_122 d_122_21 rfl rfl) rfl rfl (by decide)
theorem q_122_24  : zRun 122 24 L S sh mi mj mr = zRun 122 25 L (.int 1 :: S) sh mi mj mr := zr_p (zD_of zk_122 d_122_24 rfl rfl) rfl
theorem q_122_25  : zRun 122 25 L ([.int x]) sh mi mj mr = some (some (.int x), sh, mi, mj, mr) := zr_ret (zD_of zk_122 d_122_25 rfl rfl) rfl rfl rfl rfl rfl (if_pos rfl)
theorem q_122_26 : zRun 122 26 [l0, some (.int x)] S sh mi mj mr = zRun 122 27 [l0, some (.int x)] (.int x :: S) sh mi mj mr := zr_l (zD_of zk_122 d_122_26 rfl rfl) rfl rfl rfl
theorem q_122_27  : zRun 122 27 L S sh mi mj mr = zRun 122 29 L (.int 41 :: S) sh mi mj mr := zr_p (zD_of zk_122 d_122_27 rfl rfl) rfl
theorem q_122_29  : zRun 122 29 L (.int y :: .int x :: S) sh mi mj mr = if ¬ x = y then zRun 122 66 L S sh mi mj mr else zRun 122 32 L S sh mi mj mr := zr_if (off := 37) (P := ¬ x = y) (zD_of zk_122 d_122_29 rfl rfl) rfl rfl (by decide)
theorem q_122_32r : zRun 122 32 [some (.ref o), l1] S sh mi mj mr = zRun 122 33 [some (.ref o), l1] (.ref o :: S) sh mi mj mr := zr_l (zD_of zk_122 d_122_32 rfl rfl) rfl rfl rfl
theorem q_122_32n : zRun 122 32 [some (.null), l1] S sh mi mj mr = zRun 122 33 [some (.null), l1] (.null :: S) sh mi mj mr := zr_l (zD_of zk_122 d_122_32 rfl rfl) rfl rfl rfl
theorem q_122_33 (h : zIs sh o 0 8) : zRun 122 33 L (.ref o :: S) sh mi mj mr = zRun 122 36 L (.int (mi o 6) :: S) sh mi mj mr := zr_getI (zD_of zk_122 d_122_33 rfl rfl) rfl rfl (Or.inl rfl) h
theorem q_122_36  : zRun 122 36 L (.int x :: S) sh mi mj mr = if x ≤ 0 then zRun 122 66 L S sh mi mj mr else zRun 122 39 L S sh mi mj mr := zr_if (off := 30) (P := x ≤ 0) (zD_of zk_122 d_122_36 rfl rfl) rfl rfl (by decide)
theorem q_122_39r : zRun 122 39 [some (.ref o), l1] S sh mi mj mr = zRun 122 40 [some (.ref o), l1] (.ref o :: S) sh mi mj mr := zr_l (zD_of zk_122 d_122_39 rfl rfl) rfl rfl rfl
theorem q_122_39n : zRun 122 39 [some (.null), l1] S sh mi mj mr = zRun 122 40 [some (.null), l1] (.null :: S) sh mi mj mr := zr_l (zD_of zk_122 d_122_39 rfl rfl) rfl rfl rfl
theorem q_122_40 (h : zIs sh o 0 8) : zRun 122 40 L (.ref o :: S) sh mi mj mr = zRun 122 43 L (va_rf (mr o 5) :: S) sh mi mj mr := zr_getR (zD_of zk_122 d_122_40 rfl rfl) rfl rfl rfl h
theorem q_122_43r : zRun 122 43 [some (.ref o), l1] S sh mi mj mr = zRun 122 44 [some (.ref o), l1] (.ref o :: S) sh mi mj mr := zr_l (zD_of zk_122 d_122_43 rfl rfl) rfl rfl rfl
theorem q_122_43n : zRun 122 43 [some (.null), l1] S sh mi mj mr = zRun 122 44 [some (.null), l1] (.null :: S) sh mi mj mr := zr_l (zD_of zk_122 d_122_43 rfl rfl) rfl rfl rfl
theorem q_122_44 (h : zIs sh o 0 8) : zRun 122 44 L (.ref o :: S) sh mi mj mr = zRun 122 47 L (.int (mi o 6) :: S) sh mi mj mr := zr_getI (zD_of zk_122 d_122_44 rfl rfl) rfl rfl (Or.inl rfl) h
theorem q_122_47  : zRun 122 47 L S sh mi mj mr = zRun 122 48 L (.int 1 :: S) sh mi mj mr := zr_p (zD_of zk_122 d_122_47 rfl rfl) rfl
theorem q_122_48  : zRun 122 48 L (.int y :: .int x :: S) sh mi mj mr = zRun 122 49 L (.int (x - y) :: S) sh mi mj mr := zr_p (zD_of zk_122 d_122_48 rfl rfl) rfl
theorem q_122_49 (h : zAt sh o 1 x) : zRun 122 49 L (.int x :: .ref o :: S) sh mi mj mr = zRun 122 50 L (.int (mi o x.toNatClampNeg) :: S) sh mi mj mr := zr_iald (zD_of zk_122 d_122_49 rfl rfl) h
theorem q_122_50  : zRun 122 50 L S sh mi mj mr = zRun 122 51 L (.int 2 :: S) sh mi mj mr := zr_p (zD_of zk_122 d_122_50 rfl rfl) rfl
theorem q_122_51  : zRun 122 51 L (.int y :: .int x :: S) sh mi mj mr = if x = y then zRun 122 66 L S sh mi mj mr else zRun 122 54 L S sh mi mj mr := zr_if (off := 15) (P := x = y) (zD_of zk_122 d_122_51 rfl rfl) rfl rfl (by decide)
theorem q_122_54r : zRun 122 54 [some (.ref o), l1] S sh mi mj mr = zRun 122 55 [some (.ref o), l1] (.ref o :: S) sh mi mj mr := zr_l (zD_of zk_122 d_122_54 rfl rfl) rfl rfl rfl
theorem q_122_54n : zRun 122 54 [some (.null), l1] S sh mi mj mr = zRun 122 55 [some (.null), l1] (.null :: S) sh mi mj mr := zr_l (zD_of zk_122 d_122_54 rfl rfl) rfl rfl rfl
theorem q_122_55r : zRun 122 55 L (.ref o :: S) sh mi mj mr = zRun 122 56 L (.ref o :: .ref o :: S) sh mi mj mr := zr_p (zD_of zk_122 d_122_55 rfl rfl) rfl
theorem q_122_55i : zRun 122 55 L (.int x :: S) sh mi mj mr = zRun 122 56 L (.int x :: .int x :: S) sh mi mj mr := zr_p (zD_of zk_122 d_122_55 rfl rfl) rfl
theorem q_122_56 (h : zIs sh o 0 8) : zRun 122 56 L (.ref o :: S) sh mi mj mr = zRun 122 59 L (.int (mi o 6) :: S) sh mi mj mr := zr_getI (zD_of zk_122 d_122_56 rfl rfl) rfl rfl (Or.inl rfl) h
theorem q_122_59  : zRun 122 59 L S sh mi mj mr = zRun 122 60 L (.int 1 :: S) sh mi mj mr := zr_p (zD_of zk_122 d_122_59 rfl rfl) rfl
theorem q_122_60  : zRun 122 60 L (.int y :: .int x :: S) sh mi mj mr = zRun 122 61 L (.int (x - y) :: S) sh mi mj mr := zr_p (zD_of zk_122 d_122_60 rfl rfl) rfl
theorem q_122_61 (h : zIs sh o 0 8) : zRun 122 61 L (.int x :: .ref o :: S) sh mi mj mr = zRun 122 64 L S sh (zup mi o 6 x) mj mr := zr_putI (zD_of zk_122 d_122_61 rfl rfl) rfl rfl rfl (Or.inl rfl) h
theorem q_122_64  : zRun 122 64 L S sh mi mj mr = zRun 122 65 L (.int 3 :: S) sh mi mj mr := zr_p (zD_of zk_122 d_122_64 rfl rfl) rfl
theorem q_122_65  : zRun 122 65 L ([.int x]) sh mi mj mr = some (some (.int x), sh, mi, mj, mr) := zr_ret (zD_of zk_122 d_122_65 rfl rfl) rfl rfl rfl rfl rfl (if_pos rfl)
theorem q_122_66 : zRun 122 66 [l0, some (.int x)] S sh mi mj mr = zRun 122 67 [l0, some (.int x)] (.int x :: S) sh mi mj mr := zr_l (zD_of zk_122 d_122_66 rfl rfl) rfl rfl rfl
theorem q_122_67  : zRun 122 67 L S sh mi mj mr = zRun 122 69 L (.int 44 :: S) sh mi mj mr := zr_p (zD_of zk_122 d_122_67 rfl rfl) rfl
theorem q_122_69  : zRun 122 69 L (.int y :: .int x :: S) sh mi mj mr = if ¬ x = y then zRun 122 108 L S sh mi mj mr else zRun 122 72 L S sh mi mj mr := zr_if (off := 39) (P := ¬ x = y) (zD_of zk_122 d_122_69 rfl rfl) rfl rfl (by decide)
theorem q_122_72r : zRun 122 72 [some (.ref o), l1] S sh mi mj mr = zRun 122 73 [some (.ref o), l1] (.ref o :: S) sh mi mj mr := zr_l (zD_of zk_122 d_122_72 rfl rfl) rfl rfl rfl
theorem q_122_72n : zRun 122 72 [some (.null), l1] S sh mi mj mr = zRun 122 73 [some (.null), l1] (.null :: S) sh mi mj mr := zr_l (zD_of zk_122 d_122_72 rfl rfl) rfl rfl rfl
theorem q_122_73 (h : zIs sh o 0 8) : zRun 122 73 L (.ref o :: S) sh mi mj mr = zRun 122 76 L (.int (mi o 6) :: S) sh mi mj mr := zr_getI (zD_of zk_122 d_122_73 rfl rfl) rfl rfl (Or.inl rfl) h
theorem q_122_76  : zRun 122 76 L (.int x :: S) sh mi mj mr = if x ≤ 0 then zRun 122 108 L S sh mi mj mr else zRun 122 79 L S sh mi mj mr := zr_if (off := 32) (P := x ≤ 0) (zD_of zk_122 d_122_76 rfl rfl) rfl rfl (by decide)
theorem q_122_79r : zRun 122 79 [some (.ref o), l1] S sh mi mj mr = zRun 122 80 [some (.ref o), l1] (.ref o :: S) sh mi mj mr := zr_l (zD_of zk_122 d_122_79 rfl rfl) rfl rfl rfl
theorem q_122_79n : zRun 122 79 [some (.null), l1] S sh mi mj mr = zRun 122 80 [some (.null), l1] (.null :: S) sh mi mj mr := zr_l (zD_of zk_122 d_122_79 rfl rfl) rfl rfl rfl
theorem q_122_80 (h : zIs sh o 0 8) : zRun 122 80 L (.ref o :: S) sh mi mj mr = zRun 122 83 L (va_rf (mr o 5) :: S) sh mi mj mr := zr_getR (zD_of zk_122 d_122_80 rfl rfl) rfl rfl rfl h
theorem q_122_83r : zRun 122 83 [some (.ref o), l1] S sh mi mj mr = zRun 122 84 [some (.ref o), l1] (.ref o :: S) sh mi mj mr := zr_l (zD_of zk_122 d_122_83 rfl rfl) rfl rfl rfl
theorem q_122_83n : zRun 122 83 [some (.null), l1] S sh mi mj mr = zRun 122 84 [some (.null), l1] (.null :: S) sh mi mj mr := zr_l (zD_of zk_122 d_122_83 rfl rfl) rfl rfl rfl
theorem q_122_84 (h : zIs sh o 0 8) : zRun 122 84 L (.ref o :: S) sh mi mj mr = zRun 122 87 L (.int (mi o 6) :: S) sh mi mj mr := zr_getI (zD_of zk_122 d_122_84 rfl rfl) rfl rfl (Or.inl rfl) h
theorem q_122_87  : zRun 122 87 L S sh mi mj mr = zRun 122 88 L (.int 1 :: S) sh mi mj mr := zr_p (zD_of zk_122 d_122_87 rfl rfl) rfl
theorem q_122_88  : zRun 122 88 L (.int y :: .int x :: S) sh mi mj mr = zRun 122 89 L (.int (x - y) :: S) sh mi mj mr := zr_p (zD_of zk_122 d_122_88 rfl rfl) rfl
theorem q_122_89 (h : zAt sh o 1 x) : zRun 122 89 L (.int x :: .ref o :: S) sh mi mj mr = zRun 122 90 L (.int (mi o x.toNatClampNeg) :: S) sh mi mj mr := zr_iald (zD_of zk_122 d_122_89 rfl rfl) h
theorem q_122_90  : zRun 122 90 L S sh mi mj mr = zRun 122 91 L (.int 2 :: S) sh mi mj mr := zr_p (zD_of zk_122 d_122_90 rfl rfl) rfl
theorem q_122_91  : zRun 122 91 L (.int y :: .int x :: S) sh mi mj mr = if ¬ x = y then zRun 122 108 L S sh mi mj mr else zRun 122 94 L S sh mi mj mr := zr_if (off := 17) (P := ¬ x = y) (zD_of zk_122 d_122_91 rfl rfl) rfl rfl (by decide)
theorem q_122_94r : zRun 122 94 [some (.ref o), l1] S sh mi mj mr = zRun 122 95 [some (.ref o), l1] (.ref o :: S) sh mi mj mr := zr_l (zD_of zk_122 d_122_94 rfl rfl) rfl rfl rfl
theorem q_122_94n : zRun 122 94 [some (.null), l1] S sh mi mj mr = zRun 122 95 [some (.null), l1] (.null :: S) sh mi mj mr := zr_l (zD_of zk_122 d_122_94 rfl rfl) rfl rfl rfl
theorem q_122_95 (h : zIs sh o 0 8) : zRun 122 95 L (.ref o :: S) sh mi mj mr = zRun 122 98 L (va_rf (mr o 5) :: S) sh mi mj mr := zr_getR (zD_of zk_122 d_122_95 rfl rfl) rfl rfl rfl h
theorem q_122_98r : zRun 122 98 [some (.ref o), l1] S sh mi mj mr = zRun 122 99 [some (.ref o), l1] (.ref o :: S) sh mi mj mr := zr_l (zD_of zk_122 d_122_98 rfl rfl) rfl rfl rfl
theorem q_122_98n : zRun 122 98 [some (.null), l1] S sh mi mj mr = zRun 122 99 [some (.null), l1] (.null :: S) sh mi mj mr := zr_l (zD_of zk_122 d_122_98 rfl rfl) rfl rfl rfl
theorem q_122_99 (h : zIs sh o 0 8) : zRun 122 99 L (.ref o :: S) sh mi mj mr = zRun 122 102 L (.int (mi o 6) :: S) sh mi mj mr := zr_getI (zD_of zk_122 d_122_99 rfl rfl) rfl rfl (Or.inl rfl) h
theorem q_122_102  : zRun 122 102 L S sh mi mj mr = zRun 122 103 L (.int 1 :: S) sh mi mj mr := zr_p (zD_of zk_122 d_122_102 rfl rfl) rfl
theorem q_122_103  : zRun 122 103 L (.int y :: .int x :: S) sh mi mj mr = zRun 122 104 L (.int (x - y) :: S) sh mi mj mr := zr_p (zD_of zk_122 d_122_103 rfl rfl) rfl
theorem q_122_104  : zRun 122 104 L S sh mi mj mr = zRun 122 105 L (.int 3 :: S) sh mi mj mr := zr_p (zD_of zk_122 d_122_104 rfl rfl) rfl
theorem q_122_105 (h : zAt sh o 1 x) : zRun 122 105 L (.int y :: .int x :: .ref o :: S) sh mi mj mr = zRun 122 106 L S sh (zup mi o x.toNatClampNeg y) mj mr := zr_iast (zD_of zk_122 d_122_105 rfl rfl) h
theorem q_122_106  : zRun 122 106 L S sh mi mj mr = zRun 122 107 L (.int 0 :: S) sh mi mj mr := zr_p (zD_of zk_122 d_122_106 rfl rfl) rfl
theorem q_122_107  : zRun 122 107 L ([.int x]) sh mi mj mr = some (some (.int x), sh, mi, mj, mr) := zr_ret (zD_of zk_122 d_122_107 rfl rfl) rfl rfl rfl rfl rfl (if_pos rfl)
theorem q_122_108  : zRun 122 108 L S sh mi mj mr = zRun 122 110 L (.int (-6) :: S) sh mi mj mr := zr_p (zD_of zk_122 d_122_108 rfl rfl) rfl
theorem q_122_110  : zRun 122 110 L ([.int x]) sh mi mj mr = some (some (.int x), sh, mi, mj, mr) := zr_ret (zD_of zk_122 d_122_110 rfl rfl) rfl rfl rfl rfl rfl (if_pos rfl)
theorem e_122 {x0 : Int32} : zCall 122 [.ref o, .int x0] sh mi mj mr = zRun 122 0 [some (.ref o), some (.int x0)] [] sh mi mj mr := rfl
theorem d_123_0 : decode cX8_openBracket 0 = .ok (.iload_n 1, 1) := by decide +kernel
theorem d_123_1 : decode cX8_openBracket 1 = .ok (.bipush 40, 2) := by decide +kernel
theorem d_123_3 : decode cX8_openBracket 3 = .ok (.if_icmp .eq 6, 3) := by decide +kernel
theorem d_123_6 : decode cX8_openBracket 6 = .ok (.bipush (-6), 2) := by decide +kernel
theorem d_123_8 : decode cX8_openBracket 8 = .ok (.ireturn, 1) := by decide +kernel
theorem d_123_9 : decode cX8_openBracket 9 = .ok (.aload_n 0, 1) := by decide +kernel
theorem d_123_10 : decode cX8_openBracket 10 = .ok (.getfield 23, 3) := by decide +kernel
theorem d_123_13 : decode cX8_openBracket 13 = .ok (.aload_n 0, 1) := by decide +kernel
theorem d_123_14 : decode cX8_openBracket 14 = .ok (.getfield 93, 3) := by decide +kernel
theorem d_123_17 : decode cX8_openBracket 17 = .ok (.iload_n 2, 1) := by decide +kernel
theorem d_123_18 : decode cX8_openBracket 18 = .ok (.iastore, 1) := by decide +kernel
theorem d_123_19 : decode cX8_openBracket 19 = .ok (.aload_n 0, 1) := by decide +kernel
theorem d_123_20 : decode cX8_openBracket 20 = .ok (.dup, 1) := by decide +kernel
theorem d_123_21 : decode cX8_openBracket 21 = .ok (.getfield 93, 3) := by decide +kernel
theorem d_123_24 : decode cX8_openBracket 24 = .ok (.iconst 1, 1) := by decide +kernel
theorem d_123_25 : decode cX8_openBracket 25 = .ok (.iadd, 1) := by decide +kernel
theorem d_123_26 : decode cX8_openBracket 26 = .ok (.putfield 93, 3) := by decide +kernel
theorem d_123_29 : decode cX8_openBracket 29 = .ok (.iconst 0, 1) := by decide +kernel
theorem d_123_30 : decode cX8_openBracket 30 = .ok (.ireturn, 1) := by decide +kernel
theorem q_123_0 : zRun 123 0 [l0, some (.int x), l2] S sh mi mj mr = zRun 123 1 [l0, some (.int x), l2] (.int x :: S) sh mi mj mr := zr_l (zD_of zk_123 d_123_0 rfl rfl) rfl rfl rfl
theorem q_123_1  : zRun 123 1 L S sh mi mj mr = zRun 123 3 L (.int 40 :: S) sh mi mj mr := zr_p (zD_of zk_123 d_123_1 rfl rfl) rfl
theorem q_123_3  : zRun 123 3 L (.int y :: .int x :: S) sh mi mj mr = if x = y then zRun 123 9 L S sh mi mj mr else zRun 123 6 L S sh mi mj mr := zr_if (off := 6) (P := x = y) (zD_of zk_123 d_123_3 rfl rfl) rfl rfl (by decide)
theorem q_123_6  : zRun 123 6 L S sh mi mj mr = zRun 123 8 L (.int (-6) :: S) sh mi mj mr := zr_p (zD_of zk_123 d_123_6 rfl rfl) rfl
theorem q_123_8  : zRun 123 8 L ([.int x]) sh mi mj mr = some (some (.int x), sh, mi, mj, mr) := zr_ret (zD_of zk_123 d_123_8 rfl rfl) rfl rfl rfl rfl rfl (if_pos rfl)
theorem q_123_9r : zRun 123 9 [some (.ref o), l1, l2] S sh mi mj mr = zRun 123 10 [some (.ref o), l1, l2] (.ref o :: S) sh mi mj mr := zr_l (zD_of zk_123 d_123_9 rfl rfl) rfl rfl rfl
theorem q_123_9n : zRun 123 9 [some (.null), l1, l2] S sh mi mj mr = zRun 123 10 [some (.null), l1, l2] (.null :: S) sh mi mj mr := zr_l (zD_of zk_123 d_123_9 rfl rfl) rfl rfl rfl
theorem q_123_10 (h : zIs sh o 0 8) : zRun 123 10 L (.ref o :: S) sh mi mj mr = zRun 123 13 L (va_rf (mr o 5) :: S) sh mi mj mr := zr_getR (zD_of zk_123 d_123_10 rfl rfl) rfl rfl rfl h
theorem q_123_13r : zRun 123 13 [some (.ref o), l1, l2] S sh mi mj mr = zRun 123 14 [some (.ref o), l1, l2] (.ref o :: S) sh mi mj mr := zr_l (zD_of zk_123 d_123_13 rfl rfl) rfl rfl rfl
theorem q_123_13n : zRun 123 13 [some (.null), l1, l2] S sh mi mj mr = zRun 123 14 [some (.null), l1, l2] (.null :: S) sh mi mj mr := zr_l (zD_of zk_123 d_123_13 rfl rfl) rfl rfl rfl
theorem q_123_14 (h : zIs sh o 0 8) : zRun 123 14 L (.ref o :: S) sh mi mj mr = zRun 123 17 L (.int (mi o 6) :: S) sh mi mj mr := zr_getI (zD_of zk_123 d_123_14 rfl rfl) rfl rfl (Or.inl rfl) h
theorem q_123_17 : zRun 123 17 [l0, l1, some (.int x)] S sh mi mj mr = zRun 123 18 [l0, l1, some (.int x)] (.int x :: S) sh mi mj mr := zr_l (zD_of zk_123 d_123_17 rfl rfl) rfl rfl rfl
theorem q_123_18 (h : zAt sh o 1 x) : zRun 123 18 L (.int y :: .int x :: .ref o :: S) sh mi mj mr = zRun 123 19 L S sh (zup mi o x.toNatClampNeg y) mj mr := zr_iast (zD_of zk_123 d_123_18 rfl rfl) h
theorem q_123_19r : zRun 123 19 [some (.ref o), l1, l2] S sh mi mj mr = zRun 123 20 [some (.ref o), l1, l2] (.ref o :: S) sh mi mj mr := zr_l (zD_of zk_123 d_123_19 rfl rfl) rfl rfl rfl
theorem q_123_19n : zRun 123 19 [some (.null), l1, l2] S sh mi mj mr = zRun 123 20 [some (.null), l1, l2] (.null :: S) sh mi mj mr := zr_l (zD_of zk_123 d_123_19 rfl rfl) rfl rfl rfl
theorem q_123_20r : zRun 123 20 L (.ref o :: S) sh mi mj mr = zRun 123 21 L (.ref o :: .ref o :: S) sh mi mj mr := zr_p (zD_of zk_123 d_123_20 rfl rfl) rfl
theorem q_123_20i : zRun 123 20 L (.int x :: S) sh mi mj mr = zRun 123 21 L (.int x :: .int x :: S) sh mi mj mr := zr_p (zD_of zk_123 d_123_20 rfl rfl) rfl
theorem q_123_21 (h : zIs sh o 0 8) : zRun 123 21 L (.ref o :: S) sh mi mj mr = zRun 123 24 L (.int (mi o 6) :: S) sh mi mj mr := zr_getI (zD_of zk_123 d_123_21 rfl rfl) rfl rfl (Or.inl rfl) h
theorem q_123_24  : zRun 123 24 L S sh mi mj mr = zRun 123 25 L (.int 1 :: S) sh mi mj mr := zr_p (zD_of zk_123 d_123_24 rfl rfl) rfl
theorem q_123_25  : zRun 123 25 L (.int y :: .int x :: S) sh mi mj mr = zRun 123 26 L (.int (x + y) :: S) sh mi mj mr := zr_p (zD_of zk_123 d_123_25 rfl rfl) rfl
theorem q_123_26 (h : zIs sh o 0 8) : zRun 123 26 L (.int x :: .ref o :: S) sh mi mj mr = zRun 123 29 L S sh (zup mi o 6 x) mj mr := zr_putI (zD_of zk_123 d_123_26 rfl rfl) rfl rfl rfl (Or.inl rfl) h
theorem q_123_29  : zRun 123 29 L S sh mi mj mr = zRun 123 30 L (.int 0 :: S) sh mi mj mr := zr_p (zD_of zk_123 d_123_29 rfl rfl) rfl
theorem q_123_30  : zRun 123 30 L ([.int x]) sh mi mj mr = some (some (.int x), sh, mi, mj, mr) := zr_ret (zD_of zk_123 d_123_30 rfl rfl) rfl rfl rfl rfl rfl (if_pos rfl)
theorem e_123 {x0 x1 : Int32} : zCall 123 [.ref o, .int x0, .int x1] sh mi mj mr = zRun 123 0 [some (.ref o), some (.int x0), some (.int x1)] [] sh mi mj mr := rfl
theorem d_124_0 : decode cX8_next 0 = .ok (.iload_n 1, 1) := by decide +kernel
theorem d_124_1 : decode cX8_next 1 = .ok (.tableswitch 258 0 13 #[71, 87, 258, 93, 109, 128, 135, 142, 188, 148, 148, 188, 215, 230], 71) := by decide +kernel
theorem d_124_72 : decode cX8_next 72 = .ok (.iload_n 2, 1) := by decide +kernel
theorem d_124_73 : decode cX8_next 73 = .ok (.bipush 45, 2) := by decide +kernel
theorem d_124_75 : decode cX8_next 75 = .ok (.if_icmp .ne 7, 3) := by decide +kernel
theorem d_124_78 : decode cX8_next 78 = .ok (.iconst 1, 1) := by decide +kernel
theorem d_124_79 : decode cX8_next 79 = .ok (.goto 8, 3) := by decide +kernel
theorem d_124_82 : decode cX8_next 82 = .ok (.aload_n 0, 1) := by decide +kernel
theorem d_124_83 : decode cX8_next 83 = .ok (.iload_n 2, 1) := by decide +kernel
theorem d_124_84 : decode cX8_next 84 = .ok (.invokevirtual 96, 3) := by decide +kernel
theorem d_124_87 : decode cX8_next 87 = .ok (.ireturn, 1) := by decide +kernel
theorem d_124_88 : decode cX8_next 88 = .ok (.aload_n 0, 1) := by decide +kernel
theorem d_124_89 : decode cX8_next 89 = .ok (.iload_n 2, 1) := by decide +kernel
theorem d_124_90 : decode cX8_next 90 = .ok (.invokevirtual 96, 3) := by decide +kernel
theorem d_124_93 : decode cX8_next 93 = .ok (.ireturn, 1) := by decide +kernel
theorem d_124_94 : decode cX8_next 94 = .ok (.iload_n 2, 1) := by decide +kernel
theorem d_124_95 : decode cX8_next 95 = .ok (.bipush 94, 2) := by decide +kernel
theorem d_124_97 : decode cX8_next 97 = .ok (.if_icmp .ne 7, 3) := by decide +kernel
theorem d_124_100 : decode cX8_next 100 = .ok (.iconst 4, 1) := by decide +kernel
theorem d_124_101 : decode cX8_next 101 = .ok (.goto 8, 3) := by decide +kernel
theorem d_124_104 : decode cX8_next 104 = .ok (.aload_n 0, 1) := by decide +kernel
theorem d_124_105 : decode cX8_next 105 = .ok (.iload_n 2, 1) := by decide +kernel
theorem d_124_106 : decode cX8_next 106 = .ok (.invokevirtual 100, 3) := by decide +kernel
theorem d_124_109 : decode cX8_next 109 = .ok (.ireturn, 1) := by decide +kernel
theorem d_124_110 : decode cX8_next 110 = .ok (.iload_n 2, 1) := by decide +kernel
theorem d_124_111 : decode cX8_next 111 = .ok (.bipush 50, 2) := by decide +kernel
theorem d_124_113 : decode cX8_next 113 = .ok (.bipush 52, 2) := by decide +kernel
theorem d_124_115 : decode cX8_next 115 = .ok (.invokestatic 72, 3) := by decide +kernel
theorem d_124_118 : decode cX8_next 118 = .ok (.ifCond .eq 8, 3) := by decide +kernel
theorem d_124_121 : decode cX8_next 121 = .ok (.bipush 7, 2) := by decide +kernel
theorem d_124_123 : decode cX8_next 123 = .ok (.goto 5, 3) := by decide +kernel
theorem d_124_126 : decode cX8_next 126 = .ok (.bipush (-6), 2) := by decide +kernel
theorem d_124_128 : decode cX8_next 128 = .ok (.ireturn, 1) := by decide +kernel
theorem d_124_129 : decode cX8_next 129 = .ok (.aload_n 0, 1) := by decide +kernel
theorem d_124_130 : decode cX8_next 130 = .ok (.iload_n 2, 1) := by decide +kernel
theorem d_124_131 : decode cX8_next 131 = .ok (.iconst 0, 1) := by decide +kernel
theorem d_124_132 : decode cX8_next 132 = .ok (.invokevirtual 103, 3) := by decide +kernel
theorem d_124_135 : decode cX8_next 135 = .ok (.ireturn, 1) := by decide +kernel
theorem d_124_136 : decode cX8_next 136 = .ok (.aload_n 0, 1) := by decide +kernel
theorem d_124_137 : decode cX8_next 137 = .ok (.iload_n 2, 1) := by decide +kernel
theorem d_124_138 : decode cX8_next 138 = .ok (.iconst 2, 1) := by decide +kernel
theorem d_124_139 : decode cX8_next 139 = .ok (.invokevirtual 103, 3) := by decide +kernel
theorem d_124_142 : decode cX8_next 142 = .ok (.ireturn, 1) := by decide +kernel
theorem d_124_143 : decode cX8_next 143 = .ok (.aload_n 0, 1) := by decide +kernel
theorem d_124_144 : decode cX8_next 144 = .ok (.iload_n 2, 1) := by decide +kernel
theorem d_124_145 : decode cX8_next 145 = .ok (.invokevirtual 100, 3) := by decide +kernel
theorem d_124_148 : decode cX8_next 148 = .ok (.ireturn, 1) := by decide +kernel
theorem d_124_149 : decode cX8_next 149 = .ok (.iload_n 2, 1) := by decide +kernel
theorem d_124_150 : decode cX8_next 150 = .ok (.invokestatic 90, 3) := by decide +kernel
theorem d_124_153 : decode cX8_next 153 = .ok (.ifCond .eq 9, 3) := by decide +kernel
theorem d_124_156 : decode cX8_next 156 = .ok (.iload_n 1, 1) := by decide +kernel
theorem d_124_157 : decode cX8_next 157 = .ok (.iconst 1, 1) := by decide +kernel
theorem d_124_158 : decode cX8_next 158 = .ok (.iadd, 1) := by decide +kernel
theorem d_124_159 : decode cX8_next 159 = .ok (.goto 29, 3) := by decide +kernel
theorem d_124_162 : decode cX8_next 162 = .ok (.iload_n 2, 1) := by decide +kernel
theorem d_124_163 : decode cX8_next 163 = .ok (.bipush 46, 2) := by decide +kernel
theorem d_124_165 : decode cX8_next 165 = .ok (.if_icmp .ne 8, 3) := by decide +kernel
theorem d_124_168 : decode cX8_next 168 = .ok (.bipush 12, 2) := by decide +kernel
theorem d_124_170 : decode cX8_next 170 = .ok (.goto 18, 3) := by decide +kernel
theorem d_124_173 : decode cX8_next 173 = .ok (.iload_n 2, 1) := by decide +kernel
theorem d_124_174 : decode cX8_next 174 = .ok (.bipush 94, 2) := by decide +kernel
theorem d_124_176 : decode cX8_next 176 = .ok (.if_icmp .ne 7, 3) := by decide +kernel
theorem d_124_179 : decode cX8_next 179 = .ok (.iconst 4, 1) := by decide +kernel
theorem d_124_180 : decode cX8_next 180 = .ok (.goto 8, 3) := by decide +kernel
theorem d_124_183 : decode cX8_next 183 = .ok (.aload_n 0, 1) := by decide +kernel
theorem d_124_184 : decode cX8_next 184 = .ok (.iload_n 2, 1) := by decide +kernel
theorem d_124_185 : decode cX8_next 185 = .ok (.invokevirtual 100, 3) := by decide +kernel
theorem d_124_188 : decode cX8_next 188 = .ok (.ireturn, 1) := by decide +kernel
theorem d_124_189 : decode cX8_next 189 = .ok (.iload_n 2, 1) := by decide +kernel
theorem d_124_190 : decode cX8_next 190 = .ok (.bipush 46, 2) := by decide +kernel
theorem d_124_192 : decode cX8_next 192 = .ok (.if_icmp .ne 8, 3) := by decide +kernel
theorem d_124_195 : decode cX8_next 195 = .ok (.bipush 12, 2) := by decide +kernel
theorem d_124_197 : decode cX8_next 197 = .ok (.goto 18, 3) := by decide +kernel
theorem d_124_200 : decode cX8_next 200 = .ok (.iload_n 2, 1) := by decide +kernel
theorem d_124_201 : decode cX8_next 201 = .ok (.bipush 94, 2) := by decide +kernel
theorem d_124_203 : decode cX8_next 203 = .ok (.if_icmp .ne 7, 3) := by decide +kernel
theorem d_124_206 : decode cX8_next 206 = .ok (.iconst 4, 1) := by decide +kernel
theorem d_124_207 : decode cX8_next 207 = .ok (.goto 8, 3) := by decide +kernel
theorem d_124_210 : decode cX8_next 210 = .ok (.aload_n 0, 1) := by decide +kernel
theorem d_124_211 : decode cX8_next 211 = .ok (.iload_n 2, 1) := by decide +kernel
theorem d_124_212 : decode cX8_next 212 = .ok (.invokevirtual 100, 3) := by decide +kernel
theorem d_124_215 : decode cX8_next 215 = .ok (.ireturn, 1) := by decide +kernel
theorem d_124_216 : decode cX8_next 216 = .ok (.iload_n 2, 1) := by decide +kernel
theorem d_124_217 : decode cX8_next 217 = .ok (.invokestatic 90, 3) := by decide +kernel
theorem d_124_220 : decode cX8_next 220 = .ok (.ifCond .eq 8, 3) := by decide +kernel
theorem d_124_223 : decode cX8_next 223 = .ok (.bipush 13, 2) := by decide +kernel
theorem d_124_225 : decode cX8_next 225 = .ok (.goto 5, 3) := by decide +kernel
theorem d_124_228 : decode cX8_next 228 = .ok (.bipush (-6), 2) := by decide +kernel
theorem d_124_230 : decode cX8_next 230 = .ok (.ireturn, 1) := by decide +kernel
theorem d_124_231 : decode cX8_next 231 = .ok (.iload_n 2, 1) := by decide +kernel
theorem d_124_232 : decode cX8_next 232 = .ok (.invokestatic 90, 3) := by decide +kernel
theorem d_124_235 : decode cX8_next 235 = .ok (.ifCond .eq 8, 3) := by decide +kernel
theorem d_124_238 : decode cX8_next 238 = .ok (.bipush 14, 2) := by decide +kernel
theorem d_124_240 : decode cX8_next 240 = .ok (.goto 18, 3) := by decide +kernel
theorem d_124_243 : decode cX8_next 243 = .ok (.iload_n 2, 1) := by decide +kernel
theorem d_124_244 : decode cX8_next 244 = .ok (.bipush 94, 2) := by decide +kernel
theorem d_124_246 : decode cX8_next 246 = .ok (.if_icmp .ne 7, 3) := by decide +kernel
theorem d_124_249 : decode cX8_next 249 = .ok (.iconst 4, 1) := by decide +kernel
theorem d_124_250 : decode cX8_next 250 = .ok (.goto 8, 3) := by decide +kernel
theorem d_124_253 : decode cX8_next 253 = .ok (.aload_n 0, 1) := by decide +kernel
theorem d_124_254 : decode cX8_next 254 = .ok (.iload_n 2, 1) := by decide +kernel
theorem d_124_255 : decode cX8_next 255 = .ok (.invokevirtual 100, 3) := by decide +kernel
theorem d_124_258 : decode cX8_next 258 = .ok (.ireturn, 1) := by decide +kernel
theorem d_124_259 : decode cX8_next 259 = .ok (.iload_n 2, 1) := by decide +kernel
theorem d_124_260 : decode cX8_next 260 = .ok (.bipush 94, 2) := by decide +kernel
theorem d_124_262 : decode cX8_next 262 = .ok (.if_icmp .ne 7, 3) := by decide +kernel
theorem d_124_265 : decode cX8_next 265 = .ok (.iconst 4, 1) := by decide +kernel
theorem d_124_266 : decode cX8_next 266 = .ok (.goto 8, 3) := by decide +kernel
theorem d_124_269 : decode cX8_next 269 = .ok (.aload_n 0, 1) := by decide +kernel
theorem d_124_270 : decode cX8_next 270 = .ok (.iload_n 2, 1) := by decide +kernel
theorem d_124_271 : decode cX8_next 271 = .ok (.invokevirtual 100, 3) := by decide +kernel
theorem d_124_274 : decode cX8_next 274 = .ok (.ireturn, 1) := by decide +kernel
theorem q_124_0 : zRun 124 0 [l0, some (.int x), l2] S sh mi mj mr = zRun 124 1 [l0, some (.int x), l2] (.int x :: S) sh mi mj mr := zr_l (zD_of zk_124 d_124_0 rfl rfl) rfl rfl rfl
theorem q_124_1 : zRun 124 1 L (.int x :: S) sh mi mj mr = if x = 0 then zRun 124 72 L S sh mi mj mr else if x = 1 then zRun 124 88 L S sh mi mj mr else if x = 2 then zRun 124 259 L S sh mi mj mr else if x = 3 then zRun 124 94 L S sh mi mj mr else if x = 4 then zRun 124 110 L S sh mi mj mr else if x = 5 then zRun 124 129 L S sh mi mj mr else if x = 6 then zRun 124 136 L S sh mi mj mr else if x = 7 then zRun 124 143 L S sh mi mj mr else if x = 8 then zRun 124 189 L S sh mi mj mr else if x = 9 then zRun 124 149 L S sh mi mj mr else if x = 10 then zRun 124 149 L S sh mi mj mr else if x = 11 then zRun 124 189 L S sh mi mj mr else if x = 12 then zRun 124 216 L S sh mi mj mr else if x = 13 then zRun 124 231 L S sh mi mj mr else zRun 124 259 L S sh mi mj mr := by
  by_cases h : x = 0
  · subst h; exact zr_go (off := 71) (zD_of zk_124 d_124_1 rfl rfl) rfl rfl (by decide)
  rw [if_neg h]
  have a0 := zsw_ne (v := 0) h (by decide) (by decide)
  by_cases h : x = 1
  · subst h; exact zr_go (off := 87) (zD_of zk_124 d_124_1 rfl rfl) rfl rfl (by decide)
  rw [if_neg h]
  have a1 := zsw_ne (v := 1) h (by decide) (by decide)
  by_cases h : x = 2
  · subst h; exact zr_go (off := 258) (zD_of zk_124 d_124_1 rfl rfl) rfl rfl (by decide)
  rw [if_neg h]
  have a2 := zsw_ne (v := 2) h (by decide) (by decide)
  by_cases h : x = 3
  · subst h; exact zr_go (off := 93) (zD_of zk_124 d_124_1 rfl rfl) rfl rfl (by decide)
  rw [if_neg h]
  have a3 := zsw_ne (v := 3) h (by decide) (by decide)
  by_cases h : x = 4
  · subst h; exact zr_go (off := 109) (zD_of zk_124 d_124_1 rfl rfl) rfl rfl (by decide)
  rw [if_neg h]
  have a4 := zsw_ne (v := 4) h (by decide) (by decide)
  by_cases h : x = 5
  · subst h; exact zr_go (off := 128) (zD_of zk_124 d_124_1 rfl rfl) rfl rfl (by decide)
  rw [if_neg h]
  have a5 := zsw_ne (v := 5) h (by decide) (by decide)
  by_cases h : x = 6
  · subst h; exact zr_go (off := 135) (zD_of zk_124 d_124_1 rfl rfl) rfl rfl (by decide)
  rw [if_neg h]
  have a6 := zsw_ne (v := 6) h (by decide) (by decide)
  by_cases h : x = 7
  · subst h; exact zr_go (off := 142) (zD_of zk_124 d_124_1 rfl rfl) rfl rfl (by decide)
  rw [if_neg h]
  have a7 := zsw_ne (v := 7) h (by decide) (by decide)
  by_cases h : x = 8
  · subst h; exact zr_go (off := 188) (zD_of zk_124 d_124_1 rfl rfl) rfl rfl (by decide)
  rw [if_neg h]
  have a8 := zsw_ne (v := 8) h (by decide) (by decide)
  by_cases h : x = 9
  · subst h; exact zr_go (off := 148) (zD_of zk_124 d_124_1 rfl rfl) rfl rfl (by decide)
  rw [if_neg h]
  have a9 := zsw_ne (v := 9) h (by decide) (by decide)
  by_cases h : x = 10
  · subst h; exact zr_go (off := 148) (zD_of zk_124 d_124_1 rfl rfl) rfl rfl (by decide)
  rw [if_neg h]
  have a10 := zsw_ne (v := 10) h (by decide) (by decide)
  by_cases h : x = 11
  · subst h; exact zr_go (off := 188) (zD_of zk_124 d_124_1 rfl rfl) rfl rfl (by decide)
  rw [if_neg h]
  have a11 := zsw_ne (v := 11) h (by decide) (by decide)
  by_cases h : x = 12
  · subst h; exact zr_go (off := 215) (zD_of zk_124 d_124_1 rfl rfl) rfl rfl (by decide)
  rw [if_neg h]
  have a12 := zsw_ne (v := 12) h (by decide) (by decide)
  by_cases h : x = 13
  · subst h; exact zr_go (off := 230) (zD_of zk_124 d_124_1 rfl rfl) rfl rfl (by decide)
  rw [if_neg h]
  have a13 := zsw_ne (v := 13) h (by decide) (by decide)
  exact zr_go (S' := S) (off := 258) (zD_of zk_124 d_124_1 rfl rfl) rfl (by simp only [zjump, zsw_out (x := x) 258 0 13 (by omega)]) (by decide)
theorem q_124_72 : zRun 124 72 [l0, l1, some (.int x)] S sh mi mj mr = zRun 124 73 [l0, l1, some (.int x)] (.int x :: S) sh mi mj mr := zr_l (zD_of zk_124 d_124_72 rfl rfl) rfl rfl rfl
theorem q_124_73  : zRun 124 73 L S sh mi mj mr = zRun 124 75 L (.int 45 :: S) sh mi mj mr := zr_p (zD_of zk_124 d_124_73 rfl rfl) rfl
theorem q_124_75  : zRun 124 75 L (.int y :: .int x :: S) sh mi mj mr = if ¬ x = y then zRun 124 82 L S sh mi mj mr else zRun 124 78 L S sh mi mj mr := zr_if (off := 7) (P := ¬ x = y) (zD_of zk_124 d_124_75 rfl rfl) rfl rfl (by decide)
theorem q_124_78  : zRun 124 78 L S sh mi mj mr = zRun 124 79 L (.int 1 :: S) sh mi mj mr := zr_p (zD_of zk_124 d_124_78 rfl rfl) rfl
theorem q_124_79  : zRun 124 79 L S sh mi mj mr = zRun 124 87 L S sh mi mj mr := zr_go (off := 8) (zD_of zk_124 d_124_79 rfl rfl) rfl rfl (by decide)
theorem q_124_82r : zRun 124 82 [some (.ref o), l1, l2] S sh mi mj mr = zRun 124 83 [some (.ref o), l1, l2] (.ref o :: S) sh mi mj mr := zr_l (zD_of zk_124 d_124_82 rfl rfl) rfl rfl rfl
theorem q_124_82n : zRun 124 82 [some (.null), l1, l2] S sh mi mj mr = zRun 124 83 [some (.null), l1, l2] (.null :: S) sh mi mj mr := zr_l (zD_of zk_124 d_124_82 rfl rfl) rfl rfl rfl
theorem q_124_83 : zRun 124 83 [l0, l1, some (.int x)] S sh mi mj mr = zRun 124 84 [l0, l1, some (.int x)] (.int x :: S) sh mi mj mr := zr_l (zD_of zk_124 d_124_83 rfl rfl) rfl rfl rfl
theorem q_124_84  {x0 : Int32} (hS : zcat S ≤ 8) (h : zIs sh o 0 8) : zRun 124 84 L (.int x0 :: .ref o :: S) sh mi mj mr = (zCall 121 [.ref o, .int x0] sh mi mj mr).bind fun r => zRun 124 87 L (r.1.toList ++ S) r.2.1 r.2.2.1 r.2.2.2.1 r.2.2.2.2 := zr_V (zD_of zk_124 d_124_84 rfl rfl) rfl zk_121 rfl rfl rfl hS h
theorem q_124_87  : zRun 124 87 L ([.int x]) sh mi mj mr = some (some (.int x), sh, mi, mj, mr) := zr_ret (zD_of zk_124 d_124_87 rfl rfl) rfl rfl rfl rfl rfl (if_pos rfl)
theorem q_124_88r : zRun 124 88 [some (.ref o), l1, l2] S sh mi mj mr = zRun 124 89 [some (.ref o), l1, l2] (.ref o :: S) sh mi mj mr := zr_l (zD_of zk_124 d_124_88 rfl rfl) rfl rfl rfl
theorem q_124_88n : zRun 124 88 [some (.null), l1, l2] S sh mi mj mr = zRun 124 89 [some (.null), l1, l2] (.null :: S) sh mi mj mr := zr_l (zD_of zk_124 d_124_88 rfl rfl) rfl rfl rfl
theorem q_124_89 : zRun 124 89 [l0, l1, some (.int x)] S sh mi mj mr = zRun 124 90 [l0, l1, some (.int x)] (.int x :: S) sh mi mj mr := zr_l (zD_of zk_124 d_124_89 rfl rfl) rfl rfl rfl
theorem q_124_90  {x0 : Int32} (hS : zcat S ≤ 8) (h : zIs sh o 0 8) : zRun 124 90 L (.int x0 :: .ref o :: S) sh mi mj mr = (zCall 121 [.ref o, .int x0] sh mi mj mr).bind fun r => zRun 124 93 L (r.1.toList ++ S) r.2.1 r.2.2.1 r.2.2.2.1 r.2.2.2.2 := zr_V (zD_of zk_124 d_124_90 rfl rfl) rfl zk_121 rfl rfl rfl hS h
theorem q_124_93  : zRun 124 93 L ([.int x]) sh mi mj mr = some (some (.int x), sh, mi, mj, mr) := zr_ret (zD_of zk_124 d_124_93 rfl rfl) rfl rfl rfl rfl rfl (if_pos rfl)
theorem q_124_94 : zRun 124 94 [l0, l1, some (.int x)] S sh mi mj mr = zRun 124 95 [l0, l1, some (.int x)] (.int x :: S) sh mi mj mr := zr_l (zD_of zk_124 d_124_94 rfl rfl) rfl rfl rfl
theorem q_124_95  : zRun 124 95 L S sh mi mj mr = zRun 124 97 L (.int 94 :: S) sh mi mj mr := zr_p (zD_of zk_124 d_124_95 rfl rfl) rfl
theorem q_124_97  : zRun 124 97 L (.int y :: .int x :: S) sh mi mj mr = if ¬ x = y then zRun 124 104 L S sh mi mj mr else zRun 124 100 L S sh mi mj mr := zr_if (off := 7) (P := ¬ x = y) (zD_of zk_124 d_124_97 rfl rfl) rfl rfl (by decide)
theorem q_124_100  : zRun 124 100 L S sh mi mj mr = zRun 124 101 L (.int 4 :: S) sh mi mj mr := zr_p (zD_of zk_124 d_124_100 rfl rfl) rfl
theorem q_124_101  : zRun 124 101 L S sh mi mj mr = zRun 124 109 L S sh mi mj mr := zr_go (off := 8) (zD_of zk_124 d_124_101 rfl rfl) rfl rfl (by decide)
theorem q_124_104r : zRun 124 104 [some (.ref o), l1, l2] S sh mi mj mr = zRun 124 105 [some (.ref o), l1, l2] (.ref o :: S) sh mi mj mr := zr_l (zD_of zk_124 d_124_104 rfl rfl) rfl rfl rfl
theorem q_124_104n : zRun 124 104 [some (.null), l1, l2] S sh mi mj mr = zRun 124 105 [some (.null), l1, l2] (.null :: S) sh mi mj mr := zr_l (zD_of zk_124 d_124_104 rfl rfl) rfl rfl rfl
theorem q_124_105 : zRun 124 105 [l0, l1, some (.int x)] S sh mi mj mr = zRun 124 106 [l0, l1, some (.int x)] (.int x :: S) sh mi mj mr := zr_l (zD_of zk_124 d_124_105 rfl rfl) rfl rfl rfl
theorem q_124_106  {x0 : Int32} (hS : zcat S ≤ 8) (h : zIs sh o 0 8) : zRun 124 106 L (.int x0 :: .ref o :: S) sh mi mj mr = (zCall 122 [.ref o, .int x0] sh mi mj mr).bind fun r => zRun 124 109 L (r.1.toList ++ S) r.2.1 r.2.2.1 r.2.2.2.1 r.2.2.2.2 := zr_V (zD_of zk_124 d_124_106 rfl rfl) rfl zk_122 rfl rfl rfl hS h
theorem q_124_109  : zRun 124 109 L ([.int x]) sh mi mj mr = some (some (.int x), sh, mi, mj, mr) := zr_ret (zD_of zk_124 d_124_109 rfl rfl) rfl rfl rfl rfl rfl (if_pos rfl)
theorem q_124_110 : zRun 124 110 [l0, l1, some (.int x)] S sh mi mj mr = zRun 124 111 [l0, l1, some (.int x)] (.int x :: S) sh mi mj mr := zr_l (zD_of zk_124 d_124_110 rfl rfl) rfl rfl rfl
theorem q_124_111  : zRun 124 111 L S sh mi mj mr = zRun 124 113 L (.int 50 :: S) sh mi mj mr := zr_p (zD_of zk_124 d_124_111 rfl rfl) rfl
theorem q_124_113  : zRun 124 113 L S sh mi mj mr = zRun 124 115 L (.int 52 :: S) sh mi mj mr := zr_p (zD_of zk_124 d_124_113 rfl rfl) rfl
theorem q_124_115  {x0 x1 x2 : Int32} (hS : zcat S ≤ 8) : zRun 124 115 L (.int x2 :: .int x1 :: .int x0 :: S) sh mi mj mr = (zCall 111 [.int x0, .int x1, .int x2] sh mi mj mr).bind fun r => zRun 124 118 L (r.1.toList ++ S) r.2.1 r.2.2.1 r.2.2.2.1 r.2.2.2.2 := zr_S (zD_of zk_124 d_124_115 rfl rfl) rfl zk_111 rfl rfl rfl hS
theorem q_124_118  : zRun 124 118 L (.int x :: S) sh mi mj mr = if x = 0 then zRun 124 126 L S sh mi mj mr else zRun 124 121 L S sh mi mj mr := zr_if (off := 8) (P := x = 0) (zD_of zk_124 d_124_118 rfl rfl) rfl rfl (by decide)
theorem q_124_121  : zRun 124 121 L S sh mi mj mr = zRun 124 123 L (.int 7 :: S) sh mi mj mr := zr_p (zD_of zk_124 d_124_121 rfl rfl) rfl
theorem q_124_123  : zRun 124 123 L S sh mi mj mr = zRun 124 128 L S sh mi mj mr := zr_go (off := 5) (zD_of zk_124 d_124_123 rfl rfl) rfl rfl (by decide)
theorem q_124_126  : zRun 124 126 L S sh mi mj mr = zRun 124 128 L (.int (-6) :: S) sh mi mj mr := zr_p (zD_of zk_124 d_124_126 rfl rfl) rfl
theorem q_124_128  : zRun 124 128 L ([.int x]) sh mi mj mr = some (some (.int x), sh, mi, mj, mr) := zr_ret (zD_of zk_124 d_124_128 rfl rfl) rfl rfl rfl rfl rfl (if_pos rfl)
theorem q_124_129r : zRun 124 129 [some (.ref o), l1, l2] S sh mi mj mr = zRun 124 130 [some (.ref o), l1, l2] (.ref o :: S) sh mi mj mr := zr_l (zD_of zk_124 d_124_129 rfl rfl) rfl rfl rfl
theorem q_124_129n : zRun 124 129 [some (.null), l1, l2] S sh mi mj mr = zRun 124 130 [some (.null), l1, l2] (.null :: S) sh mi mj mr := zr_l (zD_of zk_124 d_124_129 rfl rfl) rfl rfl rfl
theorem q_124_130 : zRun 124 130 [l0, l1, some (.int x)] S sh mi mj mr = zRun 124 131 [l0, l1, some (.int x)] (.int x :: S) sh mi mj mr := zr_l (zD_of zk_124 d_124_130 rfl rfl) rfl rfl rfl
theorem q_124_131  : zRun 124 131 L S sh mi mj mr = zRun 124 132 L (.int 0 :: S) sh mi mj mr := zr_p (zD_of zk_124 d_124_131 rfl rfl) rfl
theorem q_124_132  {x0 x1 : Int32} (hS : zcat S ≤ 8) (h : zIs sh o 0 8) : zRun 124 132 L (.int x1 :: .int x0 :: .ref o :: S) sh mi mj mr = (zCall 123 [.ref o, .int x0, .int x1] sh mi mj mr).bind fun r => zRun 124 135 L (r.1.toList ++ S) r.2.1 r.2.2.1 r.2.2.2.1 r.2.2.2.2 := zr_V (zD_of zk_124 d_124_132 rfl rfl) rfl zk_123 rfl rfl rfl hS h
theorem q_124_135  : zRun 124 135 L ([.int x]) sh mi mj mr = some (some (.int x), sh, mi, mj, mr) := zr_ret (zD_of zk_124 d_124_135 rfl rfl) rfl rfl rfl rfl rfl (if_pos rfl)
theorem q_124_136r : zRun 124 136 [some (.ref o), l1, l2] S sh mi mj mr = zRun 124 137 [some (.ref o), l1, l2] (.ref o :: S) sh mi mj mr := zr_l (zD_of zk_124 d_124_136 rfl rfl) rfl rfl rfl
theorem q_124_136n : zRun 124 136 [some (.null), l1, l2] S sh mi mj mr = zRun 124 137 [some (.null), l1, l2] (.null :: S) sh mi mj mr := zr_l (zD_of zk_124 d_124_136 rfl rfl) rfl rfl rfl
theorem q_124_137 : zRun 124 137 [l0, l1, some (.int x)] S sh mi mj mr = zRun 124 138 [l0, l1, some (.int x)] (.int x :: S) sh mi mj mr := zr_l (zD_of zk_124 d_124_137 rfl rfl) rfl rfl rfl
theorem q_124_138  : zRun 124 138 L S sh mi mj mr = zRun 124 139 L (.int 2 :: S) sh mi mj mr := zr_p (zD_of zk_124 d_124_138 rfl rfl) rfl
theorem q_124_139  {x0 x1 : Int32} (hS : zcat S ≤ 8) (h : zIs sh o 0 8) : zRun 124 139 L (.int x1 :: .int x0 :: .ref o :: S) sh mi mj mr = (zCall 123 [.ref o, .int x0, .int x1] sh mi mj mr).bind fun r => zRun 124 142 L (r.1.toList ++ S) r.2.1 r.2.2.1 r.2.2.2.1 r.2.2.2.2 := zr_V (zD_of zk_124 d_124_139 rfl rfl) rfl zk_123 rfl rfl rfl hS h
theorem q_124_142  : zRun 124 142 L ([.int x]) sh mi mj mr = some (some (.int x), sh, mi, mj, mr) := zr_ret (zD_of zk_124 d_124_142 rfl rfl) rfl rfl rfl rfl rfl (if_pos rfl)
theorem q_124_143r : zRun 124 143 [some (.ref o), l1, l2] S sh mi mj mr = zRun 124 144 [some (.ref o), l1, l2] (.ref o :: S) sh mi mj mr := zr_l (zD_of zk_124 d_124_143 rfl rfl) rfl rfl rfl
theorem q_124_143n : zRun 124 143 [some (.null), l1, l2] S sh mi mj mr = zRun 124 144 [some (.null), l1, l2] (.null :: S) sh mi mj mr := zr_l (zD_of zk_124 d_124_143 rfl rfl) rfl rfl rfl
theorem q_124_144 : zRun 124 144 [l0, l1, some (.int x)] S sh mi mj mr = zRun 124 145 [l0, l1, some (.int x)] (.int x :: S) sh mi mj mr := zr_l (zD_of zk_124 d_124_144 rfl rfl) rfl rfl rfl
theorem q_124_145  {x0 : Int32} (hS : zcat S ≤ 8) (h : zIs sh o 0 8) : zRun 124 145 L (.int x0 :: .ref o :: S) sh mi mj mr = (zCall 122 [.ref o, .int x0] sh mi mj mr).bind fun r => zRun 124 148 L (r.1.toList ++ S) r.2.1 r.2.2.1 r.2.2.2.1 r.2.2.2.2 := zr_V (zD_of zk_124 d_124_145 rfl rfl) rfl zk_122 rfl rfl rfl hS h
theorem q_124_148  : zRun 124 148 L ([.int x]) sh mi mj mr = some (some (.int x), sh, mi, mj, mr) := zr_ret (zD_of zk_124 d_124_148 rfl rfl) rfl rfl rfl rfl rfl (if_pos rfl)
theorem q_124_149 : zRun 124 149 [l0, l1, some (.int x)] S sh mi mj mr = zRun 124 150 [l0, l1, some (.int x)] (.int x :: S) sh mi mj mr := zr_l (zD_of zk_124 d_124_149 rfl rfl) rfl rfl rfl
theorem q_124_150  {x0 : Int32} (hS : zcat S ≤ 8) : zRun 124 150 L (.int x0 :: S) sh mi mj mr = (zCall 120 [.int x0] sh mi mj mr).bind fun r => zRun 124 153 L (r.1.toList ++ S) r.2.1 r.2.2.1 r.2.2.2.1 r.2.2.2.2 := zr_S (zD_of zk_124 d_124_150 rfl rfl) rfl zk_120 rfl rfl rfl hS
theorem q_124_153  : zRun 124 153 L (.int x :: S) sh mi mj mr = if x = 0 then zRun 124 162 L S sh mi mj mr else zRun 124 156 L S sh mi mj mr := zr_if (off := 9) (P := x = 0) (zD_of zk_124 d_124_153 rfl rfl) rfl rfl (by decide)
theorem q_124_156 : zRun 124 156 [l0, some (.int x), l2] S sh mi mj mr = zRun 124 157 [l0, some (.int x), l2] (.int x :: S) sh mi mj mr := zr_l (zD_of zk_124 d_124_156 rfl rfl) rfl rfl rfl
theorem q_124_157  : zRun 124 157 L S sh mi mj mr = zRun 124 158 L (.int 1 :: S) sh mi mj mr := zr_p (zD_of zk_124 d_124_157 rfl rfl) rfl
theorem q_124_158  : zRun 124 158 L (.int y :: .int x :: S) sh mi mj mr = zRun 124 159 L (.int (x + y) :: S) sh mi mj mr := zr_p (zD_of zk_124 d_124_158 rfl rfl) rfl
theorem q_124_159  : zRun 124 159 L S sh mi mj mr = zRun 124 188 L S sh mi mj mr := zr_go (off := 29) (zD_of zk_124 d_124_159 rfl rfl) rfl rfl (by decide)
theorem q_124_162 : zRun 124 162 [l0, l1, some (.int x)] S sh mi mj mr = zRun 124 163 [l0, l1, some (.int x)] (.int x :: S) sh mi mj mr := zr_l (zD_of zk_124 d_124_162 rfl rfl) rfl rfl rfl
theorem q_124_163  : zRun 124 163 L S sh mi mj mr = zRun 124 165 L (.int 46 :: S) sh mi mj mr := zr_p (zD_of zk_124 d_124_163 rfl rfl) rfl
theorem q_124_165  : zRun 124 165 L (.int y :: .int x :: S) sh mi mj mr = if ¬ x = y then zRun 124 173 L S sh mi mj mr else zRun 124 168 L S sh mi mj mr := zr_if (off := 8) (P := ¬ x = y) (zD_of zk_124 d_124_165 rfl rfl) rfl rfl (by decide)
theorem q_124_168  : zRun 124 168 L S sh mi mj mr = zRun 124 170 L (.int 12 :: S) sh mi mj mr := zr_p (zD_of zk_124 d_124_168 rfl rfl) rfl
theorem q_124_170  : zRun 124 170 L S sh mi mj mr = zRun 124 188 L S sh mi mj mr := zr_go (off := 18) (zD_of zk_124 d_124_170 rfl rfl) rfl rfl (by decide)
theorem q_124_173 : zRun 124 173 [l0, l1, some (.int x)] S sh mi mj mr = zRun 124 174 [l0, l1, some (.int x)] (.int x :: S) sh mi mj mr := zr_l (zD_of zk_124 d_124_173 rfl rfl) rfl rfl rfl
theorem q_124_174  : zRun 124 174 L S sh mi mj mr = zRun 124 176 L (.int 94 :: S) sh mi mj mr := zr_p (zD_of zk_124 d_124_174 rfl rfl) rfl
theorem q_124_176  : zRun 124 176 L (.int y :: .int x :: S) sh mi mj mr = if ¬ x = y then zRun 124 183 L S sh mi mj mr else zRun 124 179 L S sh mi mj mr := zr_if (off := 7) (P := ¬ x = y) (zD_of zk_124 d_124_176 rfl rfl) rfl rfl (by decide)
theorem q_124_179  : zRun 124 179 L S sh mi mj mr = zRun 124 180 L (.int 4 :: S) sh mi mj mr := zr_p (zD_of zk_124 d_124_179 rfl rfl) rfl
theorem q_124_180  : zRun 124 180 L S sh mi mj mr = zRun 124 188 L S sh mi mj mr := zr_go (off := 8) (zD_of zk_124 d_124_180 rfl rfl) rfl rfl (by decide)
theorem q_124_183r : zRun 124 183 [some (.ref o), l1, l2] S sh mi mj mr = zRun 124 184 [some (.ref o), l1, l2] (.ref o :: S) sh mi mj mr := zr_l (zD_of zk_124 d_124_183 rfl rfl) rfl rfl rfl
theorem q_124_183n : zRun 124 183 [some (.null), l1, l2] S sh mi mj mr = zRun 124 184 [some (.null), l1, l2] (.null :: S) sh mi mj mr := zr_l (zD_of zk_124 d_124_183 rfl rfl) rfl rfl rfl
theorem q_124_184 : zRun 124 184 [l0, l1, some (.int x)] S sh mi mj mr = zRun 124 185 [l0, l1, some (.int x)] (.int x :: S) sh mi mj mr := zr_l (zD_of zk_124 d_124_184 rfl rfl) rfl rfl rfl
theorem q_124_185  {x0 : Int32} (hS : zcat S ≤ 8) (h : zIs sh o 0 8) : zRun 124 185 L (.int x0 :: .ref o :: S) sh mi mj mr = (zCall 122 [.ref o, .int x0] sh mi mj mr).bind fun r => zRun 124 188 L (r.1.toList ++ S) r.2.1 r.2.2.1 r.2.2.2.1 r.2.2.2.2 := zr_V (zD_of zk_124 d_124_185 rfl rfl) rfl zk_122 rfl rfl rfl hS h
theorem q_124_188  : zRun 124 188 L ([.int x]) sh mi mj mr = some (some (.int x), sh, mi, mj, mr) := zr_ret (zD_of zk_124 d_124_188 rfl rfl) rfl rfl rfl rfl rfl (if_pos rfl)
theorem q_124_189 : zRun 124 189 [l0, l1, some (.int x)] S sh mi mj mr = zRun 124 190 [l0, l1, some (.int x)] (.int x :: S) sh mi mj mr := zr_l (zD_of zk_124 d_124_189 rfl rfl) rfl rfl rfl
theorem q_124_190  : zRun 124 190 L S sh mi mj mr = zRun 124 192 L (.int 46 :: S) sh mi mj mr := zr_p (zD_of zk_124 d_124_190 rfl rfl) rfl
theorem q_124_192  : zRun 124 192 L (.int y :: .int x :: S) sh mi mj mr = if ¬ x = y then zRun 124 200 L S sh mi mj mr else zRun 124 195 L S sh mi mj mr := zr_if (off := 8) (P := ¬ x = y) (zD_of zk_124 d_124_192 rfl rfl) rfl rfl (by decide)
theorem q_124_195  : zRun 124 195 L S sh mi mj mr = zRun 124 197 L (.int 12 :: S) sh mi mj mr := zr_p (zD_of zk_124 d_124_195 rfl rfl) rfl
theorem q_124_197  : zRun 124 197 L S sh mi mj mr = zRun 124 215 L S sh mi mj mr := zr_go (off := 18) (zD_of zk_124 d_124_197 rfl rfl) rfl rfl (by decide)
theorem q_124_200 : zRun 124 200 [l0, l1, some (.int x)] S sh mi mj mr = zRun 124 201 [l0, l1, some (.int x)] (.int x :: S) sh mi mj mr := zr_l (zD_of zk_124 d_124_200 rfl rfl) rfl rfl rfl
theorem q_124_201  : zRun 124 201 L S sh mi mj mr = zRun 124 203 L (.int 94 :: S) sh mi mj mr := zr_p (zD_of zk_124 d_124_201 rfl rfl) rfl
theorem q_124_203  : zRun 124 203 L (.int y :: .int x :: S) sh mi mj mr = if ¬ x = y then zRun 124 210 L S sh mi mj mr else zRun 124 206 L S sh mi mj mr := zr_if (off := 7) (P := ¬ x = y) (zD_of zk_124 d_124_203 rfl rfl) rfl rfl (by decide)
theorem q_124_206  : zRun 124 206 L S sh mi mj mr = zRun 124 207 L (.int 4 :: S) sh mi mj mr := zr_p (zD_of zk_124 d_124_206 rfl rfl) rfl
theorem q_124_207  : zRun 124 207 L S sh mi mj mr = zRun 124 215 L S sh mi mj mr := zr_go (off := 8) (zD_of zk_124 d_124_207 rfl rfl) rfl rfl (by decide)
theorem q_124_210r : zRun 124 210 [some (.ref o), l1, l2] S sh mi mj mr = zRun 124 211 [some (.ref o), l1, l2] (.ref o :: S) sh mi mj mr := zr_l (zD_of zk_124 d_124_210 rfl rfl) rfl rfl rfl
theorem q_124_210n : zRun 124 210 [some (.null), l1, l2] S sh mi mj mr = zRun 124 211 [some (.null), l1, l2] (.null :: S) sh mi mj mr := zr_l (zD_of zk_124 d_124_210 rfl rfl) rfl rfl rfl
theorem q_124_211 : zRun 124 211 [l0, l1, some (.int x)] S sh mi mj mr = zRun 124 212 [l0, l1, some (.int x)] (.int x :: S) sh mi mj mr := zr_l (zD_of zk_124 d_124_211 rfl rfl) rfl rfl rfl
theorem q_124_212  {x0 : Int32} (hS : zcat S ≤ 8) (h : zIs sh o 0 8) : zRun 124 212 L (.int x0 :: .ref o :: S) sh mi mj mr = (zCall 122 [.ref o, .int x0] sh mi mj mr).bind fun r => zRun 124 215 L (r.1.toList ++ S) r.2.1 r.2.2.1 r.2.2.2.1 r.2.2.2.2 := zr_V (zD_of zk_124 d_124_212 rfl rfl) rfl zk_122 rfl rfl rfl hS h
theorem q_124_215  : zRun 124 215 L ([.int x]) sh mi mj mr = some (some (.int x), sh, mi, mj, mr) := zr_ret (zD_of zk_124 d_124_215 rfl rfl) rfl rfl rfl rfl rfl (if_pos rfl)
theorem q_124_216 : zRun 124 216 [l0, l1, some (.int x)] S sh mi mj mr = zRun 124 217 [l0, l1, some (.int x)] (.int x :: S) sh mi mj mr := zr_l (zD_of zk_124 d_124_216 rfl rfl) rfl rfl rfl
theorem q_124_217  {x0 : Int32} (hS : zcat S ≤ 8) : zRun 124 217 L (.int x0 :: S) sh mi mj mr = (zCall 120 [.int x0] sh mi mj mr).bind fun r => zRun 124 220 L (r.1.toList ++ S) r.2.1 r.2.2.1 r.2.2.2.1 r.2.2.2.2 := zr_S (zD_of zk_124 d_124_217 rfl rfl) rfl zk_120 rfl rfl rfl hS
theorem q_124_220  : zRun 124 220 L (.int x :: S) sh mi mj mr = if x = 0 then zRun 124 228 L S sh mi mj mr else zRun 124 223 L S sh mi mj mr := zr_if (off := 8) (P := x = 0) (zD_of zk_124 d_124_220 rfl rfl) rfl rfl (by decide)
theorem q_124_223  : zRun 124 223 L S sh mi mj mr = zRun 124 225 L (.int 13 :: S) sh mi mj mr := zr_p (zD_of zk_124 d_124_223 rfl rfl) rfl
theorem q_124_225  : zRun 124 225 L S sh mi mj mr = zRun 124 230 L S sh mi mj mr := zr_go (off := 5) (zD_of zk_124 d_124_225 rfl rfl) rfl rfl (by decide)
theorem q_124_228  : zRun 124 228 L S sh mi mj mr = zRun 124 230 L (.int (-6) :: S) sh mi mj mr := zr_p (zD_of zk_124 d_124_228 rfl rfl) rfl
theorem q_124_230  : zRun 124 230 L ([.int x]) sh mi mj mr = some (some (.int x), sh, mi, mj, mr) := zr_ret (zD_of zk_124 d_124_230 rfl rfl) rfl rfl rfl rfl rfl (if_pos rfl)
theorem q_124_231 : zRun 124 231 [l0, l1, some (.int x)] S sh mi mj mr = zRun 124 232 [l0, l1, some (.int x)] (.int x :: S) sh mi mj mr := zr_l (zD_of zk_124 d_124_231 rfl rfl) rfl rfl rfl
theorem q_124_232  {x0 : Int32} (hS : zcat S ≤ 8) : zRun 124 232 L (.int x0 :: S) sh mi mj mr = (zCall 120 [.int x0] sh mi mj mr).bind fun r => zRun 124 235 L (r.1.toList ++ S) r.2.1 r.2.2.1 r.2.2.2.1 r.2.2.2.2 := zr_S (zD_of zk_124 d_124_232 rfl rfl) rfl zk_120 rfl rfl rfl hS
theorem q_124_235  : zRun 124 235 L (.int x :: S) sh mi mj mr = if x = 0 then zRun 124 243 L S sh mi mj mr else zRun 124 238 L S sh mi mj mr := zr_if (off := 8) (P := x = 0) (zD_of zk_124 d_124_235 rfl rfl) rfl rfl (by decide)
theorem q_124_238  : zRun 124 238 L S sh mi mj mr = zRun 124 240 L (.int 14 :: S) sh mi mj mr := zr_p (zD_of zk_124 d_124_238 rfl rfl) rfl
theorem q_124_240  : zRun 124 240 L S sh mi mj mr = zRun 124 258 L S sh mi mj mr := zr_go (off := 18) (zD_of zk_124 d_124_240 rfl rfl) rfl rfl (by decide)
theorem q_124_243 : zRun 124 243 [l0, l1, some (.int x)] S sh mi mj mr = zRun 124 244 [l0, l1, some (.int x)] (.int x :: S) sh mi mj mr := zr_l (zD_of zk_124 d_124_243 rfl rfl) rfl rfl rfl
theorem q_124_244  : zRun 124 244 L S sh mi mj mr = zRun 124 246 L (.int 94 :: S) sh mi mj mr := zr_p (zD_of zk_124 d_124_244 rfl rfl) rfl
theorem q_124_246  : zRun 124 246 L (.int y :: .int x :: S) sh mi mj mr = if ¬ x = y then zRun 124 253 L S sh mi mj mr else zRun 124 249 L S sh mi mj mr := zr_if (off := 7) (P := ¬ x = y) (zD_of zk_124 d_124_246 rfl rfl) rfl rfl (by decide)
theorem q_124_249  : zRun 124 249 L S sh mi mj mr = zRun 124 250 L (.int 4 :: S) sh mi mj mr := zr_p (zD_of zk_124 d_124_249 rfl rfl) rfl
theorem q_124_250  : zRun 124 250 L S sh mi mj mr = zRun 124 258 L S sh mi mj mr := zr_go (off := 8) (zD_of zk_124 d_124_250 rfl rfl) rfl rfl (by decide)
theorem q_124_253r : zRun 124 253 [some (.ref o), l1, l2] S sh mi mj mr = zRun 124 254 [some (.ref o), l1, l2] (.ref o :: S) sh mi mj mr := zr_l (zD_of zk_124 d_124_253 rfl rfl) rfl rfl rfl
theorem q_124_253n : zRun 124 253 [some (.null), l1, l2] S sh mi mj mr = zRun 124 254 [some (.null), l1, l2] (.null :: S) sh mi mj mr := zr_l (zD_of zk_124 d_124_253 rfl rfl) rfl rfl rfl
theorem q_124_254 : zRun 124 254 [l0, l1, some (.int x)] S sh mi mj mr = zRun 124 255 [l0, l1, some (.int x)] (.int x :: S) sh mi mj mr := zr_l (zD_of zk_124 d_124_254 rfl rfl) rfl rfl rfl
theorem q_124_255  {x0 : Int32} (hS : zcat S ≤ 8) (h : zIs sh o 0 8) : zRun 124 255 L (.int x0 :: .ref o :: S) sh mi mj mr = (zCall 122 [.ref o, .int x0] sh mi mj mr).bind fun r => zRun 124 258 L (r.1.toList ++ S) r.2.1 r.2.2.1 r.2.2.2.1 r.2.2.2.2 := zr_V (zD_of zk_124 d_124_255 rfl rfl) rfl zk_122 rfl rfl rfl hS h
theorem q_124_258  : zRun 124 258 L ([.int x]) sh mi mj mr = some (some (.int x), sh, mi, mj, mr) := zr_ret (zD_of zk_124 d_124_258 rfl rfl) rfl rfl rfl rfl rfl (if_pos rfl)
theorem q_124_259 : zRun 124 259 [l0, l1, some (.int x)] S sh mi mj mr = zRun 124 260 [l0, l1, some (.int x)] (.int x :: S) sh mi mj mr := zr_l (zD_of zk_124 d_124_259 rfl rfl) rfl rfl rfl
theorem q_124_260  : zRun 124 260 L S sh mi mj mr = zRun 124 262 L (.int 94 :: S) sh mi mj mr := zr_p (zD_of zk_124 d_124_260 rfl rfl) rfl
theorem q_124_262  : zRun 124 262 L (.int y :: .int x :: S) sh mi mj mr = if ¬ x = y then zRun 124 269 L S sh mi mj mr else zRun 124 265 L S sh mi mj mr := zr_if (off := 7) (P := ¬ x = y) (zD_of zk_124 d_124_262 rfl rfl) rfl rfl (by decide)
theorem q_124_265  : zRun 124 265 L S sh mi mj mr = zRun 124 266 L (.int 4 :: S) sh mi mj mr := zr_p (zD_of zk_124 d_124_265 rfl rfl) rfl
theorem q_124_266  : zRun 124 266 L S sh mi mj mr = zRun 124 274 L S sh mi mj mr := zr_go (off := 8) (zD_of zk_124 d_124_266 rfl rfl) rfl rfl (by decide)
theorem q_124_269r : zRun 124 269 [some (.ref o), l1, l2] S sh mi mj mr = zRun 124 270 [some (.ref o), l1, l2] (.ref o :: S) sh mi mj mr := zr_l (zD_of zk_124 d_124_269 rfl rfl) rfl rfl rfl
theorem q_124_269n : zRun 124 269 [some (.null), l1, l2] S sh mi mj mr = zRun 124 270 [some (.null), l1, l2] (.null :: S) sh mi mj mr := zr_l (zD_of zk_124 d_124_269 rfl rfl) rfl rfl rfl
theorem q_124_270 : zRun 124 270 [l0, l1, some (.int x)] S sh mi mj mr = zRun 124 271 [l0, l1, some (.int x)] (.int x :: S) sh mi mj mr := zr_l (zD_of zk_124 d_124_270 rfl rfl) rfl rfl rfl
theorem q_124_271  {x0 : Int32} (hS : zcat S ≤ 8) (h : zIs sh o 0 8) : zRun 124 271 L (.int x0 :: .ref o :: S) sh mi mj mr = (zCall 122 [.ref o, .int x0] sh mi mj mr).bind fun r => zRun 124 274 L (r.1.toList ++ S) r.2.1 r.2.2.1 r.2.2.2.1 r.2.2.2.2 := zr_V (zD_of zk_124 d_124_271 rfl rfl) rfl zk_122 rfl rfl rfl hS h
theorem q_124_274  : zRun 124 274 L ([.int x]) sh mi mj mr = some (some (.int x), sh, mi, mj, mr) := zr_ret (zD_of zk_124 d_124_274 rfl rfl) rfl rfl rfl rfl rfl (if_pos rfl)
theorem e_124 {x0 x1 : Int32} : zCall 124 [.ref o, .int x0, .int x1] sh mi mj mr = zRun 124 0 [some (.ref o), some (.int x0), some (.int x1)] [] sh mi mj mr := rfl
theorem d_125_0 : decode cX8_fault 0 = .ok (.iconst 0, 1) := by decide +kernel
theorem d_125_1 : decode cX8_fault 1 = .ok (.istore_n 1, 1) := by decide +kernel
theorem d_125_2 : decode cX8_fault 2 = .ok (.aload_n 0, 1) := by decide +kernel
theorem d_125_3 : decode cX8_fault 3 = .ok (.iconst 0, 1) := by decide +kernel
theorem d_125_4 : decode cX8_fault 4 = .ok (.putfield 93, 3) := by decide +kernel
theorem d_125_7 : decode cX8_fault 7 = .ok (.iconst 0, 1) := by decide +kernel
theorem d_125_8 : decode cX8_fault 8 = .ok (.istore_n 2, 1) := by decide +kernel
theorem d_125_9 : decode cX8_fault 9 = .ok (.iload_n 2, 1) := by decide +kernel
theorem d_125_10 : decode cX8_fault 10 = .ok (.aload_n 0, 1) := by decide +kernel
theorem d_125_11 : decode cX8_fault 11 = .ok (.getfield 86, 3) := by decide +kernel
theorem d_125_14 : decode cX8_fault 14 = .ok (.if_icmp .ge 27, 3) := by decide +kernel
theorem d_125_17 : decode cX8_fault 17 = .ok (.aload_n 0, 1) := by decide +kernel
theorem d_125_18 : decode cX8_fault 18 = .ok (.iload_n 1, 1) := by decide +kernel
theorem d_125_19 : decode cX8_fault 19 = .ok (.aload_n 0, 1) := by decide +kernel
theorem d_125_20 : decode cX8_fault 20 = .ok (.getfield 20, 3) := by decide +kernel
theorem d_125_23 : decode cX8_fault 23 = .ok (.iload_n 2, 1) := by decide +kernel
theorem d_125_24 : decode cX8_fault 24 = .ok (.iaload, 1) := by decide +kernel
theorem d_125_25 : decode cX8_fault 25 = .ok (.invokevirtual 107, 3) := by decide +kernel
theorem d_125_28 : decode cX8_fault 28 = .ok (.istore_n 1, 1) := by decide +kernel
theorem d_125_29 : decode cX8_fault 29 = .ok (.iload_n 1, 1) := by decide +kernel
theorem d_125_30 : decode cX8_fault 30 = .ok (.ifCond .ge 5, 3) := by decide +kernel
theorem d_125_33 : decode cX8_fault 33 = .ok (.iload_n 2, 1) := by decide +kernel
theorem d_125_34 : decode cX8_fault 34 = .ok (.ireturn, 1) := by decide +kernel
theorem d_125_35 : decode cX8_fault 35 = .ok (.iinc 2 1, 3) := by decide +kernel
theorem d_125_38 : decode cX8_fault 38 = .ok (.goto (-29), 3) := by decide +kernel
theorem d_125_41 : decode cX8_fault 41 = .ok (.aload_n 0, 1) := by decide +kernel
theorem d_125_42 : decode cX8_fault 42 = .ok (.getfield 93, 3) := by decide +kernel
theorem d_125_45 : decode cX8_fault 45 = .ok (.ifCond .ne 35, 3) := by decide +kernel
theorem d_125_48 : decode cX8_fault 48 = .ok (.iload_n 1, 1) := by decide +kernel
theorem d_125_49 : decode cX8_fault 49 = .ok (.iconst 3, 1) := by decide +kernel
theorem d_125_50 : decode cX8_fault 50 = .ok (.if_icmp .eq 26, 3) := by decide +kernel
theorem d_125_53 : decode cX8_fault 53 = .ok (.iload_n 1, 1) := by decide +kernel
theorem d_125_54 : decode cX8_fault 54 = .ok (.bipush 7, 2) := by decide +kernel
theorem d_125_56 : decode cX8_fault 56 = .ok (.if_icmp .eq 20, 3) := by decide +kernel
theorem d_125_59 : decode cX8_fault 59 = .ok (.iload_n 1, 1) := by decide +kernel
theorem d_125_60 : decode cX8_fault 60 = .ok (.bipush 8, 2) := by decide +kernel
theorem d_125_62 : decode cX8_fault 62 = .ok (.bipush 11, 2) := by decide +kernel
theorem d_125_64 : decode cX8_fault 64 = .ok (.invokestatic 72, 3) := by decide +kernel
theorem d_125_67 : decode cX8_fault 67 = .ok (.ifCond .ne 9, 3) := by decide +kernel
theorem d_125_70 : decode cX8_fault 70 = .ok (.iload_n 1, 1) := by decide +kernel
theorem d_125_71 : decode cX8_fault 71 = .ok (.bipush 12, 2) := by decide +kernel
theorem d_125_73 : decode cX8_fault 73 = .ok (.if_icmp .le 7, 3) := by decide +kernel
theorem d_125_76 : decode cX8_fault 76 = .ok (.iconst 1, 1) := by decide +kernel
theorem d_125_77 : decode cX8_fault 77 = .ok (.goto 4, 3) := by decide +kernel
theorem d_125_80 : decode cX8_fault 80 = .ok (.iconst 0, 1) := by decide +kernel
theorem d_125_81 : decode cX8_fault 81 = .ok (.istore_n 2, 1) := by decide +kernel
theorem d_125_82 : decode cX8_fault 82 = .ok (.iload_n 2, 1) := by decide +kernel
theorem d_125_83 : decode cX8_fault 83 = .ok (.ifCond .eq 8, 3) := by decide +kernel
theorem d_125_86 : decode cX8_fault 86 = .ok (.bipush (-6), 2) := by decide +kernel
theorem d_125_88 : decode cX8_fault 88 = .ok (.goto 7, 3) := by decide +kernel
theorem d_125_91 : decode cX8_fault 91 = .ok (.aload_n 0, 1) := by decide +kernel
theorem d_125_92 : decode cX8_fault 92 = .ok (.getfield 86, 3) := by decide +kernel
theorem d_125_95 : decode cX8_fault 95 = .ok (.ireturn, 1) := by decide +kernel
theorem q_125_0  : zRun 125 0 L S sh mi mj mr = zRun 125 1 L (.int 0 :: S) sh mi mj mr := zr_p (zD_of zk_125 d_125_0 rfl rfl) rfl
theorem q_125_1 : zRun 125 1 [l0, l1, l2] (.int x :: S) sh mi mj mr = zRun 125 2 [zk2 l0, some (.int x), l2] S sh mi mj mr := zr_s1 (i := 1) (v := .int x) (L := [l0, l1, l2]) (zD_of zk_125 d_125_1 rfl rfl) rfl rfl rfl rfl
theorem q_125_2r : zRun 125 2 [some (.ref o), l1, l2] S sh mi mj mr = zRun 125 3 [some (.ref o), l1, l2] (.ref o :: S) sh mi mj mr := zr_l (zD_of zk_125 d_125_2 rfl rfl) rfl rfl rfl
theorem q_125_2n : zRun 125 2 [some (.null), l1, l2] S sh mi mj mr = zRun 125 3 [some (.null), l1, l2] (.null :: S) sh mi mj mr := zr_l (zD_of zk_125 d_125_2 rfl rfl) rfl rfl rfl
theorem q_125_3  : zRun 125 3 L S sh mi mj mr = zRun 125 4 L (.int 0 :: S) sh mi mj mr := zr_p (zD_of zk_125 d_125_3 rfl rfl) rfl
theorem q_125_4 (h : zIs sh o 0 8) : zRun 125 4 L (.int x :: .ref o :: S) sh mi mj mr = zRun 125 7 L S sh (zup mi o 6 x) mj mr := zr_putI (zD_of zk_125 d_125_4 rfl rfl) rfl rfl rfl (Or.inl rfl) h
theorem q_125_7  : zRun 125 7 L S sh mi mj mr = zRun 125 8 L (.int 0 :: S) sh mi mj mr := zr_p (zD_of zk_125 d_125_7 rfl rfl) rfl
theorem q_125_8 : zRun 125 8 [l0, l1, l2] (.int x :: S) sh mi mj mr = zRun 125 9 [l0, zk2 l1, some (.int x)] S sh mi mj mr := zr_s1 (i := 2) (v := .int x) (L := [l0, l1, l2]) (zD_of zk_125 d_125_8 rfl rfl) rfl rfl rfl rfl
theorem q_125_9 : zRun 125 9 [l0, l1, some (.int x)] S sh mi mj mr = zRun 125 10 [l0, l1, some (.int x)] (.int x :: S) sh mi mj mr := zr_l (zD_of zk_125 d_125_9 rfl rfl) rfl rfl rfl
theorem q_125_10r : zRun 125 10 [some (.ref o), l1, l2] S sh mi mj mr = zRun 125 11 [some (.ref o), l1, l2] (.ref o :: S) sh mi mj mr := zr_l (zD_of zk_125 d_125_10 rfl rfl) rfl rfl rfl
theorem q_125_10n : zRun 125 10 [some (.null), l1, l2] S sh mi mj mr = zRun 125 11 [some (.null), l1, l2] (.null :: S) sh mi mj mr := zr_l (zD_of zk_125 d_125_10 rfl rfl) rfl rfl rfl
theorem q_125_11 (h : zIs sh o 0 8) : zRun 125 11 L (.ref o :: S) sh mi mj mr = zRun 125 14 L (.int (mi o 4) :: S) sh mi mj mr := zr_getI (zD_of zk_125 d_125_11 rfl rfl) rfl rfl (Or.inl rfl) h
theorem q_125_14  : zRun 125 14 L (.int y :: .int x :: S) sh mi mj mr = if y ≤ x then zRun 125 41 L S sh mi mj mr else zRun 125 17 L S sh mi mj mr := zr_if (off := 27) (P := y ≤ x) (zD_of zk_125 d_125_14 rfl rfl) rfl rfl (by decide)
theorem q_125_17r : zRun 125 17 [some (.ref o), l1, l2] S sh mi mj mr = zRun 125 18 [some (.ref o), l1, l2] (.ref o :: S) sh mi mj mr := zr_l (zD_of zk_125 d_125_17 rfl rfl) rfl rfl rfl
theorem q_125_17n : zRun 125 17 [some (.null), l1, l2] S sh mi mj mr = zRun 125 18 [some (.null), l1, l2] (.null :: S) sh mi mj mr := zr_l (zD_of zk_125 d_125_17 rfl rfl) rfl rfl rfl
theorem q_125_18 : zRun 125 18 [l0, some (.int x), l2] S sh mi mj mr = zRun 125 19 [l0, some (.int x), l2] (.int x :: S) sh mi mj mr := zr_l (zD_of zk_125 d_125_18 rfl rfl) rfl rfl rfl
theorem q_125_19r : zRun 125 19 [some (.ref o), l1, l2] S sh mi mj mr = zRun 125 20 [some (.ref o), l1, l2] (.ref o :: S) sh mi mj mr := zr_l (zD_of zk_125 d_125_19 rfl rfl) rfl rfl rfl
theorem q_125_19n : zRun 125 19 [some (.null), l1, l2] S sh mi mj mr = zRun 125 20 [some (.null), l1, l2] (.null :: S) sh mi mj mr := zr_l (zD_of zk_125 d_125_19 rfl rfl) rfl rfl rfl
theorem q_125_20 (h : zIs sh o 0 8) : zRun 125 20 L (.ref o :: S) sh mi mj mr = zRun 125 23 L (va_rf (mr o 3) :: S) sh mi mj mr := zr_getR (zD_of zk_125 d_125_20 rfl rfl) rfl rfl rfl h
theorem q_125_23 : zRun 125 23 [l0, l1, some (.int x)] S sh mi mj mr = zRun 125 24 [l0, l1, some (.int x)] (.int x :: S) sh mi mj mr := zr_l (zD_of zk_125 d_125_23 rfl rfl) rfl rfl rfl
theorem q_125_24 (h : zAt sh o 1 x) : zRun 125 24 L (.int x :: .ref o :: S) sh mi mj mr = zRun 125 25 L (.int (mi o x.toNatClampNeg) :: S) sh mi mj mr := zr_iald (zD_of zk_125 d_125_24 rfl rfl) h
theorem q_125_25  {x0 x1 : Int32} (hS : zcat S ≤ 8) (h : zIs sh o 0 8) : zRun 125 25 L (.int x1 :: .int x0 :: .ref o :: S) sh mi mj mr = (zCall 124 [.ref o, .int x0, .int x1] sh mi mj mr).bind fun r => zRun 125 28 L (r.1.toList ++ S) r.2.1 r.2.2.1 r.2.2.2.1 r.2.2.2.2 := zr_V (zD_of zk_125 d_125_25 rfl rfl) rfl zk_124 rfl rfl rfl hS h
theorem q_125_28 : zRun 125 28 [l0, l1, l2] (.int x :: S) sh mi mj mr = zRun 125 29 [zk2 l0, some (.int x), l2] S sh mi mj mr := zr_s1 (i := 1) (v := .int x) (L := [l0, l1, l2]) (zD_of zk_125 d_125_28 rfl rfl) rfl rfl rfl rfl
theorem q_125_29 : zRun 125 29 [l0, some (.int x), l2] S sh mi mj mr = zRun 125 30 [l0, some (.int x), l2] (.int x :: S) sh mi mj mr := zr_l (zD_of zk_125 d_125_29 rfl rfl) rfl rfl rfl
theorem q_125_30  : zRun 125 30 L (.int x :: S) sh mi mj mr = if 0 ≤ x then zRun 125 35 L S sh mi mj mr else zRun 125 33 L S sh mi mj mr := zr_if (off := 5) (P := 0 ≤ x) (zD_of zk_125 d_125_30 rfl rfl) rfl rfl (by decide)
theorem q_125_33 : zRun 125 33 [l0, l1, some (.int x)] S sh mi mj mr = zRun 125 34 [l0, l1, some (.int x)] (.int x :: S) sh mi mj mr := zr_l (zD_of zk_125 d_125_33 rfl rfl) rfl rfl rfl
theorem q_125_34  : zRun 125 34 L ([.int x]) sh mi mj mr = some (some (.int x), sh, mi, mj, mr) := zr_ret (zD_of zk_125 d_125_34 rfl rfl) rfl rfl rfl rfl rfl (if_pos rfl)
theorem q_125_35  : zRun 125 35 [l0, l1, some (.int x)] S sh mi mj mr = zRun 125 38 [l0, zk2 l1, some (.int (x + 1))] S sh mi mj mr := zr_s1 (i := 2) (v := .int (x + 1)) (L := [l0, l1, some (.int x)]) (zD_of zk_125 d_125_35 rfl rfl) rfl rfl rfl rfl
theorem q_125_38  : zRun 125 38 L S sh mi mj mr = zRun 125 9 L S sh mi mj mr := zr_go (off := (-29)) (zD_of zk_125 d_125_38 rfl rfl) rfl rfl (by decide)
theorem q_125_41r : zRun 125 41 [some (.ref o), l1, l2] S sh mi mj mr = zRun 125 42 [some (.ref o), l1, l2] (.ref o :: S) sh mi mj mr := zr_l (zD_of zk_125 d_125_41 rfl rfl) rfl rfl rfl
theorem q_125_41n : zRun 125 41 [some (.null), l1, l2] S sh mi mj mr = zRun 125 42 [some (.null), l1, l2] (.null :: S) sh mi mj mr := zr_l (zD_of zk_125 d_125_41 rfl rfl) rfl rfl rfl
theorem q_125_42 (h : zIs sh o 0 8) : zRun 125 42 L (.ref o :: S) sh mi mj mr = zRun 125 45 L (.int (mi o 6) :: S) sh mi mj mr := zr_getI (zD_of zk_125 d_125_42 rfl rfl) rfl rfl (Or.inl rfl) h
theorem q_125_45  : zRun 125 45 L (.int x :: S) sh mi mj mr = if ¬ x = 0 then zRun 125 80 L S sh mi mj mr else zRun 125 48 L S sh mi mj mr := zr_if (off := 35) (P := ¬ x = 0) (zD_of zk_125 d_125_45 rfl rfl) rfl rfl (by decide)
theorem q_125_48 : zRun 125 48 [l0, some (.int x), l2] S sh mi mj mr = zRun 125 49 [l0, some (.int x), l2] (.int x :: S) sh mi mj mr := zr_l (zD_of zk_125 d_125_48 rfl rfl) rfl rfl rfl
theorem q_125_49  : zRun 125 49 L S sh mi mj mr = zRun 125 50 L (.int 3 :: S) sh mi mj mr := zr_p (zD_of zk_125 d_125_49 rfl rfl) rfl
theorem q_125_50  : zRun 125 50 L (.int y :: .int x :: S) sh mi mj mr = if x = y then zRun 125 76 L S sh mi mj mr else zRun 125 53 L S sh mi mj mr := zr_if (off := 26) (P := x = y) (zD_of zk_125 d_125_50 rfl rfl) rfl rfl (by decide)
theorem q_125_53 : zRun 125 53 [l0, some (.int x), l2] S sh mi mj mr = zRun 125 54 [l0, some (.int x), l2] (.int x :: S) sh mi mj mr := zr_l (zD_of zk_125 d_125_53 rfl rfl) rfl rfl rfl
theorem q_125_54  : zRun 125 54 L S sh mi mj mr = zRun 125 56 L (.int 7 :: S) sh mi mj mr := zr_p (zD_of zk_125 d_125_54 rfl rfl) rfl
theorem q_125_56  : zRun 125 56 L (.int y :: .int x :: S) sh mi mj mr = if x = y then zRun 125 76 L S sh mi mj mr else zRun 125 59 L S sh mi mj mr := zr_if (off := 20) (P := x = y) (zD_of zk_125 d_125_56 rfl rfl) rfl rfl (by decide)
theorem q_125_59 : zRun 125 59 [l0, some (.int x), l2] S sh mi mj mr = zRun 125 60 [l0, some (.int x), l2] (.int x :: S) sh mi mj mr := zr_l (zD_of zk_125 d_125_59 rfl rfl) rfl rfl rfl
theorem q_125_60  : zRun 125 60 L S sh mi mj mr = zRun 125 62 L (.int 8 :: S) sh mi mj mr := zr_p (zD_of zk_125 d_125_60 rfl rfl) rfl
theorem q_125_62  : zRun 125 62 L S sh mi mj mr = zRun 125 64 L (.int 11 :: S) sh mi mj mr := zr_p (zD_of zk_125 d_125_62 rfl rfl) rfl
theorem q_125_64  {x0 x1 x2 : Int32} (hS : zcat S ≤ 8) : zRun 125 64 L (.int x2 :: .int x1 :: .int x0 :: S) sh mi mj mr = (zCall 111 [.int x0, .int x1, .int x2] sh mi mj mr).bind fun r => zRun 125 67 L (r.1.toList ++ S) r.2.1 r.2.2.1 r.2.2.2.1 r.2.2.2.2 := zr_S (zD_of zk_125 d_125_64 rfl rfl) rfl zk_111 rfl rfl rfl hS
theorem q_125_67  : zRun 125 67 L (.int x :: S) sh mi mj mr = if ¬ x = 0 then zRun 125 76 L S sh mi mj mr else zRun 125 70 L S sh mi mj mr := zr_if (off := 9) (P := ¬ x = 0) (zD_of zk_125 d_125_67 rfl rfl) rfl rfl (by decide)
theorem q_125_70 : zRun 125 70 [l0, some (.int x), l2] S sh mi mj mr = zRun 125 71 [l0, some (.int x), l2] (.int x :: S) sh mi mj mr := zr_l (zD_of zk_125 d_125_70 rfl rfl) rfl rfl rfl
theorem q_125_71  : zRun 125 71 L S sh mi mj mr = zRun 125 73 L (.int 12 :: S) sh mi mj mr := zr_p (zD_of zk_125 d_125_71 rfl rfl) rfl
theorem q_125_73  : zRun 125 73 L (.int y :: .int x :: S) sh mi mj mr = if x ≤ y then zRun 125 80 L S sh mi mj mr else zRun 125 76 L S sh mi mj mr := zr_if (off := 7) (P := x ≤ y) (zD_of zk_125 d_125_73 rfl rfl) rfl rfl (by decide)
theorem q_125_76  : zRun 125 76 L S sh mi mj mr = zRun 125 77 L (.int 1 :: S) sh mi mj mr := zr_p (zD_of zk_125 d_125_76 rfl rfl) rfl
theorem q_125_77  : zRun 125 77 L S sh mi mj mr = zRun 125 81 L S sh mi mj mr := zr_go (off := 4) (zD_of zk_125 d_125_77 rfl rfl) rfl rfl (by decide)
theorem q_125_80  : zRun 125 80 L S sh mi mj mr = zRun 125 81 L (.int 0 :: S) sh mi mj mr := zr_p (zD_of zk_125 d_125_80 rfl rfl) rfl
theorem q_125_81 : zRun 125 81 [l0, l1, l2] (.int x :: S) sh mi mj mr = zRun 125 82 [l0, zk2 l1, some (.int x)] S sh mi mj mr := zr_s1 (i := 2) (v := .int x) (L := [l0, l1, l2]) (zD_of zk_125 d_125_81 rfl rfl) rfl rfl rfl rfl
theorem q_125_82 : zRun 125 82 [l0, l1, some (.int x)] S sh mi mj mr = zRun 125 83 [l0, l1, some (.int x)] (.int x :: S) sh mi mj mr := zr_l (zD_of zk_125 d_125_82 rfl rfl) rfl rfl rfl
theorem q_125_83  : zRun 125 83 L (.int x :: S) sh mi mj mr = if x = 0 then zRun 125 91 L S sh mi mj mr else zRun 125 86 L S sh mi mj mr := zr_if (off := 8) (P := x = 0) (zD_of zk_125 d_125_83 rfl rfl) rfl rfl (by decide)
theorem q_125_86  : zRun 125 86 L S sh mi mj mr = zRun 125 88 L (.int (-6) :: S) sh mi mj mr := zr_p (zD_of zk_125 d_125_86 rfl rfl) rfl
theorem q_125_88  : zRun 125 88 L S sh mi mj mr = zRun 125 95 L S sh mi mj mr := zr_go (off := 7) (zD_of zk_125 d_125_88 rfl rfl) rfl rfl (by decide)
theorem q_125_91r : zRun 125 91 [some (.ref o), l1, l2] S sh mi mj mr = zRun 125 92 [some (.ref o), l1, l2] (.ref o :: S) sh mi mj mr := zr_l (zD_of zk_125 d_125_91 rfl rfl) rfl rfl rfl
theorem q_125_91n : zRun 125 91 [some (.null), l1, l2] S sh mi mj mr = zRun 125 92 [some (.null), l1, l2] (.null :: S) sh mi mj mr := zr_l (zD_of zk_125 d_125_91 rfl rfl) rfl rfl rfl
theorem q_125_92 (h : zIs sh o 0 8) : zRun 125 92 L (.ref o :: S) sh mi mj mr = zRun 125 95 L (.int (mi o 4) :: S) sh mi mj mr := zr_getI (zD_of zk_125 d_125_92 rfl rfl) rfl rfl (Or.inl rfl) h
theorem q_125_95  : zRun 125 95 L ([.int x]) sh mi mj mr = some (some (.int x), sh, mi, mj, mr) := zr_ret (zD_of zk_125 d_125_95 rfl rfl) rfl rfl rfl rfl rfl (if_pos rfl)
theorem e_125 : zCall 125 [.ref o] sh mi mj mr = zRun 125 0 [some (.ref o), none, none] [] sh mi mj mr := rfl
theorem d_126_0 : decode cX8_addStep 0 = .ok (.aload_n 0, 1) := by decide +kernel
theorem d_126_1 : decode cX8_addStep 1 = .ok (.getfield 7, 3) := by decide +kernel
theorem d_126_4 : decode cX8_addStep 4 = .ok (.bipush 9, 2) := by decide +kernel
theorem d_126_6 : decode cX8_addStep 6 = .ok (.aload_n 0, 1) := by decide +kernel
theorem d_126_7 : decode cX8_addStep 7 = .ok (.getfield 110, 3) := by decide +kernel
theorem d_126_10 : decode cX8_addStep 10 = .ok (.iadd, 1) := by decide +kernel
theorem d_126_11 : decode cX8_addStep 11 = .ok (.iaload, 1) := by decide +kernel
theorem d_126_12 : decode cX8_addStep 12 = .ok (.istore_n 3, 1) := by decide +kernel
theorem d_126_13 : decode cX8_addStep 13 = .ok (.aload_n 0, 1) := by decide +kernel
theorem d_126_14 : decode cX8_addStep 14 = .ok (.getfield 7, 3) := by decide +kernel
theorem d_126_17 : decode cX8_addStep 17 = .ok (.bipush 13, 2) := by decide +kernel
theorem d_126_19 : decode cX8_addStep 19 = .ok (.bipush 60, 2) := by decide +kernel
theorem d_126_21 : decode cX8_addStep 21 = .ok (.aload_n 0, 1) := by decide +kernel
theorem d_126_22 : decode cX8_addStep 22 = .ok (.getfield 110, 3) := by decide +kernel
theorem d_126_25 : decode cX8_addStep 25 = .ok (.imul, 1) := by decide +kernel
theorem d_126_26 : decode cX8_addStep 26 = .ok (.iadd, 1) := by decide +kernel
theorem d_126_27 : decode cX8_addStep 27 = .ok (.iload_n 3, 1) := by decide +kernel
theorem d_126_28 : decode cX8_addStep 28 = .ok (.iadd, 1) := by decide +kernel
theorem d_126_29 : decode cX8_addStep 29 = .ok (.iload_n 1, 1) := by decide +kernel
theorem d_126_30 : decode cX8_addStep 30 = .ok (.iastore, 1) := by decide +kernel
theorem d_126_31 : decode cX8_addStep 31 = .ok (.aload_n 0, 1) := by decide +kernel
theorem d_126_32 : decode cX8_addStep 32 = .ok (.getfield 7, 3) := by decide +kernel
theorem d_126_35 : decode cX8_addStep 35 = .ok (.sipush 253, 3) := by decide +kernel
theorem d_126_38 : decode cX8_addStep 38 = .ok (.bipush 60, 2) := by decide +kernel
theorem d_126_40 : decode cX8_addStep 40 = .ok (.aload_n 0, 1) := by decide +kernel
theorem d_126_41 : decode cX8_addStep 41 = .ok (.getfield 110, 3) := by decide +kernel
theorem d_126_44 : decode cX8_addStep 44 = .ok (.imul, 1) := by decide +kernel
theorem d_126_45 : decode cX8_addStep 45 = .ok (.iadd, 1) := by decide +kernel
theorem d_126_46 : decode cX8_addStep 46 = .ok (.iload_n 3, 1) := by decide +kernel
theorem d_126_47 : decode cX8_addStep 47 = .ok (.iadd, 1) := by decide +kernel
theorem d_126_48 : decode cX8_addStep 48 = .ok (.iload_n 2, 1) := by decide +kernel
theorem d_126_49 : decode cX8_addStep 49 = .ok (.iastore, 1) := by decide +kernel
theorem d_126_50 : decode cX8_addStep 50 = .ok (.aload_n 0, 1) := by decide +kernel
theorem d_126_51 : decode cX8_addStep 51 = .ok (.getfield 7, 3) := by decide +kernel
theorem d_126_54 : decode cX8_addStep 54 = .ok (.bipush 9, 2) := by decide +kernel
theorem d_126_56 : decode cX8_addStep 56 = .ok (.aload_n 0, 1) := by decide +kernel
theorem d_126_57 : decode cX8_addStep 57 = .ok (.getfield 110, 3) := by decide +kernel
theorem d_126_60 : decode cX8_addStep 60 = .ok (.iadd, 1) := by decide +kernel
theorem d_126_61 : decode cX8_addStep 61 = .ok (.dup2, 1) := by decide +kernel
theorem d_126_62 : decode cX8_addStep 62 = .ok (.iaload, 1) := by decide +kernel
theorem d_126_63 : decode cX8_addStep 63 = .ok (.iconst 1, 1) := by decide +kernel
theorem d_126_64 : decode cX8_addStep 64 = .ok (.iadd, 1) := by decide +kernel
theorem d_126_65 : decode cX8_addStep 65 = .ok (.iastore, 1) := by decide +kernel
theorem d_126_66 : decode cX8_addStep 66 = .ok (.return_, 1) := by decide +kernel
theorem q_126_0r : zRun 126 0 [some (.ref o), l1, l2, l3] S sh mi mj mr = zRun 126 1 [some (.ref o), l1, l2, l3] (.ref o :: S) sh mi mj mr := zr_l (zD_of zk_126 d_126_0 rfl rfl) rfl rfl rfl
theorem q_126_0n : zRun 126 0 [some (.null), l1, l2, l3] S sh mi mj mr = zRun 126 1 [some (.null), l1, l2, l3] (.null :: S) sh mi mj mr := zr_l (zD_of zk_126 d_126_0 rfl rfl) rfl rfl rfl
theorem q_126_1 (h : zIs sh o 0 8) : zRun 126 1 L (.ref o :: S) sh mi mj mr = zRun 126 4 L (va_rf (mr o 0) :: S) sh mi mj mr := zr_getR (zD_of zk_126 d_126_1 rfl rfl) rfl rfl rfl h
theorem q_126_4  : zRun 126 4 L S sh mi mj mr = zRun 126 6 L (.int 9 :: S) sh mi mj mr := zr_p (zD_of zk_126 d_126_4 rfl rfl) rfl
theorem q_126_6r : zRun 126 6 [some (.ref o), l1, l2, l3] S sh mi mj mr = zRun 126 7 [some (.ref o), l1, l2, l3] (.ref o :: S) sh mi mj mr := zr_l (zD_of zk_126 d_126_6 rfl rfl) rfl rfl rfl
theorem q_126_6n : zRun 126 6 [some (.null), l1, l2, l3] S sh mi mj mr = zRun 126 7 [some (.null), l1, l2, l3] (.null :: S) sh mi mj mr := zr_l (zD_of zk_126 d_126_6 rfl rfl) rfl rfl rfl
theorem q_126_7 (h : zIs sh o 0 8) : zRun 126 7 L (.ref o :: S) sh mi mj mr = zRun 126 10 L (.int (mi o 9) :: S) sh mi mj mr := zr_getI (zD_of zk_126 d_126_7 rfl rfl) rfl rfl (Or.inl rfl) h
theorem q_126_10  : zRun 126 10 L (.int y :: .int x :: S) sh mi mj mr = zRun 126 11 L (.int (x + y) :: S) sh mi mj mr := zr_p (zD_of zk_126 d_126_10 rfl rfl) rfl
theorem q_126_11 (h : zAt sh o 1 x) : zRun 126 11 L (.int x :: .ref o :: S) sh mi mj mr = zRun 126 12 L (.int (mi o x.toNatClampNeg) :: S) sh mi mj mr := zr_iald (zD_of zk_126 d_126_11 rfl rfl) h
theorem q_126_12 : zRun 126 12 [l0, l1, l2, l3] (.int x :: S) sh mi mj mr = zRun 126 13 [l0, l1, zk2 l2, some (.int x)] S sh mi mj mr := zr_s1 (i := 3) (v := .int x) (L := [l0, l1, l2, l3]) (zD_of zk_126 d_126_12 rfl rfl) rfl rfl rfl rfl
theorem q_126_13r : zRun 126 13 [some (.ref o), l1, l2, l3] S sh mi mj mr = zRun 126 14 [some (.ref o), l1, l2, l3] (.ref o :: S) sh mi mj mr := zr_l (zD_of zk_126 d_126_13 rfl rfl) rfl rfl rfl
theorem q_126_13n : zRun 126 13 [some (.null), l1, l2, l3] S sh mi mj mr = zRun 126 14 [some (.null), l1, l2, l3] (.null :: S) sh mi mj mr := zr_l (zD_of zk_126 d_126_13 rfl rfl) rfl rfl rfl
theorem q_126_14 (h : zIs sh o 0 8) : zRun 126 14 L (.ref o :: S) sh mi mj mr = zRun 126 17 L (va_rf (mr o 0) :: S) sh mi mj mr := zr_getR (zD_of zk_126 d_126_14 rfl rfl) rfl rfl rfl h
theorem q_126_17  : zRun 126 17 L S sh mi mj mr = zRun 126 19 L (.int 13 :: S) sh mi mj mr := zr_p (zD_of zk_126 d_126_17 rfl rfl) rfl
theorem q_126_19  : zRun 126 19 L S sh mi mj mr = zRun 126 21 L (.int 60 :: S) sh mi mj mr := zr_p (zD_of zk_126 d_126_19 rfl rfl) rfl
theorem q_126_21r : zRun 126 21 [some (.ref o), l1, l2, l3] S sh mi mj mr = zRun 126 22 [some (.ref o), l1, l2, l3] (.ref o :: S) sh mi mj mr := zr_l (zD_of zk_126 d_126_21 rfl rfl) rfl rfl rfl
theorem q_126_21n : zRun 126 21 [some (.null), l1, l2, l3] S sh mi mj mr = zRun 126 22 [some (.null), l1, l2, l3] (.null :: S) sh mi mj mr := zr_l (zD_of zk_126 d_126_21 rfl rfl) rfl rfl rfl
theorem q_126_22 (h : zIs sh o 0 8) : zRun 126 22 L (.ref o :: S) sh mi mj mr = zRun 126 25 L (.int (mi o 9) :: S) sh mi mj mr := zr_getI (zD_of zk_126 d_126_22 rfl rfl) rfl rfl (Or.inl rfl) h
theorem q_126_25  : zRun 126 25 L (.int y :: .int x :: S) sh mi mj mr = zRun 126 26 L (.int (x * y) :: S) sh mi mj mr := zr_p (zD_of zk_126 d_126_25 rfl rfl) rfl
theorem q_126_26  : zRun 126 26 L (.int y :: .int x :: S) sh mi mj mr = zRun 126 27 L (.int (x + y) :: S) sh mi mj mr := zr_p (zD_of zk_126 d_126_26 rfl rfl) rfl
theorem q_126_27 : zRun 126 27 [l0, l1, l2, some (.int x)] S sh mi mj mr = zRun 126 28 [l0, l1, l2, some (.int x)] (.int x :: S) sh mi mj mr := zr_l (zD_of zk_126 d_126_27 rfl rfl) rfl rfl rfl
theorem q_126_28  : zRun 126 28 L (.int y :: .int x :: S) sh mi mj mr = zRun 126 29 L (.int (x + y) :: S) sh mi mj mr := zr_p (zD_of zk_126 d_126_28 rfl rfl) rfl
theorem q_126_29 : zRun 126 29 [l0, some (.int x), l2, l3] S sh mi mj mr = zRun 126 30 [l0, some (.int x), l2, l3] (.int x :: S) sh mi mj mr := zr_l (zD_of zk_126 d_126_29 rfl rfl) rfl rfl rfl
theorem q_126_30 (h : zAt sh o 1 x) : zRun 126 30 L (.int y :: .int x :: .ref o :: S) sh mi mj mr = zRun 126 31 L S sh (zup mi o x.toNatClampNeg y) mj mr := zr_iast (zD_of zk_126 d_126_30 rfl rfl) h
theorem q_126_31r : zRun 126 31 [some (.ref o), l1, l2, l3] S sh mi mj mr = zRun 126 32 [some (.ref o), l1, l2, l3] (.ref o :: S) sh mi mj mr := zr_l (zD_of zk_126 d_126_31 rfl rfl) rfl rfl rfl
theorem q_126_31n : zRun 126 31 [some (.null), l1, l2, l3] S sh mi mj mr = zRun 126 32 [some (.null), l1, l2, l3] (.null :: S) sh mi mj mr := zr_l (zD_of zk_126 d_126_31 rfl rfl) rfl rfl rfl
theorem q_126_32 (h : zIs sh o 0 8) : zRun 126 32 L (.ref o :: S) sh mi mj mr = zRun 126 35 L (va_rf (mr o 0) :: S) sh mi mj mr := zr_getR (zD_of zk_126 d_126_32 rfl rfl) rfl rfl rfl h
theorem q_126_35  : zRun 126 35 L S sh mi mj mr = zRun 126 38 L (.int 253 :: S) sh mi mj mr := zr_p (zD_of zk_126 d_126_35 rfl rfl) rfl
theorem q_126_38  : zRun 126 38 L S sh mi mj mr = zRun 126 40 L (.int 60 :: S) sh mi mj mr := zr_p (zD_of zk_126 d_126_38 rfl rfl) rfl
theorem q_126_40r : zRun 126 40 [some (.ref o), l1, l2, l3] S sh mi mj mr = zRun 126 41 [some (.ref o), l1, l2, l3] (.ref o :: S) sh mi mj mr := zr_l (zD_of zk_126 d_126_40 rfl rfl) rfl rfl rfl
theorem q_126_40n : zRun 126 40 [some (.null), l1, l2, l3] S sh mi mj mr = zRun 126 41 [some (.null), l1, l2, l3] (.null :: S) sh mi mj mr := zr_l (zD_of zk_126 d_126_40 rfl rfl) rfl rfl rfl
theorem q_126_41 (h : zIs sh o 0 8) : zRun 126 41 L (.ref o :: S) sh mi mj mr = zRun 126 44 L (.int (mi o 9) :: S) sh mi mj mr := zr_getI (zD_of zk_126 d_126_41 rfl rfl) rfl rfl (Or.inl rfl) h
theorem q_126_44  : zRun 126 44 L (.int y :: .int x :: S) sh mi mj mr = zRun 126 45 L (.int (x * y) :: S) sh mi mj mr := zr_p (zD_of zk_126 d_126_44 rfl rfl) rfl
theorem q_126_45  : zRun 126 45 L (.int y :: .int x :: S) sh mi mj mr = zRun 126 46 L (.int (x + y) :: S) sh mi mj mr := zr_p (zD_of zk_126 d_126_45 rfl rfl) rfl
theorem q_126_46 : zRun 126 46 [l0, l1, l2, some (.int x)] S sh mi mj mr = zRun 126 47 [l0, l1, l2, some (.int x)] (.int x :: S) sh mi mj mr := zr_l (zD_of zk_126 d_126_46 rfl rfl) rfl rfl rfl
theorem q_126_47  : zRun 126 47 L (.int y :: .int x :: S) sh mi mj mr = zRun 126 48 L (.int (x + y) :: S) sh mi mj mr := zr_p (zD_of zk_126 d_126_47 rfl rfl) rfl
theorem q_126_48 : zRun 126 48 [l0, l1, some (.int x), l3] S sh mi mj mr = zRun 126 49 [l0, l1, some (.int x), l3] (.int x :: S) sh mi mj mr := zr_l (zD_of zk_126 d_126_48 rfl rfl) rfl rfl rfl
theorem q_126_49 (h : zAt sh o 1 x) : zRun 126 49 L (.int y :: .int x :: .ref o :: S) sh mi mj mr = zRun 126 50 L S sh (zup mi o x.toNatClampNeg y) mj mr := zr_iast (zD_of zk_126 d_126_49 rfl rfl) h
theorem q_126_50r : zRun 126 50 [some (.ref o), l1, l2, l3] S sh mi mj mr = zRun 126 51 [some (.ref o), l1, l2, l3] (.ref o :: S) sh mi mj mr := zr_l (zD_of zk_126 d_126_50 rfl rfl) rfl rfl rfl
theorem q_126_50n : zRun 126 50 [some (.null), l1, l2, l3] S sh mi mj mr = zRun 126 51 [some (.null), l1, l2, l3] (.null :: S) sh mi mj mr := zr_l (zD_of zk_126 d_126_50 rfl rfl) rfl rfl rfl
theorem q_126_51 (h : zIs sh o 0 8) : zRun 126 51 L (.ref o :: S) sh mi mj mr = zRun 126 54 L (va_rf (mr o 0) :: S) sh mi mj mr := zr_getR (zD_of zk_126 d_126_51 rfl rfl) rfl rfl rfl h
theorem q_126_54  : zRun 126 54 L S sh mi mj mr = zRun 126 56 L (.int 9 :: S) sh mi mj mr := zr_p (zD_of zk_126 d_126_54 rfl rfl) rfl
theorem q_126_56r : zRun 126 56 [some (.ref o), l1, l2, l3] S sh mi mj mr = zRun 126 57 [some (.ref o), l1, l2, l3] (.ref o :: S) sh mi mj mr := zr_l (zD_of zk_126 d_126_56 rfl rfl) rfl rfl rfl
theorem q_126_56n : zRun 126 56 [some (.null), l1, l2, l3] S sh mi mj mr = zRun 126 57 [some (.null), l1, l2, l3] (.null :: S) sh mi mj mr := zr_l (zD_of zk_126 d_126_56 rfl rfl) rfl rfl rfl
theorem q_126_57 (h : zIs sh o 0 8) : zRun 126 57 L (.ref o :: S) sh mi mj mr = zRun 126 60 L (.int (mi o 9) :: S) sh mi mj mr := zr_getI (zD_of zk_126 d_126_57 rfl rfl) rfl rfl (Or.inl rfl) h
theorem q_126_60  : zRun 126 60 L (.int y :: .int x :: S) sh mi mj mr = zRun 126 61 L (.int (x + y) :: S) sh mi mj mr := zr_p (zD_of zk_126 d_126_60 rfl rfl) rfl
theorem q_126_61  : zRun 126 61 L (.int x :: .ref o :: S) sh mi mj mr = zRun 126 62 L (.int x :: .ref o :: .int x :: .ref o :: S) sh mi mj mr := zr_p (zD_of zk_126 d_126_61 rfl rfl) rfl
theorem q_126_62 (h : zAt sh o 1 x) : zRun 126 62 L (.int x :: .ref o :: S) sh mi mj mr = zRun 126 63 L (.int (mi o x.toNatClampNeg) :: S) sh mi mj mr := zr_iald (zD_of zk_126 d_126_62 rfl rfl) h
theorem q_126_63  : zRun 126 63 L S sh mi mj mr = zRun 126 64 L (.int 1 :: S) sh mi mj mr := zr_p (zD_of zk_126 d_126_63 rfl rfl) rfl
theorem q_126_64  : zRun 126 64 L (.int y :: .int x :: S) sh mi mj mr = zRun 126 65 L (.int (x + y) :: S) sh mi mj mr := zr_p (zD_of zk_126 d_126_64 rfl rfl) rfl
theorem q_126_65 (h : zAt sh o 1 x) : zRun 126 65 L (.int y :: .int x :: .ref o :: S) sh mi mj mr = zRun 126 66 L S sh (zup mi o x.toNatClampNeg y) mj mr := zr_iast (zD_of zk_126 d_126_65 rfl rfl) h
theorem q_126_66  : zRun 126 66 L [] sh mi mj mr = some (none, sh, mi, mj, mr) := zr_ret (zD_of zk_126 d_126_66 rfl rfl) rfl rfl rfl rfl rfl rfl
theorem e_126 {x0 x1 : Int32} : zCall 126 [.ref o, .int x0, .int x1] sh mi mj mr = zRun 126 0 [some (.ref o), some (.int x0), some (.int x1), none] [] sh mi mj mr := rfl
theorem d_127_0 : decode cX8_strength 0 = .ok (.iload_n 0, 1) := by decide +kernel
theorem d_127_1 : decode cX8_strength 1 = .ok (.iconst 5, 1) := by decide +kernel
theorem d_127_2 : decode cX8_strength 2 = .ok (.if_icmp .eq 9, 3) := by decide +kernel
theorem d_127_5 : decode cX8_strength 5 = .ok (.iload_n 0, 1) := by decide +kernel
theorem d_127_6 : decode cX8_strength 6 = .ok (.bipush 6, 2) := by decide +kernel
theorem d_127_8 : decode cX8_strength 8 = .ok (.if_icmp .ne 7, 3) := by decide +kernel
theorem d_127_11 : decode cX8_strength 11 = .ok (.iconst 1, 1) := by decide +kernel
theorem d_127_12 : decode cX8_strength 12 = .ok (.goto 30, 3) := by decide +kernel
theorem d_127_15 : decode cX8_strength 15 = .ok (.iload_n 0, 1) := by decide +kernel
theorem d_127_16 : decode cX8_strength 16 = .ok (.bipush 7, 2) := by decide +kernel
theorem d_127_18 : decode cX8_strength 18 = .ok (.if_icmp .ne 7, 3) := by decide +kernel
theorem d_127_21 : decode cX8_strength 21 = .ok (.iconst 2, 1) := by decide +kernel
theorem d_127_22 : decode cX8_strength 22 = .ok (.goto 20, 3) := by decide +kernel
theorem d_127_25 : decode cX8_strength 25 = .ok (.iload_n 0, 1) := by decide +kernel
theorem d_127_26 : decode cX8_strength 26 = .ok (.bipush 9, 2) := by decide +kernel
theorem d_127_28 : decode cX8_strength 28 = .ok (.if_icmp .eq 9, 3) := by decide +kernel
theorem d_127_31 : decode cX8_strength 31 = .ok (.iload_n 0, 1) := by decide +kernel
theorem d_127_32 : decode cX8_strength 32 = .ok (.bipush 11, 2) := by decide +kernel
theorem d_127_34 : decode cX8_strength 34 = .ok (.if_icmp .ne 7, 3) := by decide +kernel
theorem d_127_37 : decode cX8_strength 37 = .ok (.iconst 3, 1) := by decide +kernel
theorem d_127_38 : decode cX8_strength 38 = .ok (.goto 4, 3) := by decide +kernel
theorem d_127_41 : decode cX8_strength 41 = .ok (.iconst 0, 1) := by decide +kernel
theorem d_127_42 : decode cX8_strength 42 = .ok (.ireturn, 1) := by decide +kernel
theorem q_127_0 : zRun 127 0 [some (.int x)] S sh mi mj mr = zRun 127 1 [some (.int x)] (.int x :: S) sh mi mj mr := zr_l (zD_of zk_127 d_127_0 rfl rfl) rfl rfl rfl
theorem q_127_1  : zRun 127 1 L S sh mi mj mr = zRun 127 2 L (.int 5 :: S) sh mi mj mr := zr_p (zD_of zk_127 d_127_1 rfl rfl) rfl
theorem q_127_2  : zRun 127 2 L (.int y :: .int x :: S) sh mi mj mr = if x = y then zRun 127 11 L S sh mi mj mr else zRun 127 5 L S sh mi mj mr := zr_if (off := 9) (P := x = y) (zD_of zk_127 d_127_2 rfl rfl) rfl rfl (by decide)
theorem q_127_5 : zRun 127 5 [some (.int x)] S sh mi mj mr = zRun 127 6 [some (.int x)] (.int x :: S) sh mi mj mr := zr_l (zD_of zk_127 d_127_5 rfl rfl) rfl rfl rfl
theorem q_127_6  : zRun 127 6 L S sh mi mj mr = zRun 127 8 L (.int 6 :: S) sh mi mj mr := zr_p (zD_of zk_127 d_127_6 rfl rfl) rfl
theorem q_127_8  : zRun 127 8 L (.int y :: .int x :: S) sh mi mj mr = if ¬ x = y then zRun 127 15 L S sh mi mj mr else zRun 127 11 L S sh mi mj mr := zr_if (off := 7) (P := ¬ x = y) (zD_of zk_127 d_127_8 rfl rfl) rfl rfl (by decide)
theorem q_127_11  : zRun 127 11 L S sh mi mj mr = zRun 127 12 L (.int 1 :: S) sh mi mj mr := zr_p (zD_of zk_127 d_127_11 rfl rfl) rfl
theorem q_127_12  : zRun 127 12 L S sh mi mj mr = zRun 127 42 L S sh mi mj mr := zr_go (off := 30) (zD_of zk_127 d_127_12 rfl rfl) rfl rfl (by decide)
theorem q_127_15 : zRun 127 15 [some (.int x)] S sh mi mj mr = zRun 127 16 [some (.int x)] (.int x :: S) sh mi mj mr := zr_l (zD_of zk_127 d_127_15 rfl rfl) rfl rfl rfl
theorem q_127_16  : zRun 127 16 L S sh mi mj mr = zRun 127 18 L (.int 7 :: S) sh mi mj mr := zr_p (zD_of zk_127 d_127_16 rfl rfl) rfl
theorem q_127_18  : zRun 127 18 L (.int y :: .int x :: S) sh mi mj mr = if ¬ x = y then zRun 127 25 L S sh mi mj mr else zRun 127 21 L S sh mi mj mr := zr_if (off := 7) (P := ¬ x = y) (zD_of zk_127 d_127_18 rfl rfl) rfl rfl (by decide)
theorem q_127_21  : zRun 127 21 L S sh mi mj mr = zRun 127 22 L (.int 2 :: S) sh mi mj mr := zr_p (zD_of zk_127 d_127_21 rfl rfl) rfl
theorem q_127_22  : zRun 127 22 L S sh mi mj mr = zRun 127 42 L S sh mi mj mr := zr_go (off := 20) (zD_of zk_127 d_127_22 rfl rfl) rfl rfl (by decide)
theorem q_127_25 : zRun 127 25 [some (.int x)] S sh mi mj mr = zRun 127 26 [some (.int x)] (.int x :: S) sh mi mj mr := zr_l (zD_of zk_127 d_127_25 rfl rfl) rfl rfl rfl
theorem q_127_26  : zRun 127 26 L S sh mi mj mr = zRun 127 28 L (.int 9 :: S) sh mi mj mr := zr_p (zD_of zk_127 d_127_26 rfl rfl) rfl
theorem q_127_28  : zRun 127 28 L (.int y :: .int x :: S) sh mi mj mr = if x = y then zRun 127 37 L S sh mi mj mr else zRun 127 31 L S sh mi mj mr := zr_if (off := 9) (P := x = y) (zD_of zk_127 d_127_28 rfl rfl) rfl rfl (by decide)
theorem q_127_31 : zRun 127 31 [some (.int x)] S sh mi mj mr = zRun 127 32 [some (.int x)] (.int x :: S) sh mi mj mr := zr_l (zD_of zk_127 d_127_31 rfl rfl) rfl rfl rfl
theorem q_127_32  : zRun 127 32 L S sh mi mj mr = zRun 127 34 L (.int 11 :: S) sh mi mj mr := zr_p (zD_of zk_127 d_127_32 rfl rfl) rfl
theorem q_127_34  : zRun 127 34 L (.int y :: .int x :: S) sh mi mj mr = if ¬ x = y then zRun 127 41 L S sh mi mj mr else zRun 127 37 L S sh mi mj mr := zr_if (off := 7) (P := ¬ x = y) (zD_of zk_127 d_127_34 rfl rfl) rfl rfl (by decide)
theorem q_127_37  : zRun 127 37 L S sh mi mj mr = zRun 127 38 L (.int 3 :: S) sh mi mj mr := zr_p (zD_of zk_127 d_127_37 rfl rfl) rfl
theorem q_127_38  : zRun 127 38 L S sh mi mj mr = zRun 127 42 L S sh mi mj mr := zr_go (off := 4) (zD_of zk_127 d_127_38 rfl rfl) rfl rfl (by decide)
theorem q_127_41  : zRun 127 41 L S sh mi mj mr = zRun 127 42 L (.int 0 :: S) sh mi mj mr := zr_p (zD_of zk_127 d_127_41 rfl rfl) rfl
theorem q_127_42  : zRun 127 42 L ([.int x]) sh mi mj mr = some (some (.int x), sh, mi, mj, mr) := zr_ret (zD_of zk_127 d_127_42 rfl rfl) rfl rfl rfl rfl rfl (if_pos rfl)
theorem e_127 {x0 : Int32} : zCall 127 [.int x0] sh mi mj mr = zRun 127 0 [some (.int x0)] [] sh mi mj mr := rfl
theorem d_128_0 : decode cX8_release 0 = .ok (.aload_n 0, 1) := by decide +kernel
theorem d_128_1 : decode cX8_release 1 = .ok (.getfield 113, 3) := by decide +kernel
theorem d_128_4 : decode cX8_release 4 = .ok (.ifCond .le 48, 3) := by decide +kernel
theorem d_128_7 : decode cX8_release 7 = .ok (.aload_n 0, 1) := by decide +kernel
theorem d_128_8 : decode cX8_release 8 = .ok (.getfield 26, 3) := by decide +kernel
theorem d_128_11 : decode cX8_release 11 = .ok (.aload_n 0, 1) := by decide +kernel
theorem d_128_12 : decode cX8_release 12 = .ok (.getfield 113, 3) := by decide +kernel
theorem d_128_15 : decode cX8_release 15 = .ok (.iconst 1, 1) := by decide +kernel
theorem d_128_16 : decode cX8_release 16 = .ok (.isub, 1) := by decide +kernel
theorem d_128_17 : decode cX8_release 17 = .ok (.iaload, 1) := by decide +kernel
theorem d_128_18 : decode cX8_release 18 = .ok (.invokestatic 116, 3) := by decide +kernel
theorem d_128_21 : decode cX8_release 21 = .ok (.iload_n 1, 1) := by decide +kernel
theorem d_128_22 : decode cX8_release 22 = .ok (.if_icmp .lt 30, 3) := by decide +kernel
theorem d_128_25 : decode cX8_release 25 = .ok (.aload_n 0, 1) := by decide +kernel
theorem d_128_26 : decode cX8_release 26 = .ok (.dup, 1) := by decide +kernel
theorem d_128_27 : decode cX8_release 27 = .ok (.getfield 113, 3) := by decide +kernel
theorem d_128_30 : decode cX8_release 30 = .ok (.iconst 1, 1) := by decide +kernel
theorem d_128_31 : decode cX8_release 31 = .ok (.isub, 1) := by decide +kernel
theorem d_128_32 : decode cX8_release 32 = .ok (.putfield 113, 3) := by decide +kernel
theorem d_128_35 : decode cX8_release 35 = .ok (.aload_n 0, 1) := by decide +kernel
theorem d_128_36 : decode cX8_release 36 = .ok (.aload_n 0, 1) := by decide +kernel
theorem d_128_37 : decode cX8_release 37 = .ok (.getfield 26, 3) := by decide +kernel
theorem d_128_40 : decode cX8_release 40 = .ok (.aload_n 0, 1) := by decide +kernel
theorem d_128_41 : decode cX8_release 41 = .ok (.getfield 113, 3) := by decide +kernel
theorem d_128_44 : decode cX8_release 44 = .ok (.iaload, 1) := by decide +kernel
theorem d_128_45 : decode cX8_release 45 = .ok (.iconst 0, 1) := by decide +kernel
theorem d_128_46 : decode cX8_release 46 = .ok (.invokevirtual 119, 3) := by decide +kernel
theorem d_128_49 : decode cX8_release 49 = .ok (.goto (-49), 3) := by decide +kernel
theorem d_128_52 : decode cX8_release 52 = .ok (.return_, 1) := by decide +kernel
theorem q_128_0r : zRun 128 0 [some (.ref o), l1] S sh mi mj mr = zRun 128 1 [some (.ref o), l1] (.ref o :: S) sh mi mj mr := zr_l (zD_of zk_128 d_128_0 rfl rfl) rfl rfl rfl
theorem q_128_0n : zRun 128 0 [some (.null), l1] S sh mi mj mr = zRun 128 1 [some (.null), l1] (.null :: S) sh mi mj mr := zr_l (zD_of zk_128 d_128_0 rfl rfl) rfl rfl rfl
theorem q_128_1 (h : zIs sh o 0 8) : zRun 128 1 L (.ref o :: S) sh mi mj mr = zRun 128 4 L (.int (mi o 8) :: S) sh mi mj mr := zr_getI (zD_of zk_128 d_128_1 rfl rfl) rfl rfl (Or.inl rfl) h
theorem q_128_4  : zRun 128 4 L (.int x :: S) sh mi mj mr = if x ≤ 0 then zRun 128 52 L S sh mi mj mr else zRun 128 7 L S sh mi mj mr := zr_if (off := 48) (P := x ≤ 0) (zD_of zk_128 d_128_4 rfl rfl) rfl rfl (by decide)
theorem q_128_7r : zRun 128 7 [some (.ref o), l1] S sh mi mj mr = zRun 128 8 [some (.ref o), l1] (.ref o :: S) sh mi mj mr := zr_l (zD_of zk_128 d_128_7 rfl rfl) rfl rfl rfl
theorem q_128_7n : zRun 128 7 [some (.null), l1] S sh mi mj mr = zRun 128 8 [some (.null), l1] (.null :: S) sh mi mj mr := zr_l (zD_of zk_128 d_128_7 rfl rfl) rfl rfl rfl
theorem q_128_8 (h : zIs sh o 0 8) : zRun 128 8 L (.ref o :: S) sh mi mj mr = zRun 128 11 L (va_rf (mr o 7) :: S) sh mi mj mr := zr_getR (zD_of zk_128 d_128_8 rfl rfl) rfl rfl rfl h
theorem q_128_11r : zRun 128 11 [some (.ref o), l1] S sh mi mj mr = zRun 128 12 [some (.ref o), l1] (.ref o :: S) sh mi mj mr := zr_l (zD_of zk_128 d_128_11 rfl rfl) rfl rfl rfl
theorem q_128_11n : zRun 128 11 [some (.null), l1] S sh mi mj mr = zRun 128 12 [some (.null), l1] (.null :: S) sh mi mj mr := zr_l (zD_of zk_128 d_128_11 rfl rfl) rfl rfl rfl
theorem q_128_12 (h : zIs sh o 0 8) : zRun 128 12 L (.ref o :: S) sh mi mj mr = zRun 128 15 L (.int (mi o 8) :: S) sh mi mj mr := zr_getI (zD_of zk_128 d_128_12 rfl rfl) rfl rfl (Or.inl rfl) h
theorem q_128_15  : zRun 128 15 L S sh mi mj mr = zRun 128 16 L (.int 1 :: S) sh mi mj mr := zr_p (zD_of zk_128 d_128_15 rfl rfl) rfl
theorem q_128_16  : zRun 128 16 L (.int y :: .int x :: S) sh mi mj mr = zRun 128 17 L (.int (x - y) :: S) sh mi mj mr := zr_p (zD_of zk_128 d_128_16 rfl rfl) rfl
theorem q_128_17 (h : zAt sh o 1 x) : zRun 128 17 L (.int x :: .ref o :: S) sh mi mj mr = zRun 128 18 L (.int (mi o x.toNatClampNeg) :: S) sh mi mj mr := zr_iald (zD_of zk_128 d_128_17 rfl rfl) h
theorem q_128_18  {x0 : Int32} (hS : zcat S ≤ 8) : zRun 128 18 L (.int x0 :: S) sh mi mj mr = (zCall 127 [.int x0] sh mi mj mr).bind fun r => zRun 128 21 L (r.1.toList ++ S) r.2.1 r.2.2.1 r.2.2.2.1 r.2.2.2.2 := zr_S (zD_of zk_128 d_128_18 rfl rfl) rfl zk_127 rfl rfl rfl hS
theorem q_128_21 : zRun 128 21 [l0, some (.int x)] S sh mi mj mr = zRun 128 22 [l0, some (.int x)] (.int x :: S) sh mi mj mr := zr_l (zD_of zk_128 d_128_21 rfl rfl) rfl rfl rfl
theorem q_128_22  : zRun 128 22 L (.int y :: .int x :: S) sh mi mj mr = if x < y then zRun 128 52 L S sh mi mj mr else zRun 128 25 L S sh mi mj mr := zr_if (off := 30) (P := x < y) (zD_of zk_128 d_128_22 rfl rfl) rfl rfl (by decide)
theorem q_128_25r : zRun 128 25 [some (.ref o), l1] S sh mi mj mr = zRun 128 26 [some (.ref o), l1] (.ref o :: S) sh mi mj mr := zr_l (zD_of zk_128 d_128_25 rfl rfl) rfl rfl rfl
theorem q_128_25n : zRun 128 25 [some (.null), l1] S sh mi mj mr = zRun 128 26 [some (.null), l1] (.null :: S) sh mi mj mr := zr_l (zD_of zk_128 d_128_25 rfl rfl) rfl rfl rfl
theorem q_128_26r : zRun 128 26 L (.ref o :: S) sh mi mj mr = zRun 128 27 L (.ref o :: .ref o :: S) sh mi mj mr := zr_p (zD_of zk_128 d_128_26 rfl rfl) rfl
theorem q_128_26i : zRun 128 26 L (.int x :: S) sh mi mj mr = zRun 128 27 L (.int x :: .int x :: S) sh mi mj mr := zr_p (zD_of zk_128 d_128_26 rfl rfl) rfl
theorem q_128_27 (h : zIs sh o 0 8) : zRun 128 27 L (.ref o :: S) sh mi mj mr = zRun 128 30 L (.int (mi o 8) :: S) sh mi mj mr := zr_getI (zD_of zk_128 d_128_27 rfl rfl) rfl rfl (Or.inl rfl) h
theorem q_128_30  : zRun 128 30 L S sh mi mj mr = zRun 128 31 L (.int 1 :: S) sh mi mj mr := zr_p (zD_of zk_128 d_128_30 rfl rfl) rfl
theorem q_128_31  : zRun 128 31 L (.int y :: .int x :: S) sh mi mj mr = zRun 128 32 L (.int (x - y) :: S) sh mi mj mr := zr_p (zD_of zk_128 d_128_31 rfl rfl) rfl
theorem q_128_32 (h : zIs sh o 0 8) : zRun 128 32 L (.int x :: .ref o :: S) sh mi mj mr = zRun 128 35 L S sh (zup mi o 8 x) mj mr := zr_putI (zD_of zk_128 d_128_32 rfl rfl) rfl rfl rfl (Or.inl rfl) h
theorem q_128_35r : zRun 128 35 [some (.ref o), l1] S sh mi mj mr = zRun 128 36 [some (.ref o), l1] (.ref o :: S) sh mi mj mr := zr_l (zD_of zk_128 d_128_35 rfl rfl) rfl rfl rfl
theorem q_128_35n : zRun 128 35 [some (.null), l1] S sh mi mj mr = zRun 128 36 [some (.null), l1] (.null :: S) sh mi mj mr := zr_l (zD_of zk_128 d_128_35 rfl rfl) rfl rfl rfl
theorem q_128_36r : zRun 128 36 [some (.ref o), l1] S sh mi mj mr = zRun 128 37 [some (.ref o), l1] (.ref o :: S) sh mi mj mr := zr_l (zD_of zk_128 d_128_36 rfl rfl) rfl rfl rfl
theorem q_128_36n : zRun 128 36 [some (.null), l1] S sh mi mj mr = zRun 128 37 [some (.null), l1] (.null :: S) sh mi mj mr := zr_l (zD_of zk_128 d_128_36 rfl rfl) rfl rfl rfl
theorem q_128_37 (h : zIs sh o 0 8) : zRun 128 37 L (.ref o :: S) sh mi mj mr = zRun 128 40 L (va_rf (mr o 7) :: S) sh mi mj mr := zr_getR (zD_of zk_128 d_128_37 rfl rfl) rfl rfl rfl h
theorem q_128_40r : zRun 128 40 [some (.ref o), l1] S sh mi mj mr = zRun 128 41 [some (.ref o), l1] (.ref o :: S) sh mi mj mr := zr_l (zD_of zk_128 d_128_40 rfl rfl) rfl rfl rfl
theorem q_128_40n : zRun 128 40 [some (.null), l1] S sh mi mj mr = zRun 128 41 [some (.null), l1] (.null :: S) sh mi mj mr := zr_l (zD_of zk_128 d_128_40 rfl rfl) rfl rfl rfl
theorem q_128_41 (h : zIs sh o 0 8) : zRun 128 41 L (.ref o :: S) sh mi mj mr = zRun 128 44 L (.int (mi o 8) :: S) sh mi mj mr := zr_getI (zD_of zk_128 d_128_41 rfl rfl) rfl rfl (Or.inl rfl) h
theorem q_128_44 (h : zAt sh o 1 x) : zRun 128 44 L (.int x :: .ref o :: S) sh mi mj mr = zRun 128 45 L (.int (mi o x.toNatClampNeg) :: S) sh mi mj mr := zr_iald (zD_of zk_128 d_128_44 rfl rfl) h
theorem q_128_45  : zRun 128 45 L S sh mi mj mr = zRun 128 46 L (.int 0 :: S) sh mi mj mr := zr_p (zD_of zk_128 d_128_45 rfl rfl) rfl
theorem q_128_46  {x0 x1 : Int32} (hS : zcat S ≤ 8) (h : zIs sh o 0 8) : zRun 128 46 L (.int x1 :: .int x0 :: .ref o :: S) sh mi mj mr = (zCall 126 [.ref o, .int x0, .int x1] sh mi mj mr).bind fun r => zRun 128 49 L (r.1.toList ++ S) r.2.1 r.2.2.1 r.2.2.2.1 r.2.2.2.2 := zr_V (zD_of zk_128 d_128_46 rfl rfl) rfl zk_126 rfl rfl rfl hS h
theorem q_128_49  : zRun 128 49 L S sh mi mj mr = zRun 128 0 L S sh mi mj mr := zr_go (off := (-49)) (zD_of zk_128 d_128_49 rfl rfl) rfl rfl (by decide)
theorem q_128_52  : zRun 128 52 L [] sh mi mj mr = some (none, sh, mi, mj, mr) := zr_ret (zD_of zk_128 d_128_52 rfl rfl) rfl rfl rfl rfl rfl rfl
theorem e_128 {x0 : Int32} : zCall 128 [.ref o, .int x0] sh mi mj mr = zRun 128 0 [some (.ref o), some (.int x0)] [] sh mi mj mr := rfl
theorem d_129_0 : decode cX8_hold 0 = .ok (.aload_n 0, 1) := by decide +kernel
theorem d_129_1 : decode cX8_hold 1 = .ok (.getfield 26, 3) := by decide +kernel
theorem d_129_4 : decode cX8_hold 4 = .ok (.aload_n 0, 1) := by decide +kernel
theorem d_129_5 : decode cX8_hold 5 = .ok (.getfield 113, 3) := by decide +kernel
theorem d_129_8 : decode cX8_hold 8 = .ok (.iload_n 1, 1) := by decide +kernel
theorem d_129_9 : decode cX8_hold 9 = .ok (.iastore, 1) := by decide +kernel
theorem d_129_10 : decode cX8_hold 10 = .ok (.aload_n 0, 1) := by decide +kernel
theorem d_129_11 : decode cX8_hold 11 = .ok (.dup, 1) := by decide +kernel
theorem d_129_12 : decode cX8_hold 12 = .ok (.getfield 113, 3) := by decide +kernel
theorem d_129_15 : decode cX8_hold 15 = .ok (.iconst 1, 1) := by decide +kernel
theorem d_129_16 : decode cX8_hold 16 = .ok (.iadd, 1) := by decide +kernel
theorem d_129_17 : decode cX8_hold 17 = .ok (.putfield 113, 3) := by decide +kernel
theorem d_129_20 : decode cX8_hold 20 = .ok (.return_, 1) := by decide +kernel
theorem q_129_0r : zRun 129 0 [some (.ref o), l1] S sh mi mj mr = zRun 129 1 [some (.ref o), l1] (.ref o :: S) sh mi mj mr := zr_l (zD_of zk_129 d_129_0 rfl rfl) rfl rfl rfl
theorem q_129_0n : zRun 129 0 [some (.null), l1] S sh mi mj mr = zRun 129 1 [some (.null), l1] (.null :: S) sh mi mj mr := zr_l (zD_of zk_129 d_129_0 rfl rfl) rfl rfl rfl
theorem q_129_1 (h : zIs sh o 0 8) : zRun 129 1 L (.ref o :: S) sh mi mj mr = zRun 129 4 L (va_rf (mr o 7) :: S) sh mi mj mr := zr_getR (zD_of zk_129 d_129_1 rfl rfl) rfl rfl rfl h
theorem q_129_4r : zRun 129 4 [some (.ref o), l1] S sh mi mj mr = zRun 129 5 [some (.ref o), l1] (.ref o :: S) sh mi mj mr := zr_l (zD_of zk_129 d_129_4 rfl rfl) rfl rfl rfl
theorem q_129_4n : zRun 129 4 [some (.null), l1] S sh mi mj mr = zRun 129 5 [some (.null), l1] (.null :: S) sh mi mj mr := zr_l (zD_of zk_129 d_129_4 rfl rfl) rfl rfl rfl
theorem q_129_5 (h : zIs sh o 0 8) : zRun 129 5 L (.ref o :: S) sh mi mj mr = zRun 129 8 L (.int (mi o 8) :: S) sh mi mj mr := zr_getI (zD_of zk_129 d_129_5 rfl rfl) rfl rfl (Or.inl rfl) h
theorem q_129_8 : zRun 129 8 [l0, some (.int x)] S sh mi mj mr = zRun 129 9 [l0, some (.int x)] (.int x :: S) sh mi mj mr := zr_l (zD_of zk_129 d_129_8 rfl rfl) rfl rfl rfl
theorem q_129_9 (h : zAt sh o 1 x) : zRun 129 9 L (.int y :: .int x :: .ref o :: S) sh mi mj mr = zRun 129 10 L S sh (zup mi o x.toNatClampNeg y) mj mr := zr_iast (zD_of zk_129 d_129_9 rfl rfl) h
theorem q_129_10r : zRun 129 10 [some (.ref o), l1] S sh mi mj mr = zRun 129 11 [some (.ref o), l1] (.ref o :: S) sh mi mj mr := zr_l (zD_of zk_129 d_129_10 rfl rfl) rfl rfl rfl
theorem q_129_10n : zRun 129 10 [some (.null), l1] S sh mi mj mr = zRun 129 11 [some (.null), l1] (.null :: S) sh mi mj mr := zr_l (zD_of zk_129 d_129_10 rfl rfl) rfl rfl rfl
theorem q_129_11r : zRun 129 11 L (.ref o :: S) sh mi mj mr = zRun 129 12 L (.ref o :: .ref o :: S) sh mi mj mr := zr_p (zD_of zk_129 d_129_11 rfl rfl) rfl
theorem q_129_11i : zRun 129 11 L (.int x :: S) sh mi mj mr = zRun 129 12 L (.int x :: .int x :: S) sh mi mj mr := zr_p (zD_of zk_129 d_129_11 rfl rfl) rfl
theorem q_129_12 (h : zIs sh o 0 8) : zRun 129 12 L (.ref o :: S) sh mi mj mr = zRun 129 15 L (.int (mi o 8) :: S) sh mi mj mr := zr_getI (zD_of zk_129 d_129_12 rfl rfl) rfl rfl (Or.inl rfl) h
theorem q_129_15  : zRun 129 15 L S sh mi mj mr = zRun 129 16 L (.int 1 :: S) sh mi mj mr := zr_p (zD_of zk_129 d_129_15 rfl rfl) rfl
theorem q_129_16  : zRun 129 16 L (.int y :: .int x :: S) sh mi mj mr = zRun 129 17 L (.int (x + y) :: S) sh mi mj mr := zr_p (zD_of zk_129 d_129_16 rfl rfl) rfl
theorem q_129_17 (h : zIs sh o 0 8) : zRun 129 17 L (.int x :: .ref o :: S) sh mi mj mr = zRun 129 20 L S sh (zup mi o 8 x) mj mr := zr_putI (zD_of zk_129 d_129_17 rfl rfl) rfl rfl rfl (Or.inl rfl) h
theorem q_129_20  : zRun 129 20 L [] sh mi mj mr = some (none, sh, mi, mj, mr) := zr_ret (zD_of zk_129 d_129_20 rfl rfl) rfl rfl rfl rfl rfl rfl
theorem e_129 {x0 : Int32} : zCall 129 [.ref o, .int x0] sh mi mj mr = zRun 129 0 [some (.ref o), some (.int x0)] [] sh mi mj mr := rfl
theorem d_130_0 : decode cX8_power 0 = .ok (.iload_n 1, 1) := by decide +kernel
theorem d_130_1 : decode cX8_power 1 = .ok (.bipush 51, 2) := by decide +kernel
theorem d_130_3 : decode cX8_power 3 = .ok (.if_icmp .ne 10, 3) := by decide +kernel
theorem d_130_6 : decode cX8_power 6 = .ok (.aload_n 0, 1) := by decide +kernel
theorem d_130_7 : decode cX8_power 7 = .ok (.bipush 8, 2) := by decide +kernel
theorem d_130_9 : decode cX8_power 9 = .ok (.iconst 0, 1) := by decide +kernel
theorem d_130_10 : decode cX8_power 10 = .ok (.invokevirtual 119, 3) := by decide +kernel
theorem d_130_13 : decode cX8_power 13 = .ok (.aload_n 0, 1) := by decide +kernel
theorem d_130_14 : decode cX8_power 14 = .ok (.bipush 10, 2) := by decide +kernel
theorem d_130_16 : decode cX8_power 16 = .ok (.iconst 0, 1) := by decide +kernel
theorem d_130_17 : decode cX8_power 17 = .ok (.invokevirtual 119, 3) := by decide +kernel
theorem d_130_20 : decode cX8_power 20 = .ok (.iload_n 1, 1) := by decide +kernel
theorem d_130_21 : decode cX8_power 21 = .ok (.bipush 51, 2) := by decide +kernel
theorem d_130_23 : decode cX8_power 23 = .ok (.if_icmp .ne 13, 3) := by decide +kernel
theorem d_130_26 : decode cX8_power 26 = .ok (.aload_n 0, 1) := by decide +kernel
theorem d_130_27 : decode cX8_power 27 = .ok (.bipush 9, 2) := by decide +kernel
theorem d_130_29 : decode cX8_power 29 = .ok (.iconst 0, 1) := by decide +kernel
theorem d_130_30 : decode cX8_power 30 = .ok (.invokevirtual 119, 3) := by decide +kernel
theorem d_130_33 : decode cX8_power 33 = .ok (.goto 16, 3) := by decide +kernel
theorem d_130_36 : decode cX8_power 36 = .ok (.iload_n 1, 1) := by decide +kernel
theorem d_130_37 : decode cX8_power 37 = .ok (.bipush 52, 2) := by decide +kernel
theorem d_130_39 : decode cX8_power 39 = .ok (.if_icmp .ne 10, 3) := by decide +kernel
theorem d_130_42 : decode cX8_power 42 = .ok (.aload_n 0, 1) := by decide +kernel
theorem d_130_43 : decode cX8_power 43 = .ok (.bipush 10, 2) := by decide +kernel
theorem d_130_45 : decode cX8_power 45 = .ok (.iconst 0, 1) := by decide +kernel
theorem d_130_46 : decode cX8_power 46 = .ok (.invokevirtual 119, 3) := by decide +kernel
theorem d_130_49 : decode cX8_power 49 = .ok (.return_, 1) := by decide +kernel
theorem q_130_0 : zRun 130 0 [l0, some (.int x)] S sh mi mj mr = zRun 130 1 [l0, some (.int x)] (.int x :: S) sh mi mj mr := zr_l (zD_of zk_130 d_130_0 rfl rfl) rfl rfl rfl
theorem q_130_1  : zRun 130 1 L S sh mi mj mr = zRun 130 3 L (.int 51 :: S) sh mi mj mr := zr_p (zD_of zk_130 d_130_1 rfl rfl) rfl
theorem q_130_3  : zRun 130 3 L (.int y :: .int x :: S) sh mi mj mr = if ¬ x = y then zRun 130 13 L S sh mi mj mr else zRun 130 6 L S sh mi mj mr := zr_if (off := 10) (P := ¬ x = y) (zD_of zk_130 d_130_3 rfl rfl) rfl rfl (by decide)
theorem q_130_6r : zRun 130 6 [some (.ref o), l1] S sh mi mj mr = zRun 130 7 [some (.ref o), l1] (.ref o :: S) sh mi mj mr := zr_l (zD_of zk_130 d_130_6 rfl rfl) rfl rfl rfl
theorem q_130_6n : zRun 130 6 [some (.null), l1] S sh mi mj mr = zRun 130 7 [some (.null), l1] (.null :: S) sh mi mj mr := zr_l (zD_of zk_130 d_130_6 rfl rfl) rfl rfl rfl
theorem q_130_7  : zRun 130 7 L S sh mi mj mr = zRun 130 9 L (.int 8 :: S) sh mi mj mr := zr_p (zD_of zk_130 d_130_7 rfl rfl) rfl
theorem q_130_9  : zRun 130 9 L S sh mi mj mr = zRun 130 10 L (.int 0 :: S) sh mi mj mr := zr_p (zD_of zk_130 d_130_9 rfl rfl) rfl
theorem q_130_10  {x0 x1 : Int32} (hS : zcat S ≤ 8) (h : zIs sh o 0 8) : zRun 130 10 L (.int x1 :: .int x0 :: .ref o :: S) sh mi mj mr = (zCall 126 [.ref o, .int x0, .int x1] sh mi mj mr).bind fun r => zRun 130 13 L (r.1.toList ++ S) r.2.1 r.2.2.1 r.2.2.2.1 r.2.2.2.2 := zr_V (zD_of zk_130 d_130_10 rfl rfl) rfl zk_126 rfl rfl rfl hS h
theorem q_130_13r : zRun 130 13 [some (.ref o), l1] S sh mi mj mr = zRun 130 14 [some (.ref o), l1] (.ref o :: S) sh mi mj mr := zr_l (zD_of zk_130 d_130_13 rfl rfl) rfl rfl rfl
theorem q_130_13n : zRun 130 13 [some (.null), l1] S sh mi mj mr = zRun 130 14 [some (.null), l1] (.null :: S) sh mi mj mr := zr_l (zD_of zk_130 d_130_13 rfl rfl) rfl rfl rfl
theorem q_130_14  : zRun 130 14 L S sh mi mj mr = zRun 130 16 L (.int 10 :: S) sh mi mj mr := zr_p (zD_of zk_130 d_130_14 rfl rfl) rfl
theorem q_130_16  : zRun 130 16 L S sh mi mj mr = zRun 130 17 L (.int 0 :: S) sh mi mj mr := zr_p (zD_of zk_130 d_130_16 rfl rfl) rfl
theorem q_130_17  {x0 x1 : Int32} (hS : zcat S ≤ 8) (h : zIs sh o 0 8) : zRun 130 17 L (.int x1 :: .int x0 :: .ref o :: S) sh mi mj mr = (zCall 126 [.ref o, .int x0, .int x1] sh mi mj mr).bind fun r => zRun 130 20 L (r.1.toList ++ S) r.2.1 r.2.2.1 r.2.2.2.1 r.2.2.2.2 := zr_V (zD_of zk_130 d_130_17 rfl rfl) rfl zk_126 rfl rfl rfl hS h
theorem q_130_20 : zRun 130 20 [l0, some (.int x)] S sh mi mj mr = zRun 130 21 [l0, some (.int x)] (.int x :: S) sh mi mj mr := zr_l (zD_of zk_130 d_130_20 rfl rfl) rfl rfl rfl
theorem q_130_21  : zRun 130 21 L S sh mi mj mr = zRun 130 23 L (.int 51 :: S) sh mi mj mr := zr_p (zD_of zk_130 d_130_21 rfl rfl) rfl
theorem q_130_23  : zRun 130 23 L (.int y :: .int x :: S) sh mi mj mr = if ¬ x = y then zRun 130 36 L S sh mi mj mr else zRun 130 26 L S sh mi mj mr := zr_if (off := 13) (P := ¬ x = y) (zD_of zk_130 d_130_23 rfl rfl) rfl rfl (by decide)
theorem q_130_26r : zRun 130 26 [some (.ref o), l1] S sh mi mj mr = zRun 130 27 [some (.ref o), l1] (.ref o :: S) sh mi mj mr := zr_l (zD_of zk_130 d_130_26 rfl rfl) rfl rfl rfl
theorem q_130_26n : zRun 130 26 [some (.null), l1] S sh mi mj mr = zRun 130 27 [some (.null), l1] (.null :: S) sh mi mj mr := zr_l (zD_of zk_130 d_130_26 rfl rfl) rfl rfl rfl
theorem q_130_27  : zRun 130 27 L S sh mi mj mr = zRun 130 29 L (.int 9 :: S) sh mi mj mr := zr_p (zD_of zk_130 d_130_27 rfl rfl) rfl
theorem q_130_29  : zRun 130 29 L S sh mi mj mr = zRun 130 30 L (.int 0 :: S) sh mi mj mr := zr_p (zD_of zk_130 d_130_29 rfl rfl) rfl
theorem q_130_30  {x0 x1 : Int32} (hS : zcat S ≤ 8) (h : zIs sh o 0 8) : zRun 130 30 L (.int x1 :: .int x0 :: .ref o :: S) sh mi mj mr = (zCall 126 [.ref o, .int x0, .int x1] sh mi mj mr).bind fun r => zRun 130 33 L (r.1.toList ++ S) r.2.1 r.2.2.1 r.2.2.2.1 r.2.2.2.2 := zr_V (zD_of zk_130 d_130_30 rfl rfl) rfl zk_126 rfl rfl rfl hS h
theorem q_130_33  : zRun 130 33 L S sh mi mj mr = zRun 130 49 L S sh mi mj mr := zr_go (off := 16) (zD_of zk_130 d_130_33 rfl rfl) rfl rfl (by decide)
theorem q_130_36 : zRun 130 36 [l0, some (.int x)] S sh mi mj mr = zRun 130 37 [l0, some (.int x)] (.int x :: S) sh mi mj mr := zr_l (zD_of zk_130 d_130_36 rfl rfl) rfl rfl rfl
theorem q_130_37  : zRun 130 37 L S sh mi mj mr = zRun 130 39 L (.int 52 :: S) sh mi mj mr := zr_p (zD_of zk_130 d_130_37 rfl rfl) rfl
theorem q_130_39  : zRun 130 39 L (.int y :: .int x :: S) sh mi mj mr = if ¬ x = y then zRun 130 49 L S sh mi mj mr else zRun 130 42 L S sh mi mj mr := zr_if (off := 10) (P := ¬ x = y) (zD_of zk_130 d_130_39 rfl rfl) rfl rfl (by decide)
theorem q_130_42r : zRun 130 42 [some (.ref o), l1] S sh mi mj mr = zRun 130 43 [some (.ref o), l1] (.ref o :: S) sh mi mj mr := zr_l (zD_of zk_130 d_130_42 rfl rfl) rfl rfl rfl
theorem q_130_42n : zRun 130 42 [some (.null), l1] S sh mi mj mr = zRun 130 43 [some (.null), l1] (.null :: S) sh mi mj mr := zr_l (zD_of zk_130 d_130_42 rfl rfl) rfl rfl rfl
theorem q_130_43  : zRun 130 43 L S sh mi mj mr = zRun 130 45 L (.int 10 :: S) sh mi mj mr := zr_p (zD_of zk_130 d_130_43 rfl rfl) rfl
theorem q_130_45  : zRun 130 45 L S sh mi mj mr = zRun 130 46 L (.int 0 :: S) sh mi mj mr := zr_p (zD_of zk_130 d_130_45 rfl rfl) rfl
theorem q_130_46  {x0 x1 : Int32} (hS : zcat S ≤ 8) (h : zIs sh o 0 8) : zRun 130 46 L (.int x1 :: .int x0 :: .ref o :: S) sh mi mj mr = (zCall 126 [.ref o, .int x0, .int x1] sh mi mj mr).bind fun r => zRun 130 49 L (r.1.toList ++ S) r.2.1 r.2.2.1 r.2.2.2.1 r.2.2.2.2 := zr_V (zD_of zk_130 d_130_46 rfl rfl) rfl zk_126 rfl rfl rfl hS h
theorem q_130_49  : zRun 130 49 L [] sh mi mj mr = some (none, sh, mi, mj, mr) := zr_ret (zD_of zk_130 d_130_49 rfl rfl) rfl rfl rfl rfl rfl rfl
theorem e_130 {x0 : Int32} : zCall 130 [.ref o, .int x0] sh mi mj mr = zRun 130 0 [some (.ref o), some (.int x0)] [] sh mi mj mr := rfl
theorem d_131_0 : decode cX8_functionOf 0 = .ok (.iload_n 0, 1) := by decide +kernel
theorem d_131_1 : decode cX8_functionOf 1 = .ok (.bipush 65, 2) := by decide +kernel
theorem d_131_3 : decode cX8_functionOf 3 = .ok (.if_icmp .ne 8, 3) := by decide +kernel
theorem d_131_6 : decode cX8_functionOf 6 = .ok (.bipush 12, 2) := by decide +kernel
theorem d_131_8 : decode cX8_functionOf 8 = .ok (.goto 27, 3) := by decide +kernel
theorem d_131_11 : decode cX8_functionOf 11 = .ok (.iload_n 0, 1) := by decide +kernel
theorem d_131_12 : decode cX8_functionOf 12 = .ok (.bipush 82, 2) := by decide +kernel
theorem d_131_14 : decode cX8_functionOf 14 = .ok (.if_icmp .ne 8, 3) := by decide +kernel
theorem d_131_17 : decode cX8_functionOf 17 = .ok (.bipush 13, 2) := by decide +kernel
theorem d_131_19 : decode cX8_functionOf 19 = .ok (.goto 16, 3) := by decide +kernel
theorem d_131_22 : decode cX8_functionOf 22 = .ok (.iload_n 0, 1) := by decide +kernel
theorem d_131_23 : decode cX8_functionOf 23 = .ok (.bipush 76, 2) := by decide +kernel
theorem d_131_25 : decode cX8_functionOf 25 = .ok (.if_icmp .ne 8, 3) := by decide +kernel
theorem d_131_28 : decode cX8_functionOf 28 = .ok (.bipush 14, 2) := by decide +kernel
theorem d_131_30 : decode cX8_functionOf 30 = .ok (.goto 5, 3) := by decide +kernel
theorem d_131_33 : decode cX8_functionOf 33 = .ok (.bipush 15, 2) := by decide +kernel
theorem d_131_35 : decode cX8_functionOf 35 = .ok (.ireturn, 1) := by decide +kernel
theorem q_131_0 : zRun 131 0 [some (.int x)] S sh mi mj mr = zRun 131 1 [some (.int x)] (.int x :: S) sh mi mj mr := zr_l (zD_of zk_131 d_131_0 rfl rfl) rfl rfl rfl
theorem q_131_1  : zRun 131 1 L S sh mi mj mr = zRun 131 3 L (.int 65 :: S) sh mi mj mr := zr_p (zD_of zk_131 d_131_1 rfl rfl) rfl
theorem q_131_3  : zRun 131 3 L (.int y :: .int x :: S) sh mi mj mr = if ¬ x = y then zRun 131 11 L S sh mi mj mr else zRun 131 6 L S sh mi mj mr := zr_if (off := 8) (P := ¬ x = y) (zD_of zk_131 d_131_3 rfl rfl) rfl rfl (by decide)
theorem q_131_6  : zRun 131 6 L S sh mi mj mr = zRun 131 8 L (.int 12 :: S) sh mi mj mr := zr_p (zD_of zk_131 d_131_6 rfl rfl) rfl
theorem q_131_8  : zRun 131 8 L S sh mi mj mr = zRun 131 35 L S sh mi mj mr := zr_go (off := 27) (zD_of zk_131 d_131_8 rfl rfl) rfl rfl (by decide)
theorem q_131_11 : zRun 131 11 [some (.int x)] S sh mi mj mr = zRun 131 12 [some (.int x)] (.int x :: S) sh mi mj mr := zr_l (zD_of zk_131 d_131_11 rfl rfl) rfl rfl rfl
theorem q_131_12  : zRun 131 12 L S sh mi mj mr = zRun 131 14 L (.int 82 :: S) sh mi mj mr := zr_p (zD_of zk_131 d_131_12 rfl rfl) rfl
theorem q_131_14  : zRun 131 14 L (.int y :: .int x :: S) sh mi mj mr = if ¬ x = y then zRun 131 22 L S sh mi mj mr else zRun 131 17 L S sh mi mj mr := zr_if (off := 8) (P := ¬ x = y) (zD_of zk_131 d_131_14 rfl rfl) rfl rfl (by decide)
theorem q_131_17  : zRun 131 17 L S sh mi mj mr = zRun 131 19 L (.int 13 :: S) sh mi mj mr := zr_p (zD_of zk_131 d_131_17 rfl rfl) rfl
theorem q_131_19  : zRun 131 19 L S sh mi mj mr = zRun 131 35 L S sh mi mj mr := zr_go (off := 16) (zD_of zk_131 d_131_19 rfl rfl) rfl rfl (by decide)
theorem q_131_22 : zRun 131 22 [some (.int x)] S sh mi mj mr = zRun 131 23 [some (.int x)] (.int x :: S) sh mi mj mr := zr_l (zD_of zk_131 d_131_22 rfl rfl) rfl rfl rfl
theorem q_131_23  : zRun 131 23 L S sh mi mj mr = zRun 131 25 L (.int 76 :: S) sh mi mj mr := zr_p (zD_of zk_131 d_131_23 rfl rfl) rfl
theorem q_131_25  : zRun 131 25 L (.int y :: .int x :: S) sh mi mj mr = if ¬ x = y then zRun 131 33 L S sh mi mj mr else zRun 131 28 L S sh mi mj mr := zr_if (off := 8) (P := ¬ x = y) (zD_of zk_131 d_131_25 rfl rfl) rfl rfl (by decide)
theorem q_131_28  : zRun 131 28 L S sh mi mj mr = zRun 131 30 L (.int 14 :: S) sh mi mj mr := zr_p (zD_of zk_131 d_131_28 rfl rfl) rfl
theorem q_131_30  : zRun 131 30 L S sh mi mj mr = zRun 131 35 L S sh mi mj mr := zr_go (off := 5) (zD_of zk_131 d_131_30 rfl rfl) rfl rfl (by decide)
theorem q_131_33  : zRun 131 33 L S sh mi mj mr = zRun 131 35 L (.int 15 :: S) sh mi mj mr := zr_p (zD_of zk_131 d_131_33 rfl rfl) rfl
theorem q_131_35  : zRun 131 35 L ([.int x]) sh mi mj mr = some (some (.int x), sh, mi, mj, mr) := zr_ret (zD_of zk_131 d_131_35 rfl rfl) rfl rfl rfl rfl rfl (if_pos rfl)
theorem e_131 {x0 : Int32} : zCall 131 [.int x0] sh mi mj mr = zRun 131 0 [some (.int x0)] [] sh mi mj mr := rfl
theorem d_132_0 : decode cX8_takeNumber 0 = .ok (.iload_n 1, 1) := by decide +kernel
theorem d_132_1 : decode cX8_takeNumber 1 = .ok (.istore_n 2, 1) := by decide +kernel
theorem d_132_2 : decode cX8_takeNumber 2 = .ok (.iconst 0, 1) := by decide +kernel
theorem d_132_3 : decode cX8_takeNumber 3 = .ok (.istore_n 3, 1) := by decide +kernel
theorem d_132_4 : decode cX8_takeNumber 4 = .ok (.iload_n 2, 1) := by decide +kernel
theorem d_132_5 : decode cX8_takeNumber 5 = .ok (.aload_n 0, 1) := by decide +kernel
theorem d_132_6 : decode cX8_takeNumber 6 = .ok (.getfield 86, 3) := by decide +kernel
theorem d_132_9 : decode cX8_takeNumber 9 = .ok (.if_icmp .ge 36, 3) := by decide +kernel
theorem d_132_12 : decode cX8_takeNumber 12 = .ok (.aload_n 0, 1) := by decide +kernel
theorem d_132_13 : decode cX8_takeNumber 13 = .ok (.getfield 20, 3) := by decide +kernel
theorem d_132_16 : decode cX8_takeNumber 16 = .ok (.iload_n 2, 1) := by decide +kernel
theorem d_132_17 : decode cX8_takeNumber 17 = .ok (.iaload, 1) := by decide +kernel
theorem d_132_18 : decode cX8_takeNumber 18 = .ok (.invokestatic 90, 3) := by decide +kernel
theorem d_132_21 : decode cX8_takeNumber 21 = .ok (.ifCond .eq 24, 3) := by decide +kernel
theorem d_132_24 : decode cX8_takeNumber 24 = .ok (.bipush 10, 2) := by decide +kernel
theorem d_132_26 : decode cX8_takeNumber 26 = .ok (.iload_n 3, 1) := by decide +kernel
theorem d_132_27 : decode cX8_takeNumber 27 = .ok (.imul, 1) := by decide +kernel
theorem d_132_28 : decode cX8_takeNumber 28 = .ok (.aload_n 0, 1) := by decide +kernel
theorem d_132_29 : decode cX8_takeNumber 29 = .ok (.getfield 20, 3) := by decide +kernel
theorem d_132_32 : decode cX8_takeNumber 32 = .ok (.iload_n 2, 1) := by decide +kernel
theorem d_132_33 : decode cX8_takeNumber 33 = .ok (.iaload, 1) := by decide +kernel
theorem d_132_34 : decode cX8_takeNumber 34 = .ok (.iadd, 1) := by decide +kernel
theorem d_132_35 : decode cX8_takeNumber 35 = .ok (.bipush 48, 2) := by decide +kernel
theorem d_132_37 : decode cX8_takeNumber 37 = .ok (.isub, 1) := by decide +kernel
theorem d_132_38 : decode cX8_takeNumber 38 = .ok (.istore_n 3, 1) := by decide +kernel
theorem d_132_39 : decode cX8_takeNumber 39 = .ok (.iinc 2 1, 3) := by decide +kernel
theorem d_132_42 : decode cX8_takeNumber 42 = .ok (.goto (-38), 3) := by decide +kernel
theorem d_132_45 : decode cX8_takeNumber 45 = .ok (.bipush 100, 2) := by decide +kernel
theorem d_132_47 : decode cX8_takeNumber 47 = .ok (.istore 4, 2) := by decide +kernel
theorem d_132_49 : decode cX8_takeNumber 49 = .ok (.iload_n 2, 1) := by decide +kernel
theorem d_132_50 : decode cX8_takeNumber 50 = .ok (.aload_n 0, 1) := by decide +kernel
theorem d_132_51 : decode cX8_takeNumber 51 = .ok (.getfield 86, 3) := by decide +kernel
theorem d_132_54 : decode cX8_takeNumber 54 = .ok (.if_icmp .ge 65, 3) := by decide +kernel
theorem d_132_57 : decode cX8_takeNumber 57 = .ok (.aload_n 0, 1) := by decide +kernel
theorem d_132_58 : decode cX8_takeNumber 58 = .ok (.getfield 20, 3) := by decide +kernel
theorem d_132_61 : decode cX8_takeNumber 61 = .ok (.iload_n 2, 1) := by decide +kernel
theorem d_132_62 : decode cX8_takeNumber 62 = .ok (.iaload, 1) := by decide +kernel
theorem d_132_63 : decode cX8_takeNumber 63 = .ok (.bipush 46, 2) := by decide +kernel
theorem d_132_65 : decode cX8_takeNumber 65 = .ok (.if_icmp .ne 54, 3) := by decide +kernel
theorem d_132_68 : decode cX8_takeNumber 68 = .ok (.iinc 2 1, 3) := by decide +kernel
theorem d_132_71 : decode cX8_takeNumber 71 = .ok (.iload_n 2, 1) := by decide +kernel
theorem d_132_72 : decode cX8_takeNumber 72 = .ok (.aload_n 0, 1) := by decide +kernel
theorem d_132_73 : decode cX8_takeNumber 73 = .ok (.getfield 86, 3) := by decide +kernel
theorem d_132_76 : decode cX8_takeNumber 76 = .ok (.if_icmp .ge 43, 3) := by decide +kernel
theorem d_132_79 : decode cX8_takeNumber 79 = .ok (.aload_n 0, 1) := by decide +kernel
theorem d_132_80 : decode cX8_takeNumber 80 = .ok (.getfield 20, 3) := by decide +kernel
theorem d_132_83 : decode cX8_takeNumber 83 = .ok (.iload_n 2, 1) := by decide +kernel
theorem d_132_84 : decode cX8_takeNumber 84 = .ok (.iaload, 1) := by decide +kernel
theorem d_132_85 : decode cX8_takeNumber 85 = .ok (.invokestatic 90, 3) := by decide +kernel
theorem d_132_88 : decode cX8_takeNumber 88 = .ok (.ifCond .eq 31, 3) := by decide +kernel
theorem d_132_91 : decode cX8_takeNumber 91 = .ok (.bipush 10, 2) := by decide +kernel
theorem d_132_93 : decode cX8_takeNumber 93 = .ok (.iload_n 3, 1) := by decide +kernel
theorem d_132_94 : decode cX8_takeNumber 94 = .ok (.imul, 1) := by decide +kernel
theorem d_132_95 : decode cX8_takeNumber 95 = .ok (.aload_n 0, 1) := by decide +kernel
theorem d_132_96 : decode cX8_takeNumber 96 = .ok (.getfield 20, 3) := by decide +kernel
theorem d_132_99 : decode cX8_takeNumber 99 = .ok (.iload_n 2, 1) := by decide +kernel
theorem d_132_100 : decode cX8_takeNumber 100 = .ok (.iaload, 1) := by decide +kernel
theorem d_132_101 : decode cX8_takeNumber 101 = .ok (.iadd, 1) := by decide +kernel
theorem d_132_102 : decode cX8_takeNumber 102 = .ok (.bipush 48, 2) := by decide +kernel
theorem d_132_104 : decode cX8_takeNumber 104 = .ok (.isub, 1) := by decide +kernel
theorem d_132_105 : decode cX8_takeNumber 105 = .ok (.istore_n 3, 1) := by decide +kernel
theorem d_132_106 : decode cX8_takeNumber 106 = .ok (.iload 4, 2) := by decide +kernel
theorem d_132_108 : decode cX8_takeNumber 108 = .ok (.bipush 10, 2) := by decide +kernel
theorem d_132_110 : decode cX8_takeNumber 110 = .ok (.idiv, 1) := by decide +kernel
theorem d_132_111 : decode cX8_takeNumber 111 = .ok (.istore 4, 2) := by decide +kernel
theorem d_132_113 : decode cX8_takeNumber 113 = .ok (.iinc 2 1, 3) := by decide +kernel
theorem d_132_116 : decode cX8_takeNumber 116 = .ok (.goto (-45), 3) := by decide +kernel
theorem d_132_119 : decode cX8_takeNumber 119 = .ok (.aload_n 0, 1) := by decide +kernel
theorem d_132_120 : decode cX8_takeNumber 120 = .ok (.iconst 0, 1) := by decide +kernel
theorem d_132_121 : decode cX8_takeNumber 121 = .ok (.iload_n 3, 1) := by decide +kernel
theorem d_132_122 : decode cX8_takeNumber 122 = .ok (.iload 4, 2) := by decide +kernel
theorem d_132_124 : decode cX8_takeNumber 124 = .ok (.imul, 1) := by decide +kernel
theorem d_132_125 : decode cX8_takeNumber 125 = .ok (.invokevirtual 119, 3) := by decide +kernel
theorem d_132_128 : decode cX8_takeNumber 128 = .ok (.iload_n 2, 1) := by decide +kernel
theorem d_132_129 : decode cX8_takeNumber 129 = .ok (.ireturn, 1) := by decide +kernel
theorem q_132_0 : zRun 132 0 [l0, some (.int x), l2, l3, l4] S sh mi mj mr = zRun 132 1 [l0, some (.int x), l2, l3, l4] (.int x :: S) sh mi mj mr := zr_l (zD_of zk_132 d_132_0 rfl rfl) rfl rfl rfl
theorem q_132_1 : zRun 132 1 [l0, l1, l2, l3, l4] (.int x :: S) sh mi mj mr = zRun 132 2 [l0, zk2 l1, some (.int x), l3, l4] S sh mi mj mr := zr_s1 (i := 2) (v := .int x) (L := [l0, l1, l2, l3, l4]) (zD_of zk_132 d_132_1 rfl rfl) rfl rfl rfl rfl
theorem q_132_2  : zRun 132 2 L S sh mi mj mr = zRun 132 3 L (.int 0 :: S) sh mi mj mr := zr_p (zD_of zk_132 d_132_2 rfl rfl) rfl
theorem q_132_3 : zRun 132 3 [l0, l1, l2, l3, l4] (.int x :: S) sh mi mj mr = zRun 132 4 [l0, l1, zk2 l2, some (.int x), l4] S sh mi mj mr := zr_s1 (i := 3) (v := .int x) (L := [l0, l1, l2, l3, l4]) (zD_of zk_132 d_132_3 rfl rfl) rfl rfl rfl rfl
theorem q_132_4 : zRun 132 4 [l0, l1, some (.int x), l3, l4] S sh mi mj mr = zRun 132 5 [l0, l1, some (.int x), l3, l4] (.int x :: S) sh mi mj mr := zr_l (zD_of zk_132 d_132_4 rfl rfl) rfl rfl rfl
theorem q_132_5r : zRun 132 5 [some (.ref o), l1, l2, l3, l4] S sh mi mj mr = zRun 132 6 [some (.ref o), l1, l2, l3, l4] (.ref o :: S) sh mi mj mr := zr_l (zD_of zk_132 d_132_5 rfl rfl) rfl rfl rfl
theorem q_132_5n : zRun 132 5 [some (.null), l1, l2, l3, l4] S sh mi mj mr = zRun 132 6 [some (.null), l1, l2, l3, l4] (.null :: S) sh mi mj mr := zr_l (zD_of zk_132 d_132_5 rfl rfl) rfl rfl rfl
theorem q_132_6 (h : zIs sh o 0 8) : zRun 132 6 L (.ref o :: S) sh mi mj mr = zRun 132 9 L (.int (mi o 4) :: S) sh mi mj mr := zr_getI (zD_of zk_132 d_132_6 rfl rfl) rfl rfl (Or.inl rfl) h
theorem q_132_9  : zRun 132 9 L (.int y :: .int x :: S) sh mi mj mr = if y ≤ x then zRun 132 45 L S sh mi mj mr else zRun 132 12 L S sh mi mj mr := zr_if (off := 36) (P := y ≤ x) (zD_of zk_132 d_132_9 rfl rfl) rfl rfl (by decide)
theorem q_132_12r : zRun 132 12 [some (.ref o), l1, l2, l3, l4] S sh mi mj mr = zRun 132 13 [some (.ref o), l1, l2, l3, l4] (.ref o :: S) sh mi mj mr := zr_l (zD_of zk_132 d_132_12 rfl rfl) rfl rfl rfl
theorem q_132_12n : zRun 132 12 [some (.null), l1, l2, l3, l4] S sh mi mj mr = zRun 132 13 [some (.null), l1, l2, l3, l4] (.null :: S) sh mi mj mr := zr_l (zD_of zk_132 d_132_12 rfl rfl) rfl rfl rfl
theorem q_132_13 (h : zIs sh o 0 8) : zRun 132 13 L (.ref o :: S) sh mi mj mr = zRun 132 16 L (va_rf (mr o 3) :: S) sh mi mj mr := zr_getR (zD_of zk_132 d_132_13 rfl rfl) rfl rfl rfl h
theorem q_132_16 : zRun 132 16 [l0, l1, some (.int x), l3, l4] S sh mi mj mr = zRun 132 17 [l0, l1, some (.int x), l3, l4] (.int x :: S) sh mi mj mr := zr_l (zD_of zk_132 d_132_16 rfl rfl) rfl rfl rfl
theorem q_132_17 (h : zAt sh o 1 x) : zRun 132 17 L (.int x :: .ref o :: S) sh mi mj mr = zRun 132 18 L (.int (mi o x.toNatClampNeg) :: S) sh mi mj mr := zr_iald (zD_of zk_132 d_132_17 rfl rfl) h
theorem q_132_18  {x0 : Int32} (hS : zcat S ≤ 8) : zRun 132 18 L (.int x0 :: S) sh mi mj mr = (zCall 120 [.int x0] sh mi mj mr).bind fun r => zRun 132 21 L (r.1.toList ++ S) r.2.1 r.2.2.1 r.2.2.2.1 r.2.2.2.2 := zr_S (zD_of zk_132 d_132_18 rfl rfl) rfl zk_120 rfl rfl rfl hS
theorem q_132_21  : zRun 132 21 L (.int x :: S) sh mi mj mr = if x = 0 then zRun 132 45 L S sh mi mj mr else zRun 132 24 L S sh mi mj mr := zr_if (off := 24) (P := x = 0) (zD_of zk_132 d_132_21 rfl rfl) rfl rfl (by decide)
theorem q_132_24  : zRun 132 24 L S sh mi mj mr = zRun 132 26 L (.int 10 :: S) sh mi mj mr := zr_p (zD_of zk_132 d_132_24 rfl rfl) rfl
theorem q_132_26 : zRun 132 26 [l0, l1, l2, some (.int x), l4] S sh mi mj mr = zRun 132 27 [l0, l1, l2, some (.int x), l4] (.int x :: S) sh mi mj mr := zr_l (zD_of zk_132 d_132_26 rfl rfl) rfl rfl rfl
theorem q_132_27  : zRun 132 27 L (.int y :: .int x :: S) sh mi mj mr = zRun 132 28 L (.int (x * y) :: S) sh mi mj mr := zr_p (zD_of zk_132 d_132_27 rfl rfl) rfl
theorem q_132_28r : zRun 132 28 [some (.ref o), l1, l2, l3, l4] S sh mi mj mr = zRun 132 29 [some (.ref o), l1, l2, l3, l4] (.ref o :: S) sh mi mj mr := zr_l (zD_of zk_132 d_132_28 rfl rfl) rfl rfl rfl
theorem q_132_28n : zRun 132 28 [some (.null), l1, l2, l3, l4] S sh mi mj mr = zRun 132 29 [some (.null), l1, l2, l3, l4] (.null :: S) sh mi mj mr := zr_l (zD_of zk_132 d_132_28 rfl rfl) rfl rfl rfl
theorem q_132_29 (h : zIs sh o 0 8) : zRun 132 29 L (.ref o :: S) sh mi mj mr = zRun 132 32 L (va_rf (mr o 3) :: S) sh mi mj mr := zr_getR (zD_of zk_132 d_132_29 rfl rfl) rfl rfl rfl h
theorem q_132_32 : zRun 132 32 [l0, l1, some (.int x), l3, l4] S sh mi mj mr = zRun 132 33 [l0, l1, some (.int x), l3, l4] (.int x :: S) sh mi mj mr := zr_l (zD_of zk_132 d_132_32 rfl rfl) rfl rfl rfl
theorem q_132_33 (h : zAt sh o 1 x) : zRun 132 33 L (.int x :: .ref o :: S) sh mi mj mr = zRun 132 34 L (.int (mi o x.toNatClampNeg) :: S) sh mi mj mr := zr_iald (zD_of zk_132 d_132_33 rfl rfl) h
theorem q_132_34  : zRun 132 34 L (.int y :: .int x :: S) sh mi mj mr = zRun 132 35 L (.int (x + y) :: S) sh mi mj mr := zr_p (zD_of zk_132 d_132_34 rfl rfl) rfl
theorem q_132_35  : zRun 132 35 L S sh mi mj mr = zRun 132 37 L (.int 48 :: S) sh mi mj mr := zr_p (zD_of zk_132 d_132_35 rfl rfl) rfl
theorem q_132_37  : zRun 132 37 L (.int y :: .int x :: S) sh mi mj mr = zRun 132 38 L (.int (x - y) :: S) sh mi mj mr := zr_p (zD_of zk_132 d_132_37 rfl rfl) rfl
theorem q_132_38 : zRun 132 38 [l0, l1, l2, l3, l4] (.int x :: S) sh mi mj mr = zRun 132 39 [l0, l1, zk2 l2, some (.int x), l4] S sh mi mj mr := zr_s1 (i := 3) (v := .int x) (L := [l0, l1, l2, l3, l4]) (zD_of zk_132 d_132_38 rfl rfl) rfl rfl rfl rfl
theorem q_132_39  : zRun 132 39 [l0, l1, some (.int x), l3, l4] S sh mi mj mr = zRun 132 42 [l0, zk2 l1, some (.int (x + 1)), l3, l4] S sh mi mj mr := zr_s1 (i := 2) (v := .int (x + 1)) (L := [l0, l1, some (.int x), l3, l4]) (zD_of zk_132 d_132_39 rfl rfl) rfl rfl rfl rfl
theorem q_132_42  : zRun 132 42 L S sh mi mj mr = zRun 132 4 L S sh mi mj mr := zr_go (off := (-38)) (zD_of zk_132 d_132_42 rfl rfl) rfl rfl (by decide)
theorem q_132_45  : zRun 132 45 L S sh mi mj mr = zRun 132 47 L (.int 100 :: S) sh mi mj mr := zr_p (zD_of zk_132 d_132_45 rfl rfl) rfl
theorem q_132_47 : zRun 132 47 [l0, l1, l2, l3, l4] (.int x :: S) sh mi mj mr = zRun 132 49 [l0, l1, l2, zk2 l3, some (.int x)] S sh mi mj mr := zr_s1 (i := 4) (v := .int x) (L := [l0, l1, l2, l3, l4]) (zD_of zk_132 d_132_47 rfl rfl) rfl rfl rfl rfl
theorem q_132_49 : zRun 132 49 [l0, l1, some (.int x), l3, l4] S sh mi mj mr = zRun 132 50 [l0, l1, some (.int x), l3, l4] (.int x :: S) sh mi mj mr := zr_l (zD_of zk_132 d_132_49 rfl rfl) rfl rfl rfl
theorem q_132_50r : zRun 132 50 [some (.ref o), l1, l2, l3, l4] S sh mi mj mr = zRun 132 51 [some (.ref o), l1, l2, l3, l4] (.ref o :: S) sh mi mj mr := zr_l (zD_of zk_132 d_132_50 rfl rfl) rfl rfl rfl
theorem q_132_50n : zRun 132 50 [some (.null), l1, l2, l3, l4] S sh mi mj mr = zRun 132 51 [some (.null), l1, l2, l3, l4] (.null :: S) sh mi mj mr := zr_l (zD_of zk_132 d_132_50 rfl rfl) rfl rfl rfl
theorem q_132_51 (h : zIs sh o 0 8) : zRun 132 51 L (.ref o :: S) sh mi mj mr = zRun 132 54 L (.int (mi o 4) :: S) sh mi mj mr := zr_getI (zD_of zk_132 d_132_51 rfl rfl) rfl rfl (Or.inl rfl) h
theorem q_132_54  : zRun 132 54 L (.int y :: .int x :: S) sh mi mj mr = if y ≤ x then zRun 132 119 L S sh mi mj mr else zRun 132 57 L S sh mi mj mr := zr_if (off := 65) (P := y ≤ x) (zD_of zk_132 d_132_54 rfl rfl) rfl rfl (by decide)
theorem q_132_57r : zRun 132 57 [some (.ref o), l1, l2, l3, l4] S sh mi mj mr = zRun 132 58 [some (.ref o), l1, l2, l3, l4] (.ref o :: S) sh mi mj mr := zr_l (zD_of zk_132 d_132_57 rfl rfl) rfl rfl rfl
theorem q_132_57n : zRun 132 57 [some (.null), l1, l2, l3, l4] S sh mi mj mr = zRun 132 58 [some (.null), l1, l2, l3, l4] (.null :: S) sh mi mj mr := zr_l (zD_of zk_132 d_132_57 rfl rfl) rfl rfl rfl
theorem q_132_58 (h : zIs sh o 0 8) : zRun 132 58 L (.ref o :: S) sh mi mj mr = zRun 132 61 L (va_rf (mr o 3) :: S) sh mi mj mr := zr_getR (zD_of zk_132 d_132_58 rfl rfl) rfl rfl rfl h
theorem q_132_61 : zRun 132 61 [l0, l1, some (.int x), l3, l4] S sh mi mj mr = zRun 132 62 [l0, l1, some (.int x), l3, l4] (.int x :: S) sh mi mj mr := zr_l (zD_of zk_132 d_132_61 rfl rfl) rfl rfl rfl
theorem q_132_62 (h : zAt sh o 1 x) : zRun 132 62 L (.int x :: .ref o :: S) sh mi mj mr = zRun 132 63 L (.int (mi o x.toNatClampNeg) :: S) sh mi mj mr := zr_iald (zD_of zk_132 d_132_62 rfl rfl) h
theorem q_132_63  : zRun 132 63 L S sh mi mj mr = zRun 132 65 L (.int 46 :: S) sh mi mj mr := zr_p (zD_of zk_132 d_132_63 rfl rfl) rfl
theorem q_132_65  : zRun 132 65 L (.int y :: .int x :: S) sh mi mj mr = if ¬ x = y then zRun 132 119 L S sh mi mj mr else zRun 132 68 L S sh mi mj mr := zr_if (off := 54) (P := ¬ x = y) (zD_of zk_132 d_132_65 rfl rfl) rfl rfl (by decide)
theorem q_132_68  : zRun 132 68 [l0, l1, some (.int x), l3, l4] S sh mi mj mr = zRun 132 71 [l0, zk2 l1, some (.int (x + 1)), l3, l4] S sh mi mj mr := zr_s1 (i := 2) (v := .int (x + 1)) (L := [l0, l1, some (.int x), l3, l4]) (zD_of zk_132 d_132_68 rfl rfl) rfl rfl rfl rfl
theorem q_132_71 : zRun 132 71 [l0, l1, some (.int x), l3, l4] S sh mi mj mr = zRun 132 72 [l0, l1, some (.int x), l3, l4] (.int x :: S) sh mi mj mr := zr_l (zD_of zk_132 d_132_71 rfl rfl) rfl rfl rfl
theorem q_132_72r : zRun 132 72 [some (.ref o), l1, l2, l3, l4] S sh mi mj mr = zRun 132 73 [some (.ref o), l1, l2, l3, l4] (.ref o :: S) sh mi mj mr := zr_l (zD_of zk_132 d_132_72 rfl rfl) rfl rfl rfl
theorem q_132_72n : zRun 132 72 [some (.null), l1, l2, l3, l4] S sh mi mj mr = zRun 132 73 [some (.null), l1, l2, l3, l4] (.null :: S) sh mi mj mr := zr_l (zD_of zk_132 d_132_72 rfl rfl) rfl rfl rfl
theorem q_132_73 (h : zIs sh o 0 8) : zRun 132 73 L (.ref o :: S) sh mi mj mr = zRun 132 76 L (.int (mi o 4) :: S) sh mi mj mr := zr_getI (zD_of zk_132 d_132_73 rfl rfl) rfl rfl (Or.inl rfl) h
theorem q_132_76  : zRun 132 76 L (.int y :: .int x :: S) sh mi mj mr = if y ≤ x then zRun 132 119 L S sh mi mj mr else zRun 132 79 L S sh mi mj mr := zr_if (off := 43) (P := y ≤ x) (zD_of zk_132 d_132_76 rfl rfl) rfl rfl (by decide)
theorem q_132_79r : zRun 132 79 [some (.ref o), l1, l2, l3, l4] S sh mi mj mr = zRun 132 80 [some (.ref o), l1, l2, l3, l4] (.ref o :: S) sh mi mj mr := zr_l (zD_of zk_132 d_132_79 rfl rfl) rfl rfl rfl
theorem q_132_79n : zRun 132 79 [some (.null), l1, l2, l3, l4] S sh mi mj mr = zRun 132 80 [some (.null), l1, l2, l3, l4] (.null :: S) sh mi mj mr := zr_l (zD_of zk_132 d_132_79 rfl rfl) rfl rfl rfl
theorem q_132_80 (h : zIs sh o 0 8) : zRun 132 80 L (.ref o :: S) sh mi mj mr = zRun 132 83 L (va_rf (mr o 3) :: S) sh mi mj mr := zr_getR (zD_of zk_132 d_132_80 rfl rfl) rfl rfl rfl h
theorem q_132_83 : zRun 132 83 [l0, l1, some (.int x), l3, l4] S sh mi mj mr = zRun 132 84 [l0, l1, some (.int x), l3, l4] (.int x :: S) sh mi mj mr := zr_l (zD_of zk_132 d_132_83 rfl rfl) rfl rfl rfl
theorem q_132_84 (h : zAt sh o 1 x) : zRun 132 84 L (.int x :: .ref o :: S) sh mi mj mr = zRun 132 85 L (.int (mi o x.toNatClampNeg) :: S) sh mi mj mr := zr_iald (zD_of zk_132 d_132_84 rfl rfl) h
theorem q_132_85  {x0 : Int32} (hS : zcat S ≤ 8) : zRun 132 85 L (.int x0 :: S) sh mi mj mr = (zCall 120 [.int x0] sh mi mj mr).bind fun r => zRun 132 88 L (r.1.toList ++ S) r.2.1 r.2.2.1 r.2.2.2.1 r.2.2.2.2 := zr_S (zD_of zk_132 d_132_85 rfl rfl) rfl zk_120 rfl rfl rfl hS
theorem q_132_88  : zRun 132 88 L (.int x :: S) sh mi mj mr = if x = 0 then zRun 132 119 L S sh mi mj mr else zRun 132 91 L S sh mi mj mr := zr_if (off := 31) (P := x = 0) (zD_of zk_132 d_132_88 rfl rfl) rfl rfl (by decide)
theorem q_132_91  : zRun 132 91 L S sh mi mj mr = zRun 132 93 L (.int 10 :: S) sh mi mj mr := zr_p (zD_of zk_132 d_132_91 rfl rfl) rfl
theorem q_132_93 : zRun 132 93 [l0, l1, l2, some (.int x), l4] S sh mi mj mr = zRun 132 94 [l0, l1, l2, some (.int x), l4] (.int x :: S) sh mi mj mr := zr_l (zD_of zk_132 d_132_93 rfl rfl) rfl rfl rfl
theorem q_132_94  : zRun 132 94 L (.int y :: .int x :: S) sh mi mj mr = zRun 132 95 L (.int (x * y) :: S) sh mi mj mr := zr_p (zD_of zk_132 d_132_94 rfl rfl) rfl
theorem q_132_95r : zRun 132 95 [some (.ref o), l1, l2, l3, l4] S sh mi mj mr = zRun 132 96 [some (.ref o), l1, l2, l3, l4] (.ref o :: S) sh mi mj mr := zr_l (zD_of zk_132 d_132_95 rfl rfl) rfl rfl rfl
theorem q_132_95n : zRun 132 95 [some (.null), l1, l2, l3, l4] S sh mi mj mr = zRun 132 96 [some (.null), l1, l2, l3, l4] (.null :: S) sh mi mj mr := zr_l (zD_of zk_132 d_132_95 rfl rfl) rfl rfl rfl
theorem q_132_96 (h : zIs sh o 0 8) : zRun 132 96 L (.ref o :: S) sh mi mj mr = zRun 132 99 L (va_rf (mr o 3) :: S) sh mi mj mr := zr_getR (zD_of zk_132 d_132_96 rfl rfl) rfl rfl rfl h
theorem q_132_99 : zRun 132 99 [l0, l1, some (.int x), l3, l4] S sh mi mj mr = zRun 132 100 [l0, l1, some (.int x), l3, l4] (.int x :: S) sh mi mj mr := zr_l (zD_of zk_132 d_132_99 rfl rfl) rfl rfl rfl
theorem q_132_100 (h : zAt sh o 1 x) : zRun 132 100 L (.int x :: .ref o :: S) sh mi mj mr = zRun 132 101 L (.int (mi o x.toNatClampNeg) :: S) sh mi mj mr := zr_iald (zD_of zk_132 d_132_100 rfl rfl) h
theorem q_132_101  : zRun 132 101 L (.int y :: .int x :: S) sh mi mj mr = zRun 132 102 L (.int (x + y) :: S) sh mi mj mr := zr_p (zD_of zk_132 d_132_101 rfl rfl) rfl
theorem q_132_102  : zRun 132 102 L S sh mi mj mr = zRun 132 104 L (.int 48 :: S) sh mi mj mr := zr_p (zD_of zk_132 d_132_102 rfl rfl) rfl
theorem q_132_104  : zRun 132 104 L (.int y :: .int x :: S) sh mi mj mr = zRun 132 105 L (.int (x - y) :: S) sh mi mj mr := zr_p (zD_of zk_132 d_132_104 rfl rfl) rfl
theorem q_132_105 : zRun 132 105 [l0, l1, l2, l3, l4] (.int x :: S) sh mi mj mr = zRun 132 106 [l0, l1, zk2 l2, some (.int x), l4] S sh mi mj mr := zr_s1 (i := 3) (v := .int x) (L := [l0, l1, l2, l3, l4]) (zD_of zk_132 d_132_105 rfl rfl) rfl rfl rfl rfl
theorem q_132_106 : zRun 132 106 [l0, l1, l2, l3, some (.int x)] S sh mi mj mr = zRun 132 108 [l0, l1, l2, l3, some (.int x)] (.int x :: S) sh mi mj mr := zr_l (zD_of zk_132 d_132_106 rfl rfl) rfl rfl rfl
theorem q_132_108  : zRun 132 108 L S sh mi mj mr = zRun 132 110 L (.int 10 :: S) sh mi mj mr := zr_p (zD_of zk_132 d_132_108 rfl rfl) rfl
theorem q_132_110 (h : ¬ y = 0) : zRun 132 110 L (.int y :: .int x :: S) sh mi mj mr = zRun 132 111 L (.int (x / y) :: S) sh mi mj mr := zr_p (zD_of zk_132 d_132_110 rfl rfl) (if_neg h)
theorem q_132_111 : zRun 132 111 [l0, l1, l2, l3, l4] (.int x :: S) sh mi mj mr = zRun 132 113 [l0, l1, l2, zk2 l3, some (.int x)] S sh mi mj mr := zr_s1 (i := 4) (v := .int x) (L := [l0, l1, l2, l3, l4]) (zD_of zk_132 d_132_111 rfl rfl) rfl rfl rfl rfl
theorem q_132_113  : zRun 132 113 [l0, l1, some (.int x), l3, l4] S sh mi mj mr = zRun 132 116 [l0, zk2 l1, some (.int (x + 1)), l3, l4] S sh mi mj mr := zr_s1 (i := 2) (v := .int (x + 1)) (L := [l0, l1, some (.int x), l3, l4]) (zD_of zk_132 d_132_113 rfl rfl) rfl rfl rfl rfl
theorem q_132_116  : zRun 132 116 L S sh mi mj mr = zRun 132 71 L S sh mi mj mr := zr_go (off := (-45)) (zD_of zk_132 d_132_116 rfl rfl) rfl rfl (by decide)
theorem q_132_119r : zRun 132 119 [some (.ref o), l1, l2, l3, l4] S sh mi mj mr = zRun 132 120 [some (.ref o), l1, l2, l3, l4] (.ref o :: S) sh mi mj mr := zr_l (zD_of zk_132 d_132_119 rfl rfl) rfl rfl rfl
theorem q_132_119n : zRun 132 119 [some (.null), l1, l2, l3, l4] S sh mi mj mr = zRun 132 120 [some (.null), l1, l2, l3, l4] (.null :: S) sh mi mj mr := zr_l (zD_of zk_132 d_132_119 rfl rfl) rfl rfl rfl
theorem q_132_120  : zRun 132 120 L S sh mi mj mr = zRun 132 121 L (.int 0 :: S) sh mi mj mr := zr_p (zD_of zk_132 d_132_120 rfl rfl) rfl
theorem q_132_121 : zRun 132 121 [l0, l1, l2, some (.int x), l4] S sh mi mj mr = zRun 132 122 [l0, l1, l2, some (.int x), l4] (.int x :: S) sh mi mj mr := zr_l (zD_of zk_132 d_132_121 rfl rfl) rfl rfl rfl
theorem q_132_122 : zRun 132 122 [l0, l1, l2, l3, some (.int x)] S sh mi mj mr = zRun 132 124 [l0, l1, l2, l3, some (.int x)] (.int x :: S) sh mi mj mr := zr_l (zD_of zk_132 d_132_122 rfl rfl) rfl rfl rfl
theorem q_132_124  : zRun 132 124 L (.int y :: .int x :: S) sh mi mj mr = zRun 132 125 L (.int (x * y) :: S) sh mi mj mr := zr_p (zD_of zk_132 d_132_124 rfl rfl) rfl
theorem q_132_125  {x0 x1 : Int32} (hS : zcat S ≤ 8) (h : zIs sh o 0 8) : zRun 132 125 L (.int x1 :: .int x0 :: .ref o :: S) sh mi mj mr = (zCall 126 [.ref o, .int x0, .int x1] sh mi mj mr).bind fun r => zRun 132 128 L (r.1.toList ++ S) r.2.1 r.2.2.1 r.2.2.2.1 r.2.2.2.2 := zr_V (zD_of zk_132 d_132_125 rfl rfl) rfl zk_126 rfl rfl rfl hS h
theorem q_132_128 : zRun 132 128 [l0, l1, some (.int x), l3, l4] S sh mi mj mr = zRun 132 129 [l0, l1, some (.int x), l3, l4] (.int x :: S) sh mi mj mr := zr_l (zD_of zk_132 d_132_128 rfl rfl) rfl rfl rfl
theorem q_132_129  : zRun 132 129 L ([.int x]) sh mi mj mr = some (some (.int x), sh, mi, mj, mr) := zr_ret (zD_of zk_132 d_132_129 rfl rfl) rfl rfl rfl rfl rfl (if_pos rfl)
theorem e_132 {x0 : Int32} : zCall 132 [.ref o, .int x0] sh mi mj mr = zRun 132 0 [some (.ref o), some (.int x0), none, none, none] [] sh mi mj mr := rfl
theorem d_133_0 : decode cX8_laySteps 0 = .ok (.aload_n 0, 1) := by decide +kernel
theorem d_133_1 : decode cX8_laySteps 1 = .ok (.getfield 7, 3) := by decide +kernel
theorem d_133_4 : decode cX8_laySteps 4 = .ok (.bipush 9, 2) := by decide +kernel
theorem d_133_6 : decode cX8_laySteps 6 = .ok (.aload_n 0, 1) := by decide +kernel
theorem d_133_7 : decode cX8_laySteps 7 = .ok (.getfield 110, 3) := by decide +kernel
theorem d_133_10 : decode cX8_laySteps 10 = .ok (.iadd, 1) := by decide +kernel
theorem d_133_11 : decode cX8_laySteps 11 = .ok (.iconst 0, 1) := by decide +kernel
theorem d_133_12 : decode cX8_laySteps 12 = .ok (.iastore, 1) := by decide +kernel
theorem d_133_13 : decode cX8_laySteps 13 = .ok (.aload_n 0, 1) := by decide +kernel
theorem d_133_14 : decode cX8_laySteps 14 = .ok (.iconst 0, 1) := by decide +kernel
theorem d_133_15 : decode cX8_laySteps 15 = .ok (.putfield 113, 3) := by decide +kernel
theorem d_133_18 : decode cX8_laySteps 18 = .ok (.iconst 1, 1) := by decide +kernel
theorem d_133_19 : decode cX8_laySteps 19 = .ok (.istore_n 1, 1) := by decide +kernel
theorem d_133_20 : decode cX8_laySteps 20 = .ok (.iconst 0, 1) := by decide +kernel
theorem d_133_21 : decode cX8_laySteps 21 = .ok (.istore_n 2, 1) := by decide +kernel
theorem d_133_22 : decode cX8_laySteps 22 = .ok (.iload_n 2, 1) := by decide +kernel
theorem d_133_23 : decode cX8_laySteps 23 = .ok (.aload_n 0, 1) := by decide +kernel
theorem d_133_24 : decode cX8_laySteps 24 = .ok (.getfield 86, 3) := by decide +kernel
theorem d_133_27 : decode cX8_laySteps 27 = .ok (.if_icmp .ge 287, 3) := by decide +kernel
theorem d_133_30 : decode cX8_laySteps 30 = .ok (.aload_n 0, 1) := by decide +kernel
theorem d_133_31 : decode cX8_laySteps 31 = .ok (.getfield 20, 3) := by decide +kernel
theorem d_133_34 : decode cX8_laySteps 34 = .ok (.iload_n 2, 1) := by decide +kernel
theorem d_133_35 : decode cX8_laySteps 35 = .ok (.iaload, 1) := by decide +kernel
theorem d_133_36 : decode cX8_laySteps 36 = .ok (.istore_n 3, 1) := by decide +kernel
theorem d_133_37 : decode cX8_laySteps 37 = .ok (.iload_n 1, 1) := by decide +kernel
theorem d_133_38 : decode cX8_laySteps 38 = .ok (.istore 4, 2) := by decide +kernel
theorem d_133_40 : decode cX8_laySteps 40 = .ok (.iconst 0, 1) := by decide +kernel
theorem d_133_41 : decode cX8_laySteps 41 = .ok (.istore_n 1, 1) := by decide +kernel
theorem d_133_42 : decode cX8_laySteps 42 = .ok (.iload_n 3, 1) := by decide +kernel
theorem d_133_43 : decode cX8_laySteps 43 = .ok (.invokestatic 90, 3) := by decide +kernel
theorem d_133_46 : decode cX8_laySteps 46 = .ok (.ifCond .eq 14, 3) := by decide +kernel
theorem d_133_49 : decode cX8_laySteps 49 = .ok (.aload_n 0, 1) := by decide +kernel
theorem d_133_50 : decode cX8_laySteps 50 = .ok (.iload_n 2, 1) := by decide +kernel
theorem d_133_51 : decode cX8_laySteps 51 = .ok (.invokevirtual 123, 3) := by decide +kernel
theorem d_133_54 : decode cX8_laySteps 54 = .ok (.iconst 1, 1) := by decide +kernel
theorem d_133_55 : decode cX8_laySteps 55 = .ok (.isub, 1) := by decide +kernel
theorem d_133_56 : decode cX8_laySteps 56 = .ok (.istore_n 2, 1) := by decide +kernel
theorem d_133_57 : decode cX8_laySteps 57 = .ok (.goto 251, 3) := by decide +kernel
theorem d_133_60 : decode cX8_laySteps 60 = .ok (.iload_n 3, 1) := by decide +kernel
theorem d_133_61 : decode cX8_laySteps 61 = .ok (.bipush 97, 2) := by decide +kernel
theorem d_133_63 : decode cX8_laySteps 63 = .ok (.bipush 100, 2) := by decide +kernel
theorem d_133_65 : decode cX8_laySteps 65 = .ok (.invokestatic 72, 3) := by decide +kernel
theorem d_133_68 : decode cX8_laySteps 68 = .ok (.ifCond .eq 17, 3) := by decide +kernel
theorem d_133_71 : decode cX8_laySteps 71 = .ok (.aload_n 0, 1) := by decide +kernel
theorem d_133_72 : decode cX8_laySteps 72 = .ok (.iconst 1, 1) := by decide +kernel
theorem d_133_73 : decode cX8_laySteps 73 = .ok (.iload_n 3, 1) := by decide +kernel
theorem d_133_74 : decode cX8_laySteps 74 = .ok (.iadd, 1) := by decide +kernel
theorem d_133_75 : decode cX8_laySteps 75 = .ok (.bipush 97, 2) := by decide +kernel
theorem d_133_77 : decode cX8_laySteps 77 = .ok (.isub, 1) := by decide +kernel
theorem d_133_78 : decode cX8_laySteps 78 = .ok (.iconst 0, 1) := by decide +kernel
theorem d_133_79 : decode cX8_laySteps 79 = .ok (.invokevirtual 119, 3) := by decide +kernel
theorem d_133_82 : decode cX8_laySteps 82 = .ok (.goto 226, 3) := by decide +kernel
theorem d_133_85 : decode cX8_laySteps 85 = .ok (.iload_n 3, 1) := by decide +kernel
theorem d_133_86 : decode cX8_laySteps 86 = .ok (.bipush 94, 2) := by decide +kernel
theorem d_133_88 : decode cX8_laySteps 88 = .ok (.if_icmp .ne 19, 3) := by decide +kernel
theorem d_133_91 : decode cX8_laySteps 91 = .ok (.iinc 2 1, 3) := by decide +kernel
theorem d_133_94 : decode cX8_laySteps 94 = .ok (.aload_n 0, 1) := by decide +kernel
theorem d_133_95 : decode cX8_laySteps 95 = .ok (.aload_n 0, 1) := by decide +kernel
theorem d_133_96 : decode cX8_laySteps 96 = .ok (.getfield 20, 3) := by decide +kernel
theorem d_133_99 : decode cX8_laySteps 99 = .ok (.iload_n 2, 1) := by decide +kernel
theorem d_133_100 : decode cX8_laySteps 100 = .ok (.iaload, 1) := by decide +kernel
theorem d_133_101 : decode cX8_laySteps 101 = .ok (.invokevirtual 126, 3) := by decide +kernel
theorem d_133_104 : decode cX8_laySteps 104 = .ok (.goto 204, 3) := by decide +kernel
theorem d_133_107 : decode cX8_laySteps 107 = .ok (.iload_n 3, 1) := by decide +kernel
theorem d_133_108 : decode cX8_laySteps 108 = .ok (.bipush 40, 2) := by decide +kernel
theorem d_133_110 : decode cX8_laySteps 110 = .ok (.if_icmp .ne 14, 3) := by decide +kernel
theorem d_133_113 : decode cX8_laySteps 113 = .ok (.aload_n 0, 1) := by decide +kernel
theorem d_133_114 : decode cX8_laySteps 114 = .ok (.bipush (-6), 2) := by decide +kernel
theorem d_133_116 : decode cX8_laySteps 116 = .ok (.invokevirtual 130, 3) := by decide +kernel
theorem d_133_119 : decode cX8_laySteps 119 = .ok (.iconst 1, 1) := by decide +kernel
theorem d_133_120 : decode cX8_laySteps 120 = .ok (.istore_n 1, 1) := by decide +kernel
theorem d_133_121 : decode cX8_laySteps 121 = .ok (.goto 187, 3) := by decide +kernel
theorem d_133_124 : decode cX8_laySteps 124 = .ok (.iload_n 3, 1) := by decide +kernel
theorem d_133_125 : decode cX8_laySteps 125 = .ok (.bipush 65, 2) := by decide +kernel
theorem d_133_127 : decode cX8_laySteps 127 = .ok (.bipush 90, 2) := by decide +kernel
theorem d_133_129 : decode cX8_laySteps 129 = .ok (.invokestatic 72, 3) := by decide +kernel
theorem d_133_132 : decode cX8_laySteps 132 = .ok (.ifCond .eq 23, 3) := by decide +kernel
theorem d_133_135 : decode cX8_laySteps 135 = .ok (.aload_n 0, 1) := by decide +kernel
theorem d_133_136 : decode cX8_laySteps 136 = .ok (.iload_n 3, 1) := by decide +kernel
theorem d_133_137 : decode cX8_laySteps 137 = .ok (.invokestatic 133, 3) := by decide +kernel
theorem d_133_140 : decode cX8_laySteps 140 = .ok (.ineg, 1) := by decide +kernel
theorem d_133_141 : decode cX8_laySteps 141 = .ok (.bipush 100, 2) := by decide +kernel
theorem d_133_143 : decode cX8_laySteps 143 = .ok (.isub, 1) := by decide +kernel
theorem d_133_144 : decode cX8_laySteps 144 = .ok (.invokevirtual 130, 3) := by decide +kernel
theorem d_133_147 : decode cX8_laySteps 147 = .ok (.iinc 2 1, 3) := by decide +kernel
theorem d_133_150 : decode cX8_laySteps 150 = .ok (.iconst 1, 1) := by decide +kernel
theorem d_133_151 : decode cX8_laySteps 151 = .ok (.istore_n 1, 1) := by decide +kernel
theorem d_133_152 : decode cX8_laySteps 152 = .ok (.goto 156, 3) := by decide +kernel
theorem d_133_155 : decode cX8_laySteps 155 = .ok (.iload_n 3, 1) := by decide +kernel
theorem d_133_156 : decode cX8_laySteps 156 = .ok (.bipush 41, 2) := by decide +kernel
theorem d_133_158 : decode cX8_laySteps 158 = .ok (.if_icmp .ne 50, 3) := by decide +kernel
theorem d_133_161 : decode cX8_laySteps 161 = .ok (.aload_n 0, 1) := by decide +kernel
theorem d_133_162 : decode cX8_laySteps 162 = .ok (.iconst 1, 1) := by decide +kernel
theorem d_133_163 : decode cX8_laySteps 163 = .ok (.invokevirtual 136, 3) := by decide +kernel
theorem d_133_166 : decode cX8_laySteps 166 = .ok (.aload_n 0, 1) := by decide +kernel
theorem d_133_167 : decode cX8_laySteps 167 = .ok (.dup, 1) := by decide +kernel
theorem d_133_168 : decode cX8_laySteps 168 = .ok (.getfield 113, 3) := by decide +kernel
theorem d_133_171 : decode cX8_laySteps 171 = .ok (.iconst 1, 1) := by decide +kernel
theorem d_133_172 : decode cX8_laySteps 172 = .ok (.isub, 1) := by decide +kernel
theorem d_133_173 : decode cX8_laySteps 173 = .ok (.putfield 113, 3) := by decide +kernel
theorem d_133_176 : decode cX8_laySteps 176 = .ok (.aload_n 0, 1) := by decide +kernel
theorem d_133_177 : decode cX8_laySteps 177 = .ok (.getfield 26, 3) := by decide +kernel
theorem d_133_180 : decode cX8_laySteps 180 = .ok (.aload_n 0, 1) := by decide +kernel
theorem d_133_181 : decode cX8_laySteps 181 = .ok (.getfield 113, 3) := by decide +kernel
theorem d_133_184 : decode cX8_laySteps 184 = .ok (.iaload, 1) := by decide +kernel
theorem d_133_185 : decode cX8_laySteps 185 = .ok (.istore 5, 2) := by decide +kernel
theorem d_133_187 : decode cX8_laySteps 187 = .ok (.iload 5, 2) := by decide +kernel
theorem d_133_189 : decode cX8_laySteps 189 = .ok (.bipush (-100), 2) := by decide +kernel
theorem d_133_191 : decode cX8_laySteps 191 = .ok (.if_icmp .ge 14, 3) := by decide +kernel
theorem d_133_194 : decode cX8_laySteps 194 = .ok (.aload_n 0, 1) := by decide +kernel
theorem d_133_195 : decode cX8_laySteps 195 = .ok (.iload 5, 2) := by decide +kernel
theorem d_133_197 : decode cX8_laySteps 197 = .ok (.ineg, 1) := by decide +kernel
theorem d_133_198 : decode cX8_laySteps 198 = .ok (.bipush 100, 2) := by decide +kernel
theorem d_133_200 : decode cX8_laySteps 200 = .ok (.isub, 1) := by decide +kernel
theorem d_133_201 : decode cX8_laySteps 201 = .ok (.iconst 0, 1) := by decide +kernel
theorem d_133_202 : decode cX8_laySteps 202 = .ok (.invokevirtual 119, 3) := by decide +kernel
theorem d_133_205 : decode cX8_laySteps 205 = .ok (.goto 103, 3) := by decide +kernel
theorem d_133_208 : decode cX8_laySteps 208 = .ok (.iload_n 3, 1) := by decide +kernel
theorem d_133_209 : decode cX8_laySteps 209 = .ok (.bipush 44, 2) := by decide +kernel
theorem d_133_211 : decode cX8_laySteps 211 = .ok (.if_icmp .ne 13, 3) := by decide +kernel
theorem d_133_214 : decode cX8_laySteps 214 = .ok (.aload_n 0, 1) := by decide +kernel
theorem d_133_215 : decode cX8_laySteps 215 = .ok (.iconst 1, 1) := by decide +kernel
theorem d_133_216 : decode cX8_laySteps 216 = .ok (.invokevirtual 136, 3) := by decide +kernel
theorem d_133_219 : decode cX8_laySteps 219 = .ok (.iconst 1, 1) := by decide +kernel
theorem d_133_220 : decode cX8_laySteps 220 = .ok (.istore_n 1, 1) := by decide +kernel
theorem d_133_221 : decode cX8_laySteps 221 = .ok (.goto 87, 3) := by decide +kernel
theorem d_133_224 : decode cX8_laySteps 224 = .ok (.iload_n 3, 1) := by decide +kernel
theorem d_133_225 : decode cX8_laySteps 225 = .ok (.bipush 45, 2) := by decide +kernel
theorem d_133_227 : decode cX8_laySteps 227 = .ok (.if_icmp .ne 17, 3) := by decide +kernel
theorem d_133_230 : decode cX8_laySteps 230 = .ok (.iload 4, 2) := by decide +kernel
theorem d_133_232 : decode cX8_laySteps 232 = .ok (.ifCond .eq 12, 3) := by decide +kernel
theorem d_133_235 : decode cX8_laySteps 235 = .ok (.aload_n 0, 1) := by decide +kernel
theorem d_133_236 : decode cX8_laySteps 236 = .ok (.bipush 7, 2) := by decide +kernel
theorem d_133_238 : decode cX8_laySteps 238 = .ok (.invokevirtual 130, 3) := by decide +kernel
theorem d_133_241 : decode cX8_laySteps 241 = .ok (.goto 67, 3) := by decide +kernel
theorem d_133_244 : decode cX8_laySteps 244 = .ok (.iload_n 3, 1) := by decide +kernel
theorem d_133_245 : decode cX8_laySteps 245 = .ok (.bipush 43, 2) := by decide +kernel
theorem d_133_247 : decode cX8_laySteps 247 = .ok (.if_icmp .ne 7, 3) := by decide +kernel
theorem d_133_250 : decode cX8_laySteps 250 = .ok (.iconst 5, 1) := by decide +kernel
theorem d_133_251 : decode cX8_laySteps 251 = .ok (.goto 27, 3) := by decide +kernel
theorem d_133_254 : decode cX8_laySteps 254 = .ok (.iload_n 3, 1) := by decide +kernel
theorem d_133_255 : decode cX8_laySteps 255 = .ok (.bipush 45, 2) := by decide +kernel
theorem d_133_257 : decode cX8_laySteps 257 = .ok (.if_icmp .ne 8, 3) := by decide +kernel
theorem d_133_260 : decode cX8_laySteps 260 = .ok (.bipush 6, 2) := by decide +kernel
theorem d_133_262 : decode cX8_laySteps 262 = .ok (.goto 16, 3) := by decide +kernel
theorem d_133_265 : decode cX8_laySteps 265 = .ok (.iload_n 3, 1) := by decide +kernel
theorem d_133_266 : decode cX8_laySteps 266 = .ok (.bipush 42, 2) := by decide +kernel
theorem d_133_268 : decode cX8_laySteps 268 = .ok (.if_icmp .ne 8, 3) := by decide +kernel
theorem d_133_271 : decode cX8_laySteps 271 = .ok (.bipush 9, 2) := by decide +kernel
theorem d_133_273 : decode cX8_laySteps 273 = .ok (.goto 5, 3) := by decide +kernel
theorem d_133_276 : decode cX8_laySteps 276 = .ok (.bipush 11, 2) := by decide +kernel
theorem d_133_278 : decode cX8_laySteps 278 = .ok (.istore 5, 2) := by decide +kernel
theorem d_133_280 : decode cX8_laySteps 280 = .ok (.aload_n 0, 1) := by decide +kernel
theorem d_133_281 : decode cX8_laySteps 281 = .ok (.iload 5, 2) := by decide +kernel
theorem d_133_283 : decode cX8_laySteps 283 = .ok (.iconst 5, 1) := by decide +kernel
theorem d_133_284 : decode cX8_laySteps 284 = .ok (.if_icmp .eq 10, 3) := by decide +kernel
theorem d_133_287 : decode cX8_laySteps 287 = .ok (.iload 5, 2) := by decide +kernel
theorem d_133_289 : decode cX8_laySteps 289 = .ok (.bipush 6, 2) := by decide +kernel
theorem d_133_291 : decode cX8_laySteps 291 = .ok (.if_icmp .ne 7, 3) := by decide +kernel
theorem d_133_294 : decode cX8_laySteps 294 = .ok (.iconst 1, 1) := by decide +kernel
theorem d_133_295 : decode cX8_laySteps 295 = .ok (.goto 4, 3) := by decide +kernel
theorem d_133_298 : decode cX8_laySteps 298 = .ok (.iconst 3, 1) := by decide +kernel
theorem d_133_299 : decode cX8_laySteps 299 = .ok (.invokevirtual 136, 3) := by decide +kernel
theorem d_133_302 : decode cX8_laySteps 302 = .ok (.aload_n 0, 1) := by decide +kernel
theorem d_133_303 : decode cX8_laySteps 303 = .ok (.iload 5, 2) := by decide +kernel
theorem d_133_305 : decode cX8_laySteps 305 = .ok (.invokevirtual 130, 3) := by decide +kernel
theorem d_133_308 : decode cX8_laySteps 308 = .ok (.iinc 2 1, 3) := by decide +kernel
theorem d_133_311 : decode cX8_laySteps 311 = .ok (.goto (-289), 3) := by decide +kernel
theorem d_133_314 : decode cX8_laySteps 314 = .ok (.aload_n 0, 1) := by decide +kernel
theorem d_133_315 : decode cX8_laySteps 315 = .ok (.iconst 1, 1) := by decide +kernel
theorem d_133_316 : decode cX8_laySteps 316 = .ok (.invokevirtual 136, 3) := by decide +kernel
theorem d_133_319 : decode cX8_laySteps 319 = .ok (.return_, 1) := by decide +kernel
theorem q_133_0r : zRun 133 0 [some (.ref o), l1, l2, l3, l4, l5] S sh mi mj mr = zRun 133 1 [some (.ref o), l1, l2, l3, l4, l5] (.ref o :: S) sh mi mj mr := zr_l (zD_of zk_133 d_133_0 rfl rfl) rfl rfl rfl
theorem q_133_0n : zRun 133 0 [some (.null), l1, l2, l3, l4, l5] S sh mi mj mr = zRun 133 1 [some (.null), l1, l2, l3, l4, l5] (.null :: S) sh mi mj mr := zr_l (zD_of zk_133 d_133_0 rfl rfl) rfl rfl rfl
theorem q_133_1 (h : zIs sh o 0 8) : zRun 133 1 L (.ref o :: S) sh mi mj mr = zRun 133 4 L (va_rf (mr o 0) :: S) sh mi mj mr := zr_getR (zD_of zk_133 d_133_1 rfl rfl) rfl rfl rfl h
theorem q_133_4  : zRun 133 4 L S sh mi mj mr = zRun 133 6 L (.int 9 :: S) sh mi mj mr := zr_p (zD_of zk_133 d_133_4 rfl rfl) rfl
theorem q_133_6r : zRun 133 6 [some (.ref o), l1, l2, l3, l4, l5] S sh mi mj mr = zRun 133 7 [some (.ref o), l1, l2, l3, l4, l5] (.ref o :: S) sh mi mj mr := zr_l (zD_of zk_133 d_133_6 rfl rfl) rfl rfl rfl
theorem q_133_6n : zRun 133 6 [some (.null), l1, l2, l3, l4, l5] S sh mi mj mr = zRun 133 7 [some (.null), l1, l2, l3, l4, l5] (.null :: S) sh mi mj mr := zr_l (zD_of zk_133 d_133_6 rfl rfl) rfl rfl rfl
theorem q_133_7 (h : zIs sh o 0 8) : zRun 133 7 L (.ref o :: S) sh mi mj mr = zRun 133 10 L (.int (mi o 9) :: S) sh mi mj mr := zr_getI (zD_of zk_133 d_133_7 rfl rfl) rfl rfl (Or.inl rfl) h
theorem q_133_10  : zRun 133 10 L (.int y :: .int x :: S) sh mi mj mr = zRun 133 11 L (.int (x + y) :: S) sh mi mj mr := zr_p (zD_of zk_133 d_133_10 rfl rfl) rfl
theorem q_133_11  : zRun 133 11 L S sh mi mj mr = zRun 133 12 L (.int 0 :: S) sh mi mj mr := zr_p (zD_of zk_133 d_133_11 rfl rfl) rfl
theorem q_133_12 (h : zAt sh o 1 x) : zRun 133 12 L (.int y :: .int x :: .ref o :: S) sh mi mj mr = zRun 133 13 L S sh (zup mi o x.toNatClampNeg y) mj mr := zr_iast (zD_of zk_133 d_133_12 rfl rfl) h
theorem q_133_13r : zRun 133 13 [some (.ref o), l1, l2, l3, l4, l5] S sh mi mj mr = zRun 133 14 [some (.ref o), l1, l2, l3, l4, l5] (.ref o :: S) sh mi mj mr := zr_l (zD_of zk_133 d_133_13 rfl rfl) rfl rfl rfl
theorem q_133_13n : zRun 133 13 [some (.null), l1, l2, l3, l4, l5] S sh mi mj mr = zRun 133 14 [some (.null), l1, l2, l3, l4, l5] (.null :: S) sh mi mj mr := zr_l (zD_of zk_133 d_133_13 rfl rfl) rfl rfl rfl
theorem q_133_14  : zRun 133 14 L S sh mi mj mr = zRun 133 15 L (.int 0 :: S) sh mi mj mr := zr_p (zD_of zk_133 d_133_14 rfl rfl) rfl
theorem q_133_15 (h : zIs sh o 0 8) : zRun 133 15 L (.int x :: .ref o :: S) sh mi mj mr = zRun 133 18 L S sh (zup mi o 8 x) mj mr := zr_putI (zD_of zk_133 d_133_15 rfl rfl) rfl rfl rfl (Or.inl rfl) h
theorem q_133_18  : zRun 133 18 L S sh mi mj mr = zRun 133 19 L (.int 1 :: S) sh mi mj mr := zr_p (zD_of zk_133 d_133_18 rfl rfl) rfl
theorem q_133_19 : zRun 133 19 [l0, l1, l2, l3, l4, l5] (.int x :: S) sh mi mj mr = zRun 133 20 [zk2 l0, some (.int x), l2, l3, l4, l5] S sh mi mj mr := zr_s1 (i := 1) (v := .int x) (L := [l0, l1, l2, l3, l4, l5]) (zD_of zk_133 d_133_19 rfl rfl) rfl rfl rfl rfl
theorem q_133_20  : zRun 133 20 L S sh mi mj mr = zRun 133 21 L (.int 0 :: S) sh mi mj mr := zr_p (zD_of zk_133 d_133_20 rfl rfl) rfl
theorem q_133_21 : zRun 133 21 [l0, l1, l2, l3, l4, l5] (.int x :: S) sh mi mj mr = zRun 133 22 [l0, zk2 l1, some (.int x), l3, l4, l5] S sh mi mj mr := zr_s1 (i := 2) (v := .int x) (L := [l0, l1, l2, l3, l4, l5]) (zD_of zk_133 d_133_21 rfl rfl) rfl rfl rfl rfl
theorem q_133_22 : zRun 133 22 [l0, l1, some (.int x), l3, l4, l5] S sh mi mj mr = zRun 133 23 [l0, l1, some (.int x), l3, l4, l5] (.int x :: S) sh mi mj mr := zr_l (zD_of zk_133 d_133_22 rfl rfl) rfl rfl rfl
theorem q_133_23r : zRun 133 23 [some (.ref o), l1, l2, l3, l4, l5] S sh mi mj mr = zRun 133 24 [some (.ref o), l1, l2, l3, l4, l5] (.ref o :: S) sh mi mj mr := zr_l (zD_of zk_133 d_133_23 rfl rfl) rfl rfl rfl
theorem q_133_23n : zRun 133 23 [some (.null), l1, l2, l3, l4, l5] S sh mi mj mr = zRun 133 24 [some (.null), l1, l2, l3, l4, l5] (.null :: S) sh mi mj mr := zr_l (zD_of zk_133 d_133_23 rfl rfl) rfl rfl rfl
theorem q_133_24 (h : zIs sh o 0 8) : zRun 133 24 L (.ref o :: S) sh mi mj mr = zRun 133 27 L (.int (mi o 4) :: S) sh mi mj mr := zr_getI (zD_of zk_133 d_133_24 rfl rfl) rfl rfl (Or.inl rfl) h
theorem q_133_27  : zRun 133 27 L (.int y :: .int x :: S) sh mi mj mr = if y ≤ x then zRun 133 314 L S sh mi mj mr else zRun 133 30 L S sh mi mj mr := zr_if (off := 287) (P := y ≤ x) (zD_of zk_133 d_133_27 rfl rfl) rfl rfl (by decide)
theorem q_133_30r : zRun 133 30 [some (.ref o), l1, l2, l3, l4, l5] S sh mi mj mr = zRun 133 31 [some (.ref o), l1, l2, l3, l4, l5] (.ref o :: S) sh mi mj mr := zr_l (zD_of zk_133 d_133_30 rfl rfl) rfl rfl rfl
theorem q_133_30n : zRun 133 30 [some (.null), l1, l2, l3, l4, l5] S sh mi mj mr = zRun 133 31 [some (.null), l1, l2, l3, l4, l5] (.null :: S) sh mi mj mr := zr_l (zD_of zk_133 d_133_30 rfl rfl) rfl rfl rfl
theorem q_133_31 (h : zIs sh o 0 8) : zRun 133 31 L (.ref o :: S) sh mi mj mr = zRun 133 34 L (va_rf (mr o 3) :: S) sh mi mj mr := zr_getR (zD_of zk_133 d_133_31 rfl rfl) rfl rfl rfl h
theorem q_133_34 : zRun 133 34 [l0, l1, some (.int x), l3, l4, l5] S sh mi mj mr = zRun 133 35 [l0, l1, some (.int x), l3, l4, l5] (.int x :: S) sh mi mj mr := zr_l (zD_of zk_133 d_133_34 rfl rfl) rfl rfl rfl
theorem q_133_35 (h : zAt sh o 1 x) : zRun 133 35 L (.int x :: .ref o :: S) sh mi mj mr = zRun 133 36 L (.int (mi o x.toNatClampNeg) :: S) sh mi mj mr := zr_iald (zD_of zk_133 d_133_35 rfl rfl) h
theorem q_133_36 : zRun 133 36 [l0, l1, l2, l3, l4, l5] (.int x :: S) sh mi mj mr = zRun 133 37 [l0, l1, zk2 l2, some (.int x), l4, l5] S sh mi mj mr := zr_s1 (i := 3) (v := .int x) (L := [l0, l1, l2, l3, l4, l5]) (zD_of zk_133 d_133_36 rfl rfl) rfl rfl rfl rfl
theorem q_133_37 : zRun 133 37 [l0, some (.int x), l2, l3, l4, l5] S sh mi mj mr = zRun 133 38 [l0, some (.int x), l2, l3, l4, l5] (.int x :: S) sh mi mj mr := zr_l (zD_of zk_133 d_133_37 rfl rfl) rfl rfl rfl
theorem q_133_38 : zRun 133 38 [l0, l1, l2, l3, l4, l5] (.int x :: S) sh mi mj mr = zRun 133 40 [l0, l1, l2, zk2 l3, some (.int x), l5] S sh mi mj mr := zr_s1 (i := 4) (v := .int x) (L := [l0, l1, l2, l3, l4, l5]) (zD_of zk_133 d_133_38 rfl rfl) rfl rfl rfl rfl
theorem q_133_40  : zRun 133 40 L S sh mi mj mr = zRun 133 41 L (.int 0 :: S) sh mi mj mr := zr_p (zD_of zk_133 d_133_40 rfl rfl) rfl
theorem q_133_41 : zRun 133 41 [l0, l1, l2, l3, l4, l5] (.int x :: S) sh mi mj mr = zRun 133 42 [zk2 l0, some (.int x), l2, l3, l4, l5] S sh mi mj mr := zr_s1 (i := 1) (v := .int x) (L := [l0, l1, l2, l3, l4, l5]) (zD_of zk_133 d_133_41 rfl rfl) rfl rfl rfl rfl
theorem q_133_42 : zRun 133 42 [l0, l1, l2, some (.int x), l4, l5] S sh mi mj mr = zRun 133 43 [l0, l1, l2, some (.int x), l4, l5] (.int x :: S) sh mi mj mr := zr_l (zD_of zk_133 d_133_42 rfl rfl) rfl rfl rfl
theorem q_133_43  {x0 : Int32} (hS : zcat S ≤ 8) : zRun 133 43 L (.int x0 :: S) sh mi mj mr = (zCall 120 [.int x0] sh mi mj mr).bind fun r => zRun 133 46 L (r.1.toList ++ S) r.2.1 r.2.2.1 r.2.2.2.1 r.2.2.2.2 := zr_S (zD_of zk_133 d_133_43 rfl rfl) rfl zk_120 rfl rfl rfl hS
theorem q_133_46  : zRun 133 46 L (.int x :: S) sh mi mj mr = if x = 0 then zRun 133 60 L S sh mi mj mr else zRun 133 49 L S sh mi mj mr := zr_if (off := 14) (P := x = 0) (zD_of zk_133 d_133_46 rfl rfl) rfl rfl (by decide)
theorem q_133_49r : zRun 133 49 [some (.ref o), l1, l2, l3, l4, l5] S sh mi mj mr = zRun 133 50 [some (.ref o), l1, l2, l3, l4, l5] (.ref o :: S) sh mi mj mr := zr_l (zD_of zk_133 d_133_49 rfl rfl) rfl rfl rfl
theorem q_133_49n : zRun 133 49 [some (.null), l1, l2, l3, l4, l5] S sh mi mj mr = zRun 133 50 [some (.null), l1, l2, l3, l4, l5] (.null :: S) sh mi mj mr := zr_l (zD_of zk_133 d_133_49 rfl rfl) rfl rfl rfl
theorem q_133_50 : zRun 133 50 [l0, l1, some (.int x), l3, l4, l5] S sh mi mj mr = zRun 133 51 [l0, l1, some (.int x), l3, l4, l5] (.int x :: S) sh mi mj mr := zr_l (zD_of zk_133 d_133_50 rfl rfl) rfl rfl rfl
theorem q_133_51  {x0 : Int32} (hS : zcat S ≤ 8) (h : zIs sh o 0 8) : zRun 133 51 L (.int x0 :: .ref o :: S) sh mi mj mr = (zCall 132 [.ref o, .int x0] sh mi mj mr).bind fun r => zRun 133 54 L (r.1.toList ++ S) r.2.1 r.2.2.1 r.2.2.2.1 r.2.2.2.2 := zr_V (zD_of zk_133 d_133_51 rfl rfl) rfl zk_132 rfl rfl rfl hS h
theorem q_133_54  : zRun 133 54 L S sh mi mj mr = zRun 133 55 L (.int 1 :: S) sh mi mj mr := zr_p (zD_of zk_133 d_133_54 rfl rfl) rfl
theorem q_133_55  : zRun 133 55 L (.int y :: .int x :: S) sh mi mj mr = zRun 133 56 L (.int (x - y) :: S) sh mi mj mr := zr_p (zD_of zk_133 d_133_55 rfl rfl) rfl
theorem q_133_56 : zRun 133 56 [l0, l1, l2, l3, l4, l5] (.int x :: S) sh mi mj mr = zRun 133 57 [l0, zk2 l1, some (.int x), l3, l4, l5] S sh mi mj mr := zr_s1 (i := 2) (v := .int x) (L := [l0, l1, l2, l3, l4, l5]) (zD_of zk_133 d_133_56 rfl rfl) rfl rfl rfl rfl
theorem q_133_57  : zRun 133 57 L S sh mi mj mr = zRun 133 308 L S sh mi mj mr := zr_go (off := 251) (zD_of zk_133 d_133_57 rfl rfl) rfl rfl (by decide)
theorem q_133_60 : zRun 133 60 [l0, l1, l2, some (.int x), l4, l5] S sh mi mj mr = zRun 133 61 [l0, l1, l2, some (.int x), l4, l5] (.int x :: S) sh mi mj mr := zr_l (zD_of zk_133 d_133_60 rfl rfl) rfl rfl rfl
theorem q_133_61  : zRun 133 61 L S sh mi mj mr = zRun 133 63 L (.int 97 :: S) sh mi mj mr := zr_p (zD_of zk_133 d_133_61 rfl rfl) rfl
theorem q_133_63  : zRun 133 63 L S sh mi mj mr = zRun 133 65 L (.int 100 :: S) sh mi mj mr := zr_p (zD_of zk_133 d_133_63 rfl rfl) rfl
theorem q_133_65  {x0 x1 x2 : Int32} (hS : zcat S ≤ 8) : zRun 133 65 L (.int x2 :: .int x1 :: .int x0 :: S) sh mi mj mr = (zCall 111 [.int x0, .int x1, .int x2] sh mi mj mr).bind fun r => zRun 133 68 L (r.1.toList ++ S) r.2.1 r.2.2.1 r.2.2.2.1 r.2.2.2.2 := zr_S (zD_of zk_133 d_133_65 rfl rfl) rfl zk_111 rfl rfl rfl hS
theorem q_133_68  : zRun 133 68 L (.int x :: S) sh mi mj mr = if x = 0 then zRun 133 85 L S sh mi mj mr else zRun 133 71 L S sh mi mj mr := zr_if (off := 17) (P := x = 0) (zD_of zk_133 d_133_68 rfl rfl) rfl rfl (by decide)
theorem q_133_71r : zRun 133 71 [some (.ref o), l1, l2, l3, l4, l5] S sh mi mj mr = zRun 133 72 [some (.ref o), l1, l2, l3, l4, l5] (.ref o :: S) sh mi mj mr := zr_l (zD_of zk_133 d_133_71 rfl rfl) rfl rfl rfl
theorem q_133_71n : zRun 133 71 [some (.null), l1, l2, l3, l4, l5] S sh mi mj mr = zRun 133 72 [some (.null), l1, l2, l3, l4, l5] (.null :: S) sh mi mj mr := zr_l (zD_of zk_133 d_133_71 rfl rfl) rfl rfl rfl
theorem q_133_72  : zRun 133 72 L S sh mi mj mr = zRun 133 73 L (.int 1 :: S) sh mi mj mr := zr_p (zD_of zk_133 d_133_72 rfl rfl) rfl
theorem q_133_73 : zRun 133 73 [l0, l1, l2, some (.int x), l4, l5] S sh mi mj mr = zRun 133 74 [l0, l1, l2, some (.int x), l4, l5] (.int x :: S) sh mi mj mr := zr_l (zD_of zk_133 d_133_73 rfl rfl) rfl rfl rfl
theorem q_133_74  : zRun 133 74 L (.int y :: .int x :: S) sh mi mj mr = zRun 133 75 L (.int (x + y) :: S) sh mi mj mr := zr_p (zD_of zk_133 d_133_74 rfl rfl) rfl
theorem q_133_75  : zRun 133 75 L S sh mi mj mr = zRun 133 77 L (.int 97 :: S) sh mi mj mr := zr_p (zD_of zk_133 d_133_75 rfl rfl) rfl
theorem q_133_77  : zRun 133 77 L (.int y :: .int x :: S) sh mi mj mr = zRun 133 78 L (.int (x - y) :: S) sh mi mj mr := zr_p (zD_of zk_133 d_133_77 rfl rfl) rfl
theorem q_133_78  : zRun 133 78 L S sh mi mj mr = zRun 133 79 L (.int 0 :: S) sh mi mj mr := zr_p (zD_of zk_133 d_133_78 rfl rfl) rfl
theorem q_133_79  {x0 x1 : Int32} (hS : zcat S ≤ 8) (h : zIs sh o 0 8) : zRun 133 79 L (.int x1 :: .int x0 :: .ref o :: S) sh mi mj mr = (zCall 126 [.ref o, .int x0, .int x1] sh mi mj mr).bind fun r => zRun 133 82 L (r.1.toList ++ S) r.2.1 r.2.2.1 r.2.2.2.1 r.2.2.2.2 := zr_V (zD_of zk_133 d_133_79 rfl rfl) rfl zk_126 rfl rfl rfl hS h
theorem q_133_82  : zRun 133 82 L S sh mi mj mr = zRun 133 308 L S sh mi mj mr := zr_go (off := 226) (zD_of zk_133 d_133_82 rfl rfl) rfl rfl (by decide)
theorem q_133_85 : zRun 133 85 [l0, l1, l2, some (.int x), l4, l5] S sh mi mj mr = zRun 133 86 [l0, l1, l2, some (.int x), l4, l5] (.int x :: S) sh mi mj mr := zr_l (zD_of zk_133 d_133_85 rfl rfl) rfl rfl rfl
theorem q_133_86  : zRun 133 86 L S sh mi mj mr = zRun 133 88 L (.int 94 :: S) sh mi mj mr := zr_p (zD_of zk_133 d_133_86 rfl rfl) rfl
theorem q_133_88  : zRun 133 88 L (.int y :: .int x :: S) sh mi mj mr = if ¬ x = y then zRun 133 107 L S sh mi mj mr else zRun 133 91 L S sh mi mj mr := zr_if (off := 19) (P := ¬ x = y) (zD_of zk_133 d_133_88 rfl rfl) rfl rfl (by decide)
theorem q_133_91  : zRun 133 91 [l0, l1, some (.int x), l3, l4, l5] S sh mi mj mr = zRun 133 94 [l0, zk2 l1, some (.int (x + 1)), l3, l4, l5] S sh mi mj mr := zr_s1 (i := 2) (v := .int (x + 1)) (L := [l0, l1, some (.int x), l3, l4, l5]) (zD_of zk_133 d_133_91 rfl rfl) rfl rfl rfl rfl
theorem q_133_94r : zRun 133 94 [some (.ref o), l1, l2, l3, l4, l5] S sh mi mj mr = zRun 133 95 [some (.ref o), l1, l2, l3, l4, l5] (.ref o :: S) sh mi mj mr := zr_l (zD_of zk_133 d_133_94 rfl rfl) rfl rfl rfl
theorem q_133_94n : zRun 133 94 [some (.null), l1, l2, l3, l4, l5] S sh mi mj mr = zRun 133 95 [some (.null), l1, l2, l3, l4, l5] (.null :: S) sh mi mj mr := zr_l (zD_of zk_133 d_133_94 rfl rfl) rfl rfl rfl
theorem q_133_95r : zRun 133 95 [some (.ref o), l1, l2, l3, l4, l5] S sh mi mj mr = zRun 133 96 [some (.ref o), l1, l2, l3, l4, l5] (.ref o :: S) sh mi mj mr := zr_l (zD_of zk_133 d_133_95 rfl rfl) rfl rfl rfl
theorem q_133_95n : zRun 133 95 [some (.null), l1, l2, l3, l4, l5] S sh mi mj mr = zRun 133 96 [some (.null), l1, l2, l3, l4, l5] (.null :: S) sh mi mj mr := zr_l (zD_of zk_133 d_133_95 rfl rfl) rfl rfl rfl
theorem q_133_96 (h : zIs sh o 0 8) : zRun 133 96 L (.ref o :: S) sh mi mj mr = zRun 133 99 L (va_rf (mr o 3) :: S) sh mi mj mr := zr_getR (zD_of zk_133 d_133_96 rfl rfl) rfl rfl rfl h
theorem q_133_99 : zRun 133 99 [l0, l1, some (.int x), l3, l4, l5] S sh mi mj mr = zRun 133 100 [l0, l1, some (.int x), l3, l4, l5] (.int x :: S) sh mi mj mr := zr_l (zD_of zk_133 d_133_99 rfl rfl) rfl rfl rfl
theorem q_133_100 (h : zAt sh o 1 x) : zRun 133 100 L (.int x :: .ref o :: S) sh mi mj mr = zRun 133 101 L (.int (mi o x.toNatClampNeg) :: S) sh mi mj mr := zr_iald (zD_of zk_133 d_133_100 rfl rfl) h
theorem q_133_101  {x0 : Int32} (hS : zcat S ≤ 8) (h : zIs sh o 0 8) : zRun 133 101 L (.int x0 :: .ref o :: S) sh mi mj mr = (zCall 130 [.ref o, .int x0] sh mi mj mr).bind fun r => zRun 133 104 L (r.1.toList ++ S) r.2.1 r.2.2.1 r.2.2.2.1 r.2.2.2.2 := zr_V (zD_of zk_133 d_133_101 rfl rfl) rfl zk_130 rfl rfl rfl hS h
theorem q_133_104  : zRun 133 104 L S sh mi mj mr = zRun 133 308 L S sh mi mj mr := zr_go (off := 204) (zD_of zk_133 d_133_104 rfl rfl) rfl rfl (by decide)
theorem q_133_107 : zRun 133 107 [l0, l1, l2, some (.int x), l4, l5] S sh mi mj mr = zRun 133 108 [l0, l1, l2, some (.int x), l4, l5] (.int x :: S) sh mi mj mr := zr_l (zD_of zk_133 d_133_107 rfl rfl) rfl rfl rfl
theorem q_133_108  : zRun 133 108 L S sh mi mj mr = zRun 133 110 L (.int 40 :: S) sh mi mj mr := zr_p (zD_of zk_133 d_133_108 rfl rfl) rfl
theorem q_133_110  : zRun 133 110 L (.int y :: .int x :: S) sh mi mj mr = if ¬ x = y then zRun 133 124 L S sh mi mj mr else zRun 133 113 L S sh mi mj mr := zr_if (off := 14) (P := ¬ x = y) (zD_of zk_133 d_133_110 rfl rfl) rfl rfl (by decide)
theorem q_133_113r : zRun 133 113 [some (.ref o), l1, l2, l3, l4, l5] S sh mi mj mr = zRun 133 114 [some (.ref o), l1, l2, l3, l4, l5] (.ref o :: S) sh mi mj mr := zr_l (zD_of zk_133 d_133_113 rfl rfl) rfl rfl rfl
theorem q_133_113n : zRun 133 113 [some (.null), l1, l2, l3, l4, l5] S sh mi mj mr = zRun 133 114 [some (.null), l1, l2, l3, l4, l5] (.null :: S) sh mi mj mr := zr_l (zD_of zk_133 d_133_113 rfl rfl) rfl rfl rfl
theorem q_133_114  : zRun 133 114 L S sh mi mj mr = zRun 133 116 L (.int (-6) :: S) sh mi mj mr := zr_p (zD_of zk_133 d_133_114 rfl rfl) rfl
theorem q_133_116  {x0 : Int32} (hS : zcat S ≤ 8) (h : zIs sh o 0 8) : zRun 133 116 L (.int x0 :: .ref o :: S) sh mi mj mr = (zCall 129 [.ref o, .int x0] sh mi mj mr).bind fun r => zRun 133 119 L (r.1.toList ++ S) r.2.1 r.2.2.1 r.2.2.2.1 r.2.2.2.2 := zr_V (zD_of zk_133 d_133_116 rfl rfl) rfl zk_129 rfl rfl rfl hS h
theorem q_133_119  : zRun 133 119 L S sh mi mj mr = zRun 133 120 L (.int 1 :: S) sh mi mj mr := zr_p (zD_of zk_133 d_133_119 rfl rfl) rfl
theorem q_133_120 : zRun 133 120 [l0, l1, l2, l3, l4, l5] (.int x :: S) sh mi mj mr = zRun 133 121 [zk2 l0, some (.int x), l2, l3, l4, l5] S sh mi mj mr := zr_s1 (i := 1) (v := .int x) (L := [l0, l1, l2, l3, l4, l5]) (zD_of zk_133 d_133_120 rfl rfl) rfl rfl rfl rfl
theorem q_133_121  : zRun 133 121 L S sh mi mj mr = zRun 133 308 L S sh mi mj mr := zr_go (off := 187) (zD_of zk_133 d_133_121 rfl rfl) rfl rfl (by decide)
theorem q_133_124 : zRun 133 124 [l0, l1, l2, some (.int x), l4, l5] S sh mi mj mr = zRun 133 125 [l0, l1, l2, some (.int x), l4, l5] (.int x :: S) sh mi mj mr := zr_l (zD_of zk_133 d_133_124 rfl rfl) rfl rfl rfl
theorem q_133_125  : zRun 133 125 L S sh mi mj mr = zRun 133 127 L (.int 65 :: S) sh mi mj mr := zr_p (zD_of zk_133 d_133_125 rfl rfl) rfl
theorem q_133_127  : zRun 133 127 L S sh mi mj mr = zRun 133 129 L (.int 90 :: S) sh mi mj mr := zr_p (zD_of zk_133 d_133_127 rfl rfl) rfl
theorem q_133_129  {x0 x1 x2 : Int32} (hS : zcat S ≤ 8) : zRun 133 129 L (.int x2 :: .int x1 :: .int x0 :: S) sh mi mj mr = (zCall 111 [.int x0, .int x1, .int x2] sh mi mj mr).bind fun r => zRun 133 132 L (r.1.toList ++ S) r.2.1 r.2.2.1 r.2.2.2.1 r.2.2.2.2 := zr_S (zD_of zk_133 d_133_129 rfl rfl) rfl zk_111 rfl rfl rfl hS
theorem q_133_132  : zRun 133 132 L (.int x :: S) sh mi mj mr = if x = 0 then zRun 133 155 L S sh mi mj mr else zRun 133 135 L S sh mi mj mr := zr_if (off := 23) (P := x = 0) (zD_of zk_133 d_133_132 rfl rfl) rfl rfl (by decide)
theorem q_133_135r : zRun 133 135 [some (.ref o), l1, l2, l3, l4, l5] S sh mi mj mr = zRun 133 136 [some (.ref o), l1, l2, l3, l4, l5] (.ref o :: S) sh mi mj mr := zr_l (zD_of zk_133 d_133_135 rfl rfl) rfl rfl rfl
theorem q_133_135n : zRun 133 135 [some (.null), l1, l2, l3, l4, l5] S sh mi mj mr = zRun 133 136 [some (.null), l1, l2, l3, l4, l5] (.null :: S) sh mi mj mr := zr_l (zD_of zk_133 d_133_135 rfl rfl) rfl rfl rfl
theorem q_133_136 : zRun 133 136 [l0, l1, l2, some (.int x), l4, l5] S sh mi mj mr = zRun 133 137 [l0, l1, l2, some (.int x), l4, l5] (.int x :: S) sh mi mj mr := zr_l (zD_of zk_133 d_133_136 rfl rfl) rfl rfl rfl
theorem q_133_137  {x0 : Int32} (hS : zcat S ≤ 8) : zRun 133 137 L (.int x0 :: S) sh mi mj mr = (zCall 131 [.int x0] sh mi mj mr).bind fun r => zRun 133 140 L (r.1.toList ++ S) r.2.1 r.2.2.1 r.2.2.2.1 r.2.2.2.2 := zr_S (zD_of zk_133 d_133_137 rfl rfl) rfl zk_131 rfl rfl rfl hS
theorem q_133_140  : zRun 133 140 L (.int x :: S) sh mi mj mr = zRun 133 141 L (.int (-x) :: S) sh mi mj mr := zr_p (zD_of zk_133 d_133_140 rfl rfl) rfl
theorem q_133_141  : zRun 133 141 L S sh mi mj mr = zRun 133 143 L (.int 100 :: S) sh mi mj mr := zr_p (zD_of zk_133 d_133_141 rfl rfl) rfl
theorem q_133_143  : zRun 133 143 L (.int y :: .int x :: S) sh mi mj mr = zRun 133 144 L (.int (x - y) :: S) sh mi mj mr := zr_p (zD_of zk_133 d_133_143 rfl rfl) rfl
theorem q_133_144  {x0 : Int32} (hS : zcat S ≤ 8) (h : zIs sh o 0 8) : zRun 133 144 L (.int x0 :: .ref o :: S) sh mi mj mr = (zCall 129 [.ref o, .int x0] sh mi mj mr).bind fun r => zRun 133 147 L (r.1.toList ++ S) r.2.1 r.2.2.1 r.2.2.2.1 r.2.2.2.2 := zr_V (zD_of zk_133 d_133_144 rfl rfl) rfl zk_129 rfl rfl rfl hS h
theorem q_133_147  : zRun 133 147 [l0, l1, some (.int x), l3, l4, l5] S sh mi mj mr = zRun 133 150 [l0, zk2 l1, some (.int (x + 1)), l3, l4, l5] S sh mi mj mr := zr_s1 (i := 2) (v := .int (x + 1)) (L := [l0, l1, some (.int x), l3, l4, l5]) (zD_of zk_133 d_133_147 rfl rfl) rfl rfl rfl rfl
theorem q_133_150  : zRun 133 150 L S sh mi mj mr = zRun 133 151 L (.int 1 :: S) sh mi mj mr := zr_p (zD_of zk_133 d_133_150 rfl rfl) rfl
theorem q_133_151 : zRun 133 151 [l0, l1, l2, l3, l4, l5] (.int x :: S) sh mi mj mr = zRun 133 152 [zk2 l0, some (.int x), l2, l3, l4, l5] S sh mi mj mr := zr_s1 (i := 1) (v := .int x) (L := [l0, l1, l2, l3, l4, l5]) (zD_of zk_133 d_133_151 rfl rfl) rfl rfl rfl rfl
theorem q_133_152  : zRun 133 152 L S sh mi mj mr = zRun 133 308 L S sh mi mj mr := zr_go (off := 156) (zD_of zk_133 d_133_152 rfl rfl) rfl rfl (by decide)
theorem q_133_155 : zRun 133 155 [l0, l1, l2, some (.int x), l4, l5] S sh mi mj mr = zRun 133 156 [l0, l1, l2, some (.int x), l4, l5] (.int x :: S) sh mi mj mr := zr_l (zD_of zk_133 d_133_155 rfl rfl) rfl rfl rfl
theorem q_133_156  : zRun 133 156 L S sh mi mj mr = zRun 133 158 L (.int 41 :: S) sh mi mj mr := zr_p (zD_of zk_133 d_133_156 rfl rfl) rfl
theorem q_133_158  : zRun 133 158 L (.int y :: .int x :: S) sh mi mj mr = if ¬ x = y then zRun 133 208 L S sh mi mj mr else zRun 133 161 L S sh mi mj mr := zr_if (off := 50) (P := ¬ x = y) (zD_of zk_133 d_133_158 rfl rfl) rfl rfl (by decide)
theorem q_133_161r : zRun 133 161 [some (.ref o), l1, l2, l3, l4, l5] S sh mi mj mr = zRun 133 162 [some (.ref o), l1, l2, l3, l4, l5] (.ref o :: S) sh mi mj mr := zr_l (zD_of zk_133 d_133_161 rfl rfl) rfl rfl rfl
theorem q_133_161n : zRun 133 161 [some (.null), l1, l2, l3, l4, l5] S sh mi mj mr = zRun 133 162 [some (.null), l1, l2, l3, l4, l5] (.null :: S) sh mi mj mr := zr_l (zD_of zk_133 d_133_161 rfl rfl) rfl rfl rfl
theorem q_133_162  : zRun 133 162 L S sh mi mj mr = zRun 133 163 L (.int 1 :: S) sh mi mj mr := zr_p (zD_of zk_133 d_133_162 rfl rfl) rfl
theorem q_133_163  {x0 : Int32} (hS : zcat S ≤ 8) (h : zIs sh o 0 8) : zRun 133 163 L (.int x0 :: .ref o :: S) sh mi mj mr = (zCall 128 [.ref o, .int x0] sh mi mj mr).bind fun r => zRun 133 166 L (r.1.toList ++ S) r.2.1 r.2.2.1 r.2.2.2.1 r.2.2.2.2 := zr_V (zD_of zk_133 d_133_163 rfl rfl) rfl zk_128 rfl rfl rfl hS h
theorem q_133_166r : zRun 133 166 [some (.ref o), l1, l2, l3, l4, l5] S sh mi mj mr = zRun 133 167 [some (.ref o), l1, l2, l3, l4, l5] (.ref o :: S) sh mi mj mr := zr_l (zD_of zk_133 d_133_166 rfl rfl) rfl rfl rfl
theorem q_133_166n : zRun 133 166 [some (.null), l1, l2, l3, l4, l5] S sh mi mj mr = zRun 133 167 [some (.null), l1, l2, l3, l4, l5] (.null :: S) sh mi mj mr := zr_l (zD_of zk_133 d_133_166 rfl rfl) rfl rfl rfl
theorem q_133_167r : zRun 133 167 L (.ref o :: S) sh mi mj mr = zRun 133 168 L (.ref o :: .ref o :: S) sh mi mj mr := zr_p (zD_of zk_133 d_133_167 rfl rfl) rfl
theorem q_133_167i : zRun 133 167 L (.int x :: S) sh mi mj mr = zRun 133 168 L (.int x :: .int x :: S) sh mi mj mr := zr_p (zD_of zk_133 d_133_167 rfl rfl) rfl
theorem q_133_168 (h : zIs sh o 0 8) : zRun 133 168 L (.ref o :: S) sh mi mj mr = zRun 133 171 L (.int (mi o 8) :: S) sh mi mj mr := zr_getI (zD_of zk_133 d_133_168 rfl rfl) rfl rfl (Or.inl rfl) h
theorem q_133_171  : zRun 133 171 L S sh mi mj mr = zRun 133 172 L (.int 1 :: S) sh mi mj mr := zr_p (zD_of zk_133 d_133_171 rfl rfl) rfl
theorem q_133_172  : zRun 133 172 L (.int y :: .int x :: S) sh mi mj mr = zRun 133 173 L (.int (x - y) :: S) sh mi mj mr := zr_p (zD_of zk_133 d_133_172 rfl rfl) rfl
theorem q_133_173 (h : zIs sh o 0 8) : zRun 133 173 L (.int x :: .ref o :: S) sh mi mj mr = zRun 133 176 L S sh (zup mi o 8 x) mj mr := zr_putI (zD_of zk_133 d_133_173 rfl rfl) rfl rfl rfl (Or.inl rfl) h
theorem q_133_176r : zRun 133 176 [some (.ref o), l1, l2, l3, l4, l5] S sh mi mj mr = zRun 133 177 [some (.ref o), l1, l2, l3, l4, l5] (.ref o :: S) sh mi mj mr := zr_l (zD_of zk_133 d_133_176 rfl rfl) rfl rfl rfl
theorem q_133_176n : zRun 133 176 [some (.null), l1, l2, l3, l4, l5] S sh mi mj mr = zRun 133 177 [some (.null), l1, l2, l3, l4, l5] (.null :: S) sh mi mj mr := zr_l (zD_of zk_133 d_133_176 rfl rfl) rfl rfl rfl
theorem q_133_177 (h : zIs sh o 0 8) : zRun 133 177 L (.ref o :: S) sh mi mj mr = zRun 133 180 L (va_rf (mr o 7) :: S) sh mi mj mr := zr_getR (zD_of zk_133 d_133_177 rfl rfl) rfl rfl rfl h
theorem q_133_180r : zRun 133 180 [some (.ref o), l1, l2, l3, l4, l5] S sh mi mj mr = zRun 133 181 [some (.ref o), l1, l2, l3, l4, l5] (.ref o :: S) sh mi mj mr := zr_l (zD_of zk_133 d_133_180 rfl rfl) rfl rfl rfl
theorem q_133_180n : zRun 133 180 [some (.null), l1, l2, l3, l4, l5] S sh mi mj mr = zRun 133 181 [some (.null), l1, l2, l3, l4, l5] (.null :: S) sh mi mj mr := zr_l (zD_of zk_133 d_133_180 rfl rfl) rfl rfl rfl
theorem q_133_181 (h : zIs sh o 0 8) : zRun 133 181 L (.ref o :: S) sh mi mj mr = zRun 133 184 L (.int (mi o 8) :: S) sh mi mj mr := zr_getI (zD_of zk_133 d_133_181 rfl rfl) rfl rfl (Or.inl rfl) h
theorem q_133_184 (h : zAt sh o 1 x) : zRun 133 184 L (.int x :: .ref o :: S) sh mi mj mr = zRun 133 185 L (.int (mi o x.toNatClampNeg) :: S) sh mi mj mr := zr_iald (zD_of zk_133 d_133_184 rfl rfl) h
theorem q_133_185 : zRun 133 185 [l0, l1, l2, l3, l4, l5] (.int x :: S) sh mi mj mr = zRun 133 187 [l0, l1, l2, l3, zk2 l4, some (.int x)] S sh mi mj mr := zr_s1 (i := 5) (v := .int x) (L := [l0, l1, l2, l3, l4, l5]) (zD_of zk_133 d_133_185 rfl rfl) rfl rfl rfl rfl
theorem q_133_187 : zRun 133 187 [l0, l1, l2, l3, l4, some (.int x)] S sh mi mj mr = zRun 133 189 [l0, l1, l2, l3, l4, some (.int x)] (.int x :: S) sh mi mj mr := zr_l (zD_of zk_133 d_133_187 rfl rfl) rfl rfl rfl
theorem q_133_189  : zRun 133 189 L S sh mi mj mr = zRun 133 191 L (.int (-100) :: S) sh mi mj mr := zr_p (zD_of zk_133 d_133_189 rfl rfl) rfl
theorem q_133_191  : zRun 133 191 L (.int y :: .int x :: S) sh mi mj mr = if y ≤ x then zRun 133 205 L S sh mi mj mr else zRun 133 194 L S sh mi mj mr := zr_if (off := 14) (P := y ≤ x) (zD_of zk_133 d_133_191 rfl rfl) rfl rfl (by decide)
theorem q_133_194r : zRun 133 194 [some (.ref o), l1, l2, l3, l4, l5] S sh mi mj mr = zRun 133 195 [some (.ref o), l1, l2, l3, l4, l5] (.ref o :: S) sh mi mj mr := zr_l (zD_of zk_133 d_133_194 rfl rfl) rfl rfl rfl
theorem q_133_194n : zRun 133 194 [some (.null), l1, l2, l3, l4, l5] S sh mi mj mr = zRun 133 195 [some (.null), l1, l2, l3, l4, l5] (.null :: S) sh mi mj mr := zr_l (zD_of zk_133 d_133_194 rfl rfl) rfl rfl rfl
theorem q_133_195 : zRun 133 195 [l0, l1, l2, l3, l4, some (.int x)] S sh mi mj mr = zRun 133 197 [l0, l1, l2, l3, l4, some (.int x)] (.int x :: S) sh mi mj mr := zr_l (zD_of zk_133 d_133_195 rfl rfl) rfl rfl rfl
theorem q_133_197  : zRun 133 197 L (.int x :: S) sh mi mj mr = zRun 133 198 L (.int (-x) :: S) sh mi mj mr := zr_p (zD_of zk_133 d_133_197 rfl rfl) rfl
theorem q_133_198  : zRun 133 198 L S sh mi mj mr = zRun 133 200 L (.int 100 :: S) sh mi mj mr := zr_p (zD_of zk_133 d_133_198 rfl rfl) rfl
theorem q_133_200  : zRun 133 200 L (.int y :: .int x :: S) sh mi mj mr = zRun 133 201 L (.int (x - y) :: S) sh mi mj mr := zr_p (zD_of zk_133 d_133_200 rfl rfl) rfl
theorem q_133_201  : zRun 133 201 L S sh mi mj mr = zRun 133 202 L (.int 0 :: S) sh mi mj mr := zr_p (zD_of zk_133 d_133_201 rfl rfl) rfl
theorem q_133_202  {x0 x1 : Int32} (hS : zcat S ≤ 8) (h : zIs sh o 0 8) : zRun 133 202 L (.int x1 :: .int x0 :: .ref o :: S) sh mi mj mr = (zCall 126 [.ref o, .int x0, .int x1] sh mi mj mr).bind fun r => zRun 133 205 L (r.1.toList ++ S) r.2.1 r.2.2.1 r.2.2.2.1 r.2.2.2.2 := zr_V (zD_of zk_133 d_133_202 rfl rfl) rfl zk_126 rfl rfl rfl hS h
theorem q_133_205  : zRun 133 205 L S sh mi mj mr = zRun 133 308 L S sh mi mj mr := zr_go (off := 103) (zD_of zk_133 d_133_205 rfl rfl) rfl rfl (by decide)
theorem q_133_208 : zRun 133 208 [l0, l1, l2, some (.int x), l4, l5] S sh mi mj mr = zRun 133 209 [l0, l1, l2, some (.int x), l4, l5] (.int x :: S) sh mi mj mr := zr_l (zD_of zk_133 d_133_208 rfl rfl) rfl rfl rfl
theorem q_133_209  : zRun 133 209 L S sh mi mj mr = zRun 133 211 L (.int 44 :: S) sh mi mj mr := zr_p (zD_of zk_133 d_133_209 rfl rfl) rfl
theorem q_133_211  : zRun 133 211 L (.int y :: .int x :: S) sh mi mj mr = if ¬ x = y then zRun 133 224 L S sh mi mj mr else zRun 133 214 L S sh mi mj mr := zr_if (off := 13) (P := ¬ x = y) (zD_of zk_133 d_133_211 rfl rfl) rfl rfl (by decide)
theorem q_133_214r : zRun 133 214 [some (.ref o), l1, l2, l3, l4, l5] S sh mi mj mr = zRun 133 215 [some (.ref o), l1, l2, l3, l4, l5] (.ref o :: S) sh mi mj mr := zr_l (zD_of zk_133 d_133_214 rfl rfl) rfl rfl rfl
theorem q_133_214n : zRun 133 214 [some (.null), l1, l2, l3, l4, l5] S sh mi mj mr = zRun 133 215 [some (.null), l1, l2, l3, l4, l5] (.null :: S) sh mi mj mr := zr_l (zD_of zk_133 d_133_214 rfl rfl) rfl rfl rfl
theorem q_133_215  : zRun 133 215 L S sh mi mj mr = zRun 133 216 L (.int 1 :: S) sh mi mj mr := zr_p (zD_of zk_133 d_133_215 rfl rfl) rfl
theorem q_133_216  {x0 : Int32} (hS : zcat S ≤ 8) (h : zIs sh o 0 8) : zRun 133 216 L (.int x0 :: .ref o :: S) sh mi mj mr = (zCall 128 [.ref o, .int x0] sh mi mj mr).bind fun r => zRun 133 219 L (r.1.toList ++ S) r.2.1 r.2.2.1 r.2.2.2.1 r.2.2.2.2 := zr_V (zD_of zk_133 d_133_216 rfl rfl) rfl zk_128 rfl rfl rfl hS h
theorem q_133_219  : zRun 133 219 L S sh mi mj mr = zRun 133 220 L (.int 1 :: S) sh mi mj mr := zr_p (zD_of zk_133 d_133_219 rfl rfl) rfl
theorem q_133_220 : zRun 133 220 [l0, l1, l2, l3, l4, l5] (.int x :: S) sh mi mj mr = zRun 133 221 [zk2 l0, some (.int x), l2, l3, l4, l5] S sh mi mj mr := zr_s1 (i := 1) (v := .int x) (L := [l0, l1, l2, l3, l4, l5]) (zD_of zk_133 d_133_220 rfl rfl) rfl rfl rfl rfl
theorem q_133_221  : zRun 133 221 L S sh mi mj mr = zRun 133 308 L S sh mi mj mr := zr_go (off := 87) (zD_of zk_133 d_133_221 rfl rfl) rfl rfl (by decide)
theorem q_133_224 : zRun 133 224 [l0, l1, l2, some (.int x), l4, l5] S sh mi mj mr = zRun 133 225 [l0, l1, l2, some (.int x), l4, l5] (.int x :: S) sh mi mj mr := zr_l (zD_of zk_133 d_133_224 rfl rfl) rfl rfl rfl
theorem q_133_225  : zRun 133 225 L S sh mi mj mr = zRun 133 227 L (.int 45 :: S) sh mi mj mr := zr_p (zD_of zk_133 d_133_225 rfl rfl) rfl
theorem q_133_227  : zRun 133 227 L (.int y :: .int x :: S) sh mi mj mr = if ¬ x = y then zRun 133 244 L S sh mi mj mr else zRun 133 230 L S sh mi mj mr := zr_if (off := 17) (P := ¬ x = y) (zD_of zk_133 d_133_227 rfl rfl) rfl rfl (by decide)
theorem q_133_230 : zRun 133 230 [l0, l1, l2, l3, some (.int x), l5] S sh mi mj mr = zRun 133 232 [l0, l1, l2, l3, some (.int x), l5] (.int x :: S) sh mi mj mr := zr_l (zD_of zk_133 d_133_230 rfl rfl) rfl rfl rfl
theorem q_133_232  : zRun 133 232 L (.int x :: S) sh mi mj mr = if x = 0 then zRun 133 244 L S sh mi mj mr else zRun 133 235 L S sh mi mj mr := zr_if (off := 12) (P := x = 0) (zD_of zk_133 d_133_232 rfl rfl) rfl rfl (by decide)
theorem q_133_235r : zRun 133 235 [some (.ref o), l1, l2, l3, l4, l5] S sh mi mj mr = zRun 133 236 [some (.ref o), l1, l2, l3, l4, l5] (.ref o :: S) sh mi mj mr := zr_l (zD_of zk_133 d_133_235 rfl rfl) rfl rfl rfl
theorem q_133_235n : zRun 133 235 [some (.null), l1, l2, l3, l4, l5] S sh mi mj mr = zRun 133 236 [some (.null), l1, l2, l3, l4, l5] (.null :: S) sh mi mj mr := zr_l (zD_of zk_133 d_133_235 rfl rfl) rfl rfl rfl
theorem q_133_236  : zRun 133 236 L S sh mi mj mr = zRun 133 238 L (.int 7 :: S) sh mi mj mr := zr_p (zD_of zk_133 d_133_236 rfl rfl) rfl
theorem q_133_238  {x0 : Int32} (hS : zcat S ≤ 8) (h : zIs sh o 0 8) : zRun 133 238 L (.int x0 :: .ref o :: S) sh mi mj mr = (zCall 129 [.ref o, .int x0] sh mi mj mr).bind fun r => zRun 133 241 L (r.1.toList ++ S) r.2.1 r.2.2.1 r.2.2.2.1 r.2.2.2.2 := zr_V (zD_of zk_133 d_133_238 rfl rfl) rfl zk_129 rfl rfl rfl hS h
theorem q_133_241  : zRun 133 241 L S sh mi mj mr = zRun 133 308 L S sh mi mj mr := zr_go (off := 67) (zD_of zk_133 d_133_241 rfl rfl) rfl rfl (by decide)
theorem q_133_244 : zRun 133 244 [l0, l1, l2, some (.int x), l4, l5] S sh mi mj mr = zRun 133 245 [l0, l1, l2, some (.int x), l4, l5] (.int x :: S) sh mi mj mr := zr_l (zD_of zk_133 d_133_244 rfl rfl) rfl rfl rfl
theorem q_133_245  : zRun 133 245 L S sh mi mj mr = zRun 133 247 L (.int 43 :: S) sh mi mj mr := zr_p (zD_of zk_133 d_133_245 rfl rfl) rfl
theorem q_133_247  : zRun 133 247 L (.int y :: .int x :: S) sh mi mj mr = if ¬ x = y then zRun 133 254 L S sh mi mj mr else zRun 133 250 L S sh mi mj mr := zr_if (off := 7) (P := ¬ x = y) (zD_of zk_133 d_133_247 rfl rfl) rfl rfl (by decide)
theorem q_133_250  : zRun 133 250 L S sh mi mj mr = zRun 133 251 L (.int 5 :: S) sh mi mj mr := zr_p (zD_of zk_133 d_133_250 rfl rfl) rfl
theorem q_133_251  : zRun 133 251 L S sh mi mj mr = zRun 133 278 L S sh mi mj mr := zr_go (off := 27) (zD_of zk_133 d_133_251 rfl rfl) rfl rfl (by decide)
theorem q_133_254 : zRun 133 254 [l0, l1, l2, some (.int x), l4, l5] S sh mi mj mr = zRun 133 255 [l0, l1, l2, some (.int x), l4, l5] (.int x :: S) sh mi mj mr := zr_l (zD_of zk_133 d_133_254 rfl rfl) rfl rfl rfl
theorem q_133_255  : zRun 133 255 L S sh mi mj mr = zRun 133 257 L (.int 45 :: S) sh mi mj mr := zr_p (zD_of zk_133 d_133_255 rfl rfl) rfl
theorem q_133_257  : zRun 133 257 L (.int y :: .int x :: S) sh mi mj mr = if ¬ x = y then zRun 133 265 L S sh mi mj mr else zRun 133 260 L S sh mi mj mr := zr_if (off := 8) (P := ¬ x = y) (zD_of zk_133 d_133_257 rfl rfl) rfl rfl (by decide)
theorem q_133_260  : zRun 133 260 L S sh mi mj mr = zRun 133 262 L (.int 6 :: S) sh mi mj mr := zr_p (zD_of zk_133 d_133_260 rfl rfl) rfl
theorem q_133_262  : zRun 133 262 L S sh mi mj mr = zRun 133 278 L S sh mi mj mr := zr_go (off := 16) (zD_of zk_133 d_133_262 rfl rfl) rfl rfl (by decide)
theorem q_133_265 : zRun 133 265 [l0, l1, l2, some (.int x), l4, l5] S sh mi mj mr = zRun 133 266 [l0, l1, l2, some (.int x), l4, l5] (.int x :: S) sh mi mj mr := zr_l (zD_of zk_133 d_133_265 rfl rfl) rfl rfl rfl
theorem q_133_266  : zRun 133 266 L S sh mi mj mr = zRun 133 268 L (.int 42 :: S) sh mi mj mr := zr_p (zD_of zk_133 d_133_266 rfl rfl) rfl
theorem q_133_268  : zRun 133 268 L (.int y :: .int x :: S) sh mi mj mr = if ¬ x = y then zRun 133 276 L S sh mi mj mr else zRun 133 271 L S sh mi mj mr := zr_if (off := 8) (P := ¬ x = y) (zD_of zk_133 d_133_268 rfl rfl) rfl rfl (by decide)
theorem q_133_271  : zRun 133 271 L S sh mi mj mr = zRun 133 273 L (.int 9 :: S) sh mi mj mr := zr_p (zD_of zk_133 d_133_271 rfl rfl) rfl
theorem q_133_273  : zRun 133 273 L S sh mi mj mr = zRun 133 278 L S sh mi mj mr := zr_go (off := 5) (zD_of zk_133 d_133_273 rfl rfl) rfl rfl (by decide)
theorem q_133_276  : zRun 133 276 L S sh mi mj mr = zRun 133 278 L (.int 11 :: S) sh mi mj mr := zr_p (zD_of zk_133 d_133_276 rfl rfl) rfl
theorem q_133_278 : zRun 133 278 [l0, l1, l2, l3, l4, l5] (.int x :: S) sh mi mj mr = zRun 133 280 [l0, l1, l2, l3, zk2 l4, some (.int x)] S sh mi mj mr := zr_s1 (i := 5) (v := .int x) (L := [l0, l1, l2, l3, l4, l5]) (zD_of zk_133 d_133_278 rfl rfl) rfl rfl rfl rfl
theorem q_133_280r : zRun 133 280 [some (.ref o), l1, l2, l3, l4, l5] S sh mi mj mr = zRun 133 281 [some (.ref o), l1, l2, l3, l4, l5] (.ref o :: S) sh mi mj mr := zr_l (zD_of zk_133 d_133_280 rfl rfl) rfl rfl rfl
theorem q_133_280n : zRun 133 280 [some (.null), l1, l2, l3, l4, l5] S sh mi mj mr = zRun 133 281 [some (.null), l1, l2, l3, l4, l5] (.null :: S) sh mi mj mr := zr_l (zD_of zk_133 d_133_280 rfl rfl) rfl rfl rfl
theorem q_133_281 : zRun 133 281 [l0, l1, l2, l3, l4, some (.int x)] S sh mi mj mr = zRun 133 283 [l0, l1, l2, l3, l4, some (.int x)] (.int x :: S) sh mi mj mr := zr_l (zD_of zk_133 d_133_281 rfl rfl) rfl rfl rfl
theorem q_133_283  : zRun 133 283 L S sh mi mj mr = zRun 133 284 L (.int 5 :: S) sh mi mj mr := zr_p (zD_of zk_133 d_133_283 rfl rfl) rfl
theorem q_133_284  : zRun 133 284 L (.int y :: .int x :: S) sh mi mj mr = if x = y then zRun 133 294 L S sh mi mj mr else zRun 133 287 L S sh mi mj mr := zr_if (off := 10) (P := x = y) (zD_of zk_133 d_133_284 rfl rfl) rfl rfl (by decide)
theorem q_133_287 : zRun 133 287 [l0, l1, l2, l3, l4, some (.int x)] S sh mi mj mr = zRun 133 289 [l0, l1, l2, l3, l4, some (.int x)] (.int x :: S) sh mi mj mr := zr_l (zD_of zk_133 d_133_287 rfl rfl) rfl rfl rfl
theorem q_133_289  : zRun 133 289 L S sh mi mj mr = zRun 133 291 L (.int 6 :: S) sh mi mj mr := zr_p (zD_of zk_133 d_133_289 rfl rfl) rfl
theorem q_133_291  : zRun 133 291 L (.int y :: .int x :: S) sh mi mj mr = if ¬ x = y then zRun 133 298 L S sh mi mj mr else zRun 133 294 L S sh mi mj mr := zr_if (off := 7) (P := ¬ x = y) (zD_of zk_133 d_133_291 rfl rfl) rfl rfl (by decide)
theorem q_133_294  : zRun 133 294 L S sh mi mj mr = zRun 133 295 L (.int 1 :: S) sh mi mj mr := zr_p (zD_of zk_133 d_133_294 rfl rfl) rfl
theorem q_133_295  : zRun 133 295 L S sh mi mj mr = zRun 133 299 L S sh mi mj mr := zr_go (off := 4) (zD_of zk_133 d_133_295 rfl rfl) rfl rfl (by decide)
theorem q_133_298  : zRun 133 298 L S sh mi mj mr = zRun 133 299 L (.int 3 :: S) sh mi mj mr := zr_p (zD_of zk_133 d_133_298 rfl rfl) rfl
theorem q_133_299  {x0 : Int32} (hS : zcat S ≤ 8) (h : zIs sh o 0 8) : zRun 133 299 L (.int x0 :: .ref o :: S) sh mi mj mr = (zCall 128 [.ref o, .int x0] sh mi mj mr).bind fun r => zRun 133 302 L (r.1.toList ++ S) r.2.1 r.2.2.1 r.2.2.2.1 r.2.2.2.2 := zr_V (zD_of zk_133 d_133_299 rfl rfl) rfl zk_128 rfl rfl rfl hS h
theorem q_133_302r : zRun 133 302 [some (.ref o), l1, l2, l3, l4, l5] S sh mi mj mr = zRun 133 303 [some (.ref o), l1, l2, l3, l4, l5] (.ref o :: S) sh mi mj mr := zr_l (zD_of zk_133 d_133_302 rfl rfl) rfl rfl rfl
theorem q_133_302n : zRun 133 302 [some (.null), l1, l2, l3, l4, l5] S sh mi mj mr = zRun 133 303 [some (.null), l1, l2, l3, l4, l5] (.null :: S) sh mi mj mr := zr_l (zD_of zk_133 d_133_302 rfl rfl) rfl rfl rfl
theorem q_133_303 : zRun 133 303 [l0, l1, l2, l3, l4, some (.int x)] S sh mi mj mr = zRun 133 305 [l0, l1, l2, l3, l4, some (.int x)] (.int x :: S) sh mi mj mr := zr_l (zD_of zk_133 d_133_303 rfl rfl) rfl rfl rfl
theorem q_133_305  {x0 : Int32} (hS : zcat S ≤ 8) (h : zIs sh o 0 8) : zRun 133 305 L (.int x0 :: .ref o :: S) sh mi mj mr = (zCall 129 [.ref o, .int x0] sh mi mj mr).bind fun r => zRun 133 308 L (r.1.toList ++ S) r.2.1 r.2.2.1 r.2.2.2.1 r.2.2.2.2 := zr_V (zD_of zk_133 d_133_305 rfl rfl) rfl zk_129 rfl rfl rfl hS h
theorem q_133_308  : zRun 133 308 [l0, l1, some (.int x), l3, l4, l5] S sh mi mj mr = zRun 133 311 [l0, zk2 l1, some (.int (x + 1)), l3, l4, l5] S sh mi mj mr := zr_s1 (i := 2) (v := .int (x + 1)) (L := [l0, l1, some (.int x), l3, l4, l5]) (zD_of zk_133 d_133_308 rfl rfl) rfl rfl rfl rfl
theorem q_133_311  : zRun 133 311 L S sh mi mj mr = zRun 133 22 L S sh mi mj mr := zr_go (off := (-289)) (zD_of zk_133 d_133_311 rfl rfl) rfl rfl (by decide)
theorem q_133_314r : zRun 133 314 [some (.ref o), l1, l2, l3, l4, l5] S sh mi mj mr = zRun 133 315 [some (.ref o), l1, l2, l3, l4, l5] (.ref o :: S) sh mi mj mr := zr_l (zD_of zk_133 d_133_314 rfl rfl) rfl rfl rfl
theorem q_133_314n : zRun 133 314 [some (.null), l1, l2, l3, l4, l5] S sh mi mj mr = zRun 133 315 [some (.null), l1, l2, l3, l4, l5] (.null :: S) sh mi mj mr := zr_l (zD_of zk_133 d_133_314 rfl rfl) rfl rfl rfl
theorem q_133_315  : zRun 133 315 L S sh mi mj mr = zRun 133 316 L (.int 1 :: S) sh mi mj mr := zr_p (zD_of zk_133 d_133_315 rfl rfl) rfl
theorem q_133_316  {x0 : Int32} (hS : zcat S ≤ 8) (h : zIs sh o 0 8) : zRun 133 316 L (.int x0 :: .ref o :: S) sh mi mj mr = (zCall 128 [.ref o, .int x0] sh mi mj mr).bind fun r => zRun 133 319 L (r.1.toList ++ S) r.2.1 r.2.2.1 r.2.2.2.1 r.2.2.2.2 := zr_V (zD_of zk_133 d_133_316 rfl rfl) rfl zk_128 rfl rfl rfl hS h
theorem q_133_319  : zRun 133 319 L [] sh mi mj mr = some (none, sh, mi, mj, mr) := zr_ret (zD_of zk_133 d_133_319 rfl rfl) rfl rfl rfl rfl rfl rfl
theorem e_133 : zCall 133 [.ref o] sh mi mj mr = zRun 133 0 [some (.ref o), none, none, none, none, none] [] sh mi mj mr := rfl
theorem d_134_0 : decode cX8_load 0 = .ok (.iload_n 1, 1) := by decide +kernel
theorem d_134_1 : decode cX8_load 1 = .ok (.iconst 0, 1) := by decide +kernel
theorem d_134_2 : decode cX8_load 2 = .ok (.iconst 3, 1) := by decide +kernel
theorem d_134_3 : decode cX8_load 3 = .ok (.invokestatic 72, 3) := by decide +kernel
theorem d_134_6 : decode cX8_load 6 = .ok (.ifCond .ne 5, 3) := by decide +kernel
theorem d_134_9 : decode cX8_load 9 = .ok (.iconst (-1), 1) := by decide +kernel
theorem d_134_10 : decode cX8_load 10 = .ok (.ireturn, 1) := by decide +kernel
theorem d_134_11 : decode cX8_load 11 = .ok (.aload_n 0, 1) := by decide +kernel
theorem d_134_12 : decode cX8_load 12 = .ok (.invokevirtual 139, 3) := by decide +kernel
theorem d_134_15 : decode cX8_load 15 = .ok (.bipush (-6), 2) := by decide +kernel
theorem d_134_17 : decode cX8_load 17 = .ok (.if_icmp .eq 6, 3) := by decide +kernel
theorem d_134_20 : decode cX8_load 20 = .ok (.bipush (-3), 2) := by decide +kernel
theorem d_134_22 : decode cX8_load 22 = .ok (.ireturn, 1) := by decide +kernel
theorem d_134_23 : decode cX8_load 23 = .ok (.aload_n 0, 1) := by decide +kernel
theorem d_134_24 : decode cX8_load 24 = .ok (.iload_n 1, 1) := by decide +kernel
theorem d_134_25 : decode cX8_load 25 = .ok (.putfield 110, 3) := by decide +kernel
theorem d_134_28 : decode cX8_load 28 = .ok (.aload_n 0, 1) := by decide +kernel
theorem d_134_29 : decode cX8_load 29 = .ok (.invokevirtual 143, 3) := by decide +kernel
theorem d_134_32 : decode cX8_load 32 = .ok (.aload_n 0, 1) := by decide +kernel
theorem d_134_33 : decode cX8_load 33 = .ok (.iconst 0, 1) := by decide +kernel
theorem d_134_34 : decode cX8_load 34 = .ok (.putfield 86, 3) := by decide +kernel
theorem d_134_37 : decode cX8_load 37 = .ok (.aload_n 0, 1) := by decide +kernel
theorem d_134_38 : decode cX8_load 38 = .ok (.getfield 7, 3) := by decide +kernel
theorem d_134_41 : decode cX8_load 41 = .ok (.bipush 9, 2) := by decide +kernel
theorem d_134_43 : decode cX8_load 43 = .ok (.iload_n 1, 1) := by decide +kernel
theorem d_134_44 : decode cX8_load 44 = .ok (.iadd, 1) := by decide +kernel
theorem d_134_45 : decode cX8_load 45 = .ok (.iaload, 1) := by decide +kernel
theorem d_134_46 : decode cX8_load 46 = .ok (.ireturn, 1) := by decide +kernel
theorem q_134_0 : zRun 134 0 [l0, some (.int x)] S sh mi mj mr = zRun 134 1 [l0, some (.int x)] (.int x :: S) sh mi mj mr := zr_l (zD_of zk_134 d_134_0 rfl rfl) rfl rfl rfl
theorem q_134_1  : zRun 134 1 L S sh mi mj mr = zRun 134 2 L (.int 0 :: S) sh mi mj mr := zr_p (zD_of zk_134 d_134_1 rfl rfl) rfl
theorem q_134_2  : zRun 134 2 L S sh mi mj mr = zRun 134 3 L (.int 3 :: S) sh mi mj mr := zr_p (zD_of zk_134 d_134_2 rfl rfl) rfl
theorem q_134_3  {x0 x1 x2 : Int32} (hS : zcat S ≤ 8) : zRun 134 3 L (.int x2 :: .int x1 :: .int x0 :: S) sh mi mj mr = (zCall 111 [.int x0, .int x1, .int x2] sh mi mj mr).bind fun r => zRun 134 6 L (r.1.toList ++ S) r.2.1 r.2.2.1 r.2.2.2.1 r.2.2.2.2 := zr_S (zD_of zk_134 d_134_3 rfl rfl) rfl zk_111 rfl rfl rfl hS
theorem q_134_6  : zRun 134 6 L (.int x :: S) sh mi mj mr = if ¬ x = 0 then zRun 134 11 L S sh mi mj mr else zRun 134 9 L S sh mi mj mr := zr_if (off := 5) (P := ¬ x = 0) (zD_of zk_134 d_134_6 rfl rfl) rfl rfl (by decide)
theorem q_134_9  : zRun 134 9 L S sh mi mj mr = zRun 134 10 L (.int (-1) :: S) sh mi mj mr := zr_p (zD_of zk_134 d_134_9 rfl rfl) rfl
theorem q_134_10  : zRun 134 10 L ([.int x]) sh mi mj mr = some (some (.int x), sh, mi, mj, mr) := zr_ret (zD_of zk_134 d_134_10 rfl rfl) rfl rfl rfl rfl rfl (if_pos rfl)
theorem q_134_11r : zRun 134 11 [some (.ref o), l1] S sh mi mj mr = zRun 134 12 [some (.ref o), l1] (.ref o :: S) sh mi mj mr := zr_l (zD_of zk_134 d_134_11 rfl rfl) rfl rfl rfl
theorem q_134_11n : zRun 134 11 [some (.null), l1] S sh mi mj mr = zRun 134 12 [some (.null), l1] (.null :: S) sh mi mj mr := zr_l (zD_of zk_134 d_134_11 rfl rfl) rfl rfl rfl
theorem q_134_12  (hS : zcat S ≤ 8) (h : zIs sh o 0 8) : zRun 134 12 L (.ref o :: S) sh mi mj mr = (zCall 125 [.ref o] sh mi mj mr).bind fun r => zRun 134 15 L (r.1.toList ++ S) r.2.1 r.2.2.1 r.2.2.2.1 r.2.2.2.2 := zr_V (zD_of zk_134 d_134_12 rfl rfl) rfl zk_125 rfl rfl rfl hS h
theorem q_134_15  : zRun 134 15 L S sh mi mj mr = zRun 134 17 L (.int (-6) :: S) sh mi mj mr := zr_p (zD_of zk_134 d_134_15 rfl rfl) rfl
theorem q_134_17  : zRun 134 17 L (.int y :: .int x :: S) sh mi mj mr = if x = y then zRun 134 23 L S sh mi mj mr else zRun 134 20 L S sh mi mj mr := zr_if (off := 6) (P := x = y) (zD_of zk_134 d_134_17 rfl rfl) rfl rfl (by decide)
theorem q_134_20  : zRun 134 20 L S sh mi mj mr = zRun 134 22 L (.int (-3) :: S) sh mi mj mr := zr_p (zD_of zk_134 d_134_20 rfl rfl) rfl
theorem q_134_22  : zRun 134 22 L ([.int x]) sh mi mj mr = some (some (.int x), sh, mi, mj, mr) := zr_ret (zD_of zk_134 d_134_22 rfl rfl) rfl rfl rfl rfl rfl (if_pos rfl)
theorem q_134_23r : zRun 134 23 [some (.ref o), l1] S sh mi mj mr = zRun 134 24 [some (.ref o), l1] (.ref o :: S) sh mi mj mr := zr_l (zD_of zk_134 d_134_23 rfl rfl) rfl rfl rfl
theorem q_134_23n : zRun 134 23 [some (.null), l1] S sh mi mj mr = zRun 134 24 [some (.null), l1] (.null :: S) sh mi mj mr := zr_l (zD_of zk_134 d_134_23 rfl rfl) rfl rfl rfl
theorem q_134_24 : zRun 134 24 [l0, some (.int x)] S sh mi mj mr = zRun 134 25 [l0, some (.int x)] (.int x :: S) sh mi mj mr := zr_l (zD_of zk_134 d_134_24 rfl rfl) rfl rfl rfl
theorem q_134_25 (h : zIs sh o 0 8) : zRun 134 25 L (.int x :: .ref o :: S) sh mi mj mr = zRun 134 28 L S sh (zup mi o 9 x) mj mr := zr_putI (zD_of zk_134 d_134_25 rfl rfl) rfl rfl rfl (Or.inl rfl) h
theorem q_134_28r : zRun 134 28 [some (.ref o), l1] S sh mi mj mr = zRun 134 29 [some (.ref o), l1] (.ref o :: S) sh mi mj mr := zr_l (zD_of zk_134 d_134_28 rfl rfl) rfl rfl rfl
theorem q_134_28n : zRun 134 28 [some (.null), l1] S sh mi mj mr = zRun 134 29 [some (.null), l1] (.null :: S) sh mi mj mr := zr_l (zD_of zk_134 d_134_28 rfl rfl) rfl rfl rfl
theorem q_134_29  (hS : zcat S ≤ 8) (h : zIs sh o 0 8) : zRun 134 29 L (.ref o :: S) sh mi mj mr = (zCall 133 [.ref o] sh mi mj mr).bind fun r => zRun 134 32 L (r.1.toList ++ S) r.2.1 r.2.2.1 r.2.2.2.1 r.2.2.2.2 := zr_V (zD_of zk_134 d_134_29 rfl rfl) rfl zk_133 rfl rfl rfl hS h
theorem q_134_32r : zRun 134 32 [some (.ref o), l1] S sh mi mj mr = zRun 134 33 [some (.ref o), l1] (.ref o :: S) sh mi mj mr := zr_l (zD_of zk_134 d_134_32 rfl rfl) rfl rfl rfl
theorem q_134_32n : zRun 134 32 [some (.null), l1] S sh mi mj mr = zRun 134 33 [some (.null), l1] (.null :: S) sh mi mj mr := zr_l (zD_of zk_134 d_134_32 rfl rfl) rfl rfl rfl
theorem q_134_33  : zRun 134 33 L S sh mi mj mr = zRun 134 34 L (.int 0 :: S) sh mi mj mr := zr_p (zD_of zk_134 d_134_33 rfl rfl) rfl
theorem q_134_34 (h : zIs sh o 0 8) : zRun 134 34 L (.int x :: .ref o :: S) sh mi mj mr = zRun 134 37 L S sh (zup mi o 4 x) mj mr := zr_putI (zD_of zk_134 d_134_34 rfl rfl) rfl rfl rfl (Or.inl rfl) h
theorem q_134_37r : zRun 134 37 [some (.ref o), l1] S sh mi mj mr = zRun 134 38 [some (.ref o), l1] (.ref o :: S) sh mi mj mr := zr_l (zD_of zk_134 d_134_37 rfl rfl) rfl rfl rfl
theorem q_134_37n : zRun 134 37 [some (.null), l1] S sh mi mj mr = zRun 134 38 [some (.null), l1] (.null :: S) sh mi mj mr := zr_l (zD_of zk_134 d_134_37 rfl rfl) rfl rfl rfl
theorem q_134_38 (h : zIs sh o 0 8) : zRun 134 38 L (.ref o :: S) sh mi mj mr = zRun 134 41 L (va_rf (mr o 0) :: S) sh mi mj mr := zr_getR (zD_of zk_134 d_134_38 rfl rfl) rfl rfl rfl h
theorem q_134_41  : zRun 134 41 L S sh mi mj mr = zRun 134 43 L (.int 9 :: S) sh mi mj mr := zr_p (zD_of zk_134 d_134_41 rfl rfl) rfl
theorem q_134_43 : zRun 134 43 [l0, some (.int x)] S sh mi mj mr = zRun 134 44 [l0, some (.int x)] (.int x :: S) sh mi mj mr := zr_l (zD_of zk_134 d_134_43 rfl rfl) rfl rfl rfl
theorem q_134_44  : zRun 134 44 L (.int y :: .int x :: S) sh mi mj mr = zRun 134 45 L (.int (x + y) :: S) sh mi mj mr := zr_p (zD_of zk_134 d_134_44 rfl rfl) rfl
theorem q_134_45 (h : zAt sh o 1 x) : zRun 134 45 L (.int x :: .ref o :: S) sh mi mj mr = zRun 134 46 L (.int (mi o x.toNatClampNeg) :: S) sh mi mj mr := zr_iald (zD_of zk_134 d_134_45 rfl rfl) h
theorem q_134_46  : zRun 134 46 L ([.int x]) sh mi mj mr = some (some (.int x), sh, mi, mj, mr) := zr_ret (zD_of zk_134 d_134_46 rfl rfl) rfl rfl rfl rfl rfl (if_pos rfl)
theorem e_134 {x0 : Int32} : zCall 134 [.ref o, .int x0] sh mi mj mr = zRun 134 0 [some (.ref o), some (.int x0)] [] sh mi mj mr := rfl
theorem d_135_0 : decode cX8_step 0 = .ok (.aload_n 0, 1) := by decide +kernel
theorem d_135_1 : decode cX8_step 1 = .ok (.iload_n 1, 1) := by decide +kernel
theorem d_135_2 : decode cX8_step 2 = .ok (.invokevirtual 146, 3) := by decide +kernel
theorem d_135_5 : decode cX8_step 5 = .ok (.ifCond .eq 22, 3) := by decide +kernel
theorem d_135_8 : decode cX8_step 8 = .ok (.iload_n 2, 1) := by decide +kernel
theorem d_135_9 : decode cX8_step 9 = .ok (.iconst (-1), 1) := by decide +kernel
theorem d_135_10 : decode cX8_step 10 = .ok (.aload_n 0, 1) := by decide +kernel
theorem d_135_11 : decode cX8_step 11 = .ok (.getfield 7, 3) := by decide +kernel
theorem d_135_14 : decode cX8_step 14 = .ok (.bipush 9, 2) := by decide +kernel
theorem d_135_16 : decode cX8_step 16 = .ok (.iload_n 1, 1) := by decide +kernel
theorem d_135_17 : decode cX8_step 17 = .ok (.iadd, 1) := by decide +kernel
theorem d_135_18 : decode cX8_step 18 = .ok (.iaload, 1) := by decide +kernel
theorem d_135_19 : decode cX8_step 19 = .ok (.iconst 1, 1) := by decide +kernel
theorem d_135_20 : decode cX8_step 20 = .ok (.isub, 1) := by decide +kernel
theorem d_135_21 : decode cX8_step 21 = .ok (.invokestatic 72, 3) := by decide +kernel
theorem d_135_24 : decode cX8_step 24 = .ok (.ifCond .ne 5, 3) := by decide +kernel
theorem d_135_27 : decode cX8_step 27 = .ok (.iconst (-1), 1) := by decide +kernel
theorem d_135_28 : decode cX8_step 28 = .ok (.ireturn, 1) := by decide +kernel
theorem d_135_29 : decode cX8_step 29 = .ok (.iload_n 3, 1) := by decide +kernel
theorem d_135_30 : decode cX8_step 30 = .ok (.iconst 0, 1) := by decide +kernel
theorem d_135_31 : decode cX8_step 31 = .ok (.iconst 1, 1) := by decide +kernel
theorem d_135_32 : decode cX8_step 32 = .ok (.invokestatic 72, 3) := by decide +kernel
theorem d_135_35 : decode cX8_step 35 = .ok (.ifCond .ne 6, 3) := by decide +kernel
theorem d_135_38 : decode cX8_step 38 = .ok (.bipush (-2), 2) := by decide +kernel
theorem d_135_40 : decode cX8_step 40 = .ok (.ireturn, 1) := by decide +kernel
theorem d_135_41 : decode cX8_step 41 = .ok (.iload_n 2, 1) := by decide +kernel
theorem d_135_42 : decode cX8_step 42 = .ok (.iconst (-1), 1) := by decide +kernel
theorem d_135_43 : decode cX8_step 43 = .ok (.if_icmp .ne 13, 3) := by decide +kernel
theorem d_135_46 : decode cX8_step 46 = .ok (.aload_n 0, 1) := by decide +kernel
theorem d_135_47 : decode cX8_step 47 = .ok (.getfield 7, 3) := by decide +kernel
theorem d_135_50 : decode cX8_step 50 = .ok (.bipush 9, 2) := by decide +kernel
theorem d_135_52 : decode cX8_step 52 = .ok (.iload_n 1, 1) := by decide +kernel
theorem d_135_53 : decode cX8_step 53 = .ok (.iadd, 1) := by decide +kernel
theorem d_135_54 : decode cX8_step 54 = .ok (.iaload, 1) := by decide +kernel
theorem d_135_55 : decode cX8_step 55 = .ok (.ireturn, 1) := by decide +kernel
theorem d_135_56 : decode cX8_step 56 = .ok (.aload_n 0, 1) := by decide +kernel
theorem d_135_57 : decode cX8_step 57 = .ok (.getfield 7, 3) := by decide +kernel
theorem d_135_60 : decode cX8_step 60 = .ok (.bipush 13, 2) := by decide +kernel
theorem d_135_62 : decode cX8_step 62 = .ok (.bipush 60, 2) := by decide +kernel
theorem d_135_64 : decode cX8_step 64 = .ok (.iload_n 1, 1) := by decide +kernel
theorem d_135_65 : decode cX8_step 65 = .ok (.imul, 1) := by decide +kernel
theorem d_135_66 : decode cX8_step 66 = .ok (.iadd, 1) := by decide +kernel
theorem d_135_67 : decode cX8_step 67 = .ok (.iload_n 2, 1) := by decide +kernel
theorem d_135_68 : decode cX8_step 68 = .ok (.iadd, 1) := by decide +kernel
theorem d_135_69 : decode cX8_step 69 = .ok (.iaload, 1) := by decide +kernel
theorem d_135_70 : decode cX8_step 70 = .ok (.istore 4, 2) := by decide +kernel
theorem d_135_72 : decode cX8_step 72 = .ok (.iload_n 3, 1) := by decide +kernel
theorem d_135_73 : decode cX8_step 73 = .ok (.ifCond .ne 8, 3) := by decide +kernel
theorem d_135_76 : decode cX8_step 76 = .ok (.iload 4, 2) := by decide +kernel
theorem d_135_78 : decode cX8_step 78 = .ok (.goto 28, 3) := by decide +kernel
theorem d_135_81 : decode cX8_step 81 = .ok (.iload 4, 2) := by decide +kernel
theorem d_135_83 : decode cX8_step 83 = .ok (.ifCond .ne 21, 3) := by decide +kernel
theorem d_135_86 : decode cX8_step 86 = .ok (.aload_n 0, 1) := by decide +kernel
theorem d_135_87 : decode cX8_step 87 = .ok (.getfield 7, 3) := by decide +kernel
theorem d_135_90 : decode cX8_step 90 = .ok (.sipush 253, 3) := by decide +kernel
theorem d_135_93 : decode cX8_step 93 = .ok (.bipush 60, 2) := by decide +kernel
theorem d_135_95 : decode cX8_step 95 = .ok (.iload_n 1, 1) := by decide +kernel
theorem d_135_96 : decode cX8_step 96 = .ok (.imul, 1) := by decide +kernel
theorem d_135_97 : decode cX8_step 97 = .ok (.iadd, 1) := by decide +kernel
theorem d_135_98 : decode cX8_step 98 = .ok (.iload_n 2, 1) := by decide +kernel
theorem d_135_99 : decode cX8_step 99 = .ok (.iadd, 1) := by decide +kernel
theorem d_135_100 : decode cX8_step 100 = .ok (.iaload, 1) := by decide +kernel
theorem d_135_101 : decode cX8_step 101 = .ok (.goto 5, 3) := by decide +kernel
theorem d_135_104 : decode cX8_step 104 = .ok (.bipush (-6), 2) := by decide +kernel
theorem d_135_106 : decode cX8_step 106 = .ok (.ireturn, 1) := by decide +kernel
theorem q_135_0r : zRun 135 0 [some (.ref o), l1, l2, l3, l4] S sh mi mj mr = zRun 135 1 [some (.ref o), l1, l2, l3, l4] (.ref o :: S) sh mi mj mr := zr_l (zD_of zk_135 d_135_0 rfl rfl) rfl rfl rfl
theorem q_135_0n : zRun 135 0 [some (.null), l1, l2, l3, l4] S sh mi mj mr = zRun 135 1 [some (.null), l1, l2, l3, l4] (.null :: S) sh mi mj mr := zr_l (zD_of zk_135 d_135_0 rfl rfl) rfl rfl rfl
theorem q_135_1 : zRun 135 1 [l0, some (.int x), l2, l3, l4] S sh mi mj mr = zRun 135 2 [l0, some (.int x), l2, l3, l4] (.int x :: S) sh mi mj mr := zr_l (zD_of zk_135 d_135_1 rfl rfl) rfl rfl rfl
theorem q_135_2  {x0 : Int32} (hS : zcat S ≤ 8) (h : zIs sh o 0 8) : zRun 135 2 L (.int x0 :: .ref o :: S) sh mi mj mr = (zCall 113 [.ref o, .int x0] sh mi mj mr).bind fun r => zRun 135 5 L (r.1.toList ++ S) r.2.1 r.2.2.1 r.2.2.2.1 r.2.2.2.2 := zr_V (zD_of zk_135 d_135_2 rfl rfl) rfl zk_113 rfl rfl rfl hS h
theorem q_135_5  : zRun 135 5 L (.int x :: S) sh mi mj mr = if x = 0 then zRun 135 27 L S sh mi mj mr else zRun 135 8 L S sh mi mj mr := zr_if (off := 22) (P := x = 0) (zD_of zk_135 d_135_5 rfl rfl) rfl rfl (by decide)
theorem q_135_8 : zRun 135 8 [l0, l1, some (.int x), l3, l4] S sh mi mj mr = zRun 135 9 [l0, l1, some (.int x), l3, l4] (.int x :: S) sh mi mj mr := zr_l (zD_of zk_135 d_135_8 rfl rfl) rfl rfl rfl
theorem q_135_9  : zRun 135 9 L S sh mi mj mr = zRun 135 10 L (.int (-1) :: S) sh mi mj mr := zr_p (zD_of zk_135 d_135_9 rfl rfl) rfl
theorem q_135_10r : zRun 135 10 [some (.ref o), l1, l2, l3, l4] S sh mi mj mr = zRun 135 11 [some (.ref o), l1, l2, l3, l4] (.ref o :: S) sh mi mj mr := zr_l (zD_of zk_135 d_135_10 rfl rfl) rfl rfl rfl
theorem q_135_10n : zRun 135 10 [some (.null), l1, l2, l3, l4] S sh mi mj mr = zRun 135 11 [some (.null), l1, l2, l3, l4] (.null :: S) sh mi mj mr := zr_l (zD_of zk_135 d_135_10 rfl rfl) rfl rfl rfl
theorem q_135_11 (h : zIs sh o 0 8) : zRun 135 11 L (.ref o :: S) sh mi mj mr = zRun 135 14 L (va_rf (mr o 0) :: S) sh mi mj mr := zr_getR (zD_of zk_135 d_135_11 rfl rfl) rfl rfl rfl h
theorem q_135_14  : zRun 135 14 L S sh mi mj mr = zRun 135 16 L (.int 9 :: S) sh mi mj mr := zr_p (zD_of zk_135 d_135_14 rfl rfl) rfl
theorem q_135_16 : zRun 135 16 [l0, some (.int x), l2, l3, l4] S sh mi mj mr = zRun 135 17 [l0, some (.int x), l2, l3, l4] (.int x :: S) sh mi mj mr := zr_l (zD_of zk_135 d_135_16 rfl rfl) rfl rfl rfl
theorem q_135_17  : zRun 135 17 L (.int y :: .int x :: S) sh mi mj mr = zRun 135 18 L (.int (x + y) :: S) sh mi mj mr := zr_p (zD_of zk_135 d_135_17 rfl rfl) rfl
theorem q_135_18 (h : zAt sh o 1 x) : zRun 135 18 L (.int x :: .ref o :: S) sh mi mj mr = zRun 135 19 L (.int (mi o x.toNatClampNeg) :: S) sh mi mj mr := zr_iald (zD_of zk_135 d_135_18 rfl rfl) h
theorem q_135_19  : zRun 135 19 L S sh mi mj mr = zRun 135 20 L (.int 1 :: S) sh mi mj mr := zr_p (zD_of zk_135 d_135_19 rfl rfl) rfl
theorem q_135_20  : zRun 135 20 L (.int y :: .int x :: S) sh mi mj mr = zRun 135 21 L (.int (x - y) :: S) sh mi mj mr := zr_p (zD_of zk_135 d_135_20 rfl rfl) rfl
theorem q_135_21  {x0 x1 x2 : Int32} (hS : zcat S ≤ 8) : zRun 135 21 L (.int x2 :: .int x1 :: .int x0 :: S) sh mi mj mr = (zCall 111 [.int x0, .int x1, .int x2] sh mi mj mr).bind fun r => zRun 135 24 L (r.1.toList ++ S) r.2.1 r.2.2.1 r.2.2.2.1 r.2.2.2.2 := zr_S (zD_of zk_135 d_135_21 rfl rfl) rfl zk_111 rfl rfl rfl hS
theorem q_135_24  : zRun 135 24 L (.int x :: S) sh mi mj mr = if ¬ x = 0 then zRun 135 29 L S sh mi mj mr else zRun 135 27 L S sh mi mj mr := zr_if (off := 5) (P := ¬ x = 0) (zD_of zk_135 d_135_24 rfl rfl) rfl rfl (by decide)
theorem q_135_27  : zRun 135 27 L S sh mi mj mr = zRun 135 28 L (.int (-1) :: S) sh mi mj mr := zr_p (zD_of zk_135 d_135_27 rfl rfl) rfl
theorem q_135_28  : zRun 135 28 L ([.int x]) sh mi mj mr = some (some (.int x), sh, mi, mj, mr) := zr_ret (zD_of zk_135 d_135_28 rfl rfl) rfl rfl rfl rfl rfl (if_pos rfl)
theorem q_135_29 : zRun 135 29 [l0, l1, l2, some (.int x), l4] S sh mi mj mr = zRun 135 30 [l0, l1, l2, some (.int x), l4] (.int x :: S) sh mi mj mr := zr_l (zD_of zk_135 d_135_29 rfl rfl) rfl rfl rfl
theorem q_135_30  : zRun 135 30 L S sh mi mj mr = zRun 135 31 L (.int 0 :: S) sh mi mj mr := zr_p (zD_of zk_135 d_135_30 rfl rfl) rfl
theorem q_135_31  : zRun 135 31 L S sh mi mj mr = zRun 135 32 L (.int 1 :: S) sh mi mj mr := zr_p (zD_of zk_135 d_135_31 rfl rfl) rfl
theorem q_135_32  {x0 x1 x2 : Int32} (hS : zcat S ≤ 8) : zRun 135 32 L (.int x2 :: .int x1 :: .int x0 :: S) sh mi mj mr = (zCall 111 [.int x0, .int x1, .int x2] sh mi mj mr).bind fun r => zRun 135 35 L (r.1.toList ++ S) r.2.1 r.2.2.1 r.2.2.2.1 r.2.2.2.2 := zr_S (zD_of zk_135 d_135_32 rfl rfl) rfl zk_111 rfl rfl rfl hS
theorem q_135_35  : zRun 135 35 L (.int x :: S) sh mi mj mr = if ¬ x = 0 then zRun 135 41 L S sh mi mj mr else zRun 135 38 L S sh mi mj mr := zr_if (off := 6) (P := ¬ x = 0) (zD_of zk_135 d_135_35 rfl rfl) rfl rfl (by decide)
theorem q_135_38  : zRun 135 38 L S sh mi mj mr = zRun 135 40 L (.int (-2) :: S) sh mi mj mr := zr_p (zD_of zk_135 d_135_38 rfl rfl) rfl
theorem q_135_40  : zRun 135 40 L ([.int x]) sh mi mj mr = some (some (.int x), sh, mi, mj, mr) := zr_ret (zD_of zk_135 d_135_40 rfl rfl) rfl rfl rfl rfl rfl (if_pos rfl)
theorem q_135_41 : zRun 135 41 [l0, l1, some (.int x), l3, l4] S sh mi mj mr = zRun 135 42 [l0, l1, some (.int x), l3, l4] (.int x :: S) sh mi mj mr := zr_l (zD_of zk_135 d_135_41 rfl rfl) rfl rfl rfl
theorem q_135_42  : zRun 135 42 L S sh mi mj mr = zRun 135 43 L (.int (-1) :: S) sh mi mj mr := zr_p (zD_of zk_135 d_135_42 rfl rfl) rfl
theorem q_135_43  : zRun 135 43 L (.int y :: .int x :: S) sh mi mj mr = if ¬ x = y then zRun 135 56 L S sh mi mj mr else zRun 135 46 L S sh mi mj mr := zr_if (off := 13) (P := ¬ x = y) (zD_of zk_135 d_135_43 rfl rfl) rfl rfl (by decide)
theorem q_135_46r : zRun 135 46 [some (.ref o), l1, l2, l3, l4] S sh mi mj mr = zRun 135 47 [some (.ref o), l1, l2, l3, l4] (.ref o :: S) sh mi mj mr := zr_l (zD_of zk_135 d_135_46 rfl rfl) rfl rfl rfl
theorem q_135_46n : zRun 135 46 [some (.null), l1, l2, l3, l4] S sh mi mj mr = zRun 135 47 [some (.null), l1, l2, l3, l4] (.null :: S) sh mi mj mr := zr_l (zD_of zk_135 d_135_46 rfl rfl) rfl rfl rfl
theorem q_135_47 (h : zIs sh o 0 8) : zRun 135 47 L (.ref o :: S) sh mi mj mr = zRun 135 50 L (va_rf (mr o 0) :: S) sh mi mj mr := zr_getR (zD_of zk_135 d_135_47 rfl rfl) rfl rfl rfl h
theorem q_135_50  : zRun 135 50 L S sh mi mj mr = zRun 135 52 L (.int 9 :: S) sh mi mj mr := zr_p (zD_of zk_135 d_135_50 rfl rfl) rfl
theorem q_135_52 : zRun 135 52 [l0, some (.int x), l2, l3, l4] S sh mi mj mr = zRun 135 53 [l0, some (.int x), l2, l3, l4] (.int x :: S) sh mi mj mr := zr_l (zD_of zk_135 d_135_52 rfl rfl) rfl rfl rfl
theorem q_135_53  : zRun 135 53 L (.int y :: .int x :: S) sh mi mj mr = zRun 135 54 L (.int (x + y) :: S) sh mi mj mr := zr_p (zD_of zk_135 d_135_53 rfl rfl) rfl
theorem q_135_54 (h : zAt sh o 1 x) : zRun 135 54 L (.int x :: .ref o :: S) sh mi mj mr = zRun 135 55 L (.int (mi o x.toNatClampNeg) :: S) sh mi mj mr := zr_iald (zD_of zk_135 d_135_54 rfl rfl) h
theorem q_135_55  : zRun 135 55 L ([.int x]) sh mi mj mr = some (some (.int x), sh, mi, mj, mr) := zr_ret (zD_of zk_135 d_135_55 rfl rfl) rfl rfl rfl rfl rfl (if_pos rfl)
theorem q_135_56r : zRun 135 56 [some (.ref o), l1, l2, l3, l4] S sh mi mj mr = zRun 135 57 [some (.ref o), l1, l2, l3, l4] (.ref o :: S) sh mi mj mr := zr_l (zD_of zk_135 d_135_56 rfl rfl) rfl rfl rfl
theorem q_135_56n : zRun 135 56 [some (.null), l1, l2, l3, l4] S sh mi mj mr = zRun 135 57 [some (.null), l1, l2, l3, l4] (.null :: S) sh mi mj mr := zr_l (zD_of zk_135 d_135_56 rfl rfl) rfl rfl rfl
theorem q_135_57 (h : zIs sh o 0 8) : zRun 135 57 L (.ref o :: S) sh mi mj mr = zRun 135 60 L (va_rf (mr o 0) :: S) sh mi mj mr := zr_getR (zD_of zk_135 d_135_57 rfl rfl) rfl rfl rfl h
theorem q_135_60  : zRun 135 60 L S sh mi mj mr = zRun 135 62 L (.int 13 :: S) sh mi mj mr := zr_p (zD_of zk_135 d_135_60 rfl rfl) rfl
theorem q_135_62  : zRun 135 62 L S sh mi mj mr = zRun 135 64 L (.int 60 :: S) sh mi mj mr := zr_p (zD_of zk_135 d_135_62 rfl rfl) rfl
theorem q_135_64 : zRun 135 64 [l0, some (.int x), l2, l3, l4] S sh mi mj mr = zRun 135 65 [l0, some (.int x), l2, l3, l4] (.int x :: S) sh mi mj mr := zr_l (zD_of zk_135 d_135_64 rfl rfl) rfl rfl rfl
theorem q_135_65  : zRun 135 65 L (.int y :: .int x :: S) sh mi mj mr = zRun 135 66 L (.int (x * y) :: S) sh mi mj mr := zr_p (zD_of zk_135 d_135_65 rfl rfl) rfl
theorem q_135_66  : zRun 135 66 L (.int y :: .int x :: S) sh mi mj mr = zRun 135 67 L (.int (x + y) :: S) sh mi mj mr := zr_p (zD_of zk_135 d_135_66 rfl rfl) rfl
theorem q_135_67 : zRun 135 67 [l0, l1, some (.int x), l3, l4] S sh mi mj mr = zRun 135 68 [l0, l1, some (.int x), l3, l4] (.int x :: S) sh mi mj mr := zr_l (zD_of zk_135 d_135_67 rfl rfl) rfl rfl rfl
theorem q_135_68  : zRun 135 68 L (.int y :: .int x :: S) sh mi mj mr = zRun 135 69 L (.int (x + y) :: S) sh mi mj mr := zr_p (zD_of zk_135 d_135_68 rfl rfl) rfl
theorem q_135_69 (h : zAt sh o 1 x) : zRun 135 69 L (.int x :: .ref o :: S) sh mi mj mr = zRun 135 70 L (.int (mi o x.toNatClampNeg) :: S) sh mi mj mr := zr_iald (zD_of zk_135 d_135_69 rfl rfl) h
theorem q_135_70 : zRun 135 70 [l0, l1, l2, l3, l4] (.int x :: S) sh mi mj mr = zRun 135 72 [l0, l1, l2, zk2 l3, some (.int x)] S sh mi mj mr := zr_s1 (i := 4) (v := .int x) (L := [l0, l1, l2, l3, l4]) (zD_of zk_135 d_135_70 rfl rfl) rfl rfl rfl rfl
theorem q_135_72 : zRun 135 72 [l0, l1, l2, some (.int x), l4] S sh mi mj mr = zRun 135 73 [l0, l1, l2, some (.int x), l4] (.int x :: S) sh mi mj mr := zr_l (zD_of zk_135 d_135_72 rfl rfl) rfl rfl rfl
theorem q_135_73  : zRun 135 73 L (.int x :: S) sh mi mj mr = if ¬ x = 0 then zRun 135 81 L S sh mi mj mr else zRun 135 76 L S sh mi mj mr := zr_if (off := 8) (P := ¬ x = 0) (zD_of zk_135 d_135_73 rfl rfl) rfl rfl (by decide)
theorem q_135_76 : zRun 135 76 [l0, l1, l2, l3, some (.int x)] S sh mi mj mr = zRun 135 78 [l0, l1, l2, l3, some (.int x)] (.int x :: S) sh mi mj mr := zr_l (zD_of zk_135 d_135_76 rfl rfl) rfl rfl rfl
theorem q_135_78  : zRun 135 78 L S sh mi mj mr = zRun 135 106 L S sh mi mj mr := zr_go (off := 28) (zD_of zk_135 d_135_78 rfl rfl) rfl rfl (by decide)
theorem q_135_81 : zRun 135 81 [l0, l1, l2, l3, some (.int x)] S sh mi mj mr = zRun 135 83 [l0, l1, l2, l3, some (.int x)] (.int x :: S) sh mi mj mr := zr_l (zD_of zk_135 d_135_81 rfl rfl) rfl rfl rfl
theorem q_135_83  : zRun 135 83 L (.int x :: S) sh mi mj mr = if ¬ x = 0 then zRun 135 104 L S sh mi mj mr else zRun 135 86 L S sh mi mj mr := zr_if (off := 21) (P := ¬ x = 0) (zD_of zk_135 d_135_83 rfl rfl) rfl rfl (by decide)
theorem q_135_86r : zRun 135 86 [some (.ref o), l1, l2, l3, l4] S sh mi mj mr = zRun 135 87 [some (.ref o), l1, l2, l3, l4] (.ref o :: S) sh mi mj mr := zr_l (zD_of zk_135 d_135_86 rfl rfl) rfl rfl rfl
theorem q_135_86n : zRun 135 86 [some (.null), l1, l2, l3, l4] S sh mi mj mr = zRun 135 87 [some (.null), l1, l2, l3, l4] (.null :: S) sh mi mj mr := zr_l (zD_of zk_135 d_135_86 rfl rfl) rfl rfl rfl
theorem q_135_87 (h : zIs sh o 0 8) : zRun 135 87 L (.ref o :: S) sh mi mj mr = zRun 135 90 L (va_rf (mr o 0) :: S) sh mi mj mr := zr_getR (zD_of zk_135 d_135_87 rfl rfl) rfl rfl rfl h
theorem q_135_90  : zRun 135 90 L S sh mi mj mr = zRun 135 93 L (.int 253 :: S) sh mi mj mr := zr_p (zD_of zk_135 d_135_90 rfl rfl) rfl
theorem q_135_93  : zRun 135 93 L S sh mi mj mr = zRun 135 95 L (.int 60 :: S) sh mi mj mr := zr_p (zD_of zk_135 d_135_93 rfl rfl) rfl
theorem q_135_95 : zRun 135 95 [l0, some (.int x), l2, l3, l4] S sh mi mj mr = zRun 135 96 [l0, some (.int x), l2, l3, l4] (.int x :: S) sh mi mj mr := zr_l (zD_of zk_135 d_135_95 rfl rfl) rfl rfl rfl
theorem q_135_96  : zRun 135 96 L (.int y :: .int x :: S) sh mi mj mr = zRun 135 97 L (.int (x * y) :: S) sh mi mj mr := zr_p (zD_of zk_135 d_135_96 rfl rfl) rfl
theorem q_135_97  : zRun 135 97 L (.int y :: .int x :: S) sh mi mj mr = zRun 135 98 L (.int (x + y) :: S) sh mi mj mr := zr_p (zD_of zk_135 d_135_97 rfl rfl) rfl
theorem q_135_98 : zRun 135 98 [l0, l1, some (.int x), l3, l4] S sh mi mj mr = zRun 135 99 [l0, l1, some (.int x), l3, l4] (.int x :: S) sh mi mj mr := zr_l (zD_of zk_135 d_135_98 rfl rfl) rfl rfl rfl
theorem q_135_99  : zRun 135 99 L (.int y :: .int x :: S) sh mi mj mr = zRun 135 100 L (.int (x + y) :: S) sh mi mj mr := zr_p (zD_of zk_135 d_135_99 rfl rfl) rfl
theorem q_135_100 (h : zAt sh o 1 x) : zRun 135 100 L (.int x :: .ref o :: S) sh mi mj mr = zRun 135 101 L (.int (mi o x.toNatClampNeg) :: S) sh mi mj mr := zr_iald (zD_of zk_135 d_135_100 rfl rfl) h
theorem q_135_101  : zRun 135 101 L S sh mi mj mr = zRun 135 106 L S sh mi mj mr := zr_go (off := 5) (zD_of zk_135 d_135_101 rfl rfl) rfl rfl (by decide)
theorem q_135_104  : zRun 135 104 L S sh mi mj mr = zRun 135 106 L (.int (-6) :: S) sh mi mj mr := zr_p (zD_of zk_135 d_135_104 rfl rfl) rfl
theorem q_135_106  : zRun 135 106 L ([.int x]) sh mi mj mr = some (some (.int x), sh, mi, mj, mr) := zr_ret (zD_of zk_135 d_135_106 rfl rfl) rfl rfl rfl rfl rfl (if_pos rfl)
theorem e_135 {x0 x1 x2 : Int32} : zCall 135 [.ref o, .int x0, .int x1, .int x2] sh mi mj mr = zRun 135 0 [some (.ref o), some (.int x0), some (.int x1), some (.int x2), none] [] sh mi mj mr := rfl
theorem d_136_0 : decode cX8_inputs 0 = .ok (.aload_n 0, 1) := by decide +kernel
theorem d_136_1 : decode cX8_inputs 1 = .ok (.iload_n 1, 1) := by decide +kernel
theorem d_136_2 : decode cX8_inputs 2 = .ok (.invokevirtual 146, 3) := by decide +kernel
theorem d_136_5 : decode cX8_inputs 5 = .ok (.ifCond .ne 5, 3) := by decide +kernel
theorem d_136_8 : decode cX8_inputs 8 = .ok (.iconst (-1), 1) := by decide +kernel
theorem d_136_9 : decode cX8_inputs 9 = .ok (.ireturn, 1) := by decide +kernel
theorem d_136_10 : decode cX8_inputs 10 = .ok (.iconst 0, 1) := by decide +kernel
theorem d_136_11 : decode cX8_inputs 11 = .ok (.istore_n 2, 1) := by decide +kernel
theorem d_136_12 : decode cX8_inputs 12 = .ok (.iconst 0, 1) := by decide +kernel
theorem d_136_13 : decode cX8_inputs 13 = .ok (.istore_n 3, 1) := by decide +kernel
theorem d_136_14 : decode cX8_inputs 14 = .ok (.iload_n 3, 1) := by decide +kernel
theorem d_136_15 : decode cX8_inputs 15 = .ok (.aload_n 0, 1) := by decide +kernel
theorem d_136_16 : decode cX8_inputs 16 = .ok (.getfield 7, 3) := by decide +kernel
theorem d_136_19 : decode cX8_inputs 19 = .ok (.bipush 9, 2) := by decide +kernel
theorem d_136_21 : decode cX8_inputs 21 = .ok (.iload_n 1, 1) := by decide +kernel
theorem d_136_22 : decode cX8_inputs 22 = .ok (.iadd, 1) := by decide +kernel
theorem d_136_23 : decode cX8_inputs 23 = .ok (.iaload, 1) := by decide +kernel
theorem d_136_24 : decode cX8_inputs 24 = .ok (.if_icmp .ge 48, 3) := by decide +kernel
theorem d_136_27 : decode cX8_inputs 27 = .ok (.aload_n 0, 1) := by decide +kernel
theorem d_136_28 : decode cX8_inputs 28 = .ok (.getfield 7, 3) := by decide +kernel
theorem d_136_31 : decode cX8_inputs 31 = .ok (.bipush 13, 2) := by decide +kernel
theorem d_136_33 : decode cX8_inputs 33 = .ok (.bipush 60, 2) := by decide +kernel
theorem d_136_35 : decode cX8_inputs 35 = .ok (.iload_n 1, 1) := by decide +kernel
theorem d_136_36 : decode cX8_inputs 36 = .ok (.imul, 1) := by decide +kernel
theorem d_136_37 : decode cX8_inputs 37 = .ok (.iadd, 1) := by decide +kernel
theorem d_136_38 : decode cX8_inputs 38 = .ok (.iload_n 3, 1) := by decide +kernel
theorem d_136_39 : decode cX8_inputs 39 = .ok (.iadd, 1) := by decide +kernel
theorem d_136_40 : decode cX8_inputs 40 = .ok (.iaload, 1) := by decide +kernel
theorem d_136_41 : decode cX8_inputs 41 = .ok (.istore 4, 2) := by decide +kernel
theorem d_136_43 : decode cX8_inputs 43 = .ok (.iload_n 2, 1) := by decide +kernel
theorem d_136_44 : decode cX8_inputs 44 = .ok (.iload 4, 2) := by decide +kernel
theorem d_136_46 : decode cX8_inputs 46 = .ok (.iconst 1, 1) := by decide +kernel
theorem d_136_47 : decode cX8_inputs 47 = .ok (.iconst 4, 1) := by decide +kernel
theorem d_136_48 : decode cX8_inputs 48 = .ok (.invokestatic 72, 3) := by decide +kernel
theorem d_136_51 : decode cX8_inputs 51 = .ok (.ifCond .eq 12, 3) := by decide +kernel
theorem d_136_54 : decode cX8_inputs 54 = .ok (.iconst 1, 1) := by decide +kernel
theorem d_136_55 : decode cX8_inputs 55 = .ok (.iload 4, 2) := by decide +kernel
theorem d_136_57 : decode cX8_inputs 57 = .ok (.iconst 1, 1) := by decide +kernel
theorem d_136_58 : decode cX8_inputs 58 = .ok (.isub, 1) := by decide +kernel
theorem d_136_59 : decode cX8_inputs 59 = .ok (.ishl, 1) := by decide +kernel
theorem d_136_60 : decode cX8_inputs 60 = .ok (.goto 4, 3) := by decide +kernel
theorem d_136_63 : decode cX8_inputs 63 = .ok (.iconst 0, 1) := by decide +kernel
theorem d_136_64 : decode cX8_inputs 64 = .ok (.ior, 1) := by decide +kernel
theorem d_136_65 : decode cX8_inputs 65 = .ok (.istore_n 2, 1) := by decide +kernel
theorem d_136_66 : decode cX8_inputs 66 = .ok (.iinc 3 1, 3) := by decide +kernel
theorem d_136_69 : decode cX8_inputs 69 = .ok (.goto (-55), 3) := by decide +kernel
theorem d_136_72 : decode cX8_inputs 72 = .ok (.iload_n 2, 1) := by decide +kernel
theorem d_136_73 : decode cX8_inputs 73 = .ok (.ireturn, 1) := by decide +kernel
theorem q_136_0r : zRun 136 0 [some (.ref o), l1, l2, l3, l4] S sh mi mj mr = zRun 136 1 [some (.ref o), l1, l2, l3, l4] (.ref o :: S) sh mi mj mr := zr_l (zD_of zk_136 d_136_0 rfl rfl) rfl rfl rfl
theorem q_136_0n : zRun 136 0 [some (.null), l1, l2, l3, l4] S sh mi mj mr = zRun 136 1 [some (.null), l1, l2, l3, l4] (.null :: S) sh mi mj mr := zr_l (zD_of zk_136 d_136_0 rfl rfl) rfl rfl rfl
theorem q_136_1 : zRun 136 1 [l0, some (.int x), l2, l3, l4] S sh mi mj mr = zRun 136 2 [l0, some (.int x), l2, l3, l4] (.int x :: S) sh mi mj mr := zr_l (zD_of zk_136 d_136_1 rfl rfl) rfl rfl rfl
theorem q_136_2  {x0 : Int32} (hS : zcat S ≤ 8) (h : zIs sh o 0 8) : zRun 136 2 L (.int x0 :: .ref o :: S) sh mi mj mr = (zCall 113 [.ref o, .int x0] sh mi mj mr).bind fun r => zRun 136 5 L (r.1.toList ++ S) r.2.1 r.2.2.1 r.2.2.2.1 r.2.2.2.2 := zr_V (zD_of zk_136 d_136_2 rfl rfl) rfl zk_113 rfl rfl rfl hS h
theorem q_136_5  : zRun 136 5 L (.int x :: S) sh mi mj mr = if ¬ x = 0 then zRun 136 10 L S sh mi mj mr else zRun 136 8 L S sh mi mj mr := zr_if (off := 5) (P := ¬ x = 0) (zD_of zk_136 d_136_5 rfl rfl) rfl rfl (by decide)
theorem q_136_8  : zRun 136 8 L S sh mi mj mr = zRun 136 9 L (.int (-1) :: S) sh mi mj mr := zr_p (zD_of zk_136 d_136_8 rfl rfl) rfl
theorem q_136_9  : zRun 136 9 L ([.int x]) sh mi mj mr = some (some (.int x), sh, mi, mj, mr) := zr_ret (zD_of zk_136 d_136_9 rfl rfl) rfl rfl rfl rfl rfl (if_pos rfl)
theorem q_136_10  : zRun 136 10 L S sh mi mj mr = zRun 136 11 L (.int 0 :: S) sh mi mj mr := zr_p (zD_of zk_136 d_136_10 rfl rfl) rfl
theorem q_136_11 : zRun 136 11 [l0, l1, l2, l3, l4] (.int x :: S) sh mi mj mr = zRun 136 12 [l0, zk2 l1, some (.int x), l3, l4] S sh mi mj mr := zr_s1 (i := 2) (v := .int x) (L := [l0, l1, l2, l3, l4]) (zD_of zk_136 d_136_11 rfl rfl) rfl rfl rfl rfl
theorem q_136_12  : zRun 136 12 L S sh mi mj mr = zRun 136 13 L (.int 0 :: S) sh mi mj mr := zr_p (zD_of zk_136 d_136_12 rfl rfl) rfl
theorem q_136_13 : zRun 136 13 [l0, l1, l2, l3, l4] (.int x :: S) sh mi mj mr = zRun 136 14 [l0, l1, zk2 l2, some (.int x), l4] S sh mi mj mr := zr_s1 (i := 3) (v := .int x) (L := [l0, l1, l2, l3, l4]) (zD_of zk_136 d_136_13 rfl rfl) rfl rfl rfl rfl
theorem q_136_14 : zRun 136 14 [l0, l1, l2, some (.int x), l4] S sh mi mj mr = zRun 136 15 [l0, l1, l2, some (.int x), l4] (.int x :: S) sh mi mj mr := zr_l (zD_of zk_136 d_136_14 rfl rfl) rfl rfl rfl
theorem q_136_15r : zRun 136 15 [some (.ref o), l1, l2, l3, l4] S sh mi mj mr = zRun 136 16 [some (.ref o), l1, l2, l3, l4] (.ref o :: S) sh mi mj mr := zr_l (zD_of zk_136 d_136_15 rfl rfl) rfl rfl rfl
theorem q_136_15n : zRun 136 15 [some (.null), l1, l2, l3, l4] S sh mi mj mr = zRun 136 16 [some (.null), l1, l2, l3, l4] (.null :: S) sh mi mj mr := zr_l (zD_of zk_136 d_136_15 rfl rfl) rfl rfl rfl
theorem q_136_16 (h : zIs sh o 0 8) : zRun 136 16 L (.ref o :: S) sh mi mj mr = zRun 136 19 L (va_rf (mr o 0) :: S) sh mi mj mr := zr_getR (zD_of zk_136 d_136_16 rfl rfl) rfl rfl rfl h
theorem q_136_19  : zRun 136 19 L S sh mi mj mr = zRun 136 21 L (.int 9 :: S) sh mi mj mr := zr_p (zD_of zk_136 d_136_19 rfl rfl) rfl
theorem q_136_21 : zRun 136 21 [l0, some (.int x), l2, l3, l4] S sh mi mj mr = zRun 136 22 [l0, some (.int x), l2, l3, l4] (.int x :: S) sh mi mj mr := zr_l (zD_of zk_136 d_136_21 rfl rfl) rfl rfl rfl
theorem q_136_22  : zRun 136 22 L (.int y :: .int x :: S) sh mi mj mr = zRun 136 23 L (.int (x + y) :: S) sh mi mj mr := zr_p (zD_of zk_136 d_136_22 rfl rfl) rfl
theorem q_136_23 (h : zAt sh o 1 x) : zRun 136 23 L (.int x :: .ref o :: S) sh mi mj mr = zRun 136 24 L (.int (mi o x.toNatClampNeg) :: S) sh mi mj mr := zr_iald (zD_of zk_136 d_136_23 rfl rfl) h
theorem q_136_24  : zRun 136 24 L (.int y :: .int x :: S) sh mi mj mr = if y ≤ x then zRun 136 72 L S sh mi mj mr else zRun 136 27 L S sh mi mj mr := zr_if (off := 48) (P := y ≤ x) (zD_of zk_136 d_136_24 rfl rfl) rfl rfl (by decide)
theorem q_136_27r : zRun 136 27 [some (.ref o), l1, l2, l3, l4] S sh mi mj mr = zRun 136 28 [some (.ref o), l1, l2, l3, l4] (.ref o :: S) sh mi mj mr := zr_l (zD_of zk_136 d_136_27 rfl rfl) rfl rfl rfl
theorem q_136_27n : zRun 136 27 [some (.null), l1, l2, l3, l4] S sh mi mj mr = zRun 136 28 [some (.null), l1, l2, l3, l4] (.null :: S) sh mi mj mr := zr_l (zD_of zk_136 d_136_27 rfl rfl) rfl rfl rfl
theorem q_136_28 (h : zIs sh o 0 8) : zRun 136 28 L (.ref o :: S) sh mi mj mr = zRun 136 31 L (va_rf (mr o 0) :: S) sh mi mj mr := zr_getR (zD_of zk_136 d_136_28 rfl rfl) rfl rfl rfl h
theorem q_136_31  : zRun 136 31 L S sh mi mj mr = zRun 136 33 L (.int 13 :: S) sh mi mj mr := zr_p (zD_of zk_136 d_136_31 rfl rfl) rfl
theorem q_136_33  : zRun 136 33 L S sh mi mj mr = zRun 136 35 L (.int 60 :: S) sh mi mj mr := zr_p (zD_of zk_136 d_136_33 rfl rfl) rfl
theorem q_136_35 : zRun 136 35 [l0, some (.int x), l2, l3, l4] S sh mi mj mr = zRun 136 36 [l0, some (.int x), l2, l3, l4] (.int x :: S) sh mi mj mr := zr_l (zD_of zk_136 d_136_35 rfl rfl) rfl rfl rfl
theorem q_136_36  : zRun 136 36 L (.int y :: .int x :: S) sh mi mj mr = zRun 136 37 L (.int (x * y) :: S) sh mi mj mr := zr_p (zD_of zk_136 d_136_36 rfl rfl) rfl
theorem q_136_37  : zRun 136 37 L (.int y :: .int x :: S) sh mi mj mr = zRun 136 38 L (.int (x + y) :: S) sh mi mj mr := zr_p (zD_of zk_136 d_136_37 rfl rfl) rfl
theorem q_136_38 : zRun 136 38 [l0, l1, l2, some (.int x), l4] S sh mi mj mr = zRun 136 39 [l0, l1, l2, some (.int x), l4] (.int x :: S) sh mi mj mr := zr_l (zD_of zk_136 d_136_38 rfl rfl) rfl rfl rfl
theorem q_136_39  : zRun 136 39 L (.int y :: .int x :: S) sh mi mj mr = zRun 136 40 L (.int (x + y) :: S) sh mi mj mr := zr_p (zD_of zk_136 d_136_39 rfl rfl) rfl
theorem q_136_40 (h : zAt sh o 1 x) : zRun 136 40 L (.int x :: .ref o :: S) sh mi mj mr = zRun 136 41 L (.int (mi o x.toNatClampNeg) :: S) sh mi mj mr := zr_iald (zD_of zk_136 d_136_40 rfl rfl) h
theorem q_136_41 : zRun 136 41 [l0, l1, l2, l3, l4] (.int x :: S) sh mi mj mr = zRun 136 43 [l0, l1, l2, zk2 l3, some (.int x)] S sh mi mj mr := zr_s1 (i := 4) (v := .int x) (L := [l0, l1, l2, l3, l4]) (zD_of zk_136 d_136_41 rfl rfl) rfl rfl rfl rfl
theorem q_136_43 : zRun 136 43 [l0, l1, some (.int x), l3, l4] S sh mi mj mr = zRun 136 44 [l0, l1, some (.int x), l3, l4] (.int x :: S) sh mi mj mr := zr_l (zD_of zk_136 d_136_43 rfl rfl) rfl rfl rfl
theorem q_136_44 : zRun 136 44 [l0, l1, l2, l3, some (.int x)] S sh mi mj mr = zRun 136 46 [l0, l1, l2, l3, some (.int x)] (.int x :: S) sh mi mj mr := zr_l (zD_of zk_136 d_136_44 rfl rfl) rfl rfl rfl
theorem q_136_46  : zRun 136 46 L S sh mi mj mr = zRun 136 47 L (.int 1 :: S) sh mi mj mr := zr_p (zD_of zk_136 d_136_46 rfl rfl) rfl
theorem q_136_47  : zRun 136 47 L S sh mi mj mr = zRun 136 48 L (.int 4 :: S) sh mi mj mr := zr_p (zD_of zk_136 d_136_47 rfl rfl) rfl
theorem q_136_48  {x0 x1 x2 : Int32} (hS : zcat S ≤ 8) : zRun 136 48 L (.int x2 :: .int x1 :: .int x0 :: S) sh mi mj mr = (zCall 111 [.int x0, .int x1, .int x2] sh mi mj mr).bind fun r => zRun 136 51 L (r.1.toList ++ S) r.2.1 r.2.2.1 r.2.2.2.1 r.2.2.2.2 := zr_S (zD_of zk_136 d_136_48 rfl rfl) rfl zk_111 rfl rfl rfl hS
theorem q_136_51  : zRun 136 51 L (.int x :: S) sh mi mj mr = if x = 0 then zRun 136 63 L S sh mi mj mr else zRun 136 54 L S sh mi mj mr := zr_if (off := 12) (P := x = 0) (zD_of zk_136 d_136_51 rfl rfl) rfl rfl (by decide)
theorem q_136_54  : zRun 136 54 L S sh mi mj mr = zRun 136 55 L (.int 1 :: S) sh mi mj mr := zr_p (zD_of zk_136 d_136_54 rfl rfl) rfl
theorem q_136_55 : zRun 136 55 [l0, l1, l2, l3, some (.int x)] S sh mi mj mr = zRun 136 57 [l0, l1, l2, l3, some (.int x)] (.int x :: S) sh mi mj mr := zr_l (zD_of zk_136 d_136_55 rfl rfl) rfl rfl rfl
theorem q_136_57  : zRun 136 57 L S sh mi mj mr = zRun 136 58 L (.int 1 :: S) sh mi mj mr := zr_p (zD_of zk_136 d_136_57 rfl rfl) rfl
theorem q_136_58  : zRun 136 58 L (.int y :: .int x :: S) sh mi mj mr = zRun 136 59 L (.int (x - y) :: S) sh mi mj mr := zr_p (zD_of zk_136 d_136_58 rfl rfl) rfl
theorem q_136_59  : zRun 136 59 L (.int y :: .int x :: S) sh mi mj mr = zRun 136 60 L (.int (x <<< (y &&& 31)) :: S) sh mi mj mr := zr_p (zD_of zk_136 d_136_59 rfl rfl) rfl
theorem q_136_60  : zRun 136 60 L S sh mi mj mr = zRun 136 64 L S sh mi mj mr := zr_go (off := 4) (zD_of zk_136 d_136_60 rfl rfl) rfl rfl (by decide)
theorem q_136_63  : zRun 136 63 L S sh mi mj mr = zRun 136 64 L (.int 0 :: S) sh mi mj mr := zr_p (zD_of zk_136 d_136_63 rfl rfl) rfl
theorem q_136_64  : zRun 136 64 L (.int y :: .int x :: S) sh mi mj mr = zRun 136 65 L (.int (x ||| y) :: S) sh mi mj mr := zr_p (zD_of zk_136 d_136_64 rfl rfl) rfl
theorem q_136_65 : zRun 136 65 [l0, l1, l2, l3, l4] (.int x :: S) sh mi mj mr = zRun 136 66 [l0, zk2 l1, some (.int x), l3, l4] S sh mi mj mr := zr_s1 (i := 2) (v := .int x) (L := [l0, l1, l2, l3, l4]) (zD_of zk_136 d_136_65 rfl rfl) rfl rfl rfl rfl
theorem q_136_66  : zRun 136 66 [l0, l1, l2, some (.int x), l4] S sh mi mj mr = zRun 136 69 [l0, l1, zk2 l2, some (.int (x + 1)), l4] S sh mi mj mr := zr_s1 (i := 3) (v := .int (x + 1)) (L := [l0, l1, l2, some (.int x), l4]) (zD_of zk_136 d_136_66 rfl rfl) rfl rfl rfl rfl
theorem q_136_69  : zRun 136 69 L S sh mi mj mr = zRun 136 14 L S sh mi mj mr := zr_go (off := (-55)) (zD_of zk_136 d_136_69 rfl rfl) rfl rfl (by decide)
theorem q_136_72 : zRun 136 72 [l0, l1, some (.int x), l3, l4] S sh mi mj mr = zRun 136 73 [l0, l1, some (.int x), l3, l4] (.int x :: S) sh mi mj mr := zr_l (zD_of zk_136 d_136_72 rfl rfl) rfl rfl rfl
theorem q_136_73  : zRun 136 73 L ([.int x]) sh mi mj mr = some (some (.int x), sh, mi, mj, mr) := zr_ret (zD_of zk_136 d_136_73 rfl rfl) rfl rfl rfl rfl rfl (if_pos rfl)
theorem e_136 {x0 : Int32} : zCall 136 [.ref o, .int x0] sh mi mj mr = zRun 136 0 [some (.ref o), some (.int x0), none, none, none] [] sh mi mj mr := rfl
theorem d_137_0 : decode cX8_size 0 = .ok (.lload_n 0, 1) := by decide +kernel
theorem d_137_1 : decode cX8_size 1 = .ok (.lconst 0, 1) := by decide +kernel
theorem d_137_2 : decode cX8_size 2 = .ok (.lcmp, 1) := by decide +kernel
theorem d_137_3 : decode cX8_size 3 = .ok (.ifCond .ge 8, 3) := by decide +kernel
theorem d_137_6 : decode cX8_size 6 = .ok (.lload_n 0, 1) := by decide +kernel
theorem d_137_7 : decode cX8_size 7 = .ok (.lneg, 1) := by decide +kernel
theorem d_137_8 : decode cX8_size 8 = .ok (.goto 4, 3) := by decide +kernel
theorem d_137_11 : decode cX8_size 11 = .ok (.lload_n 0, 1) := by decide +kernel
theorem d_137_12 : decode cX8_size 12 = .ok (.lreturn, 1) := by decide +kernel
theorem q_137_0 : zRun 137 0 [some (.long u), l1] S sh mi mj mr = zRun 137 1 [some (.long u), l1] (.long u :: S) sh mi mj mr := zr_l (zD_of zk_137 d_137_0 rfl rfl) rfl rfl rfl
theorem q_137_1  : zRun 137 1 L S sh mi mj mr = zRun 137 2 L (.long 0 :: S) sh mi mj mr := zr_p (zD_of zk_137 d_137_1 rfl rfl) rfl
theorem q_137_2  : zRun 137 2 L (.long v :: .long u :: S) sh mi mj mr = if v ≤ u then zRun 137 11 L S sh mi mj mr else zRun 137 6 L S sh mi mj mr := zr_cmp (off := 8) (zD_of zk_137 d_137_2 rfl rfl) (zD_of zk_137 d_137_3 rfl rfl) rfl rfl (by decide) (lg_cmp_ge u v)
theorem q_137_3  : zRun 137 3 L (.int x :: S) sh mi mj mr = if 0 ≤ x then zRun 137 11 L S sh mi mj mr else zRun 137 6 L S sh mi mj mr := zr_if (off := 8) (P := 0 ≤ x) (zD_of zk_137 d_137_3 rfl rfl) rfl rfl (by decide)
theorem q_137_6 : zRun 137 6 [some (.long u), l1] S sh mi mj mr = zRun 137 7 [some (.long u), l1] (.long u :: S) sh mi mj mr := zr_l (zD_of zk_137 d_137_6 rfl rfl) rfl rfl rfl
theorem q_137_7  : zRun 137 7 L (.long u :: S) sh mi mj mr = zRun 137 8 L (.long (-u) :: S) sh mi mj mr := zr_p (zD_of zk_137 d_137_7 rfl rfl) rfl
theorem q_137_8  : zRun 137 8 L S sh mi mj mr = zRun 137 12 L S sh mi mj mr := zr_go (off := 4) (zD_of zk_137 d_137_8 rfl rfl) rfl rfl (by decide)
theorem q_137_11 : zRun 137 11 [some (.long u), l1] S sh mi mj mr = zRun 137 12 [some (.long u), l1] (.long u :: S) sh mi mj mr := zr_l (zD_of zk_137 d_137_11 rfl rfl) rfl rfl rfl
theorem q_137_12  : zRun 137 12 L ([.long u]) sh mi mj mr = some (some (.long u), sh, mi, mj, mr) := zr_ret (zD_of zk_137 d_137_12 rfl rfl) rfl rfl rfl rfl rfl rfl
theorem e_137 {u0 : Int64} : zCall 137 [.long u0] sh mi mj mr = zRun 137 0 [some (.long u0), none] [] sh mi mj mr := rfl
theorem d_138_0 : decode cX8_radius 0 = .ok (.aload_n 0, 1) := by decide +kernel
theorem d_138_1 : decode cX8_radius 1 = .ok (.getfield 29, 3) := by decide +kernel
theorem d_138_4 : decode cX8_radius 4 = .ok (.bipush 17, 2) := by decide +kernel
theorem d_138_6 : decode cX8_radius 6 = .ok (.iload_n 1, 1) := by decide +kernel
theorem d_138_7 : decode cX8_radius 7 = .ok (.imul, 1) := by decide +kernel
theorem d_138_8 : decode cX8_radius 8 = .ok (.bipush 13, 2) := by decide +kernel
theorem d_138_10 : decode cX8_radius 10 = .ok (.iadd, 1) := by decide +kernel
theorem d_138_11 : decode cX8_radius 11 = .ok (.laload, 1) := by decide +kernel
theorem d_138_12 : decode cX8_radius 12 = .ok (.lstore_n 2, 1) := by decide +kernel
theorem d_138_13 : decode cX8_radius 13 = .ok (.iconst 0, 1) := by decide +kernel
theorem d_138_14 : decode cX8_radius 14 = .ok (.istore 4, 2) := by decide +kernel
theorem d_138_16 : decode cX8_radius 16 = .ok (.iload 4, 2) := by decide +kernel
theorem d_138_18 : decode cX8_radius 18 = .ok (.bipush 12, 2) := by decide +kernel
theorem d_138_20 : decode cX8_radius 20 = .ok (.if_icmp .ge 29, 3) := by decide +kernel
theorem d_138_23 : decode cX8_radius 23 = .ok (.lload_n 2, 1) := by decide +kernel
theorem d_138_24 : decode cX8_radius 24 = .ok (.aload_n 0, 1) := by decide +kernel
theorem d_138_25 : decode cX8_radius 25 = .ok (.getfield 29, 3) := by decide +kernel
theorem d_138_28 : decode cX8_radius 28 = .ok (.bipush 17, 2) := by decide +kernel
theorem d_138_30 : decode cX8_radius 30 = .ok (.iload_n 1, 1) := by decide +kernel
theorem d_138_31 : decode cX8_radius 31 = .ok (.imul, 1) := by decide +kernel
theorem d_138_32 : decode cX8_radius 32 = .ok (.iconst 1, 1) := by decide +kernel
theorem d_138_33 : decode cX8_radius 33 = .ok (.iadd, 1) := by decide +kernel
theorem d_138_34 : decode cX8_radius 34 = .ok (.iload 4, 2) := by decide +kernel
theorem d_138_36 : decode cX8_radius 36 = .ok (.iadd, 1) := by decide +kernel
theorem d_138_37 : decode cX8_radius 37 = .ok (.laload, 1) := by decide +kernel
theorem d_138_38 : decode cX8_radius 38 = .ok (.invokestatic 149, 3) := by decide +kernel
theorem d_138_41 : decode cX8_radius 41 = .ok (.ladd, 1) := by decide +kernel
theorem d_138_42 : decode cX8_radius 42 = .ok (.lstore_n 2, 1) := by decide +kernel
theorem d_138_43 : decode cX8_radius 43 = .ok (.iinc 4 1, 3) := by decide +kernel
theorem d_138_46 : decode cX8_radius 46 = .ok (.goto (-30), 3) := by decide +kernel
theorem d_138_49 : decode cX8_radius 49 = .ok (.lload_n 2, 1) := by decide +kernel
theorem d_138_50 : decode cX8_radius 50 = .ok (.lreturn, 1) := by decide +kernel
theorem q_138_0r : zRun 138 0 [some (.ref o), l1, l2, l3, l4] S sh mi mj mr = zRun 138 1 [some (.ref o), l1, l2, l3, l4] (.ref o :: S) sh mi mj mr := zr_l (zD_of zk_138 d_138_0 rfl rfl) rfl rfl rfl
theorem q_138_0n : zRun 138 0 [some (.null), l1, l2, l3, l4] S sh mi mj mr = zRun 138 1 [some (.null), l1, l2, l3, l4] (.null :: S) sh mi mj mr := zr_l (zD_of zk_138 d_138_0 rfl rfl) rfl rfl rfl
theorem q_138_1 (h : zIs sh o 0 8) : zRun 138 1 L (.ref o :: S) sh mi mj mr = zRun 138 4 L (va_rf (mr o 10) :: S) sh mi mj mr := zr_getR (zD_of zk_138 d_138_1 rfl rfl) rfl rfl rfl h
theorem q_138_4  : zRun 138 4 L S sh mi mj mr = zRun 138 6 L (.int 17 :: S) sh mi mj mr := zr_p (zD_of zk_138 d_138_4 rfl rfl) rfl
theorem q_138_6 : zRun 138 6 [l0, some (.int x), l2, l3, l4] S sh mi mj mr = zRun 138 7 [l0, some (.int x), l2, l3, l4] (.int x :: S) sh mi mj mr := zr_l (zD_of zk_138 d_138_6 rfl rfl) rfl rfl rfl
theorem q_138_7  : zRun 138 7 L (.int y :: .int x :: S) sh mi mj mr = zRun 138 8 L (.int (x * y) :: S) sh mi mj mr := zr_p (zD_of zk_138 d_138_7 rfl rfl) rfl
theorem q_138_8  : zRun 138 8 L S sh mi mj mr = zRun 138 10 L (.int 13 :: S) sh mi mj mr := zr_p (zD_of zk_138 d_138_8 rfl rfl) rfl
theorem q_138_10  : zRun 138 10 L (.int y :: .int x :: S) sh mi mj mr = zRun 138 11 L (.int (x + y) :: S) sh mi mj mr := zr_p (zD_of zk_138 d_138_10 rfl rfl) rfl
theorem q_138_11 (h : zAt sh o 2 x) : zRun 138 11 L (.int x :: .ref o :: S) sh mi mj mr = zRun 138 12 L (.long (mj o x.toNatClampNeg) :: S) sh mi mj mr := zr_lald (zD_of zk_138 d_138_11 rfl rfl) h
theorem q_138_12 : zRun 138 12 [l0, l1, l2, l3, l4] (.long u :: S) sh mi mj mr = zRun 138 13 [l0, zk2 l1, some (.long u), none, l4] S sh mi mj mr := zr_s2 (i := 2) (v := .long u) (L := [l0, l1, l2, l3, l4]) (zD_of zk_138 d_138_12 rfl rfl) rfl rfl rfl rfl
theorem q_138_13  : zRun 138 13 L S sh mi mj mr = zRun 138 14 L (.int 0 :: S) sh mi mj mr := zr_p (zD_of zk_138 d_138_13 rfl rfl) rfl
theorem q_138_14 : zRun 138 14 [l0, l1, l2, l3, l4] (.int x :: S) sh mi mj mr = zRun 138 16 [l0, l1, l2, zk2 l3, some (.int x)] S sh mi mj mr := zr_s1 (i := 4) (v := .int x) (L := [l0, l1, l2, l3, l4]) (zD_of zk_138 d_138_14 rfl rfl) rfl rfl rfl rfl
theorem q_138_16 : zRun 138 16 [l0, l1, l2, l3, some (.int x)] S sh mi mj mr = zRun 138 18 [l0, l1, l2, l3, some (.int x)] (.int x :: S) sh mi mj mr := zr_l (zD_of zk_138 d_138_16 rfl rfl) rfl rfl rfl
theorem q_138_18  : zRun 138 18 L S sh mi mj mr = zRun 138 20 L (.int 12 :: S) sh mi mj mr := zr_p (zD_of zk_138 d_138_18 rfl rfl) rfl
theorem q_138_20  : zRun 138 20 L (.int y :: .int x :: S) sh mi mj mr = if y ≤ x then zRun 138 49 L S sh mi mj mr else zRun 138 23 L S sh mi mj mr := zr_if (off := 29) (P := y ≤ x) (zD_of zk_138 d_138_20 rfl rfl) rfl rfl (by decide)
theorem q_138_23 : zRun 138 23 [l0, l1, some (.long u), l3, l4] S sh mi mj mr = zRun 138 24 [l0, l1, some (.long u), l3, l4] (.long u :: S) sh mi mj mr := zr_l (zD_of zk_138 d_138_23 rfl rfl) rfl rfl rfl
theorem q_138_24r : zRun 138 24 [some (.ref o), l1, l2, l3, l4] S sh mi mj mr = zRun 138 25 [some (.ref o), l1, l2, l3, l4] (.ref o :: S) sh mi mj mr := zr_l (zD_of zk_138 d_138_24 rfl rfl) rfl rfl rfl
theorem q_138_24n : zRun 138 24 [some (.null), l1, l2, l3, l4] S sh mi mj mr = zRun 138 25 [some (.null), l1, l2, l3, l4] (.null :: S) sh mi mj mr := zr_l (zD_of zk_138 d_138_24 rfl rfl) rfl rfl rfl
theorem q_138_25 (h : zIs sh o 0 8) : zRun 138 25 L (.ref o :: S) sh mi mj mr = zRun 138 28 L (va_rf (mr o 10) :: S) sh mi mj mr := zr_getR (zD_of zk_138 d_138_25 rfl rfl) rfl rfl rfl h
theorem q_138_28  : zRun 138 28 L S sh mi mj mr = zRun 138 30 L (.int 17 :: S) sh mi mj mr := zr_p (zD_of zk_138 d_138_28 rfl rfl) rfl
theorem q_138_30 : zRun 138 30 [l0, some (.int x), l2, l3, l4] S sh mi mj mr = zRun 138 31 [l0, some (.int x), l2, l3, l4] (.int x :: S) sh mi mj mr := zr_l (zD_of zk_138 d_138_30 rfl rfl) rfl rfl rfl
theorem q_138_31  : zRun 138 31 L (.int y :: .int x :: S) sh mi mj mr = zRun 138 32 L (.int (x * y) :: S) sh mi mj mr := zr_p (zD_of zk_138 d_138_31 rfl rfl) rfl
theorem q_138_32  : zRun 138 32 L S sh mi mj mr = zRun 138 33 L (.int 1 :: S) sh mi mj mr := zr_p (zD_of zk_138 d_138_32 rfl rfl) rfl
theorem q_138_33  : zRun 138 33 L (.int y :: .int x :: S) sh mi mj mr = zRun 138 34 L (.int (x + y) :: S) sh mi mj mr := zr_p (zD_of zk_138 d_138_33 rfl rfl) rfl
theorem q_138_34 : zRun 138 34 [l0, l1, l2, l3, some (.int x)] S sh mi mj mr = zRun 138 36 [l0, l1, l2, l3, some (.int x)] (.int x :: S) sh mi mj mr := zr_l (zD_of zk_138 d_138_34 rfl rfl) rfl rfl rfl
theorem q_138_36  : zRun 138 36 L (.int y :: .int x :: S) sh mi mj mr = zRun 138 37 L (.int (x + y) :: S) sh mi mj mr := zr_p (zD_of zk_138 d_138_36 rfl rfl) rfl
theorem q_138_37 (h : zAt sh o 2 x) : zRun 138 37 L (.int x :: .ref o :: S) sh mi mj mr = zRun 138 38 L (.long (mj o x.toNatClampNeg) :: S) sh mi mj mr := zr_lald (zD_of zk_138 d_138_37 rfl rfl) h
theorem q_138_38  {u0 : Int64} (hS : zcat S ≤ 8) : zRun 138 38 L (.long u0 :: S) sh mi mj mr = (zCall 137 [.long u0] sh mi mj mr).bind fun r => zRun 138 41 L (r.1.toList ++ S) r.2.1 r.2.2.1 r.2.2.2.1 r.2.2.2.2 := zr_S (zD_of zk_138 d_138_38 rfl rfl) rfl zk_137 rfl rfl rfl hS
theorem q_138_41  : zRun 138 41 L (.long v :: .long u :: S) sh mi mj mr = zRun 138 42 L (.long (u + v) :: S) sh mi mj mr := zr_p (zD_of zk_138 d_138_41 rfl rfl) rfl
theorem q_138_42 : zRun 138 42 [l0, l1, l2, l3, l4] (.long u :: S) sh mi mj mr = zRun 138 43 [l0, zk2 l1, some (.long u), none, l4] S sh mi mj mr := zr_s2 (i := 2) (v := .long u) (L := [l0, l1, l2, l3, l4]) (zD_of zk_138 d_138_42 rfl rfl) rfl rfl rfl rfl
theorem q_138_43  : zRun 138 43 [l0, l1, l2, l3, some (.int x)] S sh mi mj mr = zRun 138 46 [l0, l1, l2, zk2 l3, some (.int (x + 1))] S sh mi mj mr := zr_s1 (i := 4) (v := .int (x + 1)) (L := [l0, l1, l2, l3, some (.int x)]) (zD_of zk_138 d_138_43 rfl rfl) rfl rfl rfl rfl
theorem q_138_46  : zRun 138 46 L S sh mi mj mr = zRun 138 16 L S sh mi mj mr := zr_go (off := (-30)) (zD_of zk_138 d_138_46 rfl rfl) rfl rfl (by decide)
theorem q_138_49 : zRun 138 49 [l0, l1, some (.long u), l3, l4] S sh mi mj mr = zRun 138 50 [l0, l1, some (.long u), l3, l4] (.long u :: S) sh mi mj mr := zr_l (zD_of zk_138 d_138_49 rfl rfl) rfl rfl rfl
theorem q_138_50  : zRun 138 50 L ([.long u]) sh mi mj mr = some (some (.long u), sh, mi, mj, mr) := zr_ret (zD_of zk_138 d_138_50 rfl rfl) rfl rfl rfl rfl rfl rfl
theorem e_138 {x0 : Int32} : zCall 138 [.ref o, .int x0] sh mi mj mr = zRun 138 0 [some (.ref o), some (.int x0), none, none, none] [] sh mi mj mr := rfl
theorem d_139_0 : decode cX8_bestLow 0 = .ok (.aload_n 0, 1) := by decide +kernel
theorem d_139_1 : decode cX8_bestLow 1 = .ok (.getfield 29, 3) := by decide +kernel
theorem d_139_4 : decode cX8_bestLow 4 = .ok (.bipush 17, 2) := by decide +kernel
theorem d_139_6 : decode cX8_bestLow 6 = .ok (.iload_n 1, 1) := by decide +kernel
theorem d_139_7 : decode cX8_bestLow 7 = .ok (.imul, 1) := by decide +kernel
theorem d_139_8 : decode cX8_bestLow 8 = .ok (.iconst 0, 1) := by decide +kernel
theorem d_139_9 : decode cX8_bestLow 9 = .ok (.iadd, 1) := by decide +kernel
theorem d_139_10 : decode cX8_bestLow 10 = .ok (.laload, 1) := by decide +kernel
theorem d_139_11 : decode cX8_bestLow 11 = .ok (.aload_n 0, 1) := by decide +kernel
theorem d_139_12 : decode cX8_bestLow 12 = .ok (.iload_n 1, 1) := by decide +kernel
theorem d_139_13 : decode cX8_bestLow 13 = .ok (.invokevirtual 153, 3) := by decide +kernel
theorem d_139_16 : decode cX8_bestLow 16 = .ok (.lsub, 1) := by decide +kernel
theorem d_139_17 : decode cX8_bestLow 17 = .ok (.lstore_n 2, 1) := by decide +kernel
theorem d_139_18 : decode cX8_bestLow 18 = .ok (.lload_n 2, 1) := by decide +kernel
theorem d_139_19 : decode cX8_bestLow 19 = .ok (.aload_n 0, 1) := by decide +kernel
theorem d_139_20 : decode cX8_bestLow 20 = .ok (.getfield 29, 3) := by decide +kernel
theorem d_139_23 : decode cX8_bestLow 23 = .ok (.bipush 17, 2) := by decide +kernel
theorem d_139_25 : decode cX8_bestLow 25 = .ok (.iload_n 1, 1) := by decide +kernel
theorem d_139_26 : decode cX8_bestLow 26 = .ok (.imul, 1) := by decide +kernel
theorem d_139_27 : decode cX8_bestLow 27 = .ok (.bipush 14, 2) := by decide +kernel
theorem d_139_29 : decode cX8_bestLow 29 = .ok (.iadd, 1) := by decide +kernel
theorem d_139_30 : decode cX8_bestLow 30 = .ok (.laload, 1) := by decide +kernel
theorem d_139_31 : decode cX8_bestLow 31 = .ok (.lcmp, 1) := by decide +kernel
theorem d_139_32 : decode cX8_bestLow 32 = .ok (.ifCond .le 7, 3) := by decide +kernel
theorem d_139_35 : decode cX8_bestLow 35 = .ok (.lload_n 2, 1) := by decide +kernel
theorem d_139_36 : decode cX8_bestLow 36 = .ok (.goto 15, 3) := by decide +kernel
theorem d_139_39 : decode cX8_bestLow 39 = .ok (.aload_n 0, 1) := by decide +kernel
theorem d_139_40 : decode cX8_bestLow 40 = .ok (.getfield 29, 3) := by decide +kernel
theorem d_139_43 : decode cX8_bestLow 43 = .ok (.bipush 17, 2) := by decide +kernel
theorem d_139_45 : decode cX8_bestLow 45 = .ok (.iload_n 1, 1) := by decide +kernel
theorem d_139_46 : decode cX8_bestLow 46 = .ok (.imul, 1) := by decide +kernel
theorem d_139_47 : decode cX8_bestLow 47 = .ok (.bipush 14, 2) := by decide +kernel
theorem d_139_49 : decode cX8_bestLow 49 = .ok (.iadd, 1) := by decide +kernel
theorem d_139_50 : decode cX8_bestLow 50 = .ok (.laload, 1) := by decide +kernel
theorem d_139_51 : decode cX8_bestLow 51 = .ok (.lreturn, 1) := by decide +kernel
theorem q_139_0r : zRun 139 0 [some (.ref o), l1, l2, l3] S sh mi mj mr = zRun 139 1 [some (.ref o), l1, l2, l3] (.ref o :: S) sh mi mj mr := zr_l (zD_of zk_139 d_139_0 rfl rfl) rfl rfl rfl
theorem q_139_0n : zRun 139 0 [some (.null), l1, l2, l3] S sh mi mj mr = zRun 139 1 [some (.null), l1, l2, l3] (.null :: S) sh mi mj mr := zr_l (zD_of zk_139 d_139_0 rfl rfl) rfl rfl rfl
theorem q_139_1 (h : zIs sh o 0 8) : zRun 139 1 L (.ref o :: S) sh mi mj mr = zRun 139 4 L (va_rf (mr o 10) :: S) sh mi mj mr := zr_getR (zD_of zk_139 d_139_1 rfl rfl) rfl rfl rfl h
theorem q_139_4  : zRun 139 4 L S sh mi mj mr = zRun 139 6 L (.int 17 :: S) sh mi mj mr := zr_p (zD_of zk_139 d_139_4 rfl rfl) rfl
theorem q_139_6 : zRun 139 6 [l0, some (.int x), l2, l3] S sh mi mj mr = zRun 139 7 [l0, some (.int x), l2, l3] (.int x :: S) sh mi mj mr := zr_l (zD_of zk_139 d_139_6 rfl rfl) rfl rfl rfl
theorem q_139_7  : zRun 139 7 L (.int y :: .int x :: S) sh mi mj mr = zRun 139 8 L (.int (x * y) :: S) sh mi mj mr := zr_p (zD_of zk_139 d_139_7 rfl rfl) rfl
theorem q_139_8  : zRun 139 8 L S sh mi mj mr = zRun 139 9 L (.int 0 :: S) sh mi mj mr := zr_p (zD_of zk_139 d_139_8 rfl rfl) rfl
theorem q_139_9  : zRun 139 9 L (.int y :: .int x :: S) sh mi mj mr = zRun 139 10 L (.int (x + y) :: S) sh mi mj mr := zr_p (zD_of zk_139 d_139_9 rfl rfl) rfl
theorem q_139_10 (h : zAt sh o 2 x) : zRun 139 10 L (.int x :: .ref o :: S) sh mi mj mr = zRun 139 11 L (.long (mj o x.toNatClampNeg) :: S) sh mi mj mr := zr_lald (zD_of zk_139 d_139_10 rfl rfl) h
theorem q_139_11r : zRun 139 11 [some (.ref o), l1, l2, l3] S sh mi mj mr = zRun 139 12 [some (.ref o), l1, l2, l3] (.ref o :: S) sh mi mj mr := zr_l (zD_of zk_139 d_139_11 rfl rfl) rfl rfl rfl
theorem q_139_11n : zRun 139 11 [some (.null), l1, l2, l3] S sh mi mj mr = zRun 139 12 [some (.null), l1, l2, l3] (.null :: S) sh mi mj mr := zr_l (zD_of zk_139 d_139_11 rfl rfl) rfl rfl rfl
theorem q_139_12 : zRun 139 12 [l0, some (.int x), l2, l3] S sh mi mj mr = zRun 139 13 [l0, some (.int x), l2, l3] (.int x :: S) sh mi mj mr := zr_l (zD_of zk_139 d_139_12 rfl rfl) rfl rfl rfl
theorem q_139_13  {x0 : Int32} (hS : zcat S ≤ 8) (h : zIs sh o 0 8) : zRun 139 13 L (.int x0 :: .ref o :: S) sh mi mj mr = (zCall 138 [.ref o, .int x0] sh mi mj mr).bind fun r => zRun 139 16 L (r.1.toList ++ S) r.2.1 r.2.2.1 r.2.2.2.1 r.2.2.2.2 := zr_V (zD_of zk_139 d_139_13 rfl rfl) rfl zk_138 rfl rfl rfl hS h
theorem q_139_16  : zRun 139 16 L (.long v :: .long u :: S) sh mi mj mr = zRun 139 17 L (.long (u - v) :: S) sh mi mj mr := zr_p (zD_of zk_139 d_139_16 rfl rfl) rfl
theorem q_139_17 : zRun 139 17 [l0, l1, l2, l3] (.long u :: S) sh mi mj mr = zRun 139 18 [l0, zk2 l1, some (.long u), none] S sh mi mj mr := zr_s2 (i := 2) (v := .long u) (L := [l0, l1, l2, l3]) (zD_of zk_139 d_139_17 rfl rfl) rfl rfl rfl rfl
theorem q_139_18 : zRun 139 18 [l0, l1, some (.long u), l3] S sh mi mj mr = zRun 139 19 [l0, l1, some (.long u), l3] (.long u :: S) sh mi mj mr := zr_l (zD_of zk_139 d_139_18 rfl rfl) rfl rfl rfl
theorem q_139_19r : zRun 139 19 [some (.ref o), l1, l2, l3] S sh mi mj mr = zRun 139 20 [some (.ref o), l1, l2, l3] (.ref o :: S) sh mi mj mr := zr_l (zD_of zk_139 d_139_19 rfl rfl) rfl rfl rfl
theorem q_139_19n : zRun 139 19 [some (.null), l1, l2, l3] S sh mi mj mr = zRun 139 20 [some (.null), l1, l2, l3] (.null :: S) sh mi mj mr := zr_l (zD_of zk_139 d_139_19 rfl rfl) rfl rfl rfl
theorem q_139_20 (h : zIs sh o 0 8) : zRun 139 20 L (.ref o :: S) sh mi mj mr = zRun 139 23 L (va_rf (mr o 10) :: S) sh mi mj mr := zr_getR (zD_of zk_139 d_139_20 rfl rfl) rfl rfl rfl h
theorem q_139_23  : zRun 139 23 L S sh mi mj mr = zRun 139 25 L (.int 17 :: S) sh mi mj mr := zr_p (zD_of zk_139 d_139_23 rfl rfl) rfl
theorem q_139_25 : zRun 139 25 [l0, some (.int x), l2, l3] S sh mi mj mr = zRun 139 26 [l0, some (.int x), l2, l3] (.int x :: S) sh mi mj mr := zr_l (zD_of zk_139 d_139_25 rfl rfl) rfl rfl rfl
theorem q_139_26  : zRun 139 26 L (.int y :: .int x :: S) sh mi mj mr = zRun 139 27 L (.int (x * y) :: S) sh mi mj mr := zr_p (zD_of zk_139 d_139_26 rfl rfl) rfl
theorem q_139_27  : zRun 139 27 L S sh mi mj mr = zRun 139 29 L (.int 14 :: S) sh mi mj mr := zr_p (zD_of zk_139 d_139_27 rfl rfl) rfl
theorem q_139_29  : zRun 139 29 L (.int y :: .int x :: S) sh mi mj mr = zRun 139 30 L (.int (x + y) :: S) sh mi mj mr := zr_p (zD_of zk_139 d_139_29 rfl rfl) rfl
theorem q_139_30 (h : zAt sh o 2 x) : zRun 139 30 L (.int x :: .ref o :: S) sh mi mj mr = zRun 139 31 L (.long (mj o x.toNatClampNeg) :: S) sh mi mj mr := zr_lald (zD_of zk_139 d_139_30 rfl rfl) h
theorem q_139_31  : zRun 139 31 L (.long v :: .long u :: S) sh mi mj mr = if u ≤ v then zRun 139 39 L S sh mi mj mr else zRun 139 35 L S sh mi mj mr := zr_cmp (off := 7) (zD_of zk_139 d_139_31 rfl rfl) (zD_of zk_139 d_139_32 rfl rfl) rfl rfl (by decide) (lg_cmp_le u v)
theorem q_139_32  : zRun 139 32 L (.int x :: S) sh mi mj mr = if x ≤ 0 then zRun 139 39 L S sh mi mj mr else zRun 139 35 L S sh mi mj mr := zr_if (off := 7) (P := x ≤ 0) (zD_of zk_139 d_139_32 rfl rfl) rfl rfl (by decide)
theorem q_139_35 : zRun 139 35 [l0, l1, some (.long u), l3] S sh mi mj mr = zRun 139 36 [l0, l1, some (.long u), l3] (.long u :: S) sh mi mj mr := zr_l (zD_of zk_139 d_139_35 rfl rfl) rfl rfl rfl
theorem q_139_36  : zRun 139 36 L S sh mi mj mr = zRun 139 51 L S sh mi mj mr := zr_go (off := 15) (zD_of zk_139 d_139_36 rfl rfl) rfl rfl (by decide)
theorem q_139_39r : zRun 139 39 [some (.ref o), l1, l2, l3] S sh mi mj mr = zRun 139 40 [some (.ref o), l1, l2, l3] (.ref o :: S) sh mi mj mr := zr_l (zD_of zk_139 d_139_39 rfl rfl) rfl rfl rfl
theorem q_139_39n : zRun 139 39 [some (.null), l1, l2, l3] S sh mi mj mr = zRun 139 40 [some (.null), l1, l2, l3] (.null :: S) sh mi mj mr := zr_l (zD_of zk_139 d_139_39 rfl rfl) rfl rfl rfl
theorem q_139_40 (h : zIs sh o 0 8) : zRun 139 40 L (.ref o :: S) sh mi mj mr = zRun 139 43 L (va_rf (mr o 10) :: S) sh mi mj mr := zr_getR (zD_of zk_139 d_139_40 rfl rfl) rfl rfl rfl h
theorem q_139_43  : zRun 139 43 L S sh mi mj mr = zRun 139 45 L (.int 17 :: S) sh mi mj mr := zr_p (zD_of zk_139 d_139_43 rfl rfl) rfl
theorem q_139_45 : zRun 139 45 [l0, some (.int x), l2, l3] S sh mi mj mr = zRun 139 46 [l0, some (.int x), l2, l3] (.int x :: S) sh mi mj mr := zr_l (zD_of zk_139 d_139_45 rfl rfl) rfl rfl rfl
theorem q_139_46  : zRun 139 46 L (.int y :: .int x :: S) sh mi mj mr = zRun 139 47 L (.int (x * y) :: S) sh mi mj mr := zr_p (zD_of zk_139 d_139_46 rfl rfl) rfl
theorem q_139_47  : zRun 139 47 L S sh mi mj mr = zRun 139 49 L (.int 14 :: S) sh mi mj mr := zr_p (zD_of zk_139 d_139_47 rfl rfl) rfl
theorem q_139_49  : zRun 139 49 L (.int y :: .int x :: S) sh mi mj mr = zRun 139 50 L (.int (x + y) :: S) sh mi mj mr := zr_p (zD_of zk_139 d_139_49 rfl rfl) rfl
theorem q_139_50 (h : zAt sh o 2 x) : zRun 139 50 L (.int x :: .ref o :: S) sh mi mj mr = zRun 139 51 L (.long (mj o x.toNatClampNeg) :: S) sh mi mj mr := zr_lald (zD_of zk_139 d_139_50 rfl rfl) h
theorem q_139_51  : zRun 139 51 L ([.long u]) sh mi mj mr = some (some (.long u), sh, mi, mj, mr) := zr_ret (zD_of zk_139 d_139_51 rfl rfl) rfl rfl rfl rfl rfl rfl
theorem e_139 {x0 : Int32} : zCall 139 [.ref o, .int x0] sh mi mj mr = zRun 139 0 [some (.ref o), some (.int x0), none, none] [] sh mi mj mr := rfl
theorem d_140_0 : decode cX8_bestHigh 0 = .ok (.aload_n 0, 1) := by decide +kernel
theorem d_140_1 : decode cX8_bestHigh 1 = .ok (.getfield 29, 3) := by decide +kernel
theorem d_140_4 : decode cX8_bestHigh 4 = .ok (.bipush 17, 2) := by decide +kernel
theorem d_140_6 : decode cX8_bestHigh 6 = .ok (.iload_n 1, 1) := by decide +kernel
theorem d_140_7 : decode cX8_bestHigh 7 = .ok (.imul, 1) := by decide +kernel
theorem d_140_8 : decode cX8_bestHigh 8 = .ok (.iconst 0, 1) := by decide +kernel
theorem d_140_9 : decode cX8_bestHigh 9 = .ok (.iadd, 1) := by decide +kernel
theorem d_140_10 : decode cX8_bestHigh 10 = .ok (.laload, 1) := by decide +kernel
theorem d_140_11 : decode cX8_bestHigh 11 = .ok (.aload_n 0, 1) := by decide +kernel
theorem d_140_12 : decode cX8_bestHigh 12 = .ok (.iload_n 1, 1) := by decide +kernel
theorem d_140_13 : decode cX8_bestHigh 13 = .ok (.invokevirtual 153, 3) := by decide +kernel
theorem d_140_16 : decode cX8_bestHigh 16 = .ok (.ladd, 1) := by decide +kernel
theorem d_140_17 : decode cX8_bestHigh 17 = .ok (.lstore_n 2, 1) := by decide +kernel
theorem d_140_18 : decode cX8_bestHigh 18 = .ok (.lload_n 2, 1) := by decide +kernel
theorem d_140_19 : decode cX8_bestHigh 19 = .ok (.aload_n 0, 1) := by decide +kernel
theorem d_140_20 : decode cX8_bestHigh 20 = .ok (.getfield 29, 3) := by decide +kernel
theorem d_140_23 : decode cX8_bestHigh 23 = .ok (.bipush 17, 2) := by decide +kernel
theorem d_140_25 : decode cX8_bestHigh 25 = .ok (.iload_n 1, 1) := by decide +kernel
theorem d_140_26 : decode cX8_bestHigh 26 = .ok (.imul, 1) := by decide +kernel
theorem d_140_27 : decode cX8_bestHigh 27 = .ok (.bipush 15, 2) := by decide +kernel
theorem d_140_29 : decode cX8_bestHigh 29 = .ok (.iadd, 1) := by decide +kernel
theorem d_140_30 : decode cX8_bestHigh 30 = .ok (.laload, 1) := by decide +kernel
theorem d_140_31 : decode cX8_bestHigh 31 = .ok (.lcmp, 1) := by decide +kernel
theorem d_140_32 : decode cX8_bestHigh 32 = .ok (.ifCond .ge 7, 3) := by decide +kernel
theorem d_140_35 : decode cX8_bestHigh 35 = .ok (.lload_n 2, 1) := by decide +kernel
theorem d_140_36 : decode cX8_bestHigh 36 = .ok (.goto 15, 3) := by decide +kernel
theorem d_140_39 : decode cX8_bestHigh 39 = .ok (.aload_n 0, 1) := by decide +kernel
theorem d_140_40 : decode cX8_bestHigh 40 = .ok (.getfield 29, 3) := by decide +kernel
theorem d_140_43 : decode cX8_bestHigh 43 = .ok (.bipush 17, 2) := by decide +kernel
theorem d_140_45 : decode cX8_bestHigh 45 = .ok (.iload_n 1, 1) := by decide +kernel
theorem d_140_46 : decode cX8_bestHigh 46 = .ok (.imul, 1) := by decide +kernel
theorem d_140_47 : decode cX8_bestHigh 47 = .ok (.bipush 15, 2) := by decide +kernel
theorem d_140_49 : decode cX8_bestHigh 49 = .ok (.iadd, 1) := by decide +kernel
theorem d_140_50 : decode cX8_bestHigh 50 = .ok (.laload, 1) := by decide +kernel
theorem d_140_51 : decode cX8_bestHigh 51 = .ok (.lreturn, 1) := by decide +kernel
theorem q_140_0r : zRun 140 0 [some (.ref o), l1, l2, l3] S sh mi mj mr = zRun 140 1 [some (.ref o), l1, l2, l3] (.ref o :: S) sh mi mj mr := zr_l (zD_of zk_140 d_140_0 rfl rfl) rfl rfl rfl
theorem q_140_0n : zRun 140 0 [some (.null), l1, l2, l3] S sh mi mj mr = zRun 140 1 [some (.null), l1, l2, l3] (.null :: S) sh mi mj mr := zr_l (zD_of zk_140 d_140_0 rfl rfl) rfl rfl rfl
theorem q_140_1 (h : zIs sh o 0 8) : zRun 140 1 L (.ref o :: S) sh mi mj mr = zRun 140 4 L (va_rf (mr o 10) :: S) sh mi mj mr := zr_getR (zD_of zk_140 d_140_1 rfl rfl) rfl rfl rfl h
theorem q_140_4  : zRun 140 4 L S sh mi mj mr = zRun 140 6 L (.int 17 :: S) sh mi mj mr := zr_p (zD_of zk_140 d_140_4 rfl rfl) rfl
theorem q_140_6 : zRun 140 6 [l0, some (.int x), l2, l3] S sh mi mj mr = zRun 140 7 [l0, some (.int x), l2, l3] (.int x :: S) sh mi mj mr := zr_l (zD_of zk_140 d_140_6 rfl rfl) rfl rfl rfl
theorem q_140_7  : zRun 140 7 L (.int y :: .int x :: S) sh mi mj mr = zRun 140 8 L (.int (x * y) :: S) sh mi mj mr := zr_p (zD_of zk_140 d_140_7 rfl rfl) rfl
theorem q_140_8  : zRun 140 8 L S sh mi mj mr = zRun 140 9 L (.int 0 :: S) sh mi mj mr := zr_p (zD_of zk_140 d_140_8 rfl rfl) rfl
theorem q_140_9  : zRun 140 9 L (.int y :: .int x :: S) sh mi mj mr = zRun 140 10 L (.int (x + y) :: S) sh mi mj mr := zr_p (zD_of zk_140 d_140_9 rfl rfl) rfl
theorem q_140_10 (h : zAt sh o 2 x) : zRun 140 10 L (.int x :: .ref o :: S) sh mi mj mr = zRun 140 11 L (.long (mj o x.toNatClampNeg) :: S) sh mi mj mr := zr_lald (zD_of zk_140 d_140_10 rfl rfl) h
theorem q_140_11r : zRun 140 11 [some (.ref o), l1, l2, l3] S sh mi mj mr = zRun 140 12 [some (.ref o), l1, l2, l3] (.ref o :: S) sh mi mj mr := zr_l (zD_of zk_140 d_140_11 rfl rfl) rfl rfl rfl
theorem q_140_11n : zRun 140 11 [some (.null), l1, l2, l3] S sh mi mj mr = zRun 140 12 [some (.null), l1, l2, l3] (.null :: S) sh mi mj mr := zr_l (zD_of zk_140 d_140_11 rfl rfl) rfl rfl rfl
theorem q_140_12 : zRun 140 12 [l0, some (.int x), l2, l3] S sh mi mj mr = zRun 140 13 [l0, some (.int x), l2, l3] (.int x :: S) sh mi mj mr := zr_l (zD_of zk_140 d_140_12 rfl rfl) rfl rfl rfl
theorem q_140_13  {x0 : Int32} (hS : zcat S ≤ 8) (h : zIs sh o 0 8) : zRun 140 13 L (.int x0 :: .ref o :: S) sh mi mj mr = (zCall 138 [.ref o, .int x0] sh mi mj mr).bind fun r => zRun 140 16 L (r.1.toList ++ S) r.2.1 r.2.2.1 r.2.2.2.1 r.2.2.2.2 := zr_V (zD_of zk_140 d_140_13 rfl rfl) rfl zk_138 rfl rfl rfl hS h
theorem q_140_16  : zRun 140 16 L (.long v :: .long u :: S) sh mi mj mr = zRun 140 17 L (.long (u + v) :: S) sh mi mj mr := zr_p (zD_of zk_140 d_140_16 rfl rfl) rfl
theorem q_140_17 : zRun 140 17 [l0, l1, l2, l3] (.long u :: S) sh mi mj mr = zRun 140 18 [l0, zk2 l1, some (.long u), none] S sh mi mj mr := zr_s2 (i := 2) (v := .long u) (L := [l0, l1, l2, l3]) (zD_of zk_140 d_140_17 rfl rfl) rfl rfl rfl rfl
theorem q_140_18 : zRun 140 18 [l0, l1, some (.long u), l3] S sh mi mj mr = zRun 140 19 [l0, l1, some (.long u), l3] (.long u :: S) sh mi mj mr := zr_l (zD_of zk_140 d_140_18 rfl rfl) rfl rfl rfl
theorem q_140_19r : zRun 140 19 [some (.ref o), l1, l2, l3] S sh mi mj mr = zRun 140 20 [some (.ref o), l1, l2, l3] (.ref o :: S) sh mi mj mr := zr_l (zD_of zk_140 d_140_19 rfl rfl) rfl rfl rfl
theorem q_140_19n : zRun 140 19 [some (.null), l1, l2, l3] S sh mi mj mr = zRun 140 20 [some (.null), l1, l2, l3] (.null :: S) sh mi mj mr := zr_l (zD_of zk_140 d_140_19 rfl rfl) rfl rfl rfl
theorem q_140_20 (h : zIs sh o 0 8) : zRun 140 20 L (.ref o :: S) sh mi mj mr = zRun 140 23 L (va_rf (mr o 10) :: S) sh mi mj mr := zr_getR (zD_of zk_140 d_140_20 rfl rfl) rfl rfl rfl h
theorem q_140_23  : zRun 140 23 L S sh mi mj mr = zRun 140 25 L (.int 17 :: S) sh mi mj mr := zr_p (zD_of zk_140 d_140_23 rfl rfl) rfl
theorem q_140_25 : zRun 140 25 [l0, some (.int x), l2, l3] S sh mi mj mr = zRun 140 26 [l0, some (.int x), l2, l3] (.int x :: S) sh mi mj mr := zr_l (zD_of zk_140 d_140_25 rfl rfl) rfl rfl rfl
theorem q_140_26  : zRun 140 26 L (.int y :: .int x :: S) sh mi mj mr = zRun 140 27 L (.int (x * y) :: S) sh mi mj mr := zr_p (zD_of zk_140 d_140_26 rfl rfl) rfl
theorem q_140_27  : zRun 140 27 L S sh mi mj mr = zRun 140 29 L (.int 15 :: S) sh mi mj mr := zr_p (zD_of zk_140 d_140_27 rfl rfl) rfl
theorem q_140_29  : zRun 140 29 L (.int y :: .int x :: S) sh mi mj mr = zRun 140 30 L (.int (x + y) :: S) sh mi mj mr := zr_p (zD_of zk_140 d_140_29 rfl rfl) rfl
theorem q_140_30 (h : zAt sh o 2 x) : zRun 140 30 L (.int x :: .ref o :: S) sh mi mj mr = zRun 140 31 L (.long (mj o x.toNatClampNeg) :: S) sh mi mj mr := zr_lald (zD_of zk_140 d_140_30 rfl rfl) h
theorem q_140_31  : zRun 140 31 L (.long v :: .long u :: S) sh mi mj mr = if v ≤ u then zRun 140 39 L S sh mi mj mr else zRun 140 35 L S sh mi mj mr := zr_cmp (off := 7) (zD_of zk_140 d_140_31 rfl rfl) (zD_of zk_140 d_140_32 rfl rfl) rfl rfl (by decide) (lg_cmp_ge u v)
theorem q_140_32  : zRun 140 32 L (.int x :: S) sh mi mj mr = if 0 ≤ x then zRun 140 39 L S sh mi mj mr else zRun 140 35 L S sh mi mj mr := zr_if (off := 7) (P := 0 ≤ x) (zD_of zk_140 d_140_32 rfl rfl) rfl rfl (by decide)
theorem q_140_35 : zRun 140 35 [l0, l1, some (.long u), l3] S sh mi mj mr = zRun 140 36 [l0, l1, some (.long u), l3] (.long u :: S) sh mi mj mr := zr_l (zD_of zk_140 d_140_35 rfl rfl) rfl rfl rfl
theorem q_140_36  : zRun 140 36 L S sh mi mj mr = zRun 140 51 L S sh mi mj mr := zr_go (off := 15) (zD_of zk_140 d_140_36 rfl rfl) rfl rfl (by decide)
theorem q_140_39r : zRun 140 39 [some (.ref o), l1, l2, l3] S sh mi mj mr = zRun 140 40 [some (.ref o), l1, l2, l3] (.ref o :: S) sh mi mj mr := zr_l (zD_of zk_140 d_140_39 rfl rfl) rfl rfl rfl
theorem q_140_39n : zRun 140 39 [some (.null), l1, l2, l3] S sh mi mj mr = zRun 140 40 [some (.null), l1, l2, l3] (.null :: S) sh mi mj mr := zr_l (zD_of zk_140 d_140_39 rfl rfl) rfl rfl rfl
theorem q_140_40 (h : zIs sh o 0 8) : zRun 140 40 L (.ref o :: S) sh mi mj mr = zRun 140 43 L (va_rf (mr o 10) :: S) sh mi mj mr := zr_getR (zD_of zk_140 d_140_40 rfl rfl) rfl rfl rfl h
theorem q_140_43  : zRun 140 43 L S sh mi mj mr = zRun 140 45 L (.int 17 :: S) sh mi mj mr := zr_p (zD_of zk_140 d_140_43 rfl rfl) rfl
theorem q_140_45 : zRun 140 45 [l0, some (.int x), l2, l3] S sh mi mj mr = zRun 140 46 [l0, some (.int x), l2, l3] (.int x :: S) sh mi mj mr := zr_l (zD_of zk_140 d_140_45 rfl rfl) rfl rfl rfl
theorem q_140_46  : zRun 140 46 L (.int y :: .int x :: S) sh mi mj mr = zRun 140 47 L (.int (x * y) :: S) sh mi mj mr := zr_p (zD_of zk_140 d_140_46 rfl rfl) rfl
theorem q_140_47  : zRun 140 47 L S sh mi mj mr = zRun 140 49 L (.int 15 :: S) sh mi mj mr := zr_p (zD_of zk_140 d_140_47 rfl rfl) rfl
theorem q_140_49  : zRun 140 49 L (.int y :: .int x :: S) sh mi mj mr = zRun 140 50 L (.int (x + y) :: S) sh mi mj mr := zr_p (zD_of zk_140 d_140_49 rfl rfl) rfl
theorem q_140_50 (h : zAt sh o 2 x) : zRun 140 50 L (.int x :: .ref o :: S) sh mi mj mr = zRun 140 51 L (.long (mj o x.toNatClampNeg) :: S) sh mi mj mr := zr_lald (zD_of zk_140 d_140_50 rfl rfl) h
theorem q_140_51  : zRun 140 51 L ([.long u]) sh mi mj mr = some (some (.long u), sh, mi, mj, mr) := zr_ret (zD_of zk_140 d_140_51 rfl rfl) rfl rfl rfl rfl rfl rfl
theorem e_140 {x0 : Int32} : zCall 140 [.ref o, .int x0] sh mi mj mr = zRun 140 0 [some (.ref o), some (.int x0), none, none] [] sh mi mj mr := rfl
theorem d_141_0 : decode cX8_isWild 0 = .ok (.aload_n 0, 1) := by decide +kernel
theorem d_141_1 : decode cX8_isWild 1 = .ok (.getfield 29, 3) := by decide +kernel
theorem d_141_4 : decode cX8_isWild 4 = .ok (.bipush 17, 2) := by decide +kernel
theorem d_141_6 : decode cX8_isWild 6 = .ok (.iload_n 1, 1) := by decide +kernel
theorem d_141_7 : decode cX8_isWild 7 = .ok (.imul, 1) := by decide +kernel
theorem d_141_8 : decode cX8_isWild 8 = .ok (.bipush 16, 2) := by decide +kernel
theorem d_141_10 : decode cX8_isWild 10 = .ok (.iadd, 1) := by decide +kernel
theorem d_141_11 : decode cX8_isWild 11 = .ok (.laload, 1) := by decide +kernel
theorem d_141_12 : decode cX8_isWild 12 = .ok (.lconst 0, 1) := by decide +kernel
theorem d_141_13 : decode cX8_isWild 13 = .ok (.lcmp, 1) := by decide +kernel
theorem d_141_14 : decode cX8_isWild 14 = .ok (.ifCond .eq 7, 3) := by decide +kernel
theorem d_141_17 : decode cX8_isWild 17 = .ok (.iconst 1, 1) := by decide +kernel
theorem d_141_18 : decode cX8_isWild 18 = .ok (.goto 4, 3) := by decide +kernel
theorem d_141_21 : decode cX8_isWild 21 = .ok (.iconst 0, 1) := by decide +kernel
theorem d_141_22 : decode cX8_isWild 22 = .ok (.ireturn, 1) := by decide +kernel
theorem q_141_0r : zRun 141 0 [some (.ref o), l1] S sh mi mj mr = zRun 141 1 [some (.ref o), l1] (.ref o :: S) sh mi mj mr := zr_l (zD_of zk_141 d_141_0 rfl rfl) rfl rfl rfl
theorem q_141_0n : zRun 141 0 [some (.null), l1] S sh mi mj mr = zRun 141 1 [some (.null), l1] (.null :: S) sh mi mj mr := zr_l (zD_of zk_141 d_141_0 rfl rfl) rfl rfl rfl
theorem q_141_1 (h : zIs sh o 0 8) : zRun 141 1 L (.ref o :: S) sh mi mj mr = zRun 141 4 L (va_rf (mr o 10) :: S) sh mi mj mr := zr_getR (zD_of zk_141 d_141_1 rfl rfl) rfl rfl rfl h
theorem q_141_4  : zRun 141 4 L S sh mi mj mr = zRun 141 6 L (.int 17 :: S) sh mi mj mr := zr_p (zD_of zk_141 d_141_4 rfl rfl) rfl
theorem q_141_6 : zRun 141 6 [l0, some (.int x)] S sh mi mj mr = zRun 141 7 [l0, some (.int x)] (.int x :: S) sh mi mj mr := zr_l (zD_of zk_141 d_141_6 rfl rfl) rfl rfl rfl
theorem q_141_7  : zRun 141 7 L (.int y :: .int x :: S) sh mi mj mr = zRun 141 8 L (.int (x * y) :: S) sh mi mj mr := zr_p (zD_of zk_141 d_141_7 rfl rfl) rfl
theorem q_141_8  : zRun 141 8 L S sh mi mj mr = zRun 141 10 L (.int 16 :: S) sh mi mj mr := zr_p (zD_of zk_141 d_141_8 rfl rfl) rfl
theorem q_141_10  : zRun 141 10 L (.int y :: .int x :: S) sh mi mj mr = zRun 141 11 L (.int (x + y) :: S) sh mi mj mr := zr_p (zD_of zk_141 d_141_10 rfl rfl) rfl
theorem q_141_11 (h : zAt sh o 2 x) : zRun 141 11 L (.int x :: .ref o :: S) sh mi mj mr = zRun 141 12 L (.long (mj o x.toNatClampNeg) :: S) sh mi mj mr := zr_lald (zD_of zk_141 d_141_11 rfl rfl) h
theorem q_141_12  : zRun 141 12 L S sh mi mj mr = zRun 141 13 L (.long 0 :: S) sh mi mj mr := zr_p (zD_of zk_141 d_141_12 rfl rfl) rfl
theorem q_141_13  : zRun 141 13 L (.long v :: .long u :: S) sh mi mj mr = if u = v then zRun 141 21 L S sh mi mj mr else zRun 141 17 L S sh mi mj mr := zr_cmp (off := 7) (zD_of zk_141 d_141_13 rfl rfl) (zD_of zk_141 d_141_14 rfl rfl) rfl rfl (by decide) (lg_cmp_eq u v)
theorem q_141_14  : zRun 141 14 L (.int x :: S) sh mi mj mr = if x = 0 then zRun 141 21 L S sh mi mj mr else zRun 141 17 L S sh mi mj mr := zr_if (off := 7) (P := x = 0) (zD_of zk_141 d_141_14 rfl rfl) rfl rfl (by decide)
theorem q_141_17  : zRun 141 17 L S sh mi mj mr = zRun 141 18 L (.int 1 :: S) sh mi mj mr := zr_p (zD_of zk_141 d_141_17 rfl rfl) rfl
theorem q_141_18  : zRun 141 18 L S sh mi mj mr = zRun 141 22 L S sh mi mj mr := zr_go (off := 4) (zD_of zk_141 d_141_18 rfl rfl) rfl rfl (by decide)
theorem q_141_21  : zRun 141 21 L S sh mi mj mr = zRun 141 22 L (.int 0 :: S) sh mi mj mr := zr_p (zD_of zk_141 d_141_21 rfl rfl) rfl
theorem q_141_22 (h : x = 0 ∨ x = 1) : zRun 141 22 L ([.int x]) sh mi mj mr = some (some (.int x), sh, mi, mj, mr) := zr_ret (zD_of zk_141 d_141_22 rfl rfl) rfl rfl rfl rfl rfl (if_pos (zna_b h))
theorem e_141 {x0 : Int32} : zCall 141 [.ref o, .int x0] sh mi mj mr = zRun 141 0 [some (.ref o), some (.int x0)] [] sh mi mj mr := rfl
theorem d_142_0 : decode cX8_clearForm 0 = .ok (.iconst 0, 1) := by decide +kernel
theorem d_142_1 : decode cX8_clearForm 1 = .ok (.istore_n 2, 1) := by decide +kernel
theorem d_142_2 : decode cX8_clearForm 2 = .ok (.iload_n 2, 1) := by decide +kernel
theorem d_142_3 : decode cX8_clearForm 3 = .ok (.bipush 17, 2) := by decide +kernel
theorem d_142_5 : decode cX8_clearForm 5 = .ok (.if_icmp .ge 21, 3) := by decide +kernel
theorem d_142_8 : decode cX8_clearForm 8 = .ok (.aload_n 0, 1) := by decide +kernel
theorem d_142_9 : decode cX8_clearForm 9 = .ok (.getfield 29, 3) := by decide +kernel
theorem d_142_12 : decode cX8_clearForm 12 = .ok (.bipush 17, 2) := by decide +kernel
theorem d_142_14 : decode cX8_clearForm 14 = .ok (.iload_n 1, 1) := by decide +kernel
theorem d_142_15 : decode cX8_clearForm 15 = .ok (.imul, 1) := by decide +kernel
theorem d_142_16 : decode cX8_clearForm 16 = .ok (.iload_n 2, 1) := by decide +kernel
theorem d_142_17 : decode cX8_clearForm 17 = .ok (.iadd, 1) := by decide +kernel
theorem d_142_18 : decode cX8_clearForm 18 = .ok (.lconst 0, 1) := by decide +kernel
theorem d_142_19 : decode cX8_clearForm 19 = .ok (.lastore, 1) := by decide +kernel
theorem d_142_20 : decode cX8_clearForm 20 = .ok (.iinc 2 1, 3) := by decide +kernel
theorem d_142_23 : decode cX8_clearForm 23 = .ok (.goto (-21), 3) := by decide +kernel
theorem d_142_26 : decode cX8_clearForm 26 = .ok (.return_, 1) := by decide +kernel
theorem q_142_0  : zRun 142 0 L S sh mi mj mr = zRun 142 1 L (.int 0 :: S) sh mi mj mr := zr_p (zD_of zk_142 d_142_0 rfl rfl) rfl
theorem q_142_1 : zRun 142 1 [l0, l1, l2] (.int x :: S) sh mi mj mr = zRun 142 2 [l0, zk2 l1, some (.int x)] S sh mi mj mr := zr_s1 (i := 2) (v := .int x) (L := [l0, l1, l2]) (zD_of zk_142 d_142_1 rfl rfl) rfl rfl rfl rfl
theorem q_142_2 : zRun 142 2 [l0, l1, some (.int x)] S sh mi mj mr = zRun 142 3 [l0, l1, some (.int x)] (.int x :: S) sh mi mj mr := zr_l (zD_of zk_142 d_142_2 rfl rfl) rfl rfl rfl
theorem q_142_3  : zRun 142 3 L S sh mi mj mr = zRun 142 5 L (.int 17 :: S) sh mi mj mr := zr_p (zD_of zk_142 d_142_3 rfl rfl) rfl
theorem q_142_5  : zRun 142 5 L (.int y :: .int x :: S) sh mi mj mr = if y ≤ x then zRun 142 26 L S sh mi mj mr else zRun 142 8 L S sh mi mj mr := zr_if (off := 21) (P := y ≤ x) (zD_of zk_142 d_142_5 rfl rfl) rfl rfl (by decide)
theorem q_142_8r : zRun 142 8 [some (.ref o), l1, l2] S sh mi mj mr = zRun 142 9 [some (.ref o), l1, l2] (.ref o :: S) sh mi mj mr := zr_l (zD_of zk_142 d_142_8 rfl rfl) rfl rfl rfl
theorem q_142_8n : zRun 142 8 [some (.null), l1, l2] S sh mi mj mr = zRun 142 9 [some (.null), l1, l2] (.null :: S) sh mi mj mr := zr_l (zD_of zk_142 d_142_8 rfl rfl) rfl rfl rfl
theorem q_142_9 (h : zIs sh o 0 8) : zRun 142 9 L (.ref o :: S) sh mi mj mr = zRun 142 12 L (va_rf (mr o 10) :: S) sh mi mj mr := zr_getR (zD_of zk_142 d_142_9 rfl rfl) rfl rfl rfl h
theorem q_142_12  : zRun 142 12 L S sh mi mj mr = zRun 142 14 L (.int 17 :: S) sh mi mj mr := zr_p (zD_of zk_142 d_142_12 rfl rfl) rfl
theorem q_142_14 : zRun 142 14 [l0, some (.int x), l2] S sh mi mj mr = zRun 142 15 [l0, some (.int x), l2] (.int x :: S) sh mi mj mr := zr_l (zD_of zk_142 d_142_14 rfl rfl) rfl rfl rfl
theorem q_142_15  : zRun 142 15 L (.int y :: .int x :: S) sh mi mj mr = zRun 142 16 L (.int (x * y) :: S) sh mi mj mr := zr_p (zD_of zk_142 d_142_15 rfl rfl) rfl
theorem q_142_16 : zRun 142 16 [l0, l1, some (.int x)] S sh mi mj mr = zRun 142 17 [l0, l1, some (.int x)] (.int x :: S) sh mi mj mr := zr_l (zD_of zk_142 d_142_16 rfl rfl) rfl rfl rfl
theorem q_142_17  : zRun 142 17 L (.int y :: .int x :: S) sh mi mj mr = zRun 142 18 L (.int (x + y) :: S) sh mi mj mr := zr_p (zD_of zk_142 d_142_17 rfl rfl) rfl
theorem q_142_18  : zRun 142 18 L S sh mi mj mr = zRun 142 19 L (.long 0 :: S) sh mi mj mr := zr_p (zD_of zk_142 d_142_18 rfl rfl) rfl
theorem q_142_19 (h : zAt sh o 2 x) : zRun 142 19 L (.long u :: .int x :: .ref o :: S) sh mi mj mr = zRun 142 20 L S sh mi (zup mj o x.toNatClampNeg u) mr := zr_last (zD_of zk_142 d_142_19 rfl rfl) h
theorem q_142_20  : zRun 142 20 [l0, l1, some (.int x)] S sh mi mj mr = zRun 142 23 [l0, zk2 l1, some (.int (x + 1))] S sh mi mj mr := zr_s1 (i := 2) (v := .int (x + 1)) (L := [l0, l1, some (.int x)]) (zD_of zk_142 d_142_20 rfl rfl) rfl rfl rfl rfl
theorem q_142_23  : zRun 142 23 L S sh mi mj mr = zRun 142 2 L S sh mi mj mr := zr_go (off := (-21)) (zD_of zk_142 d_142_23 rfl rfl) rfl rfl (by decide)
theorem q_142_26  : zRun 142 26 L [] sh mi mj mr = some (none, sh, mi, mj, mr) := zr_ret (zD_of zk_142 d_142_26 rfl rfl) rfl rfl rfl rfl rfl rfl
theorem e_142 {x0 : Int32} : zCall 142 [.ref o, .int x0] sh mi mj mr = zRun 142 0 [some (.ref o), some (.int x0), none] [] sh mi mj mr := rfl
theorem d_143_0 : decode cX8_copyForm 0 = .ok (.iconst 0, 1) := by decide +kernel
theorem d_143_1 : decode cX8_copyForm 1 = .ok (.istore_n 3, 1) := by decide +kernel
theorem d_143_2 : decode cX8_copyForm 2 = .ok (.iload_n 3, 1) := by decide +kernel
theorem d_143_3 : decode cX8_copyForm 3 = .ok (.bipush 17, 2) := by decide +kernel
theorem d_143_5 : decode cX8_copyForm 5 = .ok (.if_icmp .ge 31, 3) := by decide +kernel
theorem d_143_8 : decode cX8_copyForm 8 = .ok (.aload_n 0, 1) := by decide +kernel
theorem d_143_9 : decode cX8_copyForm 9 = .ok (.getfield 29, 3) := by decide +kernel
theorem d_143_12 : decode cX8_copyForm 12 = .ok (.bipush 17, 2) := by decide +kernel
theorem d_143_14 : decode cX8_copyForm 14 = .ok (.iload_n 2, 1) := by decide +kernel
theorem d_143_15 : decode cX8_copyForm 15 = .ok (.imul, 1) := by decide +kernel
theorem d_143_16 : decode cX8_copyForm 16 = .ok (.iload_n 3, 1) := by decide +kernel
theorem d_143_17 : decode cX8_copyForm 17 = .ok (.iadd, 1) := by decide +kernel
theorem d_143_18 : decode cX8_copyForm 18 = .ok (.aload_n 0, 1) := by decide +kernel
theorem d_143_19 : decode cX8_copyForm 19 = .ok (.getfield 29, 3) := by decide +kernel
theorem d_143_22 : decode cX8_copyForm 22 = .ok (.bipush 17, 2) := by decide +kernel
theorem d_143_24 : decode cX8_copyForm 24 = .ok (.iload_n 1, 1) := by decide +kernel
theorem d_143_25 : decode cX8_copyForm 25 = .ok (.imul, 1) := by decide +kernel
theorem d_143_26 : decode cX8_copyForm 26 = .ok (.iload_n 3, 1) := by decide +kernel
theorem d_143_27 : decode cX8_copyForm 27 = .ok (.iadd, 1) := by decide +kernel
theorem d_143_28 : decode cX8_copyForm 28 = .ok (.laload, 1) := by decide +kernel
theorem d_143_29 : decode cX8_copyForm 29 = .ok (.lastore, 1) := by decide +kernel
theorem d_143_30 : decode cX8_copyForm 30 = .ok (.iinc 3 1, 3) := by decide +kernel
theorem d_143_33 : decode cX8_copyForm 33 = .ok (.goto (-31), 3) := by decide +kernel
theorem d_143_36 : decode cX8_copyForm 36 = .ok (.return_, 1) := by decide +kernel
theorem q_143_0  : zRun 143 0 L S sh mi mj mr = zRun 143 1 L (.int 0 :: S) sh mi mj mr := zr_p (zD_of zk_143 d_143_0 rfl rfl) rfl
theorem q_143_1 : zRun 143 1 [l0, l1, l2, l3] (.int x :: S) sh mi mj mr = zRun 143 2 [l0, l1, zk2 l2, some (.int x)] S sh mi mj mr := zr_s1 (i := 3) (v := .int x) (L := [l0, l1, l2, l3]) (zD_of zk_143 d_143_1 rfl rfl) rfl rfl rfl rfl
theorem q_143_2 : zRun 143 2 [l0, l1, l2, some (.int x)] S sh mi mj mr = zRun 143 3 [l0, l1, l2, some (.int x)] (.int x :: S) sh mi mj mr := zr_l (zD_of zk_143 d_143_2 rfl rfl) rfl rfl rfl
theorem q_143_3  : zRun 143 3 L S sh mi mj mr = zRun 143 5 L (.int 17 :: S) sh mi mj mr := zr_p (zD_of zk_143 d_143_3 rfl rfl) rfl
theorem q_143_5  : zRun 143 5 L (.int y :: .int x :: S) sh mi mj mr = if y ≤ x then zRun 143 36 L S sh mi mj mr else zRun 143 8 L S sh mi mj mr := zr_if (off := 31) (P := y ≤ x) (zD_of zk_143 d_143_5 rfl rfl) rfl rfl (by decide)
theorem q_143_8r : zRun 143 8 [some (.ref o), l1, l2, l3] S sh mi mj mr = zRun 143 9 [some (.ref o), l1, l2, l3] (.ref o :: S) sh mi mj mr := zr_l (zD_of zk_143 d_143_8 rfl rfl) rfl rfl rfl
theorem q_143_8n : zRun 143 8 [some (.null), l1, l2, l3] S sh mi mj mr = zRun 143 9 [some (.null), l1, l2, l3] (.null :: S) sh mi mj mr := zr_l (zD_of zk_143 d_143_8 rfl rfl) rfl rfl rfl
theorem q_143_9 (h : zIs sh o 0 8) : zRun 143 9 L (.ref o :: S) sh mi mj mr = zRun 143 12 L (va_rf (mr o 10) :: S) sh mi mj mr := zr_getR (zD_of zk_143 d_143_9 rfl rfl) rfl rfl rfl h
theorem q_143_12  : zRun 143 12 L S sh mi mj mr = zRun 143 14 L (.int 17 :: S) sh mi mj mr := zr_p (zD_of zk_143 d_143_12 rfl rfl) rfl
theorem q_143_14 : zRun 143 14 [l0, l1, some (.int x), l3] S sh mi mj mr = zRun 143 15 [l0, l1, some (.int x), l3] (.int x :: S) sh mi mj mr := zr_l (zD_of zk_143 d_143_14 rfl rfl) rfl rfl rfl
theorem q_143_15  : zRun 143 15 L (.int y :: .int x :: S) sh mi mj mr = zRun 143 16 L (.int (x * y) :: S) sh mi mj mr := zr_p (zD_of zk_143 d_143_15 rfl rfl) rfl
theorem q_143_16 : zRun 143 16 [l0, l1, l2, some (.int x)] S sh mi mj mr = zRun 143 17 [l0, l1, l2, some (.int x)] (.int x :: S) sh mi mj mr := zr_l (zD_of zk_143 d_143_16 rfl rfl) rfl rfl rfl
theorem q_143_17  : zRun 143 17 L (.int y :: .int x :: S) sh mi mj mr = zRun 143 18 L (.int (x + y) :: S) sh mi mj mr := zr_p (zD_of zk_143 d_143_17 rfl rfl) rfl
theorem q_143_18r : zRun 143 18 [some (.ref o), l1, l2, l3] S sh mi mj mr = zRun 143 19 [some (.ref o), l1, l2, l3] (.ref o :: S) sh mi mj mr := zr_l (zD_of zk_143 d_143_18 rfl rfl) rfl rfl rfl
theorem q_143_18n : zRun 143 18 [some (.null), l1, l2, l3] S sh mi mj mr = zRun 143 19 [some (.null), l1, l2, l3] (.null :: S) sh mi mj mr := zr_l (zD_of zk_143 d_143_18 rfl rfl) rfl rfl rfl
theorem q_143_19 (h : zIs sh o 0 8) : zRun 143 19 L (.ref o :: S) sh mi mj mr = zRun 143 22 L (va_rf (mr o 10) :: S) sh mi mj mr := zr_getR (zD_of zk_143 d_143_19 rfl rfl) rfl rfl rfl h
theorem q_143_22  : zRun 143 22 L S sh mi mj mr = zRun 143 24 L (.int 17 :: S) sh mi mj mr := zr_p (zD_of zk_143 d_143_22 rfl rfl) rfl
theorem q_143_24 : zRun 143 24 [l0, some (.int x), l2, l3] S sh mi mj mr = zRun 143 25 [l0, some (.int x), l2, l3] (.int x :: S) sh mi mj mr := zr_l (zD_of zk_143 d_143_24 rfl rfl) rfl rfl rfl
theorem q_143_25  : zRun 143 25 L (.int y :: .int x :: S) sh mi mj mr = zRun 143 26 L (.int (x * y) :: S) sh mi mj mr := zr_p (zD_of zk_143 d_143_25 rfl rfl) rfl
theorem q_143_26 : zRun 143 26 [l0, l1, l2, some (.int x)] S sh mi mj mr = zRun 143 27 [l0, l1, l2, some (.int x)] (.int x :: S) sh mi mj mr := zr_l (zD_of zk_143 d_143_26 rfl rfl) rfl rfl rfl
theorem q_143_27  : zRun 143 27 L (.int y :: .int x :: S) sh mi mj mr = zRun 143 28 L (.int (x + y) :: S) sh mi mj mr := zr_p (zD_of zk_143 d_143_27 rfl rfl) rfl
theorem q_143_28 (h : zAt sh o 2 x) : zRun 143 28 L (.int x :: .ref o :: S) sh mi mj mr = zRun 143 29 L (.long (mj o x.toNatClampNeg) :: S) sh mi mj mr := zr_lald (zD_of zk_143 d_143_28 rfl rfl) h
theorem q_143_29 (h : zAt sh o 2 x) : zRun 143 29 L (.long u :: .int x :: .ref o :: S) sh mi mj mr = zRun 143 30 L S sh mi (zup mj o x.toNatClampNeg u) mr := zr_last (zD_of zk_143 d_143_29 rfl rfl) h
theorem q_143_30  : zRun 143 30 [l0, l1, l2, some (.int x)] S sh mi mj mr = zRun 143 33 [l0, l1, zk2 l2, some (.int (x + 1))] S sh mi mj mr := zr_s1 (i := 3) (v := .int (x + 1)) (L := [l0, l1, l2, some (.int x)]) (zD_of zk_143 d_143_30 rfl rfl) rfl rfl rfl rfl
theorem q_143_33  : zRun 143 33 L S sh mi mj mr = zRun 143 2 L S sh mi mj mr := zr_go (off := (-31)) (zD_of zk_143 d_143_33 rfl rfl) rfl rfl (by decide)
theorem q_143_36  : zRun 143 36 L [] sh mi mj mr = some (none, sh, mi, mj, mr) := zr_ret (zD_of zk_143 d_143_36 rfl rfl) rfl rfl rfl rfl rfl rfl
theorem e_143 {x0 x1 : Int32} : zCall 143 [.ref o, .int x0, .int x1] sh mi mj mr = zRun 143 0 [some (.ref o), some (.int x0), some (.int x1), none] [] sh mi mj mr := rfl
theorem d_144_0 : decode cX8_goWild 0 = .ok (.aload_n 0, 1) := by decide +kernel
theorem d_144_1 : decode cX8_goWild 1 = .ok (.iload_n 1, 1) := by decide +kernel
theorem d_144_2 : decode cX8_goWild 2 = .ok (.invokevirtual 157, 3) := by decide +kernel
theorem d_144_5 : decode cX8_goWild 5 = .ok (.aload_n 0, 1) := by decide +kernel
theorem d_144_6 : decode cX8_goWild 6 = .ok (.getfield 29, 3) := by decide +kernel
theorem d_144_9 : decode cX8_goWild 9 = .ok (.bipush 17, 2) := by decide +kernel
theorem d_144_11 : decode cX8_goWild 11 = .ok (.iload_n 1, 1) := by decide +kernel
theorem d_144_12 : decode cX8_goWild 12 = .ok (.imul, 1) := by decide +kernel
theorem d_144_13 : decode cX8_goWild 13 = .ok (.bipush 16, 2) := by decide +kernel
theorem d_144_15 : decode cX8_goWild 15 = .ok (.iadd, 1) := by decide +kernel
theorem d_144_16 : decode cX8_goWild 16 = .ok (.lconst 1, 1) := by decide +kernel
theorem d_144_17 : decode cX8_goWild 17 = .ok (.lastore, 1) := by decide +kernel
theorem d_144_18 : decode cX8_goWild 18 = .ok (.aload_n 0, 1) := by decide +kernel
theorem d_144_19 : decode cX8_goWild 19 = .ok (.aload_n 0, 1) := by decide +kernel
theorem d_144_20 : decode cX8_goWild 20 = .ok (.getfield 160, 3) := by decide +kernel
theorem d_144_23 : decode cX8_goWild 23 = .ok (.ifCond .ne 7, 3) := by decide +kernel
theorem d_144_26 : decode cX8_goWild 26 = .ok (.iload_n 2, 1) := by decide +kernel
theorem d_144_27 : decode cX8_goWild 27 = .ok (.goto 7, 3) := by decide +kernel
theorem d_144_30 : decode cX8_goWild 30 = .ok (.aload_n 0, 1) := by decide +kernel
theorem d_144_31 : decode cX8_goWild 31 = .ok (.getfield 160, 3) := by decide +kernel
theorem d_144_34 : decode cX8_goWild 34 = .ok (.putfield 160, 3) := by decide +kernel
theorem d_144_37 : decode cX8_goWild 37 = .ok (.return_, 1) := by decide +kernel
theorem q_144_0r : zRun 144 0 [some (.ref o), l1, l2] S sh mi mj mr = zRun 144 1 [some (.ref o), l1, l2] (.ref o :: S) sh mi mj mr := zr_l (zD_of zk_144 d_144_0 rfl rfl) rfl rfl rfl
theorem q_144_0n : zRun 144 0 [some (.null), l1, l2] S sh mi mj mr = zRun 144 1 [some (.null), l1, l2] (.null :: S) sh mi mj mr := zr_l (zD_of zk_144 d_144_0 rfl rfl) rfl rfl rfl
theorem q_144_1 : zRun 144 1 [l0, some (.int x), l2] S sh mi mj mr = zRun 144 2 [l0, some (.int x), l2] (.int x :: S) sh mi mj mr := zr_l (zD_of zk_144 d_144_1 rfl rfl) rfl rfl rfl
theorem q_144_2  {x0 : Int32} (hS : zcat S ≤ 8) (h : zIs sh o 0 8) : zRun 144 2 L (.int x0 :: .ref o :: S) sh mi mj mr = (zCall 142 [.ref o, .int x0] sh mi mj mr).bind fun r => zRun 144 5 L (r.1.toList ++ S) r.2.1 r.2.2.1 r.2.2.2.1 r.2.2.2.2 := zr_V (zD_of zk_144 d_144_2 rfl rfl) rfl zk_142 rfl rfl rfl hS h
theorem q_144_5r : zRun 144 5 [some (.ref o), l1, l2] S sh mi mj mr = zRun 144 6 [some (.ref o), l1, l2] (.ref o :: S) sh mi mj mr := zr_l (zD_of zk_144 d_144_5 rfl rfl) rfl rfl rfl
theorem q_144_5n : zRun 144 5 [some (.null), l1, l2] S sh mi mj mr = zRun 144 6 [some (.null), l1, l2] (.null :: S) sh mi mj mr := zr_l (zD_of zk_144 d_144_5 rfl rfl) rfl rfl rfl
theorem q_144_6 (h : zIs sh o 0 8) : zRun 144 6 L (.ref o :: S) sh mi mj mr = zRun 144 9 L (va_rf (mr o 10) :: S) sh mi mj mr := zr_getR (zD_of zk_144 d_144_6 rfl rfl) rfl rfl rfl h
theorem q_144_9  : zRun 144 9 L S sh mi mj mr = zRun 144 11 L (.int 17 :: S) sh mi mj mr := zr_p (zD_of zk_144 d_144_9 rfl rfl) rfl
theorem q_144_11 : zRun 144 11 [l0, some (.int x), l2] S sh mi mj mr = zRun 144 12 [l0, some (.int x), l2] (.int x :: S) sh mi mj mr := zr_l (zD_of zk_144 d_144_11 rfl rfl) rfl rfl rfl
theorem q_144_12  : zRun 144 12 L (.int y :: .int x :: S) sh mi mj mr = zRun 144 13 L (.int (x * y) :: S) sh mi mj mr := zr_p (zD_of zk_144 d_144_12 rfl rfl) rfl
theorem q_144_13  : zRun 144 13 L S sh mi mj mr = zRun 144 15 L (.int 16 :: S) sh mi mj mr := zr_p (zD_of zk_144 d_144_13 rfl rfl) rfl
theorem q_144_15  : zRun 144 15 L (.int y :: .int x :: S) sh mi mj mr = zRun 144 16 L (.int (x + y) :: S) sh mi mj mr := zr_p (zD_of zk_144 d_144_15 rfl rfl) rfl
theorem q_144_16  : zRun 144 16 L S sh mi mj mr = zRun 144 17 L (.long 1 :: S) sh mi mj mr := zr_p (zD_of zk_144 d_144_16 rfl rfl) rfl
theorem q_144_17 (h : zAt sh o 2 x) : zRun 144 17 L (.long u :: .int x :: .ref o :: S) sh mi mj mr = zRun 144 18 L S sh mi (zup mj o x.toNatClampNeg u) mr := zr_last (zD_of zk_144 d_144_17 rfl rfl) h
theorem q_144_18r : zRun 144 18 [some (.ref o), l1, l2] S sh mi mj mr = zRun 144 19 [some (.ref o), l1, l2] (.ref o :: S) sh mi mj mr := zr_l (zD_of zk_144 d_144_18 rfl rfl) rfl rfl rfl
theorem q_144_18n : zRun 144 18 [some (.null), l1, l2] S sh mi mj mr = zRun 144 19 [some (.null), l1, l2] (.null :: S) sh mi mj mr := zr_l (zD_of zk_144 d_144_18 rfl rfl) rfl rfl rfl
theorem q_144_19r : zRun 144 19 [some (.ref o), l1, l2] S sh mi mj mr = zRun 144 20 [some (.ref o), l1, l2] (.ref o :: S) sh mi mj mr := zr_l (zD_of zk_144 d_144_19 rfl rfl) rfl rfl rfl
theorem q_144_19n : zRun 144 19 [some (.null), l1, l2] S sh mi mj mr = zRun 144 20 [some (.null), l1, l2] (.null :: S) sh mi mj mr := zr_l (zD_of zk_144 d_144_19 rfl rfl) rfl rfl rfl
theorem q_144_20 (h : zIs sh o 0 8) : zRun 144 20 L (.ref o :: S) sh mi mj mr = zRun 144 23 L (.int (mi o 12) :: S) sh mi mj mr := zr_getI (zD_of zk_144 d_144_20 rfl rfl) rfl rfl (Or.inl rfl) h
theorem q_144_23  : zRun 144 23 L (.int x :: S) sh mi mj mr = if ¬ x = 0 then zRun 144 30 L S sh mi mj mr else zRun 144 26 L S sh mi mj mr := zr_if (off := 7) (P := ¬ x = 0) (zD_of zk_144 d_144_23 rfl rfl) rfl rfl (by decide)
theorem q_144_26 : zRun 144 26 [l0, l1, some (.int x)] S sh mi mj mr = zRun 144 27 [l0, l1, some (.int x)] (.int x :: S) sh mi mj mr := zr_l (zD_of zk_144 d_144_26 rfl rfl) rfl rfl rfl
theorem q_144_27  : zRun 144 27 L S sh mi mj mr = zRun 144 34 L S sh mi mj mr := zr_go (off := 7) (zD_of zk_144 d_144_27 rfl rfl) rfl rfl (by decide)
theorem q_144_30r : zRun 144 30 [some (.ref o), l1, l2] S sh mi mj mr = zRun 144 31 [some (.ref o), l1, l2] (.ref o :: S) sh mi mj mr := zr_l (zD_of zk_144 d_144_30 rfl rfl) rfl rfl rfl
theorem q_144_30n : zRun 144 30 [some (.null), l1, l2] S sh mi mj mr = zRun 144 31 [some (.null), l1, l2] (.null :: S) sh mi mj mr := zr_l (zD_of zk_144 d_144_30 rfl rfl) rfl rfl rfl
theorem q_144_31 (h : zIs sh o 0 8) : zRun 144 31 L (.ref o :: S) sh mi mj mr = zRun 144 34 L (.int (mi o 12) :: S) sh mi mj mr := zr_getI (zD_of zk_144 d_144_31 rfl rfl) rfl rfl (Or.inl rfl) h
theorem q_144_34 (h : zIs sh o 0 8) : zRun 144 34 L (.int x :: .ref o :: S) sh mi mj mr = zRun 144 37 L S sh (zup mi o 12 x) mj mr := zr_putI (zD_of zk_144 d_144_34 rfl rfl) rfl rfl rfl (Or.inl rfl) h
theorem q_144_37  : zRun 144 37 L [] sh mi mj mr = some (none, sh, mi, mj, mr) := zr_ret (zD_of zk_144 d_144_37 rfl rfl) rfl rfl rfl rfl rfl rfl
theorem e_144 {x0 x1 : Int32} : zCall 144 [.ref o, .int x0, .int x1] sh mi mj mr = zRun 144 0 [some (.ref o), some (.int x0), some (.int x1)] [] sh mi mj mr := rfl
theorem d_145_0 : decode cX8_layPlain 0 = .ok (.aload_n 0, 1) := by decide +kernel
theorem d_145_1 : decode cX8_layPlain 1 = .ok (.iload_n 1, 1) := by decide +kernel
theorem d_145_2 : decode cX8_layPlain 2 = .ok (.invokevirtual 157, 3) := by decide +kernel
theorem d_145_5 : decode cX8_layPlain 5 = .ok (.lload_n 2, 1) := by decide +kernel
theorem d_145_6 : decode cX8_layPlain 6 = .ok (.lload 4, 2) := by decide +kernel
theorem d_145_8 : decode cX8_layPlain 8 = .ok (.ladd, 1) := by decide +kernel
theorem d_145_9 : decode cX8_layPlain 9 = .ok (.iconst 1, 1) := by decide +kernel
theorem d_145_10 : decode cX8_layPlain 10 = .ok (.lshr, 1) := by decide +kernel
theorem d_145_11 : decode cX8_layPlain 11 = .ok (.lstore 6, 2) := by decide +kernel
theorem d_145_13 : decode cX8_layPlain 13 = .ok (.aload_n 0, 1) := by decide +kernel
theorem d_145_14 : decode cX8_layPlain 14 = .ok (.getfield 29, 3) := by decide +kernel
theorem d_145_17 : decode cX8_layPlain 17 = .ok (.bipush 17, 2) := by decide +kernel
theorem d_145_19 : decode cX8_layPlain 19 = .ok (.iload_n 1, 1) := by decide +kernel
theorem d_145_20 : decode cX8_layPlain 20 = .ok (.imul, 1) := by decide +kernel
theorem d_145_21 : decode cX8_layPlain 21 = .ok (.iconst 0, 1) := by decide +kernel
theorem d_145_22 : decode cX8_layPlain 22 = .ok (.iadd, 1) := by decide +kernel
theorem d_145_23 : decode cX8_layPlain 23 = .ok (.lload 6, 2) := by decide +kernel
theorem d_145_25 : decode cX8_layPlain 25 = .ok (.lastore, 1) := by decide +kernel
theorem d_145_26 : decode cX8_layPlain 26 = .ok (.aload_n 0, 1) := by decide +kernel
theorem d_145_27 : decode cX8_layPlain 27 = .ok (.getfield 29, 3) := by decide +kernel
theorem d_145_30 : decode cX8_layPlain 30 = .ok (.bipush 17, 2) := by decide +kernel
theorem d_145_32 : decode cX8_layPlain 32 = .ok (.iload_n 1, 1) := by decide +kernel
theorem d_145_33 : decode cX8_layPlain 33 = .ok (.imul, 1) := by decide +kernel
theorem d_145_34 : decode cX8_layPlain 34 = .ok (.bipush 13, 2) := by decide +kernel
theorem d_145_36 : decode cX8_layPlain 36 = .ok (.iadd, 1) := by decide +kernel
theorem d_145_37 : decode cX8_layPlain 37 = .ok (.lload 4, 2) := by decide +kernel
theorem d_145_39 : decode cX8_layPlain 39 = .ok (.lload 6, 2) := by decide +kernel
theorem d_145_41 : decode cX8_layPlain 41 = .ok (.lsub, 1) := by decide +kernel
theorem d_145_42 : decode cX8_layPlain 42 = .ok (.lload 6, 2) := by decide +kernel
theorem d_145_44 : decode cX8_layPlain 44 = .ok (.lload_n 2, 1) := by decide +kernel
theorem d_145_45 : decode cX8_layPlain 45 = .ok (.lsub, 1) := by decide +kernel
theorem d_145_46 : decode cX8_layPlain 46 = .ok (.lcmp, 1) := by decide +kernel
theorem d_145_47 : decode cX8_layPlain 47 = .ok (.ifCond .le 11, 3) := by decide +kernel
theorem d_145_50 : decode cX8_layPlain 50 = .ok (.lload 4, 2) := by decide +kernel
theorem d_145_52 : decode cX8_layPlain 52 = .ok (.lload 6, 2) := by decide +kernel
theorem d_145_54 : decode cX8_layPlain 54 = .ok (.lsub, 1) := by decide +kernel
theorem d_145_55 : decode cX8_layPlain 55 = .ok (.goto 7, 3) := by decide +kernel
theorem d_145_58 : decode cX8_layPlain 58 = .ok (.lload 6, 2) := by decide +kernel
theorem d_145_60 : decode cX8_layPlain 60 = .ok (.lload_n 2, 1) := by decide +kernel
theorem d_145_61 : decode cX8_layPlain 61 = .ok (.lsub, 1) := by decide +kernel
theorem d_145_62 : decode cX8_layPlain 62 = .ok (.lastore, 1) := by decide +kernel
theorem d_145_63 : decode cX8_layPlain 63 = .ok (.aload_n 0, 1) := by decide +kernel
theorem d_145_64 : decode cX8_layPlain 64 = .ok (.getfield 29, 3) := by decide +kernel
theorem d_145_67 : decode cX8_layPlain 67 = .ok (.bipush 17, 2) := by decide +kernel
theorem d_145_69 : decode cX8_layPlain 69 = .ok (.iload_n 1, 1) := by decide +kernel
theorem d_145_70 : decode cX8_layPlain 70 = .ok (.imul, 1) := by decide +kernel
theorem d_145_71 : decode cX8_layPlain 71 = .ok (.bipush 14, 2) := by decide +kernel
theorem d_145_73 : decode cX8_layPlain 73 = .ok (.iadd, 1) := by decide +kernel
theorem d_145_74 : decode cX8_layPlain 74 = .ok (.lload_n 2, 1) := by decide +kernel
theorem d_145_75 : decode cX8_layPlain 75 = .ok (.lastore, 1) := by decide +kernel
theorem d_145_76 : decode cX8_layPlain 76 = .ok (.aload_n 0, 1) := by decide +kernel
theorem d_145_77 : decode cX8_layPlain 77 = .ok (.getfield 29, 3) := by decide +kernel
theorem d_145_80 : decode cX8_layPlain 80 = .ok (.bipush 17, 2) := by decide +kernel
theorem d_145_82 : decode cX8_layPlain 82 = .ok (.iload_n 1, 1) := by decide +kernel
theorem d_145_83 : decode cX8_layPlain 83 = .ok (.imul, 1) := by decide +kernel
theorem d_145_84 : decode cX8_layPlain 84 = .ok (.bipush 15, 2) := by decide +kernel
theorem d_145_86 : decode cX8_layPlain 86 = .ok (.iadd, 1) := by decide +kernel
theorem d_145_87 : decode cX8_layPlain 87 = .ok (.lload 4, 2) := by decide +kernel
theorem d_145_89 : decode cX8_layPlain 89 = .ok (.lastore, 1) := by decide +kernel
theorem d_145_90 : decode cX8_layPlain 90 = .ok (.return_, 1) := by decide +kernel
theorem q_145_0r : zRun 145 0 [some (.ref o), l1, l2, l3, l4, l5, l6, l7] S sh mi mj mr = zRun 145 1 [some (.ref o), l1, l2, l3, l4, l5, l6, l7] (.ref o :: S) sh mi mj mr := zr_l (zD_of zk_145 d_145_0 rfl rfl) rfl rfl rfl
theorem q_145_0n : zRun 145 0 [some (.null), l1, l2, l3, l4, l5, l6, l7] S sh mi mj mr = zRun 145 1 [some (.null), l1, l2, l3, l4, l5, l6, l7] (.null :: S) sh mi mj mr := zr_l (zD_of zk_145 d_145_0 rfl rfl) rfl rfl rfl
theorem q_145_1 : zRun 145 1 [l0, some (.int x), l2, l3, l4, l5, l6, l7] S sh mi mj mr = zRun 145 2 [l0, some (.int x), l2, l3, l4, l5, l6, l7] (.int x :: S) sh mi mj mr := zr_l (zD_of zk_145 d_145_1 rfl rfl) rfl rfl rfl
theorem q_145_2  {x0 : Int32} (hS : zcat S ≤ 8) (h : zIs sh o 0 8) : zRun 145 2 L (.int x0 :: .ref o :: S) sh mi mj mr = (zCall 142 [.ref o, .int x0] sh mi mj mr).bind fun r => zRun 145 5 L (r.1.toList ++ S) r.2.1 r.2.2.1 r.2.2.2.1 r.2.2.2.2 := zr_V (zD_of zk_145 d_145_2 rfl rfl) rfl zk_142 rfl rfl rfl hS h
theorem q_145_5 : zRun 145 5 [l0, l1, some (.long u), l3, l4, l5, l6, l7] S sh mi mj mr = zRun 145 6 [l0, l1, some (.long u), l3, l4, l5, l6, l7] (.long u :: S) sh mi mj mr := zr_l (zD_of zk_145 d_145_5 rfl rfl) rfl rfl rfl
theorem q_145_6 : zRun 145 6 [l0, l1, l2, l3, some (.long u), l5, l6, l7] S sh mi mj mr = zRun 145 8 [l0, l1, l2, l3, some (.long u), l5, l6, l7] (.long u :: S) sh mi mj mr := zr_l (zD_of zk_145 d_145_6 rfl rfl) rfl rfl rfl
theorem q_145_8  : zRun 145 8 L (.long v :: .long u :: S) sh mi mj mr = zRun 145 9 L (.long (u + v) :: S) sh mi mj mr := zr_p (zD_of zk_145 d_145_8 rfl rfl) rfl
theorem q_145_9  : zRun 145 9 L S sh mi mj mr = zRun 145 10 L (.int 1 :: S) sh mi mj mr := zr_p (zD_of zk_145 d_145_9 rfl rfl) rfl
theorem q_145_10  : zRun 145 10 L (.int y :: .long u :: S) sh mi mj mr = zRun 145 11 L (.long (u >>> (y.toInt64 &&& 63)) :: S) sh mi mj mr := zr_p (zD_of zk_145 d_145_10 rfl rfl) rfl
theorem q_145_11 : zRun 145 11 [l0, l1, l2, l3, l4, l5, l6, l7] (.long u :: S) sh mi mj mr = zRun 145 13 [l0, l1, l2, l3, l4, zk2 l5, some (.long u), none] S sh mi mj mr := zr_s2 (i := 6) (v := .long u) (L := [l0, l1, l2, l3, l4, l5, l6, l7]) (zD_of zk_145 d_145_11 rfl rfl) rfl rfl rfl rfl
theorem q_145_13r : zRun 145 13 [some (.ref o), l1, l2, l3, l4, l5, l6, l7] S sh mi mj mr = zRun 145 14 [some (.ref o), l1, l2, l3, l4, l5, l6, l7] (.ref o :: S) sh mi mj mr := zr_l (zD_of zk_145 d_145_13 rfl rfl) rfl rfl rfl
theorem q_145_13n : zRun 145 13 [some (.null), l1, l2, l3, l4, l5, l6, l7] S sh mi mj mr = zRun 145 14 [some (.null), l1, l2, l3, l4, l5, l6, l7] (.null :: S) sh mi mj mr := zr_l (zD_of zk_145 d_145_13 rfl rfl) rfl rfl rfl
theorem q_145_14 (h : zIs sh o 0 8) : zRun 145 14 L (.ref o :: S) sh mi mj mr = zRun 145 17 L (va_rf (mr o 10) :: S) sh mi mj mr := zr_getR (zD_of zk_145 d_145_14 rfl rfl) rfl rfl rfl h
theorem q_145_17  : zRun 145 17 L S sh mi mj mr = zRun 145 19 L (.int 17 :: S) sh mi mj mr := zr_p (zD_of zk_145 d_145_17 rfl rfl) rfl
theorem q_145_19 : zRun 145 19 [l0, some (.int x), l2, l3, l4, l5, l6, l7] S sh mi mj mr = zRun 145 20 [l0, some (.int x), l2, l3, l4, l5, l6, l7] (.int x :: S) sh mi mj mr := zr_l (zD_of zk_145 d_145_19 rfl rfl) rfl rfl rfl
theorem q_145_20  : zRun 145 20 L (.int y :: .int x :: S) sh mi mj mr = zRun 145 21 L (.int (x * y) :: S) sh mi mj mr := zr_p (zD_of zk_145 d_145_20 rfl rfl) rfl
theorem q_145_21  : zRun 145 21 L S sh mi mj mr = zRun 145 22 L (.int 0 :: S) sh mi mj mr := zr_p (zD_of zk_145 d_145_21 rfl rfl) rfl
theorem q_145_22  : zRun 145 22 L (.int y :: .int x :: S) sh mi mj mr = zRun 145 23 L (.int (x + y) :: S) sh mi mj mr := zr_p (zD_of zk_145 d_145_22 rfl rfl) rfl
theorem q_145_23 : zRun 145 23 [l0, l1, l2, l3, l4, l5, some (.long u), l7] S sh mi mj mr = zRun 145 25 [l0, l1, l2, l3, l4, l5, some (.long u), l7] (.long u :: S) sh mi mj mr := zr_l (zD_of zk_145 d_145_23 rfl rfl) rfl rfl rfl
theorem q_145_25 (h : zAt sh o 2 x) : zRun 145 25 L (.long u :: .int x :: .ref o :: S) sh mi mj mr = zRun 145 26 L S sh mi (zup mj o x.toNatClampNeg u) mr := zr_last (zD_of zk_145 d_145_25 rfl rfl) h
theorem q_145_26r : zRun 145 26 [some (.ref o), l1, l2, l3, l4, l5, l6, l7] S sh mi mj mr = zRun 145 27 [some (.ref o), l1, l2, l3, l4, l5, l6, l7] (.ref o :: S) sh mi mj mr := zr_l (zD_of zk_145 d_145_26 rfl rfl) rfl rfl rfl
theorem q_145_26n : zRun 145 26 [some (.null), l1, l2, l3, l4, l5, l6, l7] S sh mi mj mr = zRun 145 27 [some (.null), l1, l2, l3, l4, l5, l6, l7] (.null :: S) sh mi mj mr := zr_l (zD_of zk_145 d_145_26 rfl rfl) rfl rfl rfl
theorem q_145_27 (h : zIs sh o 0 8) : zRun 145 27 L (.ref o :: S) sh mi mj mr = zRun 145 30 L (va_rf (mr o 10) :: S) sh mi mj mr := zr_getR (zD_of zk_145 d_145_27 rfl rfl) rfl rfl rfl h
theorem q_145_30  : zRun 145 30 L S sh mi mj mr = zRun 145 32 L (.int 17 :: S) sh mi mj mr := zr_p (zD_of zk_145 d_145_30 rfl rfl) rfl
theorem q_145_32 : zRun 145 32 [l0, some (.int x), l2, l3, l4, l5, l6, l7] S sh mi mj mr = zRun 145 33 [l0, some (.int x), l2, l3, l4, l5, l6, l7] (.int x :: S) sh mi mj mr := zr_l (zD_of zk_145 d_145_32 rfl rfl) rfl rfl rfl
theorem q_145_33  : zRun 145 33 L (.int y :: .int x :: S) sh mi mj mr = zRun 145 34 L (.int (x * y) :: S) sh mi mj mr := zr_p (zD_of zk_145 d_145_33 rfl rfl) rfl
theorem q_145_34  : zRun 145 34 L S sh mi mj mr = zRun 145 36 L (.int 13 :: S) sh mi mj mr := zr_p (zD_of zk_145 d_145_34 rfl rfl) rfl
theorem q_145_36  : zRun 145 36 L (.int y :: .int x :: S) sh mi mj mr = zRun 145 37 L (.int (x + y) :: S) sh mi mj mr := zr_p (zD_of zk_145 d_145_36 rfl rfl) rfl
theorem q_145_37 : zRun 145 37 [l0, l1, l2, l3, some (.long u), l5, l6, l7] S sh mi mj mr = zRun 145 39 [l0, l1, l2, l3, some (.long u), l5, l6, l7] (.long u :: S) sh mi mj mr := zr_l (zD_of zk_145 d_145_37 rfl rfl) rfl rfl rfl
theorem q_145_39 : zRun 145 39 [l0, l1, l2, l3, l4, l5, some (.long u), l7] S sh mi mj mr = zRun 145 41 [l0, l1, l2, l3, l4, l5, some (.long u), l7] (.long u :: S) sh mi mj mr := zr_l (zD_of zk_145 d_145_39 rfl rfl) rfl rfl rfl
theorem q_145_41  : zRun 145 41 L (.long v :: .long u :: S) sh mi mj mr = zRun 145 42 L (.long (u - v) :: S) sh mi mj mr := zr_p (zD_of zk_145 d_145_41 rfl rfl) rfl
theorem q_145_42 : zRun 145 42 [l0, l1, l2, l3, l4, l5, some (.long u), l7] S sh mi mj mr = zRun 145 44 [l0, l1, l2, l3, l4, l5, some (.long u), l7] (.long u :: S) sh mi mj mr := zr_l (zD_of zk_145 d_145_42 rfl rfl) rfl rfl rfl
theorem q_145_44 : zRun 145 44 [l0, l1, some (.long u), l3, l4, l5, l6, l7] S sh mi mj mr = zRun 145 45 [l0, l1, some (.long u), l3, l4, l5, l6, l7] (.long u :: S) sh mi mj mr := zr_l (zD_of zk_145 d_145_44 rfl rfl) rfl rfl rfl
theorem q_145_45  : zRun 145 45 L (.long v :: .long u :: S) sh mi mj mr = zRun 145 46 L (.long (u - v) :: S) sh mi mj mr := zr_p (zD_of zk_145 d_145_45 rfl rfl) rfl
theorem q_145_46  : zRun 145 46 L (.long v :: .long u :: S) sh mi mj mr = if u ≤ v then zRun 145 58 L S sh mi mj mr else zRun 145 50 L S sh mi mj mr := zr_cmp (off := 11) (zD_of zk_145 d_145_46 rfl rfl) (zD_of zk_145 d_145_47 rfl rfl) rfl rfl (by decide) (lg_cmp_le u v)
theorem q_145_47  : zRun 145 47 L (.int x :: S) sh mi mj mr = if x ≤ 0 then zRun 145 58 L S sh mi mj mr else zRun 145 50 L S sh mi mj mr := zr_if (off := 11) (P := x ≤ 0) (zD_of zk_145 d_145_47 rfl rfl) rfl rfl (by decide)
theorem q_145_50 : zRun 145 50 [l0, l1, l2, l3, some (.long u), l5, l6, l7] S sh mi mj mr = zRun 145 52 [l0, l1, l2, l3, some (.long u), l5, l6, l7] (.long u :: S) sh mi mj mr := zr_l (zD_of zk_145 d_145_50 rfl rfl) rfl rfl rfl
theorem q_145_52 : zRun 145 52 [l0, l1, l2, l3, l4, l5, some (.long u), l7] S sh mi mj mr = zRun 145 54 [l0, l1, l2, l3, l4, l5, some (.long u), l7] (.long u :: S) sh mi mj mr := zr_l (zD_of zk_145 d_145_52 rfl rfl) rfl rfl rfl
theorem q_145_54  : zRun 145 54 L (.long v :: .long u :: S) sh mi mj mr = zRun 145 55 L (.long (u - v) :: S) sh mi mj mr := zr_p (zD_of zk_145 d_145_54 rfl rfl) rfl
theorem q_145_55  : zRun 145 55 L S sh mi mj mr = zRun 145 62 L S sh mi mj mr := zr_go (off := 7) (zD_of zk_145 d_145_55 rfl rfl) rfl rfl (by decide)
theorem q_145_58 : zRun 145 58 [l0, l1, l2, l3, l4, l5, some (.long u), l7] S sh mi mj mr = zRun 145 60 [l0, l1, l2, l3, l4, l5, some (.long u), l7] (.long u :: S) sh mi mj mr := zr_l (zD_of zk_145 d_145_58 rfl rfl) rfl rfl rfl
theorem q_145_60 : zRun 145 60 [l0, l1, some (.long u), l3, l4, l5, l6, l7] S sh mi mj mr = zRun 145 61 [l0, l1, some (.long u), l3, l4, l5, l6, l7] (.long u :: S) sh mi mj mr := zr_l (zD_of zk_145 d_145_60 rfl rfl) rfl rfl rfl
theorem q_145_61  : zRun 145 61 L (.long v :: .long u :: S) sh mi mj mr = zRun 145 62 L (.long (u - v) :: S) sh mi mj mr := zr_p (zD_of zk_145 d_145_61 rfl rfl) rfl
theorem q_145_62 (h : zAt sh o 2 x) : zRun 145 62 L (.long u :: .int x :: .ref o :: S) sh mi mj mr = zRun 145 63 L S sh mi (zup mj o x.toNatClampNeg u) mr := zr_last (zD_of zk_145 d_145_62 rfl rfl) h
theorem q_145_63r : zRun 145 63 [some (.ref o), l1, l2, l3, l4, l5, l6, l7] S sh mi mj mr = zRun 145 64 [some (.ref o), l1, l2, l3, l4, l5, l6, l7] (.ref o :: S) sh mi mj mr := zr_l (zD_of zk_145 d_145_63 rfl rfl) rfl rfl rfl
theorem q_145_63n : zRun 145 63 [some (.null), l1, l2, l3, l4, l5, l6, l7] S sh mi mj mr = zRun 145 64 [some (.null), l1, l2, l3, l4, l5, l6, l7] (.null :: S) sh mi mj mr := zr_l (zD_of zk_145 d_145_63 rfl rfl) rfl rfl rfl
theorem q_145_64 (h : zIs sh o 0 8) : zRun 145 64 L (.ref o :: S) sh mi mj mr = zRun 145 67 L (va_rf (mr o 10) :: S) sh mi mj mr := zr_getR (zD_of zk_145 d_145_64 rfl rfl) rfl rfl rfl h
theorem q_145_67  : zRun 145 67 L S sh mi mj mr = zRun 145 69 L (.int 17 :: S) sh mi mj mr := zr_p (zD_of zk_145 d_145_67 rfl rfl) rfl
theorem q_145_69 : zRun 145 69 [l0, some (.int x), l2, l3, l4, l5, l6, l7] S sh mi mj mr = zRun 145 70 [l0, some (.int x), l2, l3, l4, l5, l6, l7] (.int x :: S) sh mi mj mr := zr_l (zD_of zk_145 d_145_69 rfl rfl) rfl rfl rfl
theorem q_145_70  : zRun 145 70 L (.int y :: .int x :: S) sh mi mj mr = zRun 145 71 L (.int (x * y) :: S) sh mi mj mr := zr_p (zD_of zk_145 d_145_70 rfl rfl) rfl
theorem q_145_71  : zRun 145 71 L S sh mi mj mr = zRun 145 73 L (.int 14 :: S) sh mi mj mr := zr_p (zD_of zk_145 d_145_71 rfl rfl) rfl
theorem q_145_73  : zRun 145 73 L (.int y :: .int x :: S) sh mi mj mr = zRun 145 74 L (.int (x + y) :: S) sh mi mj mr := zr_p (zD_of zk_145 d_145_73 rfl rfl) rfl
theorem q_145_74 : zRun 145 74 [l0, l1, some (.long u), l3, l4, l5, l6, l7] S sh mi mj mr = zRun 145 75 [l0, l1, some (.long u), l3, l4, l5, l6, l7] (.long u :: S) sh mi mj mr := zr_l (zD_of zk_145 d_145_74 rfl rfl) rfl rfl rfl
theorem q_145_75 (h : zAt sh o 2 x) : zRun 145 75 L (.long u :: .int x :: .ref o :: S) sh mi mj mr = zRun 145 76 L S sh mi (zup mj o x.toNatClampNeg u) mr := zr_last (zD_of zk_145 d_145_75 rfl rfl) h
theorem q_145_76r : zRun 145 76 [some (.ref o), l1, l2, l3, l4, l5, l6, l7] S sh mi mj mr = zRun 145 77 [some (.ref o), l1, l2, l3, l4, l5, l6, l7] (.ref o :: S) sh mi mj mr := zr_l (zD_of zk_145 d_145_76 rfl rfl) rfl rfl rfl
theorem q_145_76n : zRun 145 76 [some (.null), l1, l2, l3, l4, l5, l6, l7] S sh mi mj mr = zRun 145 77 [some (.null), l1, l2, l3, l4, l5, l6, l7] (.null :: S) sh mi mj mr := zr_l (zD_of zk_145 d_145_76 rfl rfl) rfl rfl rfl
theorem q_145_77 (h : zIs sh o 0 8) : zRun 145 77 L (.ref o :: S) sh mi mj mr = zRun 145 80 L (va_rf (mr o 10) :: S) sh mi mj mr := zr_getR (zD_of zk_145 d_145_77 rfl rfl) rfl rfl rfl h
theorem q_145_80  : zRun 145 80 L S sh mi mj mr = zRun 145 82 L (.int 17 :: S) sh mi mj mr := zr_p (zD_of zk_145 d_145_80 rfl rfl) rfl
theorem q_145_82 : zRun 145 82 [l0, some (.int x), l2, l3, l4, l5, l6, l7] S sh mi mj mr = zRun 145 83 [l0, some (.int x), l2, l3, l4, l5, l6, l7] (.int x :: S) sh mi mj mr := zr_l (zD_of zk_145 d_145_82 rfl rfl) rfl rfl rfl
theorem q_145_83  : zRun 145 83 L (.int y :: .int x :: S) sh mi mj mr = zRun 145 84 L (.int (x * y) :: S) sh mi mj mr := zr_p (zD_of zk_145 d_145_83 rfl rfl) rfl
theorem q_145_84  : zRun 145 84 L S sh mi mj mr = zRun 145 86 L (.int 15 :: S) sh mi mj mr := zr_p (zD_of zk_145 d_145_84 rfl rfl) rfl
theorem q_145_86  : zRun 145 86 L (.int y :: .int x :: S) sh mi mj mr = zRun 145 87 L (.int (x + y) :: S) sh mi mj mr := zr_p (zD_of zk_145 d_145_86 rfl rfl) rfl
theorem q_145_87 : zRun 145 87 [l0, l1, l2, l3, some (.long u), l5, l6, l7] S sh mi mj mr = zRun 145 89 [l0, l1, l2, l3, some (.long u), l5, l6, l7] (.long u :: S) sh mi mj mr := zr_l (zD_of zk_145 d_145_87 rfl rfl) rfl rfl rfl
theorem q_145_89 (h : zAt sh o 2 x) : zRun 145 89 L (.long u :: .int x :: .ref o :: S) sh mi mj mr = zRun 145 90 L S sh mi (zup mj o x.toNatClampNeg u) mr := zr_last (zD_of zk_145 d_145_89 rfl rfl) h
theorem q_145_90  : zRun 145 90 L [] sh mi mj mr = some (none, sh, mi, mj, mr) := zr_ret (zD_of zk_145 d_145_90 rfl rfl) rfl rfl rfl rfl rfl rfl
theorem e_145 {x0 : Int32} {u0 u1 : Int64} : zCall 145 [.ref o, .int x0, .long u0, .long u1] sh mi mj mr = zRun 145 0 [some (.ref o), some (.int x0), some (.long u0), none, some (.long u1), none, none, none] [] sh mi mj mr := rfl
theorem d_146_0 : decode cX8_negate 0 = .ok (.bipush 17, 2) := by decide +kernel
theorem d_146_2 : decode cX8_negate 2 = .ok (.iload_n 1, 1) := by decide +kernel
theorem d_146_3 : decode cX8_negate 3 = .ok (.imul, 1) := by decide +kernel
theorem d_146_4 : decode cX8_negate 4 = .ok (.istore_n 2, 1) := by decide +kernel
theorem d_146_5 : decode cX8_negate 5 = .ok (.iconst 0, 1) := by decide +kernel
theorem d_146_6 : decode cX8_negate 6 = .ok (.istore_n 3, 1) := by decide +kernel
theorem d_146_7 : decode cX8_negate 7 = .ok (.iload_n 3, 1) := by decide +kernel
theorem d_146_8 : decode cX8_negate 8 = .ok (.bipush 13, 2) := by decide +kernel
theorem d_146_10 : decode cX8_negate 10 = .ok (.if_icmp .ge 26, 3) := by decide +kernel
theorem d_146_13 : decode cX8_negate 13 = .ok (.aload_n 0, 1) := by decide +kernel
theorem d_146_14 : decode cX8_negate 14 = .ok (.getfield 29, 3) := by decide +kernel
theorem d_146_17 : decode cX8_negate 17 = .ok (.iload_n 2, 1) := by decide +kernel
theorem d_146_18 : decode cX8_negate 18 = .ok (.iload_n 3, 1) := by decide +kernel
theorem d_146_19 : decode cX8_negate 19 = .ok (.iadd, 1) := by decide +kernel
theorem d_146_20 : decode cX8_negate 20 = .ok (.aload_n 0, 1) := by decide +kernel
theorem d_146_21 : decode cX8_negate 21 = .ok (.getfield 29, 3) := by decide +kernel
theorem d_146_24 : decode cX8_negate 24 = .ok (.iload_n 2, 1) := by decide +kernel
theorem d_146_25 : decode cX8_negate 25 = .ok (.iload_n 3, 1) := by decide +kernel
theorem d_146_26 : decode cX8_negate 26 = .ok (.iadd, 1) := by decide +kernel
theorem d_146_27 : decode cX8_negate 27 = .ok (.laload, 1) := by decide +kernel
theorem d_146_28 : decode cX8_negate 28 = .ok (.lneg, 1) := by decide +kernel
theorem d_146_29 : decode cX8_negate 29 = .ok (.lastore, 1) := by decide +kernel
theorem d_146_30 : decode cX8_negate 30 = .ok (.iinc 3 1, 3) := by decide +kernel
theorem d_146_33 : decode cX8_negate 33 = .ok (.goto (-26), 3) := by decide +kernel
theorem d_146_36 : decode cX8_negate 36 = .ok (.aload_n 0, 1) := by decide +kernel
theorem d_146_37 : decode cX8_negate 37 = .ok (.getfield 29, 3) := by decide +kernel
theorem d_146_40 : decode cX8_negate 40 = .ok (.iload_n 2, 1) := by decide +kernel
theorem d_146_41 : decode cX8_negate 41 = .ok (.bipush 14, 2) := by decide +kernel
theorem d_146_43 : decode cX8_negate 43 = .ok (.iadd, 1) := by decide +kernel
theorem d_146_44 : decode cX8_negate 44 = .ok (.laload, 1) := by decide +kernel
theorem d_146_45 : decode cX8_negate 45 = .ok (.lstore_n 3, 1) := by decide +kernel
theorem d_146_46 : decode cX8_negate 46 = .ok (.aload_n 0, 1) := by decide +kernel
theorem d_146_47 : decode cX8_negate 47 = .ok (.getfield 29, 3) := by decide +kernel
theorem d_146_50 : decode cX8_negate 50 = .ok (.iload_n 2, 1) := by decide +kernel
theorem d_146_51 : decode cX8_negate 51 = .ok (.bipush 14, 2) := by decide +kernel
theorem d_146_53 : decode cX8_negate 53 = .ok (.iadd, 1) := by decide +kernel
theorem d_146_54 : decode cX8_negate 54 = .ok (.aload_n 0, 1) := by decide +kernel
theorem d_146_55 : decode cX8_negate 55 = .ok (.getfield 29, 3) := by decide +kernel
theorem d_146_58 : decode cX8_negate 58 = .ok (.iload_n 2, 1) := by decide +kernel
theorem d_146_59 : decode cX8_negate 59 = .ok (.bipush 15, 2) := by decide +kernel
theorem d_146_61 : decode cX8_negate 61 = .ok (.iadd, 1) := by decide +kernel
theorem d_146_62 : decode cX8_negate 62 = .ok (.laload, 1) := by decide +kernel
theorem d_146_63 : decode cX8_negate 63 = .ok (.lneg, 1) := by decide +kernel
theorem d_146_64 : decode cX8_negate 64 = .ok (.lastore, 1) := by decide +kernel
theorem d_146_65 : decode cX8_negate 65 = .ok (.aload_n 0, 1) := by decide +kernel
theorem d_146_66 : decode cX8_negate 66 = .ok (.getfield 29, 3) := by decide +kernel
theorem d_146_69 : decode cX8_negate 69 = .ok (.iload_n 2, 1) := by decide +kernel
theorem d_146_70 : decode cX8_negate 70 = .ok (.bipush 15, 2) := by decide +kernel
theorem d_146_72 : decode cX8_negate 72 = .ok (.iadd, 1) := by decide +kernel
theorem d_146_73 : decode cX8_negate 73 = .ok (.lload_n 3, 1) := by decide +kernel
theorem d_146_74 : decode cX8_negate 74 = .ok (.lneg, 1) := by decide +kernel
theorem d_146_75 : decode cX8_negate 75 = .ok (.lastore, 1) := by decide +kernel
theorem d_146_76 : decode cX8_negate 76 = .ok (.return_, 1) := by decide +kernel
theorem q_146_0  : zRun 146 0 L S sh mi mj mr = zRun 146 2 L (.int 17 :: S) sh mi mj mr := zr_p (zD_of zk_146 d_146_0 rfl rfl) rfl
theorem q_146_2 : zRun 146 2 [l0, some (.int x), l2, l3, l4] S sh mi mj mr = zRun 146 3 [l0, some (.int x), l2, l3, l4] (.int x :: S) sh mi mj mr := zr_l (zD_of zk_146 d_146_2 rfl rfl) rfl rfl rfl
theorem q_146_3  : zRun 146 3 L (.int y :: .int x :: S) sh mi mj mr = zRun 146 4 L (.int (x * y) :: S) sh mi mj mr := zr_p (zD_of zk_146 d_146_3 rfl rfl) rfl
theorem q_146_4 : zRun 146 4 [l0, l1, l2, l3, l4] (.int x :: S) sh mi mj mr = zRun 146 5 [l0, zk2 l1, some (.int x), l3, l4] S sh mi mj mr := zr_s1 (i := 2) (v := .int x) (L := [l0, l1, l2, l3, l4]) (zD_of zk_146 d_146_4 rfl rfl) rfl rfl rfl rfl
theorem q_146_5  : zRun 146 5 L S sh mi mj mr = zRun 146 6 L (.int 0 :: S) sh mi mj mr := zr_p (zD_of zk_146 d_146_5 rfl rfl) rfl
theorem q_146_6 : zRun 146 6 [l0, l1, l2, l3, l4] (.int x :: S) sh mi mj mr = zRun 146 7 [l0, l1, zk2 l2, some (.int x), l4] S sh mi mj mr := zr_s1 (i := 3) (v := .int x) (L := [l0, l1, l2, l3, l4]) (zD_of zk_146 d_146_6 rfl rfl) rfl rfl rfl rfl
theorem q_146_7 : zRun 146 7 [l0, l1, l2, some (.int x), l4] S sh mi mj mr = zRun 146 8 [l0, l1, l2, some (.int x), l4] (.int x :: S) sh mi mj mr := zr_l (zD_of zk_146 d_146_7 rfl rfl) rfl rfl rfl
theorem q_146_8  : zRun 146 8 L S sh mi mj mr = zRun 146 10 L (.int 13 :: S) sh mi mj mr := zr_p (zD_of zk_146 d_146_8 rfl rfl) rfl
theorem q_146_10  : zRun 146 10 L (.int y :: .int x :: S) sh mi mj mr = if y ≤ x then zRun 146 36 L S sh mi mj mr else zRun 146 13 L S sh mi mj mr := zr_if (off := 26) (P := y ≤ x) (zD_of zk_146 d_146_10 rfl rfl) rfl rfl (by decide)
theorem q_146_13r : zRun 146 13 [some (.ref o), l1, l2, l3, l4] S sh mi mj mr = zRun 146 14 [some (.ref o), l1, l2, l3, l4] (.ref o :: S) sh mi mj mr := zr_l (zD_of zk_146 d_146_13 rfl rfl) rfl rfl rfl
theorem q_146_13n : zRun 146 13 [some (.null), l1, l2, l3, l4] S sh mi mj mr = zRun 146 14 [some (.null), l1, l2, l3, l4] (.null :: S) sh mi mj mr := zr_l (zD_of zk_146 d_146_13 rfl rfl) rfl rfl rfl
theorem q_146_14 (h : zIs sh o 0 8) : zRun 146 14 L (.ref o :: S) sh mi mj mr = zRun 146 17 L (va_rf (mr o 10) :: S) sh mi mj mr := zr_getR (zD_of zk_146 d_146_14 rfl rfl) rfl rfl rfl h
theorem q_146_17 : zRun 146 17 [l0, l1, some (.int x), l3, l4] S sh mi mj mr = zRun 146 18 [l0, l1, some (.int x), l3, l4] (.int x :: S) sh mi mj mr := zr_l (zD_of zk_146 d_146_17 rfl rfl) rfl rfl rfl
theorem q_146_18 : zRun 146 18 [l0, l1, l2, some (.int x), l4] S sh mi mj mr = zRun 146 19 [l0, l1, l2, some (.int x), l4] (.int x :: S) sh mi mj mr := zr_l (zD_of zk_146 d_146_18 rfl rfl) rfl rfl rfl
theorem q_146_19  : zRun 146 19 L (.int y :: .int x :: S) sh mi mj mr = zRun 146 20 L (.int (x + y) :: S) sh mi mj mr := zr_p (zD_of zk_146 d_146_19 rfl rfl) rfl
theorem q_146_20r : zRun 146 20 [some (.ref o), l1, l2, l3, l4] S sh mi mj mr = zRun 146 21 [some (.ref o), l1, l2, l3, l4] (.ref o :: S) sh mi mj mr := zr_l (zD_of zk_146 d_146_20 rfl rfl) rfl rfl rfl
theorem q_146_20n : zRun 146 20 [some (.null), l1, l2, l3, l4] S sh mi mj mr = zRun 146 21 [some (.null), l1, l2, l3, l4] (.null :: S) sh mi mj mr := zr_l (zD_of zk_146 d_146_20 rfl rfl) rfl rfl rfl
theorem q_146_21 (h : zIs sh o 0 8) : zRun 146 21 L (.ref o :: S) sh mi mj mr = zRun 146 24 L (va_rf (mr o 10) :: S) sh mi mj mr := zr_getR (zD_of zk_146 d_146_21 rfl rfl) rfl rfl rfl h
theorem q_146_24 : zRun 146 24 [l0, l1, some (.int x), l3, l4] S sh mi mj mr = zRun 146 25 [l0, l1, some (.int x), l3, l4] (.int x :: S) sh mi mj mr := zr_l (zD_of zk_146 d_146_24 rfl rfl) rfl rfl rfl
theorem q_146_25 : zRun 146 25 [l0, l1, l2, some (.int x), l4] S sh mi mj mr = zRun 146 26 [l0, l1, l2, some (.int x), l4] (.int x :: S) sh mi mj mr := zr_l (zD_of zk_146 d_146_25 rfl rfl) rfl rfl rfl
theorem q_146_26  : zRun 146 26 L (.int y :: .int x :: S) sh mi mj mr = zRun 146 27 L (.int (x + y) :: S) sh mi mj mr := zr_p (zD_of zk_146 d_146_26 rfl rfl) rfl
theorem q_146_27 (h : zAt sh o 2 x) : zRun 146 27 L (.int x :: .ref o :: S) sh mi mj mr = zRun 146 28 L (.long (mj o x.toNatClampNeg) :: S) sh mi mj mr := zr_lald (zD_of zk_146 d_146_27 rfl rfl) h
theorem q_146_28  : zRun 146 28 L (.long u :: S) sh mi mj mr = zRun 146 29 L (.long (-u) :: S) sh mi mj mr := zr_p (zD_of zk_146 d_146_28 rfl rfl) rfl
theorem q_146_29 (h : zAt sh o 2 x) : zRun 146 29 L (.long u :: .int x :: .ref o :: S) sh mi mj mr = zRun 146 30 L S sh mi (zup mj o x.toNatClampNeg u) mr := zr_last (zD_of zk_146 d_146_29 rfl rfl) h
theorem q_146_30  : zRun 146 30 [l0, l1, l2, some (.int x), l4] S sh mi mj mr = zRun 146 33 [l0, l1, zk2 l2, some (.int (x + 1)), l4] S sh mi mj mr := zr_s1 (i := 3) (v := .int (x + 1)) (L := [l0, l1, l2, some (.int x), l4]) (zD_of zk_146 d_146_30 rfl rfl) rfl rfl rfl rfl
theorem q_146_33  : zRun 146 33 L S sh mi mj mr = zRun 146 7 L S sh mi mj mr := zr_go (off := (-26)) (zD_of zk_146 d_146_33 rfl rfl) rfl rfl (by decide)
theorem q_146_36r : zRun 146 36 [some (.ref o), l1, l2, l3, l4] S sh mi mj mr = zRun 146 37 [some (.ref o), l1, l2, l3, l4] (.ref o :: S) sh mi mj mr := zr_l (zD_of zk_146 d_146_36 rfl rfl) rfl rfl rfl
theorem q_146_36n : zRun 146 36 [some (.null), l1, l2, l3, l4] S sh mi mj mr = zRun 146 37 [some (.null), l1, l2, l3, l4] (.null :: S) sh mi mj mr := zr_l (zD_of zk_146 d_146_36 rfl rfl) rfl rfl rfl
theorem q_146_37 (h : zIs sh o 0 8) : zRun 146 37 L (.ref o :: S) sh mi mj mr = zRun 146 40 L (va_rf (mr o 10) :: S) sh mi mj mr := zr_getR (zD_of zk_146 d_146_37 rfl rfl) rfl rfl rfl h
theorem q_146_40 : zRun 146 40 [l0, l1, some (.int x), l3, l4] S sh mi mj mr = zRun 146 41 [l0, l1, some (.int x), l3, l4] (.int x :: S) sh mi mj mr := zr_l (zD_of zk_146 d_146_40 rfl rfl) rfl rfl rfl
theorem q_146_41  : zRun 146 41 L S sh mi mj mr = zRun 146 43 L (.int 14 :: S) sh mi mj mr := zr_p (zD_of zk_146 d_146_41 rfl rfl) rfl
theorem q_146_43  : zRun 146 43 L (.int y :: .int x :: S) sh mi mj mr = zRun 146 44 L (.int (x + y) :: S) sh mi mj mr := zr_p (zD_of zk_146 d_146_43 rfl rfl) rfl
theorem q_146_44 (h : zAt sh o 2 x) : zRun 146 44 L (.int x :: .ref o :: S) sh mi mj mr = zRun 146 45 L (.long (mj o x.toNatClampNeg) :: S) sh mi mj mr := zr_lald (zD_of zk_146 d_146_44 rfl rfl) h
theorem q_146_45 : zRun 146 45 [l0, l1, l2, l3, l4] (.long u :: S) sh mi mj mr = zRun 146 46 [l0, l1, zk2 l2, some (.long u), none] S sh mi mj mr := zr_s2 (i := 3) (v := .long u) (L := [l0, l1, l2, l3, l4]) (zD_of zk_146 d_146_45 rfl rfl) rfl rfl rfl rfl
theorem q_146_46r : zRun 146 46 [some (.ref o), l1, l2, l3, l4] S sh mi mj mr = zRun 146 47 [some (.ref o), l1, l2, l3, l4] (.ref o :: S) sh mi mj mr := zr_l (zD_of zk_146 d_146_46 rfl rfl) rfl rfl rfl
theorem q_146_46n : zRun 146 46 [some (.null), l1, l2, l3, l4] S sh mi mj mr = zRun 146 47 [some (.null), l1, l2, l3, l4] (.null :: S) sh mi mj mr := zr_l (zD_of zk_146 d_146_46 rfl rfl) rfl rfl rfl
theorem q_146_47 (h : zIs sh o 0 8) : zRun 146 47 L (.ref o :: S) sh mi mj mr = zRun 146 50 L (va_rf (mr o 10) :: S) sh mi mj mr := zr_getR (zD_of zk_146 d_146_47 rfl rfl) rfl rfl rfl h
theorem q_146_50 : zRun 146 50 [l0, l1, some (.int x), l3, l4] S sh mi mj mr = zRun 146 51 [l0, l1, some (.int x), l3, l4] (.int x :: S) sh mi mj mr := zr_l (zD_of zk_146 d_146_50 rfl rfl) rfl rfl rfl
theorem q_146_51  : zRun 146 51 L S sh mi mj mr = zRun 146 53 L (.int 14 :: S) sh mi mj mr := zr_p (zD_of zk_146 d_146_51 rfl rfl) rfl
theorem q_146_53  : zRun 146 53 L (.int y :: .int x :: S) sh mi mj mr = zRun 146 54 L (.int (x + y) :: S) sh mi mj mr := zr_p (zD_of zk_146 d_146_53 rfl rfl) rfl
theorem q_146_54r : zRun 146 54 [some (.ref o), l1, l2, l3, l4] S sh mi mj mr = zRun 146 55 [some (.ref o), l1, l2, l3, l4] (.ref o :: S) sh mi mj mr := zr_l (zD_of zk_146 d_146_54 rfl rfl) rfl rfl rfl
theorem q_146_54n : zRun 146 54 [some (.null), l1, l2, l3, l4] S sh mi mj mr = zRun 146 55 [some (.null), l1, l2, l3, l4] (.null :: S) sh mi mj mr := zr_l (zD_of zk_146 d_146_54 rfl rfl) rfl rfl rfl
theorem q_146_55 (h : zIs sh o 0 8) : zRun 146 55 L (.ref o :: S) sh mi mj mr = zRun 146 58 L (va_rf (mr o 10) :: S) sh mi mj mr := zr_getR (zD_of zk_146 d_146_55 rfl rfl) rfl rfl rfl h
theorem q_146_58 : zRun 146 58 [l0, l1, some (.int x), l3, l4] S sh mi mj mr = zRun 146 59 [l0, l1, some (.int x), l3, l4] (.int x :: S) sh mi mj mr := zr_l (zD_of zk_146 d_146_58 rfl rfl) rfl rfl rfl
theorem q_146_59  : zRun 146 59 L S sh mi mj mr = zRun 146 61 L (.int 15 :: S) sh mi mj mr := zr_p (zD_of zk_146 d_146_59 rfl rfl) rfl
theorem q_146_61  : zRun 146 61 L (.int y :: .int x :: S) sh mi mj mr = zRun 146 62 L (.int (x + y) :: S) sh mi mj mr := zr_p (zD_of zk_146 d_146_61 rfl rfl) rfl
theorem q_146_62 (h : zAt sh o 2 x) : zRun 146 62 L (.int x :: .ref o :: S) sh mi mj mr = zRun 146 63 L (.long (mj o x.toNatClampNeg) :: S) sh mi mj mr := zr_lald (zD_of zk_146 d_146_62 rfl rfl) h
theorem q_146_63  : zRun 146 63 L (.long u :: S) sh mi mj mr = zRun 146 64 L (.long (-u) :: S) sh mi mj mr := zr_p (zD_of zk_146 d_146_63 rfl rfl) rfl
theorem q_146_64 (h : zAt sh o 2 x) : zRun 146 64 L (.long u :: .int x :: .ref o :: S) sh mi mj mr = zRun 146 65 L S sh mi (zup mj o x.toNatClampNeg u) mr := zr_last (zD_of zk_146 d_146_64 rfl rfl) h
theorem q_146_65r : zRun 146 65 [some (.ref o), l1, l2, l3, l4] S sh mi mj mr = zRun 146 66 [some (.ref o), l1, l2, l3, l4] (.ref o :: S) sh mi mj mr := zr_l (zD_of zk_146 d_146_65 rfl rfl) rfl rfl rfl
theorem q_146_65n : zRun 146 65 [some (.null), l1, l2, l3, l4] S sh mi mj mr = zRun 146 66 [some (.null), l1, l2, l3, l4] (.null :: S) sh mi mj mr := zr_l (zD_of zk_146 d_146_65 rfl rfl) rfl rfl rfl
theorem q_146_66 (h : zIs sh o 0 8) : zRun 146 66 L (.ref o :: S) sh mi mj mr = zRun 146 69 L (va_rf (mr o 10) :: S) sh mi mj mr := zr_getR (zD_of zk_146 d_146_66 rfl rfl) rfl rfl rfl h
theorem q_146_69 : zRun 146 69 [l0, l1, some (.int x), l3, l4] S sh mi mj mr = zRun 146 70 [l0, l1, some (.int x), l3, l4] (.int x :: S) sh mi mj mr := zr_l (zD_of zk_146 d_146_69 rfl rfl) rfl rfl rfl
theorem q_146_70  : zRun 146 70 L S sh mi mj mr = zRun 146 72 L (.int 15 :: S) sh mi mj mr := zr_p (zD_of zk_146 d_146_70 rfl rfl) rfl
theorem q_146_72  : zRun 146 72 L (.int y :: .int x :: S) sh mi mj mr = zRun 146 73 L (.int (x + y) :: S) sh mi mj mr := zr_p (zD_of zk_146 d_146_72 rfl rfl) rfl
theorem q_146_73 : zRun 146 73 [l0, l1, l2, some (.long u), l4] S sh mi mj mr = zRun 146 74 [l0, l1, l2, some (.long u), l4] (.long u :: S) sh mi mj mr := zr_l (zD_of zk_146 d_146_73 rfl rfl) rfl rfl rfl
theorem q_146_74  : zRun 146 74 L (.long u :: S) sh mi mj mr = zRun 146 75 L (.long (-u) :: S) sh mi mj mr := zr_p (zD_of zk_146 d_146_74 rfl rfl) rfl
theorem q_146_75 (h : zAt sh o 2 x) : zRun 146 75 L (.long u :: .int x :: .ref o :: S) sh mi mj mr = zRun 146 76 L S sh mi (zup mj o x.toNatClampNeg u) mr := zr_last (zD_of zk_146 d_146_75 rfl rfl) h
theorem q_146_76  : zRun 146 76 L [] sh mi mj mr = some (none, sh, mi, mj, mr) := zr_ret (zD_of zk_146 d_146_76 rfl rfl) rfl rfl rfl rfl rfl rfl
theorem e_146 {x0 : Int32} : zCall 146 [.ref o, .int x0] sh mi mj mr = zRun 146 0 [some (.ref o), some (.int x0), none, none, none] [] sh mi mj mr := rfl
theorem d_147_0 : decode cX8_down 0 = .ok (.lload_n 0, 1) := by decide +kernel
theorem d_147_1 : decode cX8_down 1 = .ok (.lload_n 2, 1) := by decide +kernel
theorem d_147_2 : decode cX8_down 2 = .ok (.ldiv, 1) := by decide +kernel
theorem d_147_3 : decode cX8_down 3 = .ok (.lstore 4, 2) := by decide +kernel
theorem d_147_5 : decode cX8_down 5 = .ok (.lload 4, 2) := by decide +kernel
theorem d_147_7 : decode cX8_down 7 = .ok (.lload_n 2, 1) := by decide +kernel
theorem d_147_8 : decode cX8_down 8 = .ok (.lmul, 1) := by decide +kernel
theorem d_147_9 : decode cX8_down 9 = .ok (.lload_n 0, 1) := by decide +kernel
theorem d_147_10 : decode cX8_down 10 = .ok (.lcmp, 1) := by decide +kernel
theorem d_147_11 : decode cX8_down 11 = .ok (.ifCond .eq 35, 3) := by decide +kernel
theorem d_147_14 : decode cX8_down 14 = .ok (.lload_n 0, 1) := by decide +kernel
theorem d_147_15 : decode cX8_down 15 = .ok (.lconst 0, 1) := by decide +kernel
theorem d_147_16 : decode cX8_down 16 = .ok (.lcmp, 1) := by decide +kernel
theorem d_147_17 : decode cX8_down 17 = .ok (.ifCond .ge 7, 3) := by decide +kernel
theorem d_147_20 : decode cX8_down 20 = .ok (.iconst 1, 1) := by decide +kernel
theorem d_147_21 : decode cX8_down 21 = .ok (.goto 4, 3) := by decide +kernel
theorem d_147_24 : decode cX8_down 24 = .ok (.iconst 0, 1) := by decide +kernel
theorem d_147_25 : decode cX8_down 25 = .ok (.lload_n 2, 1) := by decide +kernel
theorem d_147_26 : decode cX8_down 26 = .ok (.lconst 0, 1) := by decide +kernel
theorem d_147_27 : decode cX8_down 27 = .ok (.lcmp, 1) := by decide +kernel
theorem d_147_28 : decode cX8_down 28 = .ok (.ifCond .ge 7, 3) := by decide +kernel
theorem d_147_31 : decode cX8_down 31 = .ok (.iconst 1, 1) := by decide +kernel
theorem d_147_32 : decode cX8_down 32 = .ok (.goto 4, 3) := by decide +kernel
theorem d_147_35 : decode cX8_down 35 = .ok (.iconst 0, 1) := by decide +kernel
theorem d_147_36 : decode cX8_down 36 = .ok (.if_icmp .eq 10, 3) := by decide +kernel
theorem d_147_39 : decode cX8_down 39 = .ok (.lload 4, 2) := by decide +kernel
theorem d_147_41 : decode cX8_down 41 = .ok (.lconst 1, 1) := by decide +kernel
theorem d_147_42 : decode cX8_down 42 = .ok (.lsub, 1) := by decide +kernel
theorem d_147_43 : decode cX8_down 43 = .ok (.goto 5, 3) := by decide +kernel
theorem d_147_46 : decode cX8_down 46 = .ok (.lload 4, 2) := by decide +kernel
theorem d_147_48 : decode cX8_down 48 = .ok (.lreturn, 1) := by decide +kernel
theorem q_147_0 : zRun 147 0 [some (.long u), l1, l2, l3, l4, l5] S sh mi mj mr = zRun 147 1 [some (.long u), l1, l2, l3, l4, l5] (.long u :: S) sh mi mj mr := zr_l (zD_of zk_147 d_147_0 rfl rfl) rfl rfl rfl
theorem q_147_1 : zRun 147 1 [l0, l1, some (.long u), l3, l4, l5] S sh mi mj mr = zRun 147 2 [l0, l1, some (.long u), l3, l4, l5] (.long u :: S) sh mi mj mr := zr_l (zD_of zk_147 d_147_1 rfl rfl) rfl rfl rfl
theorem q_147_2 (h : ¬ v = 0) : zRun 147 2 L (.long v :: .long u :: S) sh mi mj mr = zRun 147 3 L (.long (u / v) :: S) sh mi mj mr := zr_p (zD_of zk_147 d_147_2 rfl rfl) (if_neg h)
theorem q_147_3 : zRun 147 3 [l0, l1, l2, l3, l4, l5] (.long u :: S) sh mi mj mr = zRun 147 5 [l0, l1, l2, zk2 l3, some (.long u), none] S sh mi mj mr := zr_s2 (i := 4) (v := .long u) (L := [l0, l1, l2, l3, l4, l5]) (zD_of zk_147 d_147_3 rfl rfl) rfl rfl rfl rfl
theorem q_147_5 : zRun 147 5 [l0, l1, l2, l3, some (.long u), l5] S sh mi mj mr = zRun 147 7 [l0, l1, l2, l3, some (.long u), l5] (.long u :: S) sh mi mj mr := zr_l (zD_of zk_147 d_147_5 rfl rfl) rfl rfl rfl
theorem q_147_7 : zRun 147 7 [l0, l1, some (.long u), l3, l4, l5] S sh mi mj mr = zRun 147 8 [l0, l1, some (.long u), l3, l4, l5] (.long u :: S) sh mi mj mr := zr_l (zD_of zk_147 d_147_7 rfl rfl) rfl rfl rfl
theorem q_147_8  : zRun 147 8 L (.long v :: .long u :: S) sh mi mj mr = zRun 147 9 L (.long (u * v) :: S) sh mi mj mr := zr_p (zD_of zk_147 d_147_8 rfl rfl) rfl
theorem q_147_9 : zRun 147 9 [some (.long u), l1, l2, l3, l4, l5] S sh mi mj mr = zRun 147 10 [some (.long u), l1, l2, l3, l4, l5] (.long u :: S) sh mi mj mr := zr_l (zD_of zk_147 d_147_9 rfl rfl) rfl rfl rfl
theorem q_147_10  : zRun 147 10 L (.long v :: .long u :: S) sh mi mj mr = if u = v then zRun 147 46 L S sh mi mj mr else zRun 147 14 L S sh mi mj mr := zr_cmp (off := 35) (zD_of zk_147 d_147_10 rfl rfl) (zD_of zk_147 d_147_11 rfl rfl) rfl rfl (by decide) (lg_cmp_eq u v)
theorem q_147_11  : zRun 147 11 L (.int x :: S) sh mi mj mr = if x = 0 then zRun 147 46 L S sh mi mj mr else zRun 147 14 L S sh mi mj mr := zr_if (off := 35) (P := x = 0) (zD_of zk_147 d_147_11 rfl rfl) rfl rfl (by decide)
theorem q_147_14 : zRun 147 14 [some (.long u), l1, l2, l3, l4, l5] S sh mi mj mr = zRun 147 15 [some (.long u), l1, l2, l3, l4, l5] (.long u :: S) sh mi mj mr := zr_l (zD_of zk_147 d_147_14 rfl rfl) rfl rfl rfl
theorem q_147_15  : zRun 147 15 L S sh mi mj mr = zRun 147 16 L (.long 0 :: S) sh mi mj mr := zr_p (zD_of zk_147 d_147_15 rfl rfl) rfl
theorem q_147_16  : zRun 147 16 L (.long v :: .long u :: S) sh mi mj mr = if v ≤ u then zRun 147 24 L S sh mi mj mr else zRun 147 20 L S sh mi mj mr := zr_cmp (off := 7) (zD_of zk_147 d_147_16 rfl rfl) (zD_of zk_147 d_147_17 rfl rfl) rfl rfl (by decide) (lg_cmp_ge u v)
theorem q_147_17  : zRun 147 17 L (.int x :: S) sh mi mj mr = if 0 ≤ x then zRun 147 24 L S sh mi mj mr else zRun 147 20 L S sh mi mj mr := zr_if (off := 7) (P := 0 ≤ x) (zD_of zk_147 d_147_17 rfl rfl) rfl rfl (by decide)
theorem q_147_20  : zRun 147 20 L S sh mi mj mr = zRun 147 21 L (.int 1 :: S) sh mi mj mr := zr_p (zD_of zk_147 d_147_20 rfl rfl) rfl
theorem q_147_21  : zRun 147 21 L S sh mi mj mr = zRun 147 25 L S sh mi mj mr := zr_go (off := 4) (zD_of zk_147 d_147_21 rfl rfl) rfl rfl (by decide)
theorem q_147_24  : zRun 147 24 L S sh mi mj mr = zRun 147 25 L (.int 0 :: S) sh mi mj mr := zr_p (zD_of zk_147 d_147_24 rfl rfl) rfl
theorem q_147_25 : zRun 147 25 [l0, l1, some (.long u), l3, l4, l5] S sh mi mj mr = zRun 147 26 [l0, l1, some (.long u), l3, l4, l5] (.long u :: S) sh mi mj mr := zr_l (zD_of zk_147 d_147_25 rfl rfl) rfl rfl rfl
theorem q_147_26  : zRun 147 26 L S sh mi mj mr = zRun 147 27 L (.long 0 :: S) sh mi mj mr := zr_p (zD_of zk_147 d_147_26 rfl rfl) rfl
theorem q_147_27  : zRun 147 27 L (.long v :: .long u :: S) sh mi mj mr = if v ≤ u then zRun 147 35 L S sh mi mj mr else zRun 147 31 L S sh mi mj mr := zr_cmp (off := 7) (zD_of zk_147 d_147_27 rfl rfl) (zD_of zk_147 d_147_28 rfl rfl) rfl rfl (by decide) (lg_cmp_ge u v)
theorem q_147_28  : zRun 147 28 L (.int x :: S) sh mi mj mr = if 0 ≤ x then zRun 147 35 L S sh mi mj mr else zRun 147 31 L S sh mi mj mr := zr_if (off := 7) (P := 0 ≤ x) (zD_of zk_147 d_147_28 rfl rfl) rfl rfl (by decide)
theorem q_147_31  : zRun 147 31 L S sh mi mj mr = zRun 147 32 L (.int 1 :: S) sh mi mj mr := zr_p (zD_of zk_147 d_147_31 rfl rfl) rfl
theorem q_147_32  : zRun 147 32 L S sh mi mj mr = zRun 147 36 L S sh mi mj mr := zr_go (off := 4) (zD_of zk_147 d_147_32 rfl rfl) rfl rfl (by decide)
theorem q_147_35  : zRun 147 35 L S sh mi mj mr = zRun 147 36 L (.int 0 :: S) sh mi mj mr := zr_p (zD_of zk_147 d_147_35 rfl rfl) rfl
theorem q_147_36  : zRun 147 36 L (.int y :: .int x :: S) sh mi mj mr = if x = y then zRun 147 46 L S sh mi mj mr else zRun 147 39 L S sh mi mj mr := zr_if (off := 10) (P := x = y) (zD_of zk_147 d_147_36 rfl rfl) rfl rfl (by decide)
theorem q_147_39 : zRun 147 39 [l0, l1, l2, l3, some (.long u), l5] S sh mi mj mr = zRun 147 41 [l0, l1, l2, l3, some (.long u), l5] (.long u :: S) sh mi mj mr := zr_l (zD_of zk_147 d_147_39 rfl rfl) rfl rfl rfl
theorem q_147_41  : zRun 147 41 L S sh mi mj mr = zRun 147 42 L (.long 1 :: S) sh mi mj mr := zr_p (zD_of zk_147 d_147_41 rfl rfl) rfl
theorem q_147_42  : zRun 147 42 L (.long v :: .long u :: S) sh mi mj mr = zRun 147 43 L (.long (u - v) :: S) sh mi mj mr := zr_p (zD_of zk_147 d_147_42 rfl rfl) rfl
theorem q_147_43  : zRun 147 43 L S sh mi mj mr = zRun 147 48 L S sh mi mj mr := zr_go (off := 5) (zD_of zk_147 d_147_43 rfl rfl) rfl rfl (by decide)
theorem q_147_46 : zRun 147 46 [l0, l1, l2, l3, some (.long u), l5] S sh mi mj mr = zRun 147 48 [l0, l1, l2, l3, some (.long u), l5] (.long u :: S) sh mi mj mr := zr_l (zD_of zk_147 d_147_46 rfl rfl) rfl rfl rfl
theorem q_147_48  : zRun 147 48 L ([.long u]) sh mi mj mr = some (some (.long u), sh, mi, mj, mr) := zr_ret (zD_of zk_147 d_147_48 rfl rfl) rfl rfl rfl rfl rfl rfl
theorem e_147 {u0 u1 : Int64} : zCall 147 [.long u0, .long u1] sh mi mj mr = zRun 147 0 [some (.long u0), none, some (.long u1), none, none, none] [] sh mi mj mr := rfl
theorem d_148_0 : decode cX8_up 0 = .ok (.lload_n 0, 1) := by decide +kernel
theorem d_148_1 : decode cX8_up 1 = .ok (.lload_n 2, 1) := by decide +kernel
theorem d_148_2 : decode cX8_up 2 = .ok (.ldiv, 1) := by decide +kernel
theorem d_148_3 : decode cX8_up 3 = .ok (.lstore 4, 2) := by decide +kernel
theorem d_148_5 : decode cX8_up 5 = .ok (.lload 4, 2) := by decide +kernel
theorem d_148_7 : decode cX8_up 7 = .ok (.lload_n 2, 1) := by decide +kernel
theorem d_148_8 : decode cX8_up 8 = .ok (.lmul, 1) := by decide +kernel
theorem d_148_9 : decode cX8_up 9 = .ok (.lload_n 0, 1) := by decide +kernel
theorem d_148_10 : decode cX8_up 10 = .ok (.lcmp, 1) := by decide +kernel
theorem d_148_11 : decode cX8_up 11 = .ok (.ifCond .eq 35, 3) := by decide +kernel
theorem d_148_14 : decode cX8_up 14 = .ok (.lload_n 0, 1) := by decide +kernel
theorem d_148_15 : decode cX8_up 15 = .ok (.lconst 0, 1) := by decide +kernel
theorem d_148_16 : decode cX8_up 16 = .ok (.lcmp, 1) := by decide +kernel
theorem d_148_17 : decode cX8_up 17 = .ok (.ifCond .ge 7, 3) := by decide +kernel
theorem d_148_20 : decode cX8_up 20 = .ok (.iconst 1, 1) := by decide +kernel
theorem d_148_21 : decode cX8_up 21 = .ok (.goto 4, 3) := by decide +kernel
theorem d_148_24 : decode cX8_up 24 = .ok (.iconst 0, 1) := by decide +kernel
theorem d_148_25 : decode cX8_up 25 = .ok (.lload_n 2, 1) := by decide +kernel
theorem d_148_26 : decode cX8_up 26 = .ok (.lconst 0, 1) := by decide +kernel
theorem d_148_27 : decode cX8_up 27 = .ok (.lcmp, 1) := by decide +kernel
theorem d_148_28 : decode cX8_up 28 = .ok (.ifCond .ge 7, 3) := by decide +kernel
theorem d_148_31 : decode cX8_up 31 = .ok (.iconst 1, 1) := by decide +kernel
theorem d_148_32 : decode cX8_up 32 = .ok (.goto 4, 3) := by decide +kernel
theorem d_148_35 : decode cX8_up 35 = .ok (.iconst 0, 1) := by decide +kernel
theorem d_148_36 : decode cX8_up 36 = .ok (.if_icmp .ne 10, 3) := by decide +kernel
theorem d_148_39 : decode cX8_up 39 = .ok (.lload 4, 2) := by decide +kernel
theorem d_148_41 : decode cX8_up 41 = .ok (.lconst 1, 1) := by decide +kernel
theorem d_148_42 : decode cX8_up 42 = .ok (.ladd, 1) := by decide +kernel
theorem d_148_43 : decode cX8_up 43 = .ok (.goto 5, 3) := by decide +kernel
theorem d_148_46 : decode cX8_up 46 = .ok (.lload 4, 2) := by decide +kernel
theorem d_148_48 : decode cX8_up 48 = .ok (.lreturn, 1) := by decide +kernel
theorem q_148_0 : zRun 148 0 [some (.long u), l1, l2, l3, l4, l5] S sh mi mj mr = zRun 148 1 [some (.long u), l1, l2, l3, l4, l5] (.long u :: S) sh mi mj mr := zr_l (zD_of zk_148 d_148_0 rfl rfl) rfl rfl rfl
theorem q_148_1 : zRun 148 1 [l0, l1, some (.long u), l3, l4, l5] S sh mi mj mr = zRun 148 2 [l0, l1, some (.long u), l3, l4, l5] (.long u :: S) sh mi mj mr := zr_l (zD_of zk_148 d_148_1 rfl rfl) rfl rfl rfl
theorem q_148_2 (h : ¬ v = 0) : zRun 148 2 L (.long v :: .long u :: S) sh mi mj mr = zRun 148 3 L (.long (u / v) :: S) sh mi mj mr := zr_p (zD_of zk_148 d_148_2 rfl rfl) (if_neg h)
theorem q_148_3 : zRun 148 3 [l0, l1, l2, l3, l4, l5] (.long u :: S) sh mi mj mr = zRun 148 5 [l0, l1, l2, zk2 l3, some (.long u), none] S sh mi mj mr := zr_s2 (i := 4) (v := .long u) (L := [l0, l1, l2, l3, l4, l5]) (zD_of zk_148 d_148_3 rfl rfl) rfl rfl rfl rfl
theorem q_148_5 : zRun 148 5 [l0, l1, l2, l3, some (.long u), l5] S sh mi mj mr = zRun 148 7 [l0, l1, l2, l3, some (.long u), l5] (.long u :: S) sh mi mj mr := zr_l (zD_of zk_148 d_148_5 rfl rfl) rfl rfl rfl
theorem q_148_7 : zRun 148 7 [l0, l1, some (.long u), l3, l4, l5] S sh mi mj mr = zRun 148 8 [l0, l1, some (.long u), l3, l4, l5] (.long u :: S) sh mi mj mr := zr_l (zD_of zk_148 d_148_7 rfl rfl) rfl rfl rfl
theorem q_148_8  : zRun 148 8 L (.long v :: .long u :: S) sh mi mj mr = zRun 148 9 L (.long (u * v) :: S) sh mi mj mr := zr_p (zD_of zk_148 d_148_8 rfl rfl) rfl
theorem q_148_9 : zRun 148 9 [some (.long u), l1, l2, l3, l4, l5] S sh mi mj mr = zRun 148 10 [some (.long u), l1, l2, l3, l4, l5] (.long u :: S) sh mi mj mr := zr_l (zD_of zk_148 d_148_9 rfl rfl) rfl rfl rfl
theorem q_148_10  : zRun 148 10 L (.long v :: .long u :: S) sh mi mj mr = if u = v then zRun 148 46 L S sh mi mj mr else zRun 148 14 L S sh mi mj mr := zr_cmp (off := 35) (zD_of zk_148 d_148_10 rfl rfl) (zD_of zk_148 d_148_11 rfl rfl) rfl rfl (by decide) (lg_cmp_eq u v)
theorem q_148_11  : zRun 148 11 L (.int x :: S) sh mi mj mr = if x = 0 then zRun 148 46 L S sh mi mj mr else zRun 148 14 L S sh mi mj mr := zr_if (off := 35) (P := x = 0) (zD_of zk_148 d_148_11 rfl rfl) rfl rfl (by decide)
theorem q_148_14 : zRun 148 14 [some (.long u), l1, l2, l3, l4, l5] S sh mi mj mr = zRun 148 15 [some (.long u), l1, l2, l3, l4, l5] (.long u :: S) sh mi mj mr := zr_l (zD_of zk_148 d_148_14 rfl rfl) rfl rfl rfl
theorem q_148_15  : zRun 148 15 L S sh mi mj mr = zRun 148 16 L (.long 0 :: S) sh mi mj mr := zr_p (zD_of zk_148 d_148_15 rfl rfl) rfl
theorem q_148_16  : zRun 148 16 L (.long v :: .long u :: S) sh mi mj mr = if v ≤ u then zRun 148 24 L S sh mi mj mr else zRun 148 20 L S sh mi mj mr := zr_cmp (off := 7) (zD_of zk_148 d_148_16 rfl rfl) (zD_of zk_148 d_148_17 rfl rfl) rfl rfl (by decide) (lg_cmp_ge u v)
theorem q_148_17  : zRun 148 17 L (.int x :: S) sh mi mj mr = if 0 ≤ x then zRun 148 24 L S sh mi mj mr else zRun 148 20 L S sh mi mj mr := zr_if (off := 7) (P := 0 ≤ x) (zD_of zk_148 d_148_17 rfl rfl) rfl rfl (by decide)
theorem q_148_20  : zRun 148 20 L S sh mi mj mr = zRun 148 21 L (.int 1 :: S) sh mi mj mr := zr_p (zD_of zk_148 d_148_20 rfl rfl) rfl
theorem q_148_21  : zRun 148 21 L S sh mi mj mr = zRun 148 25 L S sh mi mj mr := zr_go (off := 4) (zD_of zk_148 d_148_21 rfl rfl) rfl rfl (by decide)
theorem q_148_24  : zRun 148 24 L S sh mi mj mr = zRun 148 25 L (.int 0 :: S) sh mi mj mr := zr_p (zD_of zk_148 d_148_24 rfl rfl) rfl
theorem q_148_25 : zRun 148 25 [l0, l1, some (.long u), l3, l4, l5] S sh mi mj mr = zRun 148 26 [l0, l1, some (.long u), l3, l4, l5] (.long u :: S) sh mi mj mr := zr_l (zD_of zk_148 d_148_25 rfl rfl) rfl rfl rfl
theorem q_148_26  : zRun 148 26 L S sh mi mj mr = zRun 148 27 L (.long 0 :: S) sh mi mj mr := zr_p (zD_of zk_148 d_148_26 rfl rfl) rfl
theorem q_148_27  : zRun 148 27 L (.long v :: .long u :: S) sh mi mj mr = if v ≤ u then zRun 148 35 L S sh mi mj mr else zRun 148 31 L S sh mi mj mr := zr_cmp (off := 7) (zD_of zk_148 d_148_27 rfl rfl) (zD_of zk_148 d_148_28 rfl rfl) rfl rfl (by decide) (lg_cmp_ge u v)
theorem q_148_28  : zRun 148 28 L (.int x :: S) sh mi mj mr = if 0 ≤ x then zRun 148 35 L S sh mi mj mr else zRun 148 31 L S sh mi mj mr := zr_if (off := 7) (P := 0 ≤ x) (zD_of zk_148 d_148_28 rfl rfl) rfl rfl (by decide)
theorem q_148_31  : zRun 148 31 L S sh mi mj mr = zRun 148 32 L (.int 1 :: S) sh mi mj mr := zr_p (zD_of zk_148 d_148_31 rfl rfl) rfl
theorem q_148_32  : zRun 148 32 L S sh mi mj mr = zRun 148 36 L S sh mi mj mr := zr_go (off := 4) (zD_of zk_148 d_148_32 rfl rfl) rfl rfl (by decide)
theorem q_148_35  : zRun 148 35 L S sh mi mj mr = zRun 148 36 L (.int 0 :: S) sh mi mj mr := zr_p (zD_of zk_148 d_148_35 rfl rfl) rfl
theorem q_148_36  : zRun 148 36 L (.int y :: .int x :: S) sh mi mj mr = if ¬ x = y then zRun 148 46 L S sh mi mj mr else zRun 148 39 L S sh mi mj mr := zr_if (off := 10) (P := ¬ x = y) (zD_of zk_148 d_148_36 rfl rfl) rfl rfl (by decide)
theorem q_148_39 : zRun 148 39 [l0, l1, l2, l3, some (.long u), l5] S sh mi mj mr = zRun 148 41 [l0, l1, l2, l3, some (.long u), l5] (.long u :: S) sh mi mj mr := zr_l (zD_of zk_148 d_148_39 rfl rfl) rfl rfl rfl
theorem q_148_41  : zRun 148 41 L S sh mi mj mr = zRun 148 42 L (.long 1 :: S) sh mi mj mr := zr_p (zD_of zk_148 d_148_41 rfl rfl) rfl
theorem q_148_42  : zRun 148 42 L (.long v :: .long u :: S) sh mi mj mr = zRun 148 43 L (.long (u + v) :: S) sh mi mj mr := zr_p (zD_of zk_148 d_148_42 rfl rfl) rfl
theorem q_148_43  : zRun 148 43 L S sh mi mj mr = zRun 148 48 L S sh mi mj mr := zr_go (off := 5) (zD_of zk_148 d_148_43 rfl rfl) rfl rfl (by decide)
theorem q_148_46 : zRun 148 46 [l0, l1, l2, l3, some (.long u), l5] S sh mi mj mr = zRun 148 48 [l0, l1, l2, l3, some (.long u), l5] (.long u :: S) sh mi mj mr := zr_l (zD_of zk_148 d_148_46 rfl rfl) rfl rfl rfl
theorem q_148_48  : zRun 148 48 L ([.long u]) sh mi mj mr = some (some (.long u), sh, mi, mj, mr) := zr_ret (zD_of zk_148 d_148_48 rfl rfl) rfl rfl rfl rfl rfl rfl
theorem e_148 {u0 u1 : Int64} : zCall 148 [.long u0, .long u1] sh mi mj mr = zRun 148 0 [some (.long u0), none, some (.long u1), none, none, none] [] sh mi mj mr := rfl
theorem d_149_0 : decode cX8_sum 0 = .ok (.bipush 17, 2) := by decide +kernel
theorem d_149_2 : decode cX8_sum 2 = .ok (.iload_n 1, 1) := by decide +kernel
theorem d_149_3 : decode cX8_sum 3 = .ok (.imul, 1) := by decide +kernel
theorem d_149_4 : decode cX8_sum 4 = .ok (.istore 4, 2) := by decide +kernel
theorem d_149_6 : decode cX8_sum 6 = .ok (.iload_n 3, 1) := by decide +kernel
theorem d_149_7 : decode cX8_sum 7 = .ok (.ifCond .eq 8, 3) := by decide +kernel
theorem d_149_10 : decode cX8_sum 10 = .ok (.aload_n 0, 1) := by decide +kernel
theorem d_149_11 : decode cX8_sum 11 = .ok (.iload_n 2, 1) := by decide +kernel
theorem d_149_12 : decode cX8_sum 12 = .ok (.invokevirtual 163, 3) := by decide +kernel
theorem d_149_15 : decode cX8_sum 15 = .ok (.bipush 17, 2) := by decide +kernel
theorem d_149_17 : decode cX8_sum 17 = .ok (.iload_n 2, 1) := by decide +kernel
theorem d_149_18 : decode cX8_sum 18 = .ok (.imul, 1) := by decide +kernel
theorem d_149_19 : decode cX8_sum 19 = .ok (.istore 5, 2) := by decide +kernel
theorem d_149_21 : decode cX8_sum 21 = .ok (.iconst 0, 1) := by decide +kernel
theorem d_149_22 : decode cX8_sum 22 = .ok (.istore 6, 2) := by decide +kernel
theorem d_149_24 : decode cX8_sum 24 = .ok (.iload 6, 2) := by decide +kernel
theorem d_149_26 : decode cX8_sum 26 = .ok (.bipush 15, 2) := by decide +kernel
theorem d_149_28 : decode cX8_sum 28 = .ok (.if_icmp .gt 32, 3) := by decide +kernel
theorem d_149_31 : decode cX8_sum 31 = .ok (.aload_n 0, 1) := by decide +kernel
theorem d_149_32 : decode cX8_sum 32 = .ok (.getfield 29, 3) := by decide +kernel
theorem d_149_35 : decode cX8_sum 35 = .ok (.iload 4, 2) := by decide +kernel
theorem d_149_37 : decode cX8_sum 37 = .ok (.iload 6, 2) := by decide +kernel
theorem d_149_39 : decode cX8_sum 39 = .ok (.iadd, 1) := by decide +kernel
theorem d_149_40 : decode cX8_sum 40 = .ok (.dup2, 1) := by decide +kernel
theorem d_149_41 : decode cX8_sum 41 = .ok (.laload, 1) := by decide +kernel
theorem d_149_42 : decode cX8_sum 42 = .ok (.aload_n 0, 1) := by decide +kernel
theorem d_149_43 : decode cX8_sum 43 = .ok (.getfield 29, 3) := by decide +kernel
theorem d_149_46 : decode cX8_sum 46 = .ok (.iload 5, 2) := by decide +kernel
theorem d_149_48 : decode cX8_sum 48 = .ok (.iload 6, 2) := by decide +kernel
theorem d_149_50 : decode cX8_sum 50 = .ok (.iadd, 1) := by decide +kernel
theorem d_149_51 : decode cX8_sum 51 = .ok (.laload, 1) := by decide +kernel
theorem d_149_52 : decode cX8_sum 52 = .ok (.ladd, 1) := by decide +kernel
theorem d_149_53 : decode cX8_sum 53 = .ok (.lastore, 1) := by decide +kernel
theorem d_149_54 : decode cX8_sum 54 = .ok (.iinc 6 1, 3) := by decide +kernel
theorem d_149_57 : decode cX8_sum 57 = .ok (.goto (-33), 3) := by decide +kernel
theorem d_149_60 : decode cX8_sum 60 = .ok (.return_, 1) := by decide +kernel
theorem q_149_0  : zRun 149 0 L S sh mi mj mr = zRun 149 2 L (.int 17 :: S) sh mi mj mr := zr_p (zD_of zk_149 d_149_0 rfl rfl) rfl
theorem q_149_2 : zRun 149 2 [l0, some (.int x), l2, l3, l4, l5, l6] S sh mi mj mr = zRun 149 3 [l0, some (.int x), l2, l3, l4, l5, l6] (.int x :: S) sh mi mj mr := zr_l (zD_of zk_149 d_149_2 rfl rfl) rfl rfl rfl
theorem q_149_3  : zRun 149 3 L (.int y :: .int x :: S) sh mi mj mr = zRun 149 4 L (.int (x * y) :: S) sh mi mj mr := zr_p (zD_of zk_149 d_149_3 rfl rfl) rfl
theorem q_149_4 : zRun 149 4 [l0, l1, l2, l3, l4, l5, l6] (.int x :: S) sh mi mj mr = zRun 149 6 [l0, l1, l2, zk2 l3, some (.int x), l5, l6] S sh mi mj mr := zr_s1 (i := 4) (v := .int x) (L := [l0, l1, l2, l3, l4, l5, l6]) (zD_of zk_149 d_149_4 rfl rfl) rfl rfl rfl rfl
theorem q_149_6 : zRun 149 6 [l0, l1, l2, some (.int x), l4, l5, l6] S sh mi mj mr = zRun 149 7 [l0, l1, l2, some (.int x), l4, l5, l6] (.int x :: S) sh mi mj mr := zr_l (zD_of zk_149 d_149_6 rfl rfl) rfl rfl rfl
theorem q_149_7  : zRun 149 7 L (.int x :: S) sh mi mj mr = if x = 0 then zRun 149 15 L S sh mi mj mr else zRun 149 10 L S sh mi mj mr := zr_if (off := 8) (P := x = 0) (zD_of zk_149 d_149_7 rfl rfl) rfl rfl (by decide)
theorem q_149_10r : zRun 149 10 [some (.ref o), l1, l2, l3, l4, l5, l6] S sh mi mj mr = zRun 149 11 [some (.ref o), l1, l2, l3, l4, l5, l6] (.ref o :: S) sh mi mj mr := zr_l (zD_of zk_149 d_149_10 rfl rfl) rfl rfl rfl
theorem q_149_10n : zRun 149 10 [some (.null), l1, l2, l3, l4, l5, l6] S sh mi mj mr = zRun 149 11 [some (.null), l1, l2, l3, l4, l5, l6] (.null :: S) sh mi mj mr := zr_l (zD_of zk_149 d_149_10 rfl rfl) rfl rfl rfl
theorem q_149_11 : zRun 149 11 [l0, l1, some (.int x), l3, l4, l5, l6] S sh mi mj mr = zRun 149 12 [l0, l1, some (.int x), l3, l4, l5, l6] (.int x :: S) sh mi mj mr := zr_l (zD_of zk_149 d_149_11 rfl rfl) rfl rfl rfl
theorem q_149_12  {x0 : Int32} (hS : zcat S ≤ 8) (h : zIs sh o 0 8) : zRun 149 12 L (.int x0 :: .ref o :: S) sh mi mj mr = (zCall 146 [.ref o, .int x0] sh mi mj mr).bind fun r => zRun 149 15 L (r.1.toList ++ S) r.2.1 r.2.2.1 r.2.2.2.1 r.2.2.2.2 := zr_V (zD_of zk_149 d_149_12 rfl rfl) rfl zk_146 rfl rfl rfl hS h
theorem q_149_15  : zRun 149 15 L S sh mi mj mr = zRun 149 17 L (.int 17 :: S) sh mi mj mr := zr_p (zD_of zk_149 d_149_15 rfl rfl) rfl
theorem q_149_17 : zRun 149 17 [l0, l1, some (.int x), l3, l4, l5, l6] S sh mi mj mr = zRun 149 18 [l0, l1, some (.int x), l3, l4, l5, l6] (.int x :: S) sh mi mj mr := zr_l (zD_of zk_149 d_149_17 rfl rfl) rfl rfl rfl
theorem q_149_18  : zRun 149 18 L (.int y :: .int x :: S) sh mi mj mr = zRun 149 19 L (.int (x * y) :: S) sh mi mj mr := zr_p (zD_of zk_149 d_149_18 rfl rfl) rfl
theorem q_149_19 : zRun 149 19 [l0, l1, l2, l3, l4, l5, l6] (.int x :: S) sh mi mj mr = zRun 149 21 [l0, l1, l2, l3, zk2 l4, some (.int x), l6] S sh mi mj mr := zr_s1 (i := 5) (v := .int x) (L := [l0, l1, l2, l3, l4, l5, l6]) (zD_of zk_149 d_149_19 rfl rfl) rfl rfl rfl rfl
theorem q_149_21  : zRun 149 21 L S sh mi mj mr = zRun 149 22 L (.int 0 :: S) sh mi mj mr := zr_p (zD_of zk_149 d_149_21 rfl rfl) rfl
theorem q_149_22 : zRun 149 22 [l0, l1, l2, l3, l4, l5, l6] (.int x :: S) sh mi mj mr = zRun 149 24 [l0, l1, l2, l3, l4, zk2 l5, some (.int x)] S sh mi mj mr := zr_s1 (i := 6) (v := .int x) (L := [l0, l1, l2, l3, l4, l5, l6]) (zD_of zk_149 d_149_22 rfl rfl) rfl rfl rfl rfl
theorem q_149_24 : zRun 149 24 [l0, l1, l2, l3, l4, l5, some (.int x)] S sh mi mj mr = zRun 149 26 [l0, l1, l2, l3, l4, l5, some (.int x)] (.int x :: S) sh mi mj mr := zr_l (zD_of zk_149 d_149_24 rfl rfl) rfl rfl rfl
theorem q_149_26  : zRun 149 26 L S sh mi mj mr = zRun 149 28 L (.int 15 :: S) sh mi mj mr := zr_p (zD_of zk_149 d_149_26 rfl rfl) rfl
theorem q_149_28  : zRun 149 28 L (.int y :: .int x :: S) sh mi mj mr = if y < x then zRun 149 60 L S sh mi mj mr else zRun 149 31 L S sh mi mj mr := zr_if (off := 32) (P := y < x) (zD_of zk_149 d_149_28 rfl rfl) rfl rfl (by decide)
theorem q_149_31r : zRun 149 31 [some (.ref o), l1, l2, l3, l4, l5, l6] S sh mi mj mr = zRun 149 32 [some (.ref o), l1, l2, l3, l4, l5, l6] (.ref o :: S) sh mi mj mr := zr_l (zD_of zk_149 d_149_31 rfl rfl) rfl rfl rfl
theorem q_149_31n : zRun 149 31 [some (.null), l1, l2, l3, l4, l5, l6] S sh mi mj mr = zRun 149 32 [some (.null), l1, l2, l3, l4, l5, l6] (.null :: S) sh mi mj mr := zr_l (zD_of zk_149 d_149_31 rfl rfl) rfl rfl rfl
theorem q_149_32 (h : zIs sh o 0 8) : zRun 149 32 L (.ref o :: S) sh mi mj mr = zRun 149 35 L (va_rf (mr o 10) :: S) sh mi mj mr := zr_getR (zD_of zk_149 d_149_32 rfl rfl) rfl rfl rfl h
theorem q_149_35 : zRun 149 35 [l0, l1, l2, l3, some (.int x), l5, l6] S sh mi mj mr = zRun 149 37 [l0, l1, l2, l3, some (.int x), l5, l6] (.int x :: S) sh mi mj mr := zr_l (zD_of zk_149 d_149_35 rfl rfl) rfl rfl rfl
theorem q_149_37 : zRun 149 37 [l0, l1, l2, l3, l4, l5, some (.int x)] S sh mi mj mr = zRun 149 39 [l0, l1, l2, l3, l4, l5, some (.int x)] (.int x :: S) sh mi mj mr := zr_l (zD_of zk_149 d_149_37 rfl rfl) rfl rfl rfl
theorem q_149_39  : zRun 149 39 L (.int y :: .int x :: S) sh mi mj mr = zRun 149 40 L (.int (x + y) :: S) sh mi mj mr := zr_p (zD_of zk_149 d_149_39 rfl rfl) rfl
theorem q_149_40  : zRun 149 40 L (.int x :: .ref o :: S) sh mi mj mr = zRun 149 41 L (.int x :: .ref o :: .int x :: .ref o :: S) sh mi mj mr := zr_p (zD_of zk_149 d_149_40 rfl rfl) rfl
theorem q_149_41 (h : zAt sh o 2 x) : zRun 149 41 L (.int x :: .ref o :: S) sh mi mj mr = zRun 149 42 L (.long (mj o x.toNatClampNeg) :: S) sh mi mj mr := zr_lald (zD_of zk_149 d_149_41 rfl rfl) h
theorem q_149_42r : zRun 149 42 [some (.ref o), l1, l2, l3, l4, l5, l6] S sh mi mj mr = zRun 149 43 [some (.ref o), l1, l2, l3, l4, l5, l6] (.ref o :: S) sh mi mj mr := zr_l (zD_of zk_149 d_149_42 rfl rfl) rfl rfl rfl
theorem q_149_42n : zRun 149 42 [some (.null), l1, l2, l3, l4, l5, l6] S sh mi mj mr = zRun 149 43 [some (.null), l1, l2, l3, l4, l5, l6] (.null :: S) sh mi mj mr := zr_l (zD_of zk_149 d_149_42 rfl rfl) rfl rfl rfl
theorem q_149_43 (h : zIs sh o 0 8) : zRun 149 43 L (.ref o :: S) sh mi mj mr = zRun 149 46 L (va_rf (mr o 10) :: S) sh mi mj mr := zr_getR (zD_of zk_149 d_149_43 rfl rfl) rfl rfl rfl h
theorem q_149_46 : zRun 149 46 [l0, l1, l2, l3, l4, some (.int x), l6] S sh mi mj mr = zRun 149 48 [l0, l1, l2, l3, l4, some (.int x), l6] (.int x :: S) sh mi mj mr := zr_l (zD_of zk_149 d_149_46 rfl rfl) rfl rfl rfl
theorem q_149_48 : zRun 149 48 [l0, l1, l2, l3, l4, l5, some (.int x)] S sh mi mj mr = zRun 149 50 [l0, l1, l2, l3, l4, l5, some (.int x)] (.int x :: S) sh mi mj mr := zr_l (zD_of zk_149 d_149_48 rfl rfl) rfl rfl rfl
theorem q_149_50  : zRun 149 50 L (.int y :: .int x :: S) sh mi mj mr = zRun 149 51 L (.int (x + y) :: S) sh mi mj mr := zr_p (zD_of zk_149 d_149_50 rfl rfl) rfl
theorem q_149_51 (h : zAt sh o 2 x) : zRun 149 51 L (.int x :: .ref o :: S) sh mi mj mr = zRun 149 52 L (.long (mj o x.toNatClampNeg) :: S) sh mi mj mr := zr_lald (zD_of zk_149 d_149_51 rfl rfl) h
theorem q_149_52  : zRun 149 52 L (.long v :: .long u :: S) sh mi mj mr = zRun 149 53 L (.long (u + v) :: S) sh mi mj mr := zr_p (zD_of zk_149 d_149_52 rfl rfl) rfl
theorem q_149_53 (h : zAt sh o 2 x) : zRun 149 53 L (.long u :: .int x :: .ref o :: S) sh mi mj mr = zRun 149 54 L S sh mi (zup mj o x.toNatClampNeg u) mr := zr_last (zD_of zk_149 d_149_53 rfl rfl) h
theorem q_149_54  : zRun 149 54 [l0, l1, l2, l3, l4, l5, some (.int x)] S sh mi mj mr = zRun 149 57 [l0, l1, l2, l3, l4, zk2 l5, some (.int (x + 1))] S sh mi mj mr := zr_s1 (i := 6) (v := .int (x + 1)) (L := [l0, l1, l2, l3, l4, l5, some (.int x)]) (zD_of zk_149 d_149_54 rfl rfl) rfl rfl rfl rfl
theorem q_149_57  : zRun 149 57 L S sh mi mj mr = zRun 149 24 L S sh mi mj mr := zr_go (off := (-33)) (zD_of zk_149 d_149_57 rfl rfl) rfl rfl (by decide)
theorem q_149_60  : zRun 149 60 L [] sh mi mj mr = some (none, sh, mi, mj, mr) := zr_ret (zD_of zk_149 d_149_60 rfl rfl) rfl rfl rfl rfl rfl rfl
theorem e_149 {x0 x1 x2 : Int32} : zCall 149 [.ref o, .int x0, .int x1, .int x2] sh mi mj mr = zRun 149 0 [some (.ref o), some (.int x0), some (.int x1), some (.int x2), none, none, none] [] sh mi mj mr := rfl
theorem d_150_0 : decode cX8_least 0 = .ok (.lload_n 0, 1) := by decide +kernel
theorem d_150_1 : decode cX8_least 1 = .ok (.lload_n 2, 1) := by decide +kernel
theorem d_150_2 : decode cX8_least 2 = .ok (.lcmp, 1) := by decide +kernel
theorem d_150_3 : decode cX8_least 3 = .ok (.ifCond .ge 7, 3) := by decide +kernel
theorem d_150_6 : decode cX8_least 6 = .ok (.lload_n 0, 1) := by decide +kernel
theorem d_150_7 : decode cX8_least 7 = .ok (.goto 4, 3) := by decide +kernel
theorem d_150_10 : decode cX8_least 10 = .ok (.lload_n 2, 1) := by decide +kernel
theorem d_150_11 : decode cX8_least 11 = .ok (.lreturn, 1) := by decide +kernel
theorem q_150_0 : zRun 150 0 [some (.long u), l1, l2, l3] S sh mi mj mr = zRun 150 1 [some (.long u), l1, l2, l3] (.long u :: S) sh mi mj mr := zr_l (zD_of zk_150 d_150_0 rfl rfl) rfl rfl rfl
theorem q_150_1 : zRun 150 1 [l0, l1, some (.long u), l3] S sh mi mj mr = zRun 150 2 [l0, l1, some (.long u), l3] (.long u :: S) sh mi mj mr := zr_l (zD_of zk_150 d_150_1 rfl rfl) rfl rfl rfl
theorem q_150_2  : zRun 150 2 L (.long v :: .long u :: S) sh mi mj mr = if v ≤ u then zRun 150 10 L S sh mi mj mr else zRun 150 6 L S sh mi mj mr := zr_cmp (off := 7) (zD_of zk_150 d_150_2 rfl rfl) (zD_of zk_150 d_150_3 rfl rfl) rfl rfl (by decide) (lg_cmp_ge u v)
theorem q_150_3  : zRun 150 3 L (.int x :: S) sh mi mj mr = if 0 ≤ x then zRun 150 10 L S sh mi mj mr else zRun 150 6 L S sh mi mj mr := zr_if (off := 7) (P := 0 ≤ x) (zD_of zk_150 d_150_3 rfl rfl) rfl rfl (by decide)
theorem q_150_6 : zRun 150 6 [some (.long u), l1, l2, l3] S sh mi mj mr = zRun 150 7 [some (.long u), l1, l2, l3] (.long u :: S) sh mi mj mr := zr_l (zD_of zk_150 d_150_6 rfl rfl) rfl rfl rfl
theorem q_150_7  : zRun 150 7 L S sh mi mj mr = zRun 150 11 L S sh mi mj mr := zr_go (off := 4) (zD_of zk_150 d_150_7 rfl rfl) rfl rfl (by decide)
theorem q_150_10 : zRun 150 10 [l0, l1, some (.long u), l3] S sh mi mj mr = zRun 150 11 [l0, l1, some (.long u), l3] (.long u :: S) sh mi mj mr := zr_l (zD_of zk_150 d_150_10 rfl rfl) rfl rfl rfl
theorem q_150_11  : zRun 150 11 L ([.long u]) sh mi mj mr = some (some (.long u), sh, mi, mj, mr) := zr_ret (zD_of zk_150 d_150_11 rfl rfl) rfl rfl rfl rfl rfl rfl
theorem e_150 {u0 u1 : Int64} : zCall 150 [.long u0, .long u1] sh mi mj mr = zRun 150 0 [some (.long u0), none, some (.long u1), none] [] sh mi mj mr := rfl
theorem d_151_0 : decode cX8_most 0 = .ok (.lload_n 0, 1) := by decide +kernel
theorem d_151_1 : decode cX8_most 1 = .ok (.lload_n 2, 1) := by decide +kernel
theorem d_151_2 : decode cX8_most 2 = .ok (.lcmp, 1) := by decide +kernel
theorem d_151_3 : decode cX8_most 3 = .ok (.ifCond .le 7, 3) := by decide +kernel
theorem d_151_6 : decode cX8_most 6 = .ok (.lload_n 0, 1) := by decide +kernel
theorem d_151_7 : decode cX8_most 7 = .ok (.goto 4, 3) := by decide +kernel
theorem d_151_10 : decode cX8_most 10 = .ok (.lload_n 2, 1) := by decide +kernel
theorem d_151_11 : decode cX8_most 11 = .ok (.lreturn, 1) := by decide +kernel
theorem q_151_0 : zRun 151 0 [some (.long u), l1, l2, l3] S sh mi mj mr = zRun 151 1 [some (.long u), l1, l2, l3] (.long u :: S) sh mi mj mr := zr_l (zD_of zk_151 d_151_0 rfl rfl) rfl rfl rfl
theorem q_151_1 : zRun 151 1 [l0, l1, some (.long u), l3] S sh mi mj mr = zRun 151 2 [l0, l1, some (.long u), l3] (.long u :: S) sh mi mj mr := zr_l (zD_of zk_151 d_151_1 rfl rfl) rfl rfl rfl
theorem q_151_2  : zRun 151 2 L (.long v :: .long u :: S) sh mi mj mr = if u ≤ v then zRun 151 10 L S sh mi mj mr else zRun 151 6 L S sh mi mj mr := zr_cmp (off := 7) (zD_of zk_151 d_151_2 rfl rfl) (zD_of zk_151 d_151_3 rfl rfl) rfl rfl (by decide) (lg_cmp_le u v)
theorem q_151_3  : zRun 151 3 L (.int x :: S) sh mi mj mr = if x ≤ 0 then zRun 151 10 L S sh mi mj mr else zRun 151 6 L S sh mi mj mr := zr_if (off := 7) (P := x ≤ 0) (zD_of zk_151 d_151_3 rfl rfl) rfl rfl (by decide)
theorem q_151_6 : zRun 151 6 [some (.long u), l1, l2, l3] S sh mi mj mr = zRun 151 7 [some (.long u), l1, l2, l3] (.long u :: S) sh mi mj mr := zr_l (zD_of zk_151 d_151_6 rfl rfl) rfl rfl rfl
theorem q_151_7  : zRun 151 7 L S sh mi mj mr = zRun 151 11 L S sh mi mj mr := zr_go (off := 4) (zD_of zk_151 d_151_7 rfl rfl) rfl rfl (by decide)
theorem q_151_10 : zRun 151 10 [l0, l1, some (.long u), l3] S sh mi mj mr = zRun 151 11 [l0, l1, some (.long u), l3] (.long u :: S) sh mi mj mr := zr_l (zD_of zk_151 d_151_10 rfl rfl) rfl rfl rfl
theorem q_151_11  : zRun 151 11 L ([.long u]) sh mi mj mr = some (some (.long u), sh, mi, mj, mr) := zr_ret (zD_of zk_151 d_151_11 rfl rfl) rfl rfl rfl rfl rfl rfl
theorem e_151 {u0 u1 : Int64} : zCall 151 [.long u0, .long u1] sh mi mj mr = zRun 151 0 [some (.long u0), none, some (.long u1), none] [] sh mi mj mr := rfl
theorem d_152_0 : decode cX8_multiply 0 = .ok (.bipush 17, 2) := by decide +kernel
theorem d_152_2 : decode cX8_multiply 2 = .ok (.iload_n 1, 1) := by decide +kernel
theorem d_152_3 : decode cX8_multiply 3 = .ok (.imul, 1) := by decide +kernel
theorem d_152_4 : decode cX8_multiply 4 = .ok (.istore_n 3, 1) := by decide +kernel
theorem d_152_5 : decode cX8_multiply 5 = .ok (.bipush 17, 2) := by decide +kernel
theorem d_152_7 : decode cX8_multiply 7 = .ok (.iload_n 2, 1) := by decide +kernel
theorem d_152_8 : decode cX8_multiply 8 = .ok (.imul, 1) := by decide +kernel
theorem d_152_9 : decode cX8_multiply 9 = .ok (.istore 4, 2) := by decide +kernel
theorem d_152_11 : decode cX8_multiply 11 = .ok (.aload_n 0, 1) := by decide +kernel
theorem d_152_12 : decode cX8_multiply 12 = .ok (.getfield 29, 3) := by decide +kernel
theorem d_152_15 : decode cX8_multiply 15 = .ok (.iload_n 3, 1) := by decide +kernel
theorem d_152_16 : decode cX8_multiply 16 = .ok (.laload, 1) := by decide +kernel
theorem d_152_17 : decode cX8_multiply 17 = .ok (.lstore 5, 2) := by decide +kernel
theorem d_152_19 : decode cX8_multiply 19 = .ok (.aload_n 0, 1) := by decide +kernel
theorem d_152_20 : decode cX8_multiply 20 = .ok (.getfield 29, 3) := by decide +kernel
theorem d_152_23 : decode cX8_multiply 23 = .ok (.iload 4, 2) := by decide +kernel
theorem d_152_25 : decode cX8_multiply 25 = .ok (.laload, 1) := by decide +kernel
theorem d_152_26 : decode cX8_multiply 26 = .ok (.lstore 7, 2) := by decide +kernel
theorem d_152_28 : decode cX8_multiply 28 = .ok (.lload 5, 2) := by decide +kernel
theorem d_152_30 : decode cX8_multiply 30 = .ok (.invokestatic 149, 3) := by decide +kernel
theorem d_152_33 : decode cX8_multiply 33 = .ok (.aload_n 0, 1) := by decide +kernel
theorem d_152_34 : decode cX8_multiply 34 = .ok (.getfield 29, 3) := by decide +kernel
theorem d_152_37 : decode cX8_multiply 37 = .ok (.iload 4, 2) := by decide +kernel
theorem d_152_39 : decode cX8_multiply 39 = .ok (.bipush 13, 2) := by decide +kernel
theorem d_152_41 : decode cX8_multiply 41 = .ok (.iadd, 1) := by decide +kernel
theorem d_152_42 : decode cX8_multiply 42 = .ok (.laload, 1) := by decide +kernel
theorem d_152_43 : decode cX8_multiply 43 = .ok (.lmul, 1) := by decide +kernel
theorem d_152_44 : decode cX8_multiply 44 = .ok (.lload 7, 2) := by decide +kernel
theorem d_152_46 : decode cX8_multiply 46 = .ok (.invokestatic 149, 3) := by decide +kernel
theorem d_152_49 : decode cX8_multiply 49 = .ok (.aload_n 0, 1) := by decide +kernel
theorem d_152_50 : decode cX8_multiply 50 = .ok (.getfield 29, 3) := by decide +kernel
theorem d_152_53 : decode cX8_multiply 53 = .ok (.iload_n 3, 1) := by decide +kernel
theorem d_152_54 : decode cX8_multiply 54 = .ok (.bipush 13, 2) := by decide +kernel
theorem d_152_56 : decode cX8_multiply 56 = .ok (.iadd, 1) := by decide +kernel
theorem d_152_57 : decode cX8_multiply 57 = .ok (.laload, 1) := by decide +kernel
theorem d_152_58 : decode cX8_multiply 58 = .ok (.lmul, 1) := by decide +kernel
theorem d_152_59 : decode cX8_multiply 59 = .ok (.ladd, 1) := by decide +kernel
theorem d_152_60 : decode cX8_multiply 60 = .ok (.aload_n 0, 1) := by decide +kernel
theorem d_152_61 : decode cX8_multiply 61 = .ok (.iload_n 1, 1) := by decide +kernel
theorem d_152_62 : decode cX8_multiply 62 = .ok (.invokevirtual 153, 3) := by decide +kernel
theorem d_152_65 : decode cX8_multiply 65 = .ok (.aload_n 0, 1) := by decide +kernel
theorem d_152_66 : decode cX8_multiply 66 = .ok (.iload_n 2, 1) := by decide +kernel
theorem d_152_67 : decode cX8_multiply 67 = .ok (.invokevirtual 153, 3) := by decide +kernel
theorem d_152_70 : decode cX8_multiply 70 = .ok (.lmul, 1) := by decide +kernel
theorem d_152_71 : decode cX8_multiply 71 = .ok (.ladd, 1) := by decide +kernel
theorem d_152_72 : decode cX8_multiply 72 = .ok (.ldc2_w 166, 3) := by decide +kernel
theorem d_152_75 : decode cX8_multiply 75 = .ok (.invokestatic 168, 3) := by decide +kernel
theorem d_152_78 : decode cX8_multiply 78 = .ok (.lstore 9, 2) := by decide +kernel
theorem d_152_80 : decode cX8_multiply 80 = .ok (.iconst 0, 1) := by decide +kernel
theorem d_152_81 : decode cX8_multiply 81 = .ok (.istore 11, 2) := by decide +kernel
theorem d_152_83 : decode cX8_multiply 83 = .ok (.iload 11, 2) := by decide +kernel
theorem d_152_85 : decode cX8_multiply 85 = .ok (.bipush 12, 2) := by decide +kernel
theorem d_152_87 : decode cX8_multiply 87 = .ok (.if_icmp .ge 81, 3) := by decide +kernel
theorem d_152_90 : decode cX8_multiply 90 = .ok (.lload 5, 2) := by decide +kernel
theorem d_152_92 : decode cX8_multiply 92 = .ok (.aload_n 0, 1) := by decide +kernel
theorem d_152_93 : decode cX8_multiply 93 = .ok (.getfield 29, 3) := by decide +kernel
theorem d_152_96 : decode cX8_multiply 96 = .ok (.iload 4, 2) := by decide +kernel
theorem d_152_98 : decode cX8_multiply 98 = .ok (.iconst 1, 1) := by decide +kernel
theorem d_152_99 : decode cX8_multiply 99 = .ok (.iadd, 1) := by decide +kernel
theorem d_152_100 : decode cX8_multiply 100 = .ok (.iload 11, 2) := by decide +kernel
theorem d_152_102 : decode cX8_multiply 102 = .ok (.iadd, 1) := by decide +kernel
theorem d_152_103 : decode cX8_multiply 103 = .ok (.laload, 1) := by decide +kernel
theorem d_152_104 : decode cX8_multiply 104 = .ok (.lmul, 1) := by decide +kernel
theorem d_152_105 : decode cX8_multiply 105 = .ok (.lload 7, 2) := by decide +kernel
theorem d_152_107 : decode cX8_multiply 107 = .ok (.aload_n 0, 1) := by decide +kernel
theorem d_152_108 : decode cX8_multiply 108 = .ok (.getfield 29, 3) := by decide +kernel
theorem d_152_111 : decode cX8_multiply 111 = .ok (.iload_n 3, 1) := by decide +kernel
theorem d_152_112 : decode cX8_multiply 112 = .ok (.iconst 1, 1) := by decide +kernel
theorem d_152_113 : decode cX8_multiply 113 = .ok (.iadd, 1) := by decide +kernel
theorem d_152_114 : decode cX8_multiply 114 = .ok (.iload 11, 2) := by decide +kernel
theorem d_152_116 : decode cX8_multiply 116 = .ok (.iadd, 1) := by decide +kernel
theorem d_152_117 : decode cX8_multiply 117 = .ok (.laload, 1) := by decide +kernel
theorem d_152_118 : decode cX8_multiply 118 = .ok (.lmul, 1) := by decide +kernel
theorem d_152_119 : decode cX8_multiply 119 = .ok (.ladd, 1) := by decide +kernel
theorem d_152_120 : decode cX8_multiply 120 = .ok (.lstore 12, 2) := by decide +kernel
theorem d_152_122 : decode cX8_multiply 122 = .ok (.lload 9, 2) := by decide +kernel
theorem d_152_124 : decode cX8_multiply 124 = .ok (.lload 12, 2) := by decide +kernel
theorem d_152_126 : decode cX8_multiply 126 = .ok (.ldc2_w 166, 3) := by decide +kernel
theorem d_152_129 : decode cX8_multiply 129 = .ok (.lrem, 1) := by decide +kernel
theorem d_152_130 : decode cX8_multiply 130 = .ok (.lconst 0, 1) := by decide +kernel
theorem d_152_131 : decode cX8_multiply 131 = .ok (.lcmp, 1) := by decide +kernel
theorem d_152_132 : decode cX8_multiply 132 = .ok (.ifCond .eq 7, 3) := by decide +kernel
theorem d_152_135 : decode cX8_multiply 135 = .ok (.lconst 1, 1) := by decide +kernel
theorem d_152_136 : decode cX8_multiply 136 = .ok (.goto 4, 3) := by decide +kernel
theorem d_152_139 : decode cX8_multiply 139 = .ok (.lconst 0, 1) := by decide +kernel
theorem d_152_140 : decode cX8_multiply 140 = .ok (.ladd, 1) := by decide +kernel
theorem d_152_141 : decode cX8_multiply 141 = .ok (.lstore 9, 2) := by decide +kernel
theorem d_152_143 : decode cX8_multiply 143 = .ok (.aload_n 0, 1) := by decide +kernel
theorem d_152_144 : decode cX8_multiply 144 = .ok (.getfield 29, 3) := by decide +kernel
theorem d_152_147 : decode cX8_multiply 147 = .ok (.iload_n 3, 1) := by decide +kernel
theorem d_152_148 : decode cX8_multiply 148 = .ok (.iconst 1, 1) := by decide +kernel
theorem d_152_149 : decode cX8_multiply 149 = .ok (.iadd, 1) := by decide +kernel
theorem d_152_150 : decode cX8_multiply 150 = .ok (.iload 11, 2) := by decide +kernel
theorem d_152_152 : decode cX8_multiply 152 = .ok (.iadd, 1) := by decide +kernel
theorem d_152_153 : decode cX8_multiply 153 = .ok (.lload 12, 2) := by decide +kernel
theorem d_152_155 : decode cX8_multiply 155 = .ok (.ldc2_w 166, 3) := by decide +kernel
theorem d_152_158 : decode cX8_multiply 158 = .ok (.invokestatic 172, 3) := by decide +kernel
theorem d_152_161 : decode cX8_multiply 161 = .ok (.lastore, 1) := by decide +kernel
theorem d_152_162 : decode cX8_multiply 162 = .ok (.iinc 11 1, 3) := by decide +kernel
theorem d_152_165 : decode cX8_multiply 165 = .ok (.goto (-82), 3) := by decide +kernel
theorem d_152_168 : decode cX8_multiply 168 = .ok (.lload 9, 2) := by decide +kernel
theorem d_152_170 : decode cX8_multiply 170 = .ok (.lload 5, 2) := by decide +kernel
theorem d_152_172 : decode cX8_multiply 172 = .ok (.lload 7, 2) := by decide +kernel
theorem d_152_174 : decode cX8_multiply 174 = .ok (.lmul, 1) := by decide +kernel
theorem d_152_175 : decode cX8_multiply 175 = .ok (.ldc2_w 166, 3) := by decide +kernel
theorem d_152_178 : decode cX8_multiply 178 = .ok (.lrem, 1) := by decide +kernel
theorem d_152_179 : decode cX8_multiply 179 = .ok (.lconst 0, 1) := by decide +kernel
theorem d_152_180 : decode cX8_multiply 180 = .ok (.lcmp, 1) := by decide +kernel
theorem d_152_181 : decode cX8_multiply 181 = .ok (.ifCond .eq 7, 3) := by decide +kernel
theorem d_152_184 : decode cX8_multiply 184 = .ok (.lconst 1, 1) := by decide +kernel
theorem d_152_185 : decode cX8_multiply 185 = .ok (.goto 4, 3) := by decide +kernel
theorem d_152_188 : decode cX8_multiply 188 = .ok (.lconst 0, 1) := by decide +kernel
theorem d_152_189 : decode cX8_multiply 189 = .ok (.ladd, 1) := by decide +kernel
theorem d_152_190 : decode cX8_multiply 190 = .ok (.lstore 9, 2) := by decide +kernel
theorem d_152_192 : decode cX8_multiply 192 = .ok (.aload_n 0, 1) := by decide +kernel
theorem d_152_193 : decode cX8_multiply 193 = .ok (.getfield 29, 3) := by decide +kernel
theorem d_152_196 : decode cX8_multiply 196 = .ok (.iload_n 3, 1) := by decide +kernel
theorem d_152_197 : decode cX8_multiply 197 = .ok (.lload 5, 2) := by decide +kernel
theorem d_152_199 : decode cX8_multiply 199 = .ok (.lload 7, 2) := by decide +kernel
theorem d_152_201 : decode cX8_multiply 201 = .ok (.lmul, 1) := by decide +kernel
theorem d_152_202 : decode cX8_multiply 202 = .ok (.ldc2_w 166, 3) := by decide +kernel
theorem d_152_205 : decode cX8_multiply 205 = .ok (.invokestatic 172, 3) := by decide +kernel
theorem d_152_208 : decode cX8_multiply 208 = .ok (.lastore, 1) := by decide +kernel
theorem d_152_209 : decode cX8_multiply 209 = .ok (.aload_n 0, 1) := by decide +kernel
theorem d_152_210 : decode cX8_multiply 210 = .ok (.getfield 29, 3) := by decide +kernel
theorem d_152_213 : decode cX8_multiply 213 = .ok (.iload_n 3, 1) := by decide +kernel
theorem d_152_214 : decode cX8_multiply 214 = .ok (.bipush 13, 2) := by decide +kernel
theorem d_152_216 : decode cX8_multiply 216 = .ok (.iadd, 1) := by decide +kernel
theorem d_152_217 : decode cX8_multiply 217 = .ok (.lload 9, 2) := by decide +kernel
theorem d_152_219 : decode cX8_multiply 219 = .ok (.lastore, 1) := by decide +kernel
theorem d_152_220 : decode cX8_multiply 220 = .ok (.aload_n 0, 1) := by decide +kernel
theorem d_152_221 : decode cX8_multiply 221 = .ok (.getfield 29, 3) := by decide +kernel
theorem d_152_224 : decode cX8_multiply 224 = .ok (.iload_n 3, 1) := by decide +kernel
theorem d_152_225 : decode cX8_multiply 225 = .ok (.bipush 14, 2) := by decide +kernel
theorem d_152_227 : decode cX8_multiply 227 = .ok (.iadd, 1) := by decide +kernel
theorem d_152_228 : decode cX8_multiply 228 = .ok (.laload, 1) := by decide +kernel
theorem d_152_229 : decode cX8_multiply 229 = .ok (.aload_n 0, 1) := by decide +kernel
theorem d_152_230 : decode cX8_multiply 230 = .ok (.getfield 29, 3) := by decide +kernel
theorem d_152_233 : decode cX8_multiply 233 = .ok (.iload 4, 2) := by decide +kernel
theorem d_152_235 : decode cX8_multiply 235 = .ok (.bipush 14, 2) := by decide +kernel
theorem d_152_237 : decode cX8_multiply 237 = .ok (.iadd, 1) := by decide +kernel
theorem d_152_238 : decode cX8_multiply 238 = .ok (.laload, 1) := by decide +kernel
theorem d_152_239 : decode cX8_multiply 239 = .ok (.lmul, 1) := by decide +kernel
theorem d_152_240 : decode cX8_multiply 240 = .ok (.lstore 11, 2) := by decide +kernel
theorem d_152_242 : decode cX8_multiply 242 = .ok (.aload_n 0, 1) := by decide +kernel
theorem d_152_243 : decode cX8_multiply 243 = .ok (.getfield 29, 3) := by decide +kernel
theorem d_152_246 : decode cX8_multiply 246 = .ok (.iload_n 3, 1) := by decide +kernel
theorem d_152_247 : decode cX8_multiply 247 = .ok (.bipush 14, 2) := by decide +kernel
theorem d_152_249 : decode cX8_multiply 249 = .ok (.iadd, 1) := by decide +kernel
theorem d_152_250 : decode cX8_multiply 250 = .ok (.laload, 1) := by decide +kernel
theorem d_152_251 : decode cX8_multiply 251 = .ok (.aload_n 0, 1) := by decide +kernel
theorem d_152_252 : decode cX8_multiply 252 = .ok (.getfield 29, 3) := by decide +kernel
theorem d_152_255 : decode cX8_multiply 255 = .ok (.iload 4, 2) := by decide +kernel
theorem d_152_257 : decode cX8_multiply 257 = .ok (.bipush 15, 2) := by decide +kernel
theorem d_152_259 : decode cX8_multiply 259 = .ok (.iadd, 1) := by decide +kernel
theorem d_152_260 : decode cX8_multiply 260 = .ok (.laload, 1) := by decide +kernel
theorem d_152_261 : decode cX8_multiply 261 = .ok (.lmul, 1) := by decide +kernel
theorem d_152_262 : decode cX8_multiply 262 = .ok (.lstore 13, 2) := by decide +kernel
theorem d_152_264 : decode cX8_multiply 264 = .ok (.aload_n 0, 1) := by decide +kernel
theorem d_152_265 : decode cX8_multiply 265 = .ok (.getfield 29, 3) := by decide +kernel
theorem d_152_268 : decode cX8_multiply 268 = .ok (.iload_n 3, 1) := by decide +kernel
theorem d_152_269 : decode cX8_multiply 269 = .ok (.bipush 15, 2) := by decide +kernel
theorem d_152_271 : decode cX8_multiply 271 = .ok (.iadd, 1) := by decide +kernel
theorem d_152_272 : decode cX8_multiply 272 = .ok (.laload, 1) := by decide +kernel
theorem d_152_273 : decode cX8_multiply 273 = .ok (.aload_n 0, 1) := by decide +kernel
theorem d_152_274 : decode cX8_multiply 274 = .ok (.getfield 29, 3) := by decide +kernel
theorem d_152_277 : decode cX8_multiply 277 = .ok (.iload 4, 2) := by decide +kernel
theorem d_152_279 : decode cX8_multiply 279 = .ok (.bipush 14, 2) := by decide +kernel
theorem d_152_281 : decode cX8_multiply 281 = .ok (.iadd, 1) := by decide +kernel
theorem d_152_282 : decode cX8_multiply 282 = .ok (.laload, 1) := by decide +kernel
theorem d_152_283 : decode cX8_multiply 283 = .ok (.lmul, 1) := by decide +kernel
theorem d_152_284 : decode cX8_multiply 284 = .ok (.lstore 15, 2) := by decide +kernel
theorem d_152_286 : decode cX8_multiply 286 = .ok (.aload_n 0, 1) := by decide +kernel
theorem d_152_287 : decode cX8_multiply 287 = .ok (.getfield 29, 3) := by decide +kernel
theorem d_152_290 : decode cX8_multiply 290 = .ok (.iload_n 3, 1) := by decide +kernel
theorem d_152_291 : decode cX8_multiply 291 = .ok (.bipush 15, 2) := by decide +kernel
theorem d_152_293 : decode cX8_multiply 293 = .ok (.iadd, 1) := by decide +kernel
theorem d_152_294 : decode cX8_multiply 294 = .ok (.laload, 1) := by decide +kernel
theorem d_152_295 : decode cX8_multiply 295 = .ok (.aload_n 0, 1) := by decide +kernel
theorem d_152_296 : decode cX8_multiply 296 = .ok (.getfield 29, 3) := by decide +kernel
theorem d_152_299 : decode cX8_multiply 299 = .ok (.iload 4, 2) := by decide +kernel
theorem d_152_301 : decode cX8_multiply 301 = .ok (.bipush 15, 2) := by decide +kernel
theorem d_152_303 : decode cX8_multiply 303 = .ok (.iadd, 1) := by decide +kernel
theorem d_152_304 : decode cX8_multiply 304 = .ok (.laload, 1) := by decide +kernel
theorem d_152_305 : decode cX8_multiply 305 = .ok (.lmul, 1) := by decide +kernel
theorem d_152_306 : decode cX8_multiply 306 = .ok (.lstore 17, 2) := by decide +kernel
theorem d_152_308 : decode cX8_multiply 308 = .ok (.aload_n 0, 1) := by decide +kernel
theorem d_152_309 : decode cX8_multiply 309 = .ok (.getfield 29, 3) := by decide +kernel
theorem d_152_312 : decode cX8_multiply 312 = .ok (.iload_n 3, 1) := by decide +kernel
theorem d_152_313 : decode cX8_multiply 313 = .ok (.bipush 14, 2) := by decide +kernel
theorem d_152_315 : decode cX8_multiply 315 = .ok (.iadd, 1) := by decide +kernel
theorem d_152_316 : decode cX8_multiply 316 = .ok (.lload 11, 2) := by decide +kernel
theorem d_152_318 : decode cX8_multiply 318 = .ok (.lload 13, 2) := by decide +kernel
theorem d_152_320 : decode cX8_multiply 320 = .ok (.invokestatic 175, 3) := by decide +kernel
theorem d_152_323 : decode cX8_multiply 323 = .ok (.lload 15, 2) := by decide +kernel
theorem d_152_325 : decode cX8_multiply 325 = .ok (.lload 17, 2) := by decide +kernel
theorem d_152_327 : decode cX8_multiply 327 = .ok (.invokestatic 175, 3) := by decide +kernel
theorem d_152_330 : decode cX8_multiply 330 = .ok (.invokestatic 175, 3) := by decide +kernel
theorem d_152_333 : decode cX8_multiply 333 = .ok (.ldc2_w 166, 3) := by decide +kernel
theorem d_152_336 : decode cX8_multiply 336 = .ok (.invokestatic 172, 3) := by decide +kernel
theorem d_152_339 : decode cX8_multiply 339 = .ok (.lastore, 1) := by decide +kernel
theorem d_152_340 : decode cX8_multiply 340 = .ok (.aload_n 0, 1) := by decide +kernel
theorem d_152_341 : decode cX8_multiply 341 = .ok (.getfield 29, 3) := by decide +kernel
theorem d_152_344 : decode cX8_multiply 344 = .ok (.iload_n 3, 1) := by decide +kernel
theorem d_152_345 : decode cX8_multiply 345 = .ok (.bipush 15, 2) := by decide +kernel
theorem d_152_347 : decode cX8_multiply 347 = .ok (.iadd, 1) := by decide +kernel
theorem d_152_348 : decode cX8_multiply 348 = .ok (.lload 11, 2) := by decide +kernel
theorem d_152_350 : decode cX8_multiply 350 = .ok (.lload 13, 2) := by decide +kernel
theorem d_152_352 : decode cX8_multiply 352 = .ok (.invokestatic 178, 3) := by decide +kernel
theorem d_152_355 : decode cX8_multiply 355 = .ok (.lload 15, 2) := by decide +kernel
theorem d_152_357 : decode cX8_multiply 357 = .ok (.lload 17, 2) := by decide +kernel
theorem d_152_359 : decode cX8_multiply 359 = .ok (.invokestatic 178, 3) := by decide +kernel
theorem d_152_362 : decode cX8_multiply 362 = .ok (.invokestatic 178, 3) := by decide +kernel
theorem d_152_365 : decode cX8_multiply 365 = .ok (.ldc2_w 166, 3) := by decide +kernel
theorem d_152_368 : decode cX8_multiply 368 = .ok (.invokestatic 168, 3) := by decide +kernel
theorem d_152_371 : decode cX8_multiply 371 = .ok (.lastore, 1) := by decide +kernel
theorem d_152_372 : decode cX8_multiply 372 = .ok (.return_, 1) := by decide +kernel
theorem q_152_0  : zRun 152 0 L S sh mi mj mr = zRun 152 2 L (.int 17 :: S) sh mi mj mr := zr_p (zD_of zk_152 d_152_0 rfl rfl) rfl
theorem q_152_2 : zRun 152 2 [l0, some (.int x), l2, l3, l4, l5, l6, l7, l8, l9, l10, l11, l12, l13, l14, l15, l16, l17, l18] S sh mi mj mr = zRun 152 3 [l0, some (.int x), l2, l3, l4, l5, l6, l7, l8, l9, l10, l11, l12, l13, l14, l15, l16, l17, l18] (.int x :: S) sh mi mj mr := zr_l (zD_of zk_152 d_152_2 rfl rfl) rfl rfl rfl
theorem q_152_3  : zRun 152 3 L (.int y :: .int x :: S) sh mi mj mr = zRun 152 4 L (.int (x * y) :: S) sh mi mj mr := zr_p (zD_of zk_152 d_152_3 rfl rfl) rfl
theorem q_152_4 : zRun 152 4 [l0, l1, l2, l3, l4, l5, l6, l7, l8, l9, l10, l11, l12, l13, l14, l15, l16, l17, l18] (.int x :: S) sh mi mj mr = zRun 152 5 [l0, l1, zk2 l2, some (.int x), l4, l5, l6, l7, l8, l9, l10, l11, l12, l13, l14, l15, l16, l17, l18] S sh mi mj mr := zr_s1 (i := 3) (v := .int x) (L := [l0, l1, l2, l3, l4, l5, l6, l7, l8, l9, l10, l11, l12, l13, l14, l15, l16, l17, l18]) (zD_of zk_152 d_152_4 rfl rfl) rfl rfl rfl rfl
theorem q_152_5  : zRun 152 5 L S sh mi mj mr = zRun 152 7 L (.int 17 :: S) sh mi mj mr := zr_p (zD_of zk_152 d_152_5 rfl rfl) rfl
theorem q_152_7 : zRun 152 7 [l0, l1, some (.int x), l3, l4, l5, l6, l7, l8, l9, l10, l11, l12, l13, l14, l15, l16, l17, l18] S sh mi mj mr = zRun 152 8 [l0, l1, some (.int x), l3, l4, l5, l6, l7, l8, l9, l10, l11, l12, l13, l14, l15, l16, l17, l18] (.int x :: S) sh mi mj mr := zr_l (zD_of zk_152 d_152_7 rfl rfl) rfl rfl rfl
theorem q_152_8  : zRun 152 8 L (.int y :: .int x :: S) sh mi mj mr = zRun 152 9 L (.int (x * y) :: S) sh mi mj mr := zr_p (zD_of zk_152 d_152_8 rfl rfl) rfl
theorem q_152_9 : zRun 152 9 [l0, l1, l2, l3, l4, l5, l6, l7, l8, l9, l10, l11, l12, l13, l14, l15, l16, l17, l18] (.int x :: S) sh mi mj mr = zRun 152 11 [l0, l1, l2, zk2 l3, some (.int x), l5, l6, l7, l8, l9, l10, l11, l12, l13, l14, l15, l16, l17, l18] S sh mi mj mr := zr_s1 (i := 4) (v := .int x) (L := [l0, l1, l2, l3, l4, l5, l6, l7, l8, l9, l10, l11, l12, l13, l14, l15, l16, l17, l18]) (zD_of zk_152 d_152_9 rfl rfl) rfl rfl rfl rfl
theorem q_152_11r : zRun 152 11 [some (.ref o), l1, l2, l3, l4, l5, l6, l7, l8, l9, l10, l11, l12, l13, l14, l15, l16, l17, l18] S sh mi mj mr = zRun 152 12 [some (.ref o), l1, l2, l3, l4, l5, l6, l7, l8, l9, l10, l11, l12, l13, l14, l15, l16, l17, l18] (.ref o :: S) sh mi mj mr := zr_l (zD_of zk_152 d_152_11 rfl rfl) rfl rfl rfl
theorem q_152_11n : zRun 152 11 [some (.null), l1, l2, l3, l4, l5, l6, l7, l8, l9, l10, l11, l12, l13, l14, l15, l16, l17, l18] S sh mi mj mr = zRun 152 12 [some (.null), l1, l2, l3, l4, l5, l6, l7, l8, l9, l10, l11, l12, l13, l14, l15, l16, l17, l18] (.null :: S) sh mi mj mr := zr_l (zD_of zk_152 d_152_11 rfl rfl) rfl rfl rfl
theorem q_152_12 (h : zIs sh o 0 8) : zRun 152 12 L (.ref o :: S) sh mi mj mr = zRun 152 15 L (va_rf (mr o 10) :: S) sh mi mj mr := zr_getR (zD_of zk_152 d_152_12 rfl rfl) rfl rfl rfl h
theorem q_152_15 : zRun 152 15 [l0, l1, l2, some (.int x), l4, l5, l6, l7, l8, l9, l10, l11, l12, l13, l14, l15, l16, l17, l18] S sh mi mj mr = zRun 152 16 [l0, l1, l2, some (.int x), l4, l5, l6, l7, l8, l9, l10, l11, l12, l13, l14, l15, l16, l17, l18] (.int x :: S) sh mi mj mr := zr_l (zD_of zk_152 d_152_15 rfl rfl) rfl rfl rfl
theorem q_152_16 (h : zAt sh o 2 x) : zRun 152 16 L (.int x :: .ref o :: S) sh mi mj mr = zRun 152 17 L (.long (mj o x.toNatClampNeg) :: S) sh mi mj mr := zr_lald (zD_of zk_152 d_152_16 rfl rfl) h
theorem q_152_17 : zRun 152 17 [l0, l1, l2, l3, l4, l5, l6, l7, l8, l9, l10, l11, l12, l13, l14, l15, l16, l17, l18] (.long u :: S) sh mi mj mr = zRun 152 19 [l0, l1, l2, l3, zk2 l4, some (.long u), none, l7, l8, l9, l10, l11, l12, l13, l14, l15, l16, l17, l18] S sh mi mj mr := zr_s2 (i := 5) (v := .long u) (L := [l0, l1, l2, l3, l4, l5, l6, l7, l8, l9, l10, l11, l12, l13, l14, l15, l16, l17, l18]) (zD_of zk_152 d_152_17 rfl rfl) rfl rfl rfl rfl
theorem q_152_19r : zRun 152 19 [some (.ref o), l1, l2, l3, l4, l5, l6, l7, l8, l9, l10, l11, l12, l13, l14, l15, l16, l17, l18] S sh mi mj mr = zRun 152 20 [some (.ref o), l1, l2, l3, l4, l5, l6, l7, l8, l9, l10, l11, l12, l13, l14, l15, l16, l17, l18] (.ref o :: S) sh mi mj mr := zr_l (zD_of zk_152 d_152_19 rfl rfl) rfl rfl rfl
theorem q_152_19n : zRun 152 19 [some (.null), l1, l2, l3, l4, l5, l6, l7, l8, l9, l10, l11, l12, l13, l14, l15, l16, l17, l18] S sh mi mj mr = zRun 152 20 [some (.null), l1, l2, l3, l4, l5, l6, l7, l8, l9, l10, l11, l12, l13, l14, l15, l16, l17, l18] (.null :: S) sh mi mj mr := zr_l (zD_of zk_152 d_152_19 rfl rfl) rfl rfl rfl
theorem q_152_20 (h : zIs sh o 0 8) : zRun 152 20 L (.ref o :: S) sh mi mj mr = zRun 152 23 L (va_rf (mr o 10) :: S) sh mi mj mr := zr_getR (zD_of zk_152 d_152_20 rfl rfl) rfl rfl rfl h
theorem q_152_23 : zRun 152 23 [l0, l1, l2, l3, some (.int x), l5, l6, l7, l8, l9, l10, l11, l12, l13, l14, l15, l16, l17, l18] S sh mi mj mr = zRun 152 25 [l0, l1, l2, l3, some (.int x), l5, l6, l7, l8, l9, l10, l11, l12, l13, l14, l15, l16, l17, l18] (.int x :: S) sh mi mj mr := zr_l (zD_of zk_152 d_152_23 rfl rfl) rfl rfl rfl
theorem q_152_25 (h : zAt sh o 2 x) : zRun 152 25 L (.int x :: .ref o :: S) sh mi mj mr = zRun 152 26 L (.long (mj o x.toNatClampNeg) :: S) sh mi mj mr := zr_lald (zD_of zk_152 d_152_25 rfl rfl) h
theorem q_152_26 : zRun 152 26 [l0, l1, l2, l3, l4, l5, l6, l7, l8, l9, l10, l11, l12, l13, l14, l15, l16, l17, l18] (.long u :: S) sh mi mj mr = zRun 152 28 [l0, l1, l2, l3, l4, l5, zk2 l6, some (.long u), none, l9, l10, l11, l12, l13, l14, l15, l16, l17, l18] S sh mi mj mr := zr_s2 (i := 7) (v := .long u) (L := [l0, l1, l2, l3, l4, l5, l6, l7, l8, l9, l10, l11, l12, l13, l14, l15, l16, l17, l18]) (zD_of zk_152 d_152_26 rfl rfl) rfl rfl rfl rfl
theorem q_152_28 : zRun 152 28 [l0, l1, l2, l3, l4, some (.long u), l6, l7, l8, l9, l10, l11, l12, l13, l14, l15, l16, l17, l18] S sh mi mj mr = zRun 152 30 [l0, l1, l2, l3, l4, some (.long u), l6, l7, l8, l9, l10, l11, l12, l13, l14, l15, l16, l17, l18] (.long u :: S) sh mi mj mr := zr_l (zD_of zk_152 d_152_28 rfl rfl) rfl rfl rfl
theorem q_152_30  {u0 : Int64} (hS : zcat S ≤ 8) : zRun 152 30 L (.long u0 :: S) sh mi mj mr = (zCall 137 [.long u0] sh mi mj mr).bind fun r => zRun 152 33 L (r.1.toList ++ S) r.2.1 r.2.2.1 r.2.2.2.1 r.2.2.2.2 := zr_S (zD_of zk_152 d_152_30 rfl rfl) rfl zk_137 rfl rfl rfl hS
theorem q_152_33r : zRun 152 33 [some (.ref o), l1, l2, l3, l4, l5, l6, l7, l8, l9, l10, l11, l12, l13, l14, l15, l16, l17, l18] S sh mi mj mr = zRun 152 34 [some (.ref o), l1, l2, l3, l4, l5, l6, l7, l8, l9, l10, l11, l12, l13, l14, l15, l16, l17, l18] (.ref o :: S) sh mi mj mr := zr_l (zD_of zk_152 d_152_33 rfl rfl) rfl rfl rfl
theorem q_152_33n : zRun 152 33 [some (.null), l1, l2, l3, l4, l5, l6, l7, l8, l9, l10, l11, l12, l13, l14, l15, l16, l17, l18] S sh mi mj mr = zRun 152 34 [some (.null), l1, l2, l3, l4, l5, l6, l7, l8, l9, l10, l11, l12, l13, l14, l15, l16, l17, l18] (.null :: S) sh mi mj mr := zr_l (zD_of zk_152 d_152_33 rfl rfl) rfl rfl rfl
theorem q_152_34 (h : zIs sh o 0 8) : zRun 152 34 L (.ref o :: S) sh mi mj mr = zRun 152 37 L (va_rf (mr o 10) :: S) sh mi mj mr := zr_getR (zD_of zk_152 d_152_34 rfl rfl) rfl rfl rfl h
theorem q_152_37 : zRun 152 37 [l0, l1, l2, l3, some (.int x), l5, l6, l7, l8, l9, l10, l11, l12, l13, l14, l15, l16, l17, l18] S sh mi mj mr = zRun 152 39 [l0, l1, l2, l3, some (.int x), l5, l6, l7, l8, l9, l10, l11, l12, l13, l14, l15, l16, l17, l18] (.int x :: S) sh mi mj mr := zr_l (zD_of zk_152 d_152_37 rfl rfl) rfl rfl rfl
theorem q_152_39  : zRun 152 39 L S sh mi mj mr = zRun 152 41 L (.int 13 :: S) sh mi mj mr := zr_p (zD_of zk_152 d_152_39 rfl rfl) rfl
theorem q_152_41  : zRun 152 41 L (.int y :: .int x :: S) sh mi mj mr = zRun 152 42 L (.int (x + y) :: S) sh mi mj mr := zr_p (zD_of zk_152 d_152_41 rfl rfl) rfl
theorem q_152_42 (h : zAt sh o 2 x) : zRun 152 42 L (.int x :: .ref o :: S) sh mi mj mr = zRun 152 43 L (.long (mj o x.toNatClampNeg) :: S) sh mi mj mr := zr_lald (zD_of zk_152 d_152_42 rfl rfl) h
theorem q_152_43  : zRun 152 43 L (.long v :: .long u :: S) sh mi mj mr = zRun 152 44 L (.long (u * v) :: S) sh mi mj mr := zr_p (zD_of zk_152 d_152_43 rfl rfl) rfl
theorem q_152_44 : zRun 152 44 [l0, l1, l2, l3, l4, l5, l6, some (.long u), l8, l9, l10, l11, l12, l13, l14, l15, l16, l17, l18] S sh mi mj mr = zRun 152 46 [l0, l1, l2, l3, l4, l5, l6, some (.long u), l8, l9, l10, l11, l12, l13, l14, l15, l16, l17, l18] (.long u :: S) sh mi mj mr := zr_l (zD_of zk_152 d_152_44 rfl rfl) rfl rfl rfl
theorem q_152_46  {u0 : Int64} (hS : zcat S ≤ 8) : zRun 152 46 L (.long u0 :: S) sh mi mj mr = (zCall 137 [.long u0] sh mi mj mr).bind fun r => zRun 152 49 L (r.1.toList ++ S) r.2.1 r.2.2.1 r.2.2.2.1 r.2.2.2.2 := zr_S (zD_of zk_152 d_152_46 rfl rfl) rfl zk_137 rfl rfl rfl hS
theorem q_152_49r : zRun 152 49 [some (.ref o), l1, l2, l3, l4, l5, l6, l7, l8, l9, l10, l11, l12, l13, l14, l15, l16, l17, l18] S sh mi mj mr = zRun 152 50 [some (.ref o), l1, l2, l3, l4, l5, l6, l7, l8, l9, l10, l11, l12, l13, l14, l15, l16, l17, l18] (.ref o :: S) sh mi mj mr := zr_l (zD_of zk_152 d_152_49 rfl rfl) rfl rfl rfl
theorem q_152_49n : zRun 152 49 [some (.null), l1, l2, l3, l4, l5, l6, l7, l8, l9, l10, l11, l12, l13, l14, l15, l16, l17, l18] S sh mi mj mr = zRun 152 50 [some (.null), l1, l2, l3, l4, l5, l6, l7, l8, l9, l10, l11, l12, l13, l14, l15, l16, l17, l18] (.null :: S) sh mi mj mr := zr_l (zD_of zk_152 d_152_49 rfl rfl) rfl rfl rfl
theorem q_152_50 (h : zIs sh o 0 8) : zRun 152 50 L (.ref o :: S) sh mi mj mr = zRun 152 53 L (va_rf (mr o 10) :: S) sh mi mj mr := zr_getR (zD_of zk_152 d_152_50 rfl rfl) rfl rfl rfl h
theorem q_152_53 : zRun 152 53 [l0, l1, l2, some (.int x), l4, l5, l6, l7, l8, l9, l10, l11, l12, l13, l14, l15, l16, l17, l18] S sh mi mj mr = zRun 152 54 [l0, l1, l2, some (.int x), l4, l5, l6, l7, l8, l9, l10, l11, l12, l13, l14, l15, l16, l17, l18] (.int x :: S) sh mi mj mr := zr_l (zD_of zk_152 d_152_53 rfl rfl) rfl rfl rfl
theorem q_152_54  : zRun 152 54 L S sh mi mj mr = zRun 152 56 L (.int 13 :: S) sh mi mj mr := zr_p (zD_of zk_152 d_152_54 rfl rfl) rfl
theorem q_152_56  : zRun 152 56 L (.int y :: .int x :: S) sh mi mj mr = zRun 152 57 L (.int (x + y) :: S) sh mi mj mr := zr_p (zD_of zk_152 d_152_56 rfl rfl) rfl
theorem q_152_57 (h : zAt sh o 2 x) : zRun 152 57 L (.int x :: .ref o :: S) sh mi mj mr = zRun 152 58 L (.long (mj o x.toNatClampNeg) :: S) sh mi mj mr := zr_lald (zD_of zk_152 d_152_57 rfl rfl) h
theorem q_152_58  : zRun 152 58 L (.long v :: .long u :: S) sh mi mj mr = zRun 152 59 L (.long (u * v) :: S) sh mi mj mr := zr_p (zD_of zk_152 d_152_58 rfl rfl) rfl
theorem q_152_59  : zRun 152 59 L (.long v :: .long u :: S) sh mi mj mr = zRun 152 60 L (.long (u + v) :: S) sh mi mj mr := zr_p (zD_of zk_152 d_152_59 rfl rfl) rfl
theorem q_152_60r : zRun 152 60 [some (.ref o), l1, l2, l3, l4, l5, l6, l7, l8, l9, l10, l11, l12, l13, l14, l15, l16, l17, l18] S sh mi mj mr = zRun 152 61 [some (.ref o), l1, l2, l3, l4, l5, l6, l7, l8, l9, l10, l11, l12, l13, l14, l15, l16, l17, l18] (.ref o :: S) sh mi mj mr := zr_l (zD_of zk_152 d_152_60 rfl rfl) rfl rfl rfl
theorem q_152_60n : zRun 152 60 [some (.null), l1, l2, l3, l4, l5, l6, l7, l8, l9, l10, l11, l12, l13, l14, l15, l16, l17, l18] S sh mi mj mr = zRun 152 61 [some (.null), l1, l2, l3, l4, l5, l6, l7, l8, l9, l10, l11, l12, l13, l14, l15, l16, l17, l18] (.null :: S) sh mi mj mr := zr_l (zD_of zk_152 d_152_60 rfl rfl) rfl rfl rfl
theorem q_152_61 : zRun 152 61 [l0, some (.int x), l2, l3, l4, l5, l6, l7, l8, l9, l10, l11, l12, l13, l14, l15, l16, l17, l18] S sh mi mj mr = zRun 152 62 [l0, some (.int x), l2, l3, l4, l5, l6, l7, l8, l9, l10, l11, l12, l13, l14, l15, l16, l17, l18] (.int x :: S) sh mi mj mr := zr_l (zD_of zk_152 d_152_61 rfl rfl) rfl rfl rfl
theorem q_152_62  {x0 : Int32} (hS : zcat S ≤ 8) (h : zIs sh o 0 8) : zRun 152 62 L (.int x0 :: .ref o :: S) sh mi mj mr = (zCall 138 [.ref o, .int x0] sh mi mj mr).bind fun r => zRun 152 65 L (r.1.toList ++ S) r.2.1 r.2.2.1 r.2.2.2.1 r.2.2.2.2 := zr_V (zD_of zk_152 d_152_62 rfl rfl) rfl zk_138 rfl rfl rfl hS h
theorem q_152_65r : zRun 152 65 [some (.ref o), l1, l2, l3, l4, l5, l6, l7, l8, l9, l10, l11, l12, l13, l14, l15, l16, l17, l18] S sh mi mj mr = zRun 152 66 [some (.ref o), l1, l2, l3, l4, l5, l6, l7, l8, l9, l10, l11, l12, l13, l14, l15, l16, l17, l18] (.ref o :: S) sh mi mj mr := zr_l (zD_of zk_152 d_152_65 rfl rfl) rfl rfl rfl
theorem q_152_65n : zRun 152 65 [some (.null), l1, l2, l3, l4, l5, l6, l7, l8, l9, l10, l11, l12, l13, l14, l15, l16, l17, l18] S sh mi mj mr = zRun 152 66 [some (.null), l1, l2, l3, l4, l5, l6, l7, l8, l9, l10, l11, l12, l13, l14, l15, l16, l17, l18] (.null :: S) sh mi mj mr := zr_l (zD_of zk_152 d_152_65 rfl rfl) rfl rfl rfl
theorem q_152_66 : zRun 152 66 [l0, l1, some (.int x), l3, l4, l5, l6, l7, l8, l9, l10, l11, l12, l13, l14, l15, l16, l17, l18] S sh mi mj mr = zRun 152 67 [l0, l1, some (.int x), l3, l4, l5, l6, l7, l8, l9, l10, l11, l12, l13, l14, l15, l16, l17, l18] (.int x :: S) sh mi mj mr := zr_l (zD_of zk_152 d_152_66 rfl rfl) rfl rfl rfl
theorem q_152_67  {x0 : Int32} (hS : zcat S ≤ 8) (h : zIs sh o 0 8) : zRun 152 67 L (.int x0 :: .ref o :: S) sh mi mj mr = (zCall 138 [.ref o, .int x0] sh mi mj mr).bind fun r => zRun 152 70 L (r.1.toList ++ S) r.2.1 r.2.2.1 r.2.2.2.1 r.2.2.2.2 := zr_V (zD_of zk_152 d_152_67 rfl rfl) rfl zk_138 rfl rfl rfl hS h
theorem q_152_70  : zRun 152 70 L (.long v :: .long u :: S) sh mi mj mr = zRun 152 71 L (.long (u * v) :: S) sh mi mj mr := zr_p (zD_of zk_152 d_152_70 rfl rfl) rfl
theorem q_152_71  : zRun 152 71 L (.long v :: .long u :: S) sh mi mj mr = zRun 152 72 L (.long (u + v) :: S) sh mi mj mr := zr_p (zD_of zk_152 d_152_71 rfl rfl) rfl
theorem q_152_72  : zRun 152 72 L S sh mi mj mr = zRun 152 75 L (.long 256 :: S) sh mi mj mr := zr_k64 (zD_of zk_152 d_152_72 rfl rfl) rfl
theorem q_152_75  {u0 u1 : Int64} (hS : zcat S ≤ 8) : zRun 152 75 L (.long u1 :: .long u0 :: S) sh mi mj mr = (zCall 148 [.long u0, .long u1] sh mi mj mr).bind fun r => zRun 152 78 L (r.1.toList ++ S) r.2.1 r.2.2.1 r.2.2.2.1 r.2.2.2.2 := zr_S (zD_of zk_152 d_152_75 rfl rfl) rfl zk_148 rfl rfl rfl hS
theorem q_152_78 : zRun 152 78 [l0, l1, l2, l3, l4, l5, l6, l7, l8, l9, l10, l11, l12, l13, l14, l15, l16, l17, l18] (.long u :: S) sh mi mj mr = zRun 152 80 [l0, l1, l2, l3, l4, l5, l6, l7, zk2 l8, some (.long u), none, l11, l12, l13, l14, l15, l16, l17, l18] S sh mi mj mr := zr_s2 (i := 9) (v := .long u) (L := [l0, l1, l2, l3, l4, l5, l6, l7, l8, l9, l10, l11, l12, l13, l14, l15, l16, l17, l18]) (zD_of zk_152 d_152_78 rfl rfl) rfl rfl rfl rfl
theorem q_152_80  : zRun 152 80 L S sh mi mj mr = zRun 152 81 L (.int 0 :: S) sh mi mj mr := zr_p (zD_of zk_152 d_152_80 rfl rfl) rfl
theorem q_152_81 : zRun 152 81 [l0, l1, l2, l3, l4, l5, l6, l7, l8, l9, l10, l11, l12, l13, l14, l15, l16, l17, l18] (.int x :: S) sh mi mj mr = zRun 152 83 [l0, l1, l2, l3, l4, l5, l6, l7, l8, l9, zk2 l10, some (.int x), l12, l13, l14, l15, l16, l17, l18] S sh mi mj mr := zr_s1 (i := 11) (v := .int x) (L := [l0, l1, l2, l3, l4, l5, l6, l7, l8, l9, l10, l11, l12, l13, l14, l15, l16, l17, l18]) (zD_of zk_152 d_152_81 rfl rfl) rfl rfl rfl rfl
theorem q_152_83 : zRun 152 83 [l0, l1, l2, l3, l4, l5, l6, l7, l8, l9, l10, some (.int x), l12, l13, l14, l15, l16, l17, l18] S sh mi mj mr = zRun 152 85 [l0, l1, l2, l3, l4, l5, l6, l7, l8, l9, l10, some (.int x), l12, l13, l14, l15, l16, l17, l18] (.int x :: S) sh mi mj mr := zr_l (zD_of zk_152 d_152_83 rfl rfl) rfl rfl rfl
theorem q_152_85  : zRun 152 85 L S sh mi mj mr = zRun 152 87 L (.int 12 :: S) sh mi mj mr := zr_p (zD_of zk_152 d_152_85 rfl rfl) rfl
theorem q_152_87  : zRun 152 87 L (.int y :: .int x :: S) sh mi mj mr = if y ≤ x then zRun 152 168 L S sh mi mj mr else zRun 152 90 L S sh mi mj mr := zr_if (off := 81) (P := y ≤ x) (zD_of zk_152 d_152_87 rfl rfl) rfl rfl (by decide)
theorem q_152_90 : zRun 152 90 [l0, l1, l2, l3, l4, some (.long u), l6, l7, l8, l9, l10, l11, l12, l13, l14, l15, l16, l17, l18] S sh mi mj mr = zRun 152 92 [l0, l1, l2, l3, l4, some (.long u), l6, l7, l8, l9, l10, l11, l12, l13, l14, l15, l16, l17, l18] (.long u :: S) sh mi mj mr := zr_l (zD_of zk_152 d_152_90 rfl rfl) rfl rfl rfl
theorem q_152_92r : zRun 152 92 [some (.ref o), l1, l2, l3, l4, l5, l6, l7, l8, l9, l10, l11, l12, l13, l14, l15, l16, l17, l18] S sh mi mj mr = zRun 152 93 [some (.ref o), l1, l2, l3, l4, l5, l6, l7, l8, l9, l10, l11, l12, l13, l14, l15, l16, l17, l18] (.ref o :: S) sh mi mj mr := zr_l (zD_of zk_152 d_152_92 rfl rfl) rfl rfl rfl
theorem q_152_92n : zRun 152 92 [some (.null), l1, l2, l3, l4, l5, l6, l7, l8, l9, l10, l11, l12, l13, l14, l15, l16, l17, l18] S sh mi mj mr = zRun 152 93 [some (.null), l1, l2, l3, l4, l5, l6, l7, l8, l9, l10, l11, l12, l13, l14, l15, l16, l17, l18] (.null :: S) sh mi mj mr := zr_l (zD_of zk_152 d_152_92 rfl rfl) rfl rfl rfl
theorem q_152_93 (h : zIs sh o 0 8) : zRun 152 93 L (.ref o :: S) sh mi mj mr = zRun 152 96 L (va_rf (mr o 10) :: S) sh mi mj mr := zr_getR (zD_of zk_152 d_152_93 rfl rfl) rfl rfl rfl h
theorem q_152_96 : zRun 152 96 [l0, l1, l2, l3, some (.int x), l5, l6, l7, l8, l9, l10, l11, l12, l13, l14, l15, l16, l17, l18] S sh mi mj mr = zRun 152 98 [l0, l1, l2, l3, some (.int x), l5, l6, l7, l8, l9, l10, l11, l12, l13, l14, l15, l16, l17, l18] (.int x :: S) sh mi mj mr := zr_l (zD_of zk_152 d_152_96 rfl rfl) rfl rfl rfl
theorem q_152_98  : zRun 152 98 L S sh mi mj mr = zRun 152 99 L (.int 1 :: S) sh mi mj mr := zr_p (zD_of zk_152 d_152_98 rfl rfl) rfl
theorem q_152_99  : zRun 152 99 L (.int y :: .int x :: S) sh mi mj mr = zRun 152 100 L (.int (x + y) :: S) sh mi mj mr := zr_p (zD_of zk_152 d_152_99 rfl rfl) rfl
theorem q_152_100 : zRun 152 100 [l0, l1, l2, l3, l4, l5, l6, l7, l8, l9, l10, some (.int x), l12, l13, l14, l15, l16, l17, l18] S sh mi mj mr = zRun 152 102 [l0, l1, l2, l3, l4, l5, l6, l7, l8, l9, l10, some (.int x), l12, l13, l14, l15, l16, l17, l18] (.int x :: S) sh mi mj mr := zr_l (zD_of zk_152 d_152_100 rfl rfl) rfl rfl rfl
theorem q_152_102  : zRun 152 102 L (.int y :: .int x :: S) sh mi mj mr = zRun 152 103 L (.int (x + y) :: S) sh mi mj mr := zr_p (zD_of zk_152 d_152_102 rfl rfl) rfl
theorem q_152_103 (h : zAt sh o 2 x) : zRun 152 103 L (.int x :: .ref o :: S) sh mi mj mr = zRun 152 104 L (.long (mj o x.toNatClampNeg) :: S) sh mi mj mr := zr_lald (zD_of zk_152 d_152_103 rfl rfl) h
theorem q_152_104  : zRun 152 104 L (.long v :: .long u :: S) sh mi mj mr = zRun 152 105 L (.long (u * v) :: S) sh mi mj mr := zr_p (zD_of zk_152 d_152_104 rfl rfl) rfl
theorem q_152_105 : zRun 152 105 [l0, l1, l2, l3, l4, l5, l6, some (.long u), l8, l9, l10, l11, l12, l13, l14, l15, l16, l17, l18] S sh mi mj mr = zRun 152 107 [l0, l1, l2, l3, l4, l5, l6, some (.long u), l8, l9, l10, l11, l12, l13, l14, l15, l16, l17, l18] (.long u :: S) sh mi mj mr := zr_l (zD_of zk_152 d_152_105 rfl rfl) rfl rfl rfl
theorem q_152_107r : zRun 152 107 [some (.ref o), l1, l2, l3, l4, l5, l6, l7, l8, l9, l10, l11, l12, l13, l14, l15, l16, l17, l18] S sh mi mj mr = zRun 152 108 [some (.ref o), l1, l2, l3, l4, l5, l6, l7, l8, l9, l10, l11, l12, l13, l14, l15, l16, l17, l18] (.ref o :: S) sh mi mj mr := zr_l (zD_of zk_152 d_152_107 rfl rfl) rfl rfl rfl
theorem q_152_107n : zRun 152 107 [some (.null), l1, l2, l3, l4, l5, l6, l7, l8, l9, l10, l11, l12, l13, l14, l15, l16, l17, l18] S sh mi mj mr = zRun 152 108 [some (.null), l1, l2, l3, l4, l5, l6, l7, l8, l9, l10, l11, l12, l13, l14, l15, l16, l17, l18] (.null :: S) sh mi mj mr := zr_l (zD_of zk_152 d_152_107 rfl rfl) rfl rfl rfl
theorem q_152_108 (h : zIs sh o 0 8) : zRun 152 108 L (.ref o :: S) sh mi mj mr = zRun 152 111 L (va_rf (mr o 10) :: S) sh mi mj mr := zr_getR (zD_of zk_152 d_152_108 rfl rfl) rfl rfl rfl h
theorem q_152_111 : zRun 152 111 [l0, l1, l2, some (.int x), l4, l5, l6, l7, l8, l9, l10, l11, l12, l13, l14, l15, l16, l17, l18] S sh mi mj mr = zRun 152 112 [l0, l1, l2, some (.int x), l4, l5, l6, l7, l8, l9, l10, l11, l12, l13, l14, l15, l16, l17, l18] (.int x :: S) sh mi mj mr := zr_l (zD_of zk_152 d_152_111 rfl rfl) rfl rfl rfl
theorem q_152_112  : zRun 152 112 L S sh mi mj mr = zRun 152 113 L (.int 1 :: S) sh mi mj mr := zr_p (zD_of zk_152 d_152_112 rfl rfl) rfl
theorem q_152_113  : zRun 152 113 L (.int y :: .int x :: S) sh mi mj mr = zRun 152 114 L (.int (x + y) :: S) sh mi mj mr := zr_p (zD_of zk_152 d_152_113 rfl rfl) rfl
theorem q_152_114 : zRun 152 114 [l0, l1, l2, l3, l4, l5, l6, l7, l8, l9, l10, some (.int x), l12, l13, l14, l15, l16, l17, l18] S sh mi mj mr = zRun 152 116 [l0, l1, l2, l3, l4, l5, l6, l7, l8, l9, l10, some (.int x), l12, l13, l14, l15, l16, l17, l18] (.int x :: S) sh mi mj mr := zr_l (zD_of zk_152 d_152_114 rfl rfl) rfl rfl rfl
theorem q_152_116  : zRun 152 116 L (.int y :: .int x :: S) sh mi mj mr = zRun 152 117 L (.int (x + y) :: S) sh mi mj mr := zr_p (zD_of zk_152 d_152_116 rfl rfl) rfl
theorem q_152_117 (h : zAt sh o 2 x) : zRun 152 117 L (.int x :: .ref o :: S) sh mi mj mr = zRun 152 118 L (.long (mj o x.toNatClampNeg) :: S) sh mi mj mr := zr_lald (zD_of zk_152 d_152_117 rfl rfl) h
theorem q_152_118  : zRun 152 118 L (.long v :: .long u :: S) sh mi mj mr = zRun 152 119 L (.long (u * v) :: S) sh mi mj mr := zr_p (zD_of zk_152 d_152_118 rfl rfl) rfl
theorem q_152_119  : zRun 152 119 L (.long v :: .long u :: S) sh mi mj mr = zRun 152 120 L (.long (u + v) :: S) sh mi mj mr := zr_p (zD_of zk_152 d_152_119 rfl rfl) rfl
theorem q_152_120 : zRun 152 120 [l0, l1, l2, l3, l4, l5, l6, l7, l8, l9, l10, l11, l12, l13, l14, l15, l16, l17, l18] (.long u :: S) sh mi mj mr = zRun 152 122 [l0, l1, l2, l3, l4, l5, l6, l7, l8, l9, l10, zk2 l11, some (.long u), none, l14, l15, l16, l17, l18] S sh mi mj mr := zr_s2 (i := 12) (v := .long u) (L := [l0, l1, l2, l3, l4, l5, l6, l7, l8, l9, l10, l11, l12, l13, l14, l15, l16, l17, l18]) (zD_of zk_152 d_152_120 rfl rfl) rfl rfl rfl rfl
theorem q_152_122 : zRun 152 122 [l0, l1, l2, l3, l4, l5, l6, l7, l8, some (.long u), l10, l11, l12, l13, l14, l15, l16, l17, l18] S sh mi mj mr = zRun 152 124 [l0, l1, l2, l3, l4, l5, l6, l7, l8, some (.long u), l10, l11, l12, l13, l14, l15, l16, l17, l18] (.long u :: S) sh mi mj mr := zr_l (zD_of zk_152 d_152_122 rfl rfl) rfl rfl rfl
theorem q_152_124 : zRun 152 124 [l0, l1, l2, l3, l4, l5, l6, l7, l8, l9, l10, l11, some (.long u), l13, l14, l15, l16, l17, l18] S sh mi mj mr = zRun 152 126 [l0, l1, l2, l3, l4, l5, l6, l7, l8, l9, l10, l11, some (.long u), l13, l14, l15, l16, l17, l18] (.long u :: S) sh mi mj mr := zr_l (zD_of zk_152 d_152_124 rfl rfl) rfl rfl rfl
theorem q_152_126  : zRun 152 126 L S sh mi mj mr = zRun 152 129 L (.long 256 :: S) sh mi mj mr := zr_k64 (zD_of zk_152 d_152_126 rfl rfl) rfl
theorem q_152_129 (h : ¬ v = 0) : zRun 152 129 L (.long v :: .long u :: S) sh mi mj mr = zRun 152 130 L (.long (u - (u / v) * v) :: S) sh mi mj mr := zr_p (zD_of zk_152 d_152_129 rfl rfl) (if_neg h)
theorem q_152_130  : zRun 152 130 L S sh mi mj mr = zRun 152 131 L (.long 0 :: S) sh mi mj mr := zr_p (zD_of zk_152 d_152_130 rfl rfl) rfl
theorem q_152_131  : zRun 152 131 L (.long v :: .long u :: S) sh mi mj mr = if u = v then zRun 152 139 L S sh mi mj mr else zRun 152 135 L S sh mi mj mr := zr_cmp (off := 7) (zD_of zk_152 d_152_131 rfl rfl) (zD_of zk_152 d_152_132 rfl rfl) rfl rfl (by decide) (lg_cmp_eq u v)
theorem q_152_132  : zRun 152 132 L (.int x :: S) sh mi mj mr = if x = 0 then zRun 152 139 L S sh mi mj mr else zRun 152 135 L S sh mi mj mr := zr_if (off := 7) (P := x = 0) (zD_of zk_152 d_152_132 rfl rfl) rfl rfl (by decide)
theorem q_152_135  : zRun 152 135 L S sh mi mj mr = zRun 152 136 L (.long 1 :: S) sh mi mj mr := zr_p (zD_of zk_152 d_152_135 rfl rfl) rfl
theorem q_152_136  : zRun 152 136 L S sh mi mj mr = zRun 152 140 L S sh mi mj mr := zr_go (off := 4) (zD_of zk_152 d_152_136 rfl rfl) rfl rfl (by decide)
theorem q_152_139  : zRun 152 139 L S sh mi mj mr = zRun 152 140 L (.long 0 :: S) sh mi mj mr := zr_p (zD_of zk_152 d_152_139 rfl rfl) rfl
theorem q_152_140  : zRun 152 140 L (.long v :: .long u :: S) sh mi mj mr = zRun 152 141 L (.long (u + v) :: S) sh mi mj mr := zr_p (zD_of zk_152 d_152_140 rfl rfl) rfl
theorem q_152_141 : zRun 152 141 [l0, l1, l2, l3, l4, l5, l6, l7, l8, l9, l10, l11, l12, l13, l14, l15, l16, l17, l18] (.long u :: S) sh mi mj mr = zRun 152 143 [l0, l1, l2, l3, l4, l5, l6, l7, zk2 l8, some (.long u), none, l11, l12, l13, l14, l15, l16, l17, l18] S sh mi mj mr := zr_s2 (i := 9) (v := .long u) (L := [l0, l1, l2, l3, l4, l5, l6, l7, l8, l9, l10, l11, l12, l13, l14, l15, l16, l17, l18]) (zD_of zk_152 d_152_141 rfl rfl) rfl rfl rfl rfl
theorem q_152_143r : zRun 152 143 [some (.ref o), l1, l2, l3, l4, l5, l6, l7, l8, l9, l10, l11, l12, l13, l14, l15, l16, l17, l18] S sh mi mj mr = zRun 152 144 [some (.ref o), l1, l2, l3, l4, l5, l6, l7, l8, l9, l10, l11, l12, l13, l14, l15, l16, l17, l18] (.ref o :: S) sh mi mj mr := zr_l (zD_of zk_152 d_152_143 rfl rfl) rfl rfl rfl
theorem q_152_143n : zRun 152 143 [some (.null), l1, l2, l3, l4, l5, l6, l7, l8, l9, l10, l11, l12, l13, l14, l15, l16, l17, l18] S sh mi mj mr = zRun 152 144 [some (.null), l1, l2, l3, l4, l5, l6, l7, l8, l9, l10, l11, l12, l13, l14, l15, l16, l17, l18] (.null :: S) sh mi mj mr := zr_l (zD_of zk_152 d_152_143 rfl rfl) rfl rfl rfl
theorem q_152_144 (h : zIs sh o 0 8) : zRun 152 144 L (.ref o :: S) sh mi mj mr = zRun 152 147 L (va_rf (mr o 10) :: S) sh mi mj mr := zr_getR (zD_of zk_152 d_152_144 rfl rfl) rfl rfl rfl h
theorem q_152_147 : zRun 152 147 [l0, l1, l2, some (.int x), l4, l5, l6, l7, l8, l9, l10, l11, l12, l13, l14, l15, l16, l17, l18] S sh mi mj mr = zRun 152 148 [l0, l1, l2, some (.int x), l4, l5, l6, l7, l8, l9, l10, l11, l12, l13, l14, l15, l16, l17, l18] (.int x :: S) sh mi mj mr := zr_l (zD_of zk_152 d_152_147 rfl rfl) rfl rfl rfl
theorem q_152_148  : zRun 152 148 L S sh mi mj mr = zRun 152 149 L (.int 1 :: S) sh mi mj mr := zr_p (zD_of zk_152 d_152_148 rfl rfl) rfl
theorem q_152_149  : zRun 152 149 L (.int y :: .int x :: S) sh mi mj mr = zRun 152 150 L (.int (x + y) :: S) sh mi mj mr := zr_p (zD_of zk_152 d_152_149 rfl rfl) rfl
theorem q_152_150 : zRun 152 150 [l0, l1, l2, l3, l4, l5, l6, l7, l8, l9, l10, some (.int x), l12, l13, l14, l15, l16, l17, l18] S sh mi mj mr = zRun 152 152 [l0, l1, l2, l3, l4, l5, l6, l7, l8, l9, l10, some (.int x), l12, l13, l14, l15, l16, l17, l18] (.int x :: S) sh mi mj mr := zr_l (zD_of zk_152 d_152_150 rfl rfl) rfl rfl rfl
theorem q_152_152  : zRun 152 152 L (.int y :: .int x :: S) sh mi mj mr = zRun 152 153 L (.int (x + y) :: S) sh mi mj mr := zr_p (zD_of zk_152 d_152_152 rfl rfl) rfl
theorem q_152_153 : zRun 152 153 [l0, l1, l2, l3, l4, l5, l6, l7, l8, l9, l10, l11, some (.long u), l13, l14, l15, l16, l17, l18] S sh mi mj mr = zRun 152 155 [l0, l1, l2, l3, l4, l5, l6, l7, l8, l9, l10, l11, some (.long u), l13, l14, l15, l16, l17, l18] (.long u :: S) sh mi mj mr := zr_l (zD_of zk_152 d_152_153 rfl rfl) rfl rfl rfl
theorem q_152_155  : zRun 152 155 L S sh mi mj mr = zRun 152 158 L (.long 256 :: S) sh mi mj mr := zr_k64 (zD_of zk_152 d_152_155 rfl rfl) rfl
theorem q_152_158  {u0 u1 : Int64} (hS : zcat S ≤ 8) : zRun 152 158 L (.long u1 :: .long u0 :: S) sh mi mj mr = (zCall 147 [.long u0, .long u1] sh mi mj mr).bind fun r => zRun 152 161 L (r.1.toList ++ S) r.2.1 r.2.2.1 r.2.2.2.1 r.2.2.2.2 := zr_S (zD_of zk_152 d_152_158 rfl rfl) rfl zk_147 rfl rfl rfl hS
theorem q_152_161 (h : zAt sh o 2 x) : zRun 152 161 L (.long u :: .int x :: .ref o :: S) sh mi mj mr = zRun 152 162 L S sh mi (zup mj o x.toNatClampNeg u) mr := zr_last (zD_of zk_152 d_152_161 rfl rfl) h
theorem q_152_162  : zRun 152 162 [l0, l1, l2, l3, l4, l5, l6, l7, l8, l9, l10, some (.int x), l12, l13, l14, l15, l16, l17, l18] S sh mi mj mr = zRun 152 165 [l0, l1, l2, l3, l4, l5, l6, l7, l8, l9, zk2 l10, some (.int (x + 1)), l12, l13, l14, l15, l16, l17, l18] S sh mi mj mr := zr_s1 (i := 11) (v := .int (x + 1)) (L := [l0, l1, l2, l3, l4, l5, l6, l7, l8, l9, l10, some (.int x), l12, l13, l14, l15, l16, l17, l18]) (zD_of zk_152 d_152_162 rfl rfl) rfl rfl rfl rfl
theorem q_152_165  : zRun 152 165 L S sh mi mj mr = zRun 152 83 L S sh mi mj mr := zr_go (off := (-82)) (zD_of zk_152 d_152_165 rfl rfl) rfl rfl (by decide)
theorem q_152_168 : zRun 152 168 [l0, l1, l2, l3, l4, l5, l6, l7, l8, some (.long u), l10, l11, l12, l13, l14, l15, l16, l17, l18] S sh mi mj mr = zRun 152 170 [l0, l1, l2, l3, l4, l5, l6, l7, l8, some (.long u), l10, l11, l12, l13, l14, l15, l16, l17, l18] (.long u :: S) sh mi mj mr := zr_l (zD_of zk_152 d_152_168 rfl rfl) rfl rfl rfl
theorem q_152_170 : zRun 152 170 [l0, l1, l2, l3, l4, some (.long u), l6, l7, l8, l9, l10, l11, l12, l13, l14, l15, l16, l17, l18] S sh mi mj mr = zRun 152 172 [l0, l1, l2, l3, l4, some (.long u), l6, l7, l8, l9, l10, l11, l12, l13, l14, l15, l16, l17, l18] (.long u :: S) sh mi mj mr := zr_l (zD_of zk_152 d_152_170 rfl rfl) rfl rfl rfl
theorem q_152_172 : zRun 152 172 [l0, l1, l2, l3, l4, l5, l6, some (.long u), l8, l9, l10, l11, l12, l13, l14, l15, l16, l17, l18] S sh mi mj mr = zRun 152 174 [l0, l1, l2, l3, l4, l5, l6, some (.long u), l8, l9, l10, l11, l12, l13, l14, l15, l16, l17, l18] (.long u :: S) sh mi mj mr := zr_l (zD_of zk_152 d_152_172 rfl rfl) rfl rfl rfl
theorem q_152_174  : zRun 152 174 L (.long v :: .long u :: S) sh mi mj mr = zRun 152 175 L (.long (u * v) :: S) sh mi mj mr := zr_p (zD_of zk_152 d_152_174 rfl rfl) rfl
theorem q_152_175  : zRun 152 175 L S sh mi mj mr = zRun 152 178 L (.long 256 :: S) sh mi mj mr := zr_k64 (zD_of zk_152 d_152_175 rfl rfl) rfl
theorem q_152_178 (h : ¬ v = 0) : zRun 152 178 L (.long v :: .long u :: S) sh mi mj mr = zRun 152 179 L (.long (u - (u / v) * v) :: S) sh mi mj mr := zr_p (zD_of zk_152 d_152_178 rfl rfl) (if_neg h)
theorem q_152_179  : zRun 152 179 L S sh mi mj mr = zRun 152 180 L (.long 0 :: S) sh mi mj mr := zr_p (zD_of zk_152 d_152_179 rfl rfl) rfl
theorem q_152_180  : zRun 152 180 L (.long v :: .long u :: S) sh mi mj mr = if u = v then zRun 152 188 L S sh mi mj mr else zRun 152 184 L S sh mi mj mr := zr_cmp (off := 7) (zD_of zk_152 d_152_180 rfl rfl) (zD_of zk_152 d_152_181 rfl rfl) rfl rfl (by decide) (lg_cmp_eq u v)
theorem q_152_181  : zRun 152 181 L (.int x :: S) sh mi mj mr = if x = 0 then zRun 152 188 L S sh mi mj mr else zRun 152 184 L S sh mi mj mr := zr_if (off := 7) (P := x = 0) (zD_of zk_152 d_152_181 rfl rfl) rfl rfl (by decide)
theorem q_152_184  : zRun 152 184 L S sh mi mj mr = zRun 152 185 L (.long 1 :: S) sh mi mj mr := zr_p (zD_of zk_152 d_152_184 rfl rfl) rfl
theorem q_152_185  : zRun 152 185 L S sh mi mj mr = zRun 152 189 L S sh mi mj mr := zr_go (off := 4) (zD_of zk_152 d_152_185 rfl rfl) rfl rfl (by decide)
theorem q_152_188  : zRun 152 188 L S sh mi mj mr = zRun 152 189 L (.long 0 :: S) sh mi mj mr := zr_p (zD_of zk_152 d_152_188 rfl rfl) rfl
theorem q_152_189  : zRun 152 189 L (.long v :: .long u :: S) sh mi mj mr = zRun 152 190 L (.long (u + v) :: S) sh mi mj mr := zr_p (zD_of zk_152 d_152_189 rfl rfl) rfl
theorem q_152_190 : zRun 152 190 [l0, l1, l2, l3, l4, l5, l6, l7, l8, l9, l10, l11, l12, l13, l14, l15, l16, l17, l18] (.long u :: S) sh mi mj mr = zRun 152 192 [l0, l1, l2, l3, l4, l5, l6, l7, zk2 l8, some (.long u), none, l11, l12, l13, l14, l15, l16, l17, l18] S sh mi mj mr := zr_s2 (i := 9) (v := .long u) (L := [l0, l1, l2, l3, l4, l5, l6, l7, l8, l9, l10, l11, l12, l13, l14, l15, l16, l17, l18]) (zD_of zk_152 d_152_190 rfl rfl) rfl rfl rfl rfl
theorem q_152_192r : zRun 152 192 [some (.ref o), l1, l2, l3, l4, l5, l6, l7, l8, l9, l10, l11, l12, l13, l14, l15, l16, l17, l18] S sh mi mj mr = zRun 152 193 [some (.ref o), l1, l2, l3, l4, l5, l6, l7, l8, l9, l10, l11, l12, l13, l14, l15, l16, l17, l18] (.ref o :: S) sh mi mj mr := zr_l (zD_of zk_152 d_152_192 rfl rfl) rfl rfl rfl
theorem q_152_192n : zRun 152 192 [some (.null), l1, l2, l3, l4, l5, l6, l7, l8, l9, l10, l11, l12, l13, l14, l15, l16, l17, l18] S sh mi mj mr = zRun 152 193 [some (.null), l1, l2, l3, l4, l5, l6, l7, l8, l9, l10, l11, l12, l13, l14, l15, l16, l17, l18] (.null :: S) sh mi mj mr := zr_l (zD_of zk_152 d_152_192 rfl rfl) rfl rfl rfl
theorem q_152_193 (h : zIs sh o 0 8) : zRun 152 193 L (.ref o :: S) sh mi mj mr = zRun 152 196 L (va_rf (mr o 10) :: S) sh mi mj mr := zr_getR (zD_of zk_152 d_152_193 rfl rfl) rfl rfl rfl h
theorem q_152_196 : zRun 152 196 [l0, l1, l2, some (.int x), l4, l5, l6, l7, l8, l9, l10, l11, l12, l13, l14, l15, l16, l17, l18] S sh mi mj mr = zRun 152 197 [l0, l1, l2, some (.int x), l4, l5, l6, l7, l8, l9, l10, l11, l12, l13, l14, l15, l16, l17, l18] (.int x :: S) sh mi mj mr := zr_l (zD_of zk_152 d_152_196 rfl rfl) rfl rfl rfl
theorem q_152_197 : zRun 152 197 [l0, l1, l2, l3, l4, some (.long u), l6, l7, l8, l9, l10, l11, l12, l13, l14, l15, l16, l17, l18] S sh mi mj mr = zRun 152 199 [l0, l1, l2, l3, l4, some (.long u), l6, l7, l8, l9, l10, l11, l12, l13, l14, l15, l16, l17, l18] (.long u :: S) sh mi mj mr := zr_l (zD_of zk_152 d_152_197 rfl rfl) rfl rfl rfl
theorem q_152_199 : zRun 152 199 [l0, l1, l2, l3, l4, l5, l6, some (.long u), l8, l9, l10, l11, l12, l13, l14, l15, l16, l17, l18] S sh mi mj mr = zRun 152 201 [l0, l1, l2, l3, l4, l5, l6, some (.long u), l8, l9, l10, l11, l12, l13, l14, l15, l16, l17, l18] (.long u :: S) sh mi mj mr := zr_l (zD_of zk_152 d_152_199 rfl rfl) rfl rfl rfl
theorem q_152_201  : zRun 152 201 L (.long v :: .long u :: S) sh mi mj mr = zRun 152 202 L (.long (u * v) :: S) sh mi mj mr := zr_p (zD_of zk_152 d_152_201 rfl rfl) rfl
theorem q_152_202  : zRun 152 202 L S sh mi mj mr = zRun 152 205 L (.long 256 :: S) sh mi mj mr := zr_k64 (zD_of zk_152 d_152_202 rfl rfl) rfl
theorem q_152_205  {u0 u1 : Int64} (hS : zcat S ≤ 8) : zRun 152 205 L (.long u1 :: .long u0 :: S) sh mi mj mr = (zCall 147 [.long u0, .long u1] sh mi mj mr).bind fun r => zRun 152 208 L (r.1.toList ++ S) r.2.1 r.2.2.1 r.2.2.2.1 r.2.2.2.2 := zr_S (zD_of zk_152 d_152_205 rfl rfl) rfl zk_147 rfl rfl rfl hS
theorem q_152_208 (h : zAt sh o 2 x) : zRun 152 208 L (.long u :: .int x :: .ref o :: S) sh mi mj mr = zRun 152 209 L S sh mi (zup mj o x.toNatClampNeg u) mr := zr_last (zD_of zk_152 d_152_208 rfl rfl) h
theorem q_152_209r : zRun 152 209 [some (.ref o), l1, l2, l3, l4, l5, l6, l7, l8, l9, l10, l11, l12, l13, l14, l15, l16, l17, l18] S sh mi mj mr = zRun 152 210 [some (.ref o), l1, l2, l3, l4, l5, l6, l7, l8, l9, l10, l11, l12, l13, l14, l15, l16, l17, l18] (.ref o :: S) sh mi mj mr := zr_l (zD_of zk_152 d_152_209 rfl rfl) rfl rfl rfl
theorem q_152_209n : zRun 152 209 [some (.null), l1, l2, l3, l4, l5, l6, l7, l8, l9, l10, l11, l12, l13, l14, l15, l16, l17, l18] S sh mi mj mr = zRun 152 210 [some (.null), l1, l2, l3, l4, l5, l6, l7, l8, l9, l10, l11, l12, l13, l14, l15, l16, l17, l18] (.null :: S) sh mi mj mr := zr_l (zD_of zk_152 d_152_209 rfl rfl) rfl rfl rfl
theorem q_152_210 (h : zIs sh o 0 8) : zRun 152 210 L (.ref o :: S) sh mi mj mr = zRun 152 213 L (va_rf (mr o 10) :: S) sh mi mj mr := zr_getR (zD_of zk_152 d_152_210 rfl rfl) rfl rfl rfl h
theorem q_152_213 : zRun 152 213 [l0, l1, l2, some (.int x), l4, l5, l6, l7, l8, l9, l10, l11, l12, l13, l14, l15, l16, l17, l18] S sh mi mj mr = zRun 152 214 [l0, l1, l2, some (.int x), l4, l5, l6, l7, l8, l9, l10, l11, l12, l13, l14, l15, l16, l17, l18] (.int x :: S) sh mi mj mr := zr_l (zD_of zk_152 d_152_213 rfl rfl) rfl rfl rfl
theorem q_152_214  : zRun 152 214 L S sh mi mj mr = zRun 152 216 L (.int 13 :: S) sh mi mj mr := zr_p (zD_of zk_152 d_152_214 rfl rfl) rfl
theorem q_152_216  : zRun 152 216 L (.int y :: .int x :: S) sh mi mj mr = zRun 152 217 L (.int (x + y) :: S) sh mi mj mr := zr_p (zD_of zk_152 d_152_216 rfl rfl) rfl
theorem q_152_217 : zRun 152 217 [l0, l1, l2, l3, l4, l5, l6, l7, l8, some (.long u), l10, l11, l12, l13, l14, l15, l16, l17, l18] S sh mi mj mr = zRun 152 219 [l0, l1, l2, l3, l4, l5, l6, l7, l8, some (.long u), l10, l11, l12, l13, l14, l15, l16, l17, l18] (.long u :: S) sh mi mj mr := zr_l (zD_of zk_152 d_152_217 rfl rfl) rfl rfl rfl
theorem q_152_219 (h : zAt sh o 2 x) : zRun 152 219 L (.long u :: .int x :: .ref o :: S) sh mi mj mr = zRun 152 220 L S sh mi (zup mj o x.toNatClampNeg u) mr := zr_last (zD_of zk_152 d_152_219 rfl rfl) h
theorem q_152_220r : zRun 152 220 [some (.ref o), l1, l2, l3, l4, l5, l6, l7, l8, l9, l10, l11, l12, l13, l14, l15, l16, l17, l18] S sh mi mj mr = zRun 152 221 [some (.ref o), l1, l2, l3, l4, l5, l6, l7, l8, l9, l10, l11, l12, l13, l14, l15, l16, l17, l18] (.ref o :: S) sh mi mj mr := zr_l (zD_of zk_152 d_152_220 rfl rfl) rfl rfl rfl
theorem q_152_220n : zRun 152 220 [some (.null), l1, l2, l3, l4, l5, l6, l7, l8, l9, l10, l11, l12, l13, l14, l15, l16, l17, l18] S sh mi mj mr = zRun 152 221 [some (.null), l1, l2, l3, l4, l5, l6, l7, l8, l9, l10, l11, l12, l13, l14, l15, l16, l17, l18] (.null :: S) sh mi mj mr := zr_l (zD_of zk_152 d_152_220 rfl rfl) rfl rfl rfl
theorem q_152_221 (h : zIs sh o 0 8) : zRun 152 221 L (.ref o :: S) sh mi mj mr = zRun 152 224 L (va_rf (mr o 10) :: S) sh mi mj mr := zr_getR (zD_of zk_152 d_152_221 rfl rfl) rfl rfl rfl h
theorem q_152_224 : zRun 152 224 [l0, l1, l2, some (.int x), l4, l5, l6, l7, l8, l9, l10, l11, l12, l13, l14, l15, l16, l17, l18] S sh mi mj mr = zRun 152 225 [l0, l1, l2, some (.int x), l4, l5, l6, l7, l8, l9, l10, l11, l12, l13, l14, l15, l16, l17, l18] (.int x :: S) sh mi mj mr := zr_l (zD_of zk_152 d_152_224 rfl rfl) rfl rfl rfl
theorem q_152_225  : zRun 152 225 L S sh mi mj mr = zRun 152 227 L (.int 14 :: S) sh mi mj mr := zr_p (zD_of zk_152 d_152_225 rfl rfl) rfl
theorem q_152_227  : zRun 152 227 L (.int y :: .int x :: S) sh mi mj mr = zRun 152 228 L (.int (x + y) :: S) sh mi mj mr := zr_p (zD_of zk_152 d_152_227 rfl rfl) rfl
theorem q_152_228 (h : zAt sh o 2 x) : zRun 152 228 L (.int x :: .ref o :: S) sh mi mj mr = zRun 152 229 L (.long (mj o x.toNatClampNeg) :: S) sh mi mj mr := zr_lald (zD_of zk_152 d_152_228 rfl rfl) h
theorem q_152_229r : zRun 152 229 [some (.ref o), l1, l2, l3, l4, l5, l6, l7, l8, l9, l10, l11, l12, l13, l14, l15, l16, l17, l18] S sh mi mj mr = zRun 152 230 [some (.ref o), l1, l2, l3, l4, l5, l6, l7, l8, l9, l10, l11, l12, l13, l14, l15, l16, l17, l18] (.ref o :: S) sh mi mj mr := zr_l (zD_of zk_152 d_152_229 rfl rfl) rfl rfl rfl
theorem q_152_229n : zRun 152 229 [some (.null), l1, l2, l3, l4, l5, l6, l7, l8, l9, l10, l11, l12, l13, l14, l15, l16, l17, l18] S sh mi mj mr = zRun 152 230 [some (.null), l1, l2, l3, l4, l5, l6, l7, l8, l9, l10, l11, l12, l13, l14, l15, l16, l17, l18] (.null :: S) sh mi mj mr := zr_l (zD_of zk_152 d_152_229 rfl rfl) rfl rfl rfl
theorem q_152_230 (h : zIs sh o 0 8) : zRun 152 230 L (.ref o :: S) sh mi mj mr = zRun 152 233 L (va_rf (mr o 10) :: S) sh mi mj mr := zr_getR (zD_of zk_152 d_152_230 rfl rfl) rfl rfl rfl h
theorem q_152_233 : zRun 152 233 [l0, l1, l2, l3, some (.int x), l5, l6, l7, l8, l9, l10, l11, l12, l13, l14, l15, l16, l17, l18] S sh mi mj mr = zRun 152 235 [l0, l1, l2, l3, some (.int x), l5, l6, l7, l8, l9, l10, l11, l12, l13, l14, l15, l16, l17, l18] (.int x :: S) sh mi mj mr := zr_l (zD_of zk_152 d_152_233 rfl rfl) rfl rfl rfl
theorem q_152_235  : zRun 152 235 L S sh mi mj mr = zRun 152 237 L (.int 14 :: S) sh mi mj mr := zr_p (zD_of zk_152 d_152_235 rfl rfl) rfl
theorem q_152_237  : zRun 152 237 L (.int y :: .int x :: S) sh mi mj mr = zRun 152 238 L (.int (x + y) :: S) sh mi mj mr := zr_p (zD_of zk_152 d_152_237 rfl rfl) rfl
theorem q_152_238 (h : zAt sh o 2 x) : zRun 152 238 L (.int x :: .ref o :: S) sh mi mj mr = zRun 152 239 L (.long (mj o x.toNatClampNeg) :: S) sh mi mj mr := zr_lald (zD_of zk_152 d_152_238 rfl rfl) h
theorem q_152_239  : zRun 152 239 L (.long v :: .long u :: S) sh mi mj mr = zRun 152 240 L (.long (u * v) :: S) sh mi mj mr := zr_p (zD_of zk_152 d_152_239 rfl rfl) rfl
theorem q_152_240 : zRun 152 240 [l0, l1, l2, l3, l4, l5, l6, l7, l8, l9, l10, l11, l12, l13, l14, l15, l16, l17, l18] (.long u :: S) sh mi mj mr = zRun 152 242 [l0, l1, l2, l3, l4, l5, l6, l7, l8, l9, zk2 l10, some (.long u), none, l13, l14, l15, l16, l17, l18] S sh mi mj mr := zr_s2 (i := 11) (v := .long u) (L := [l0, l1, l2, l3, l4, l5, l6, l7, l8, l9, l10, l11, l12, l13, l14, l15, l16, l17, l18]) (zD_of zk_152 d_152_240 rfl rfl) rfl rfl rfl rfl
theorem q_152_242r : zRun 152 242 [some (.ref o), l1, l2, l3, l4, l5, l6, l7, l8, l9, l10, l11, l12, l13, l14, l15, l16, l17, l18] S sh mi mj mr = zRun 152 243 [some (.ref o), l1, l2, l3, l4, l5, l6, l7, l8, l9, l10, l11, l12, l13, l14, l15, l16, l17, l18] (.ref o :: S) sh mi mj mr := zr_l (zD_of zk_152 d_152_242 rfl rfl) rfl rfl rfl
theorem q_152_242n : zRun 152 242 [some (.null), l1, l2, l3, l4, l5, l6, l7, l8, l9, l10, l11, l12, l13, l14, l15, l16, l17, l18] S sh mi mj mr = zRun 152 243 [some (.null), l1, l2, l3, l4, l5, l6, l7, l8, l9, l10, l11, l12, l13, l14, l15, l16, l17, l18] (.null :: S) sh mi mj mr := zr_l (zD_of zk_152 d_152_242 rfl rfl) rfl rfl rfl
theorem q_152_243 (h : zIs sh o 0 8) : zRun 152 243 L (.ref o :: S) sh mi mj mr = zRun 152 246 L (va_rf (mr o 10) :: S) sh mi mj mr := zr_getR (zD_of zk_152 d_152_243 rfl rfl) rfl rfl rfl h
theorem q_152_246 : zRun 152 246 [l0, l1, l2, some (.int x), l4, l5, l6, l7, l8, l9, l10, l11, l12, l13, l14, l15, l16, l17, l18] S sh mi mj mr = zRun 152 247 [l0, l1, l2, some (.int x), l4, l5, l6, l7, l8, l9, l10, l11, l12, l13, l14, l15, l16, l17, l18] (.int x :: S) sh mi mj mr := zr_l (zD_of zk_152 d_152_246 rfl rfl) rfl rfl rfl
theorem q_152_247  : zRun 152 247 L S sh mi mj mr = zRun 152 249 L (.int 14 :: S) sh mi mj mr := zr_p (zD_of zk_152 d_152_247 rfl rfl) rfl
theorem q_152_249  : zRun 152 249 L (.int y :: .int x :: S) sh mi mj mr = zRun 152 250 L (.int (x + y) :: S) sh mi mj mr := zr_p (zD_of zk_152 d_152_249 rfl rfl) rfl
theorem q_152_250 (h : zAt sh o 2 x) : zRun 152 250 L (.int x :: .ref o :: S) sh mi mj mr = zRun 152 251 L (.long (mj o x.toNatClampNeg) :: S) sh mi mj mr := zr_lald (zD_of zk_152 d_152_250 rfl rfl) h
theorem q_152_251r : zRun 152 251 [some (.ref o), l1, l2, l3, l4, l5, l6, l7, l8, l9, l10, l11, l12, l13, l14, l15, l16, l17, l18] S sh mi mj mr = zRun 152 252 [some (.ref o), l1, l2, l3, l4, l5, l6, l7, l8, l9, l10, l11, l12, l13, l14, l15, l16, l17, l18] (.ref o :: S) sh mi mj mr := zr_l (zD_of zk_152 d_152_251 rfl rfl) rfl rfl rfl
theorem q_152_251n : zRun 152 251 [some (.null), l1, l2, l3, l4, l5, l6, l7, l8, l9, l10, l11, l12, l13, l14, l15, l16, l17, l18] S sh mi mj mr = zRun 152 252 [some (.null), l1, l2, l3, l4, l5, l6, l7, l8, l9, l10, l11, l12, l13, l14, l15, l16, l17, l18] (.null :: S) sh mi mj mr := zr_l (zD_of zk_152 d_152_251 rfl rfl) rfl rfl rfl
theorem q_152_252 (h : zIs sh o 0 8) : zRun 152 252 L (.ref o :: S) sh mi mj mr = zRun 152 255 L (va_rf (mr o 10) :: S) sh mi mj mr := zr_getR (zD_of zk_152 d_152_252 rfl rfl) rfl rfl rfl h
theorem q_152_255 : zRun 152 255 [l0, l1, l2, l3, some (.int x), l5, l6, l7, l8, l9, l10, l11, l12, l13, l14, l15, l16, l17, l18] S sh mi mj mr = zRun 152 257 [l0, l1, l2, l3, some (.int x), l5, l6, l7, l8, l9, l10, l11, l12, l13, l14, l15, l16, l17, l18] (.int x :: S) sh mi mj mr := zr_l (zD_of zk_152 d_152_255 rfl rfl) rfl rfl rfl
theorem q_152_257  : zRun 152 257 L S sh mi mj mr = zRun 152 259 L (.int 15 :: S) sh mi mj mr := zr_p (zD_of zk_152 d_152_257 rfl rfl) rfl
theorem q_152_259  : zRun 152 259 L (.int y :: .int x :: S) sh mi mj mr = zRun 152 260 L (.int (x + y) :: S) sh mi mj mr := zr_p (zD_of zk_152 d_152_259 rfl rfl) rfl
theorem q_152_260 (h : zAt sh o 2 x) : zRun 152 260 L (.int x :: .ref o :: S) sh mi mj mr = zRun 152 261 L (.long (mj o x.toNatClampNeg) :: S) sh mi mj mr := zr_lald (zD_of zk_152 d_152_260 rfl rfl) h
theorem q_152_261  : zRun 152 261 L (.long v :: .long u :: S) sh mi mj mr = zRun 152 262 L (.long (u * v) :: S) sh mi mj mr := zr_p (zD_of zk_152 d_152_261 rfl rfl) rfl
theorem q_152_262 : zRun 152 262 [l0, l1, l2, l3, l4, l5, l6, l7, l8, l9, l10, l11, l12, l13, l14, l15, l16, l17, l18] (.long u :: S) sh mi mj mr = zRun 152 264 [l0, l1, l2, l3, l4, l5, l6, l7, l8, l9, l10, l11, zk2 l12, some (.long u), none, l15, l16, l17, l18] S sh mi mj mr := zr_s2 (i := 13) (v := .long u) (L := [l0, l1, l2, l3, l4, l5, l6, l7, l8, l9, l10, l11, l12, l13, l14, l15, l16, l17, l18]) (zD_of zk_152 d_152_262 rfl rfl) rfl rfl rfl rfl
theorem q_152_264r : zRun 152 264 [some (.ref o), l1, l2, l3, l4, l5, l6, l7, l8, l9, l10, l11, l12, l13, l14, l15, l16, l17, l18] S sh mi mj mr = zRun 152 265 [some (.ref o), l1, l2, l3, l4, l5, l6, l7, l8, l9, l10, l11, l12, l13, l14, l15, l16, l17, l18] (.ref o :: S) sh mi mj mr := zr_l (zD_of zk_152 d_152_264 rfl rfl) rfl rfl rfl
theorem q_152_264n : zRun 152 264 [some (.null), l1, l2, l3, l4, l5, l6, l7, l8, l9, l10, l11, l12, l13, l14, l15, l16, l17, l18] S sh mi mj mr = zRun 152 265 [some (.null), l1, l2, l3, l4, l5, l6, l7, l8, l9, l10, l11, l12, l13, l14, l15, l16, l17, l18] (.null :: S) sh mi mj mr := zr_l (zD_of zk_152 d_152_264 rfl rfl) rfl rfl rfl
theorem q_152_265 (h : zIs sh o 0 8) : zRun 152 265 L (.ref o :: S) sh mi mj mr = zRun 152 268 L (va_rf (mr o 10) :: S) sh mi mj mr := zr_getR (zD_of zk_152 d_152_265 rfl rfl) rfl rfl rfl h
theorem q_152_268 : zRun 152 268 [l0, l1, l2, some (.int x), l4, l5, l6, l7, l8, l9, l10, l11, l12, l13, l14, l15, l16, l17, l18] S sh mi mj mr = zRun 152 269 [l0, l1, l2, some (.int x), l4, l5, l6, l7, l8, l9, l10, l11, l12, l13, l14, l15, l16, l17, l18] (.int x :: S) sh mi mj mr := zr_l (zD_of zk_152 d_152_268 rfl rfl) rfl rfl rfl
theorem q_152_269  : zRun 152 269 L S sh mi mj mr = zRun 152 271 L (.int 15 :: S) sh mi mj mr := zr_p (zD_of zk_152 d_152_269 rfl rfl) rfl
theorem q_152_271  : zRun 152 271 L (.int y :: .int x :: S) sh mi mj mr = zRun 152 272 L (.int (x + y) :: S) sh mi mj mr := zr_p (zD_of zk_152 d_152_271 rfl rfl) rfl
theorem q_152_272 (h : zAt sh o 2 x) : zRun 152 272 L (.int x :: .ref o :: S) sh mi mj mr = zRun 152 273 L (.long (mj o x.toNatClampNeg) :: S) sh mi mj mr := zr_lald (zD_of zk_152 d_152_272 rfl rfl) h
theorem q_152_273r : zRun 152 273 [some (.ref o), l1, l2, l3, l4, l5, l6, l7, l8, l9, l10, l11, l12, l13, l14, l15, l16, l17, l18] S sh mi mj mr = zRun 152 274 [some (.ref o), l1, l2, l3, l4, l5, l6, l7, l8, l9, l10, l11, l12, l13, l14, l15, l16, l17, l18] (.ref o :: S) sh mi mj mr := zr_l (zD_of zk_152 d_152_273 rfl rfl) rfl rfl rfl
theorem q_152_273n : zRun 152 273 [some (.null), l1, l2, l3, l4, l5, l6, l7, l8, l9, l10, l11, l12, l13, l14, l15, l16, l17, l18] S sh mi mj mr = zRun 152 274 [some (.null), l1, l2, l3, l4, l5, l6, l7, l8, l9, l10, l11, l12, l13, l14, l15, l16, l17, l18] (.null :: S) sh mi mj mr := zr_l (zD_of zk_152 d_152_273 rfl rfl) rfl rfl rfl
theorem q_152_274 (h : zIs sh o 0 8) : zRun 152 274 L (.ref o :: S) sh mi mj mr = zRun 152 277 L (va_rf (mr o 10) :: S) sh mi mj mr := zr_getR (zD_of zk_152 d_152_274 rfl rfl) rfl rfl rfl h
theorem q_152_277 : zRun 152 277 [l0, l1, l2, l3, some (.int x), l5, l6, l7, l8, l9, l10, l11, l12, l13, l14, l15, l16, l17, l18] S sh mi mj mr = zRun 152 279 [l0, l1, l2, l3, some (.int x), l5, l6, l7, l8, l9, l10, l11, l12, l13, l14, l15, l16, l17, l18] (.int x :: S) sh mi mj mr := zr_l (zD_of zk_152 d_152_277 rfl rfl) rfl rfl rfl
theorem q_152_279  : zRun 152 279 L S sh mi mj mr = zRun 152 281 L (.int 14 :: S) sh mi mj mr := zr_p (zD_of zk_152 d_152_279 rfl rfl) rfl
theorem q_152_281  : zRun 152 281 L (.int y :: .int x :: S) sh mi mj mr = zRun 152 282 L (.int (x + y) :: S) sh mi mj mr := zr_p (zD_of zk_152 d_152_281 rfl rfl) rfl
theorem q_152_282 (h : zAt sh o 2 x) : zRun 152 282 L (.int x :: .ref o :: S) sh mi mj mr = zRun 152 283 L (.long (mj o x.toNatClampNeg) :: S) sh mi mj mr := zr_lald (zD_of zk_152 d_152_282 rfl rfl) h
theorem q_152_283  : zRun 152 283 L (.long v :: .long u :: S) sh mi mj mr = zRun 152 284 L (.long (u * v) :: S) sh mi mj mr := zr_p (zD_of zk_152 d_152_283 rfl rfl) rfl
theorem q_152_284 : zRun 152 284 [l0, l1, l2, l3, l4, l5, l6, l7, l8, l9, l10, l11, l12, l13, l14, l15, l16, l17, l18] (.long u :: S) sh mi mj mr = zRun 152 286 [l0, l1, l2, l3, l4, l5, l6, l7, l8, l9, l10, l11, l12, l13, zk2 l14, some (.long u), none, l17, l18] S sh mi mj mr := zr_s2 (i := 15) (v := .long u) (L := [l0, l1, l2, l3, l4, l5, l6, l7, l8, l9, l10, l11, l12, l13, l14, l15, l16, l17, l18]) (zD_of zk_152 d_152_284 rfl rfl) rfl rfl rfl rfl
theorem q_152_286r : zRun 152 286 [some (.ref o), l1, l2, l3, l4, l5, l6, l7, l8, l9, l10, l11, l12, l13, l14, l15, l16, l17, l18] S sh mi mj mr = zRun 152 287 [some (.ref o), l1, l2, l3, l4, l5, l6, l7, l8, l9, l10, l11, l12, l13, l14, l15, l16, l17, l18] (.ref o :: S) sh mi mj mr := zr_l (zD_of zk_152 d_152_286 rfl rfl) rfl rfl rfl
theorem q_152_286n : zRun 152 286 [some (.null), l1, l2, l3, l4, l5, l6, l7, l8, l9, l10, l11, l12, l13, l14, l15, l16, l17, l18] S sh mi mj mr = zRun 152 287 [some (.null), l1, l2, l3, l4, l5, l6, l7, l8, l9, l10, l11, l12, l13, l14, l15, l16, l17, l18] (.null :: S) sh mi mj mr := zr_l (zD_of zk_152 d_152_286 rfl rfl) rfl rfl rfl
theorem q_152_287 (h : zIs sh o 0 8) : zRun 152 287 L (.ref o :: S) sh mi mj mr = zRun 152 290 L (va_rf (mr o 10) :: S) sh mi mj mr := zr_getR (zD_of zk_152 d_152_287 rfl rfl) rfl rfl rfl h
theorem q_152_290 : zRun 152 290 [l0, l1, l2, some (.int x), l4, l5, l6, l7, l8, l9, l10, l11, l12, l13, l14, l15, l16, l17, l18] S sh mi mj mr = zRun 152 291 [l0, l1, l2, some (.int x), l4, l5, l6, l7, l8, l9, l10, l11, l12, l13, l14, l15, l16, l17, l18] (.int x :: S) sh mi mj mr := zr_l (zD_of zk_152 d_152_290 rfl rfl) rfl rfl rfl
theorem q_152_291  : zRun 152 291 L S sh mi mj mr = zRun 152 293 L (.int 15 :: S) sh mi mj mr := zr_p (zD_of zk_152 d_152_291 rfl rfl) rfl
theorem q_152_293  : zRun 152 293 L (.int y :: .int x :: S) sh mi mj mr = zRun 152 294 L (.int (x + y) :: S) sh mi mj mr := zr_p (zD_of zk_152 d_152_293 rfl rfl) rfl
theorem q_152_294 (h : zAt sh o 2 x) : zRun 152 294 L (.int x :: .ref o :: S) sh mi mj mr = zRun 152 295 L (.long (mj o x.toNatClampNeg) :: S) sh mi mj mr := zr_lald (zD_of zk_152 d_152_294 rfl rfl) h
theorem q_152_295r : zRun 152 295 [some (.ref o), l1, l2, l3, l4, l5, l6, l7, l8, l9, l10, l11, l12, l13, l14, l15, l16, l17, l18] S sh mi mj mr = zRun 152 296 [some (.ref o), l1, l2, l3, l4, l5, l6, l7, l8, l9, l10, l11, l12, l13, l14, l15, l16, l17, l18] (.ref o :: S) sh mi mj mr := zr_l (zD_of zk_152 d_152_295 rfl rfl) rfl rfl rfl
theorem q_152_295n : zRun 152 295 [some (.null), l1, l2, l3, l4, l5, l6, l7, l8, l9, l10, l11, l12, l13, l14, l15, l16, l17, l18] S sh mi mj mr = zRun 152 296 [some (.null), l1, l2, l3, l4, l5, l6, l7, l8, l9, l10, l11, l12, l13, l14, l15, l16, l17, l18] (.null :: S) sh mi mj mr := zr_l (zD_of zk_152 d_152_295 rfl rfl) rfl rfl rfl
theorem q_152_296 (h : zIs sh o 0 8) : zRun 152 296 L (.ref o :: S) sh mi mj mr = zRun 152 299 L (va_rf (mr o 10) :: S) sh mi mj mr := zr_getR (zD_of zk_152 d_152_296 rfl rfl) rfl rfl rfl h
theorem q_152_299 : zRun 152 299 [l0, l1, l2, l3, some (.int x), l5, l6, l7, l8, l9, l10, l11, l12, l13, l14, l15, l16, l17, l18] S sh mi mj mr = zRun 152 301 [l0, l1, l2, l3, some (.int x), l5, l6, l7, l8, l9, l10, l11, l12, l13, l14, l15, l16, l17, l18] (.int x :: S) sh mi mj mr := zr_l (zD_of zk_152 d_152_299 rfl rfl) rfl rfl rfl
theorem q_152_301  : zRun 152 301 L S sh mi mj mr = zRun 152 303 L (.int 15 :: S) sh mi mj mr := zr_p (zD_of zk_152 d_152_301 rfl rfl) rfl
theorem q_152_303  : zRun 152 303 L (.int y :: .int x :: S) sh mi mj mr = zRun 152 304 L (.int (x + y) :: S) sh mi mj mr := zr_p (zD_of zk_152 d_152_303 rfl rfl) rfl
theorem q_152_304 (h : zAt sh o 2 x) : zRun 152 304 L (.int x :: .ref o :: S) sh mi mj mr = zRun 152 305 L (.long (mj o x.toNatClampNeg) :: S) sh mi mj mr := zr_lald (zD_of zk_152 d_152_304 rfl rfl) h
theorem q_152_305  : zRun 152 305 L (.long v :: .long u :: S) sh mi mj mr = zRun 152 306 L (.long (u * v) :: S) sh mi mj mr := zr_p (zD_of zk_152 d_152_305 rfl rfl) rfl
theorem q_152_306 : zRun 152 306 [l0, l1, l2, l3, l4, l5, l6, l7, l8, l9, l10, l11, l12, l13, l14, l15, l16, l17, l18] (.long u :: S) sh mi mj mr = zRun 152 308 [l0, l1, l2, l3, l4, l5, l6, l7, l8, l9, l10, l11, l12, l13, l14, l15, zk2 l16, some (.long u), none] S sh mi mj mr := zr_s2 (i := 17) (v := .long u) (L := [l0, l1, l2, l3, l4, l5, l6, l7, l8, l9, l10, l11, l12, l13, l14, l15, l16, l17, l18]) (zD_of zk_152 d_152_306 rfl rfl) rfl rfl rfl rfl
theorem q_152_308r : zRun 152 308 [some (.ref o), l1, l2, l3, l4, l5, l6, l7, l8, l9, l10, l11, l12, l13, l14, l15, l16, l17, l18] S sh mi mj mr = zRun 152 309 [some (.ref o), l1, l2, l3, l4, l5, l6, l7, l8, l9, l10, l11, l12, l13, l14, l15, l16, l17, l18] (.ref o :: S) sh mi mj mr := zr_l (zD_of zk_152 d_152_308 rfl rfl) rfl rfl rfl
theorem q_152_308n : zRun 152 308 [some (.null), l1, l2, l3, l4, l5, l6, l7, l8, l9, l10, l11, l12, l13, l14, l15, l16, l17, l18] S sh mi mj mr = zRun 152 309 [some (.null), l1, l2, l3, l4, l5, l6, l7, l8, l9, l10, l11, l12, l13, l14, l15, l16, l17, l18] (.null :: S) sh mi mj mr := zr_l (zD_of zk_152 d_152_308 rfl rfl) rfl rfl rfl
theorem q_152_309 (h : zIs sh o 0 8) : zRun 152 309 L (.ref o :: S) sh mi mj mr = zRun 152 312 L (va_rf (mr o 10) :: S) sh mi mj mr := zr_getR (zD_of zk_152 d_152_309 rfl rfl) rfl rfl rfl h
theorem q_152_312 : zRun 152 312 [l0, l1, l2, some (.int x), l4, l5, l6, l7, l8, l9, l10, l11, l12, l13, l14, l15, l16, l17, l18] S sh mi mj mr = zRun 152 313 [l0, l1, l2, some (.int x), l4, l5, l6, l7, l8, l9, l10, l11, l12, l13, l14, l15, l16, l17, l18] (.int x :: S) sh mi mj mr := zr_l (zD_of zk_152 d_152_312 rfl rfl) rfl rfl rfl
theorem q_152_313  : zRun 152 313 L S sh mi mj mr = zRun 152 315 L (.int 14 :: S) sh mi mj mr := zr_p (zD_of zk_152 d_152_313 rfl rfl) rfl
theorem q_152_315  : zRun 152 315 L (.int y :: .int x :: S) sh mi mj mr = zRun 152 316 L (.int (x + y) :: S) sh mi mj mr := zr_p (zD_of zk_152 d_152_315 rfl rfl) rfl
theorem q_152_316 : zRun 152 316 [l0, l1, l2, l3, l4, l5, l6, l7, l8, l9, l10, some (.long u), l12, l13, l14, l15, l16, l17, l18] S sh mi mj mr = zRun 152 318 [l0, l1, l2, l3, l4, l5, l6, l7, l8, l9, l10, some (.long u), l12, l13, l14, l15, l16, l17, l18] (.long u :: S) sh mi mj mr := zr_l (zD_of zk_152 d_152_316 rfl rfl) rfl rfl rfl
theorem q_152_318 : zRun 152 318 [l0, l1, l2, l3, l4, l5, l6, l7, l8, l9, l10, l11, l12, some (.long u), l14, l15, l16, l17, l18] S sh mi mj mr = zRun 152 320 [l0, l1, l2, l3, l4, l5, l6, l7, l8, l9, l10, l11, l12, some (.long u), l14, l15, l16, l17, l18] (.long u :: S) sh mi mj mr := zr_l (zD_of zk_152 d_152_318 rfl rfl) rfl rfl rfl
theorem q_152_320  {u0 u1 : Int64} (hS : zcat S ≤ 8) : zRun 152 320 L (.long u1 :: .long u0 :: S) sh mi mj mr = (zCall 150 [.long u0, .long u1] sh mi mj mr).bind fun r => zRun 152 323 L (r.1.toList ++ S) r.2.1 r.2.2.1 r.2.2.2.1 r.2.2.2.2 := zr_S (zD_of zk_152 d_152_320 rfl rfl) rfl zk_150 rfl rfl rfl hS
theorem q_152_323 : zRun 152 323 [l0, l1, l2, l3, l4, l5, l6, l7, l8, l9, l10, l11, l12, l13, l14, some (.long u), l16, l17, l18] S sh mi mj mr = zRun 152 325 [l0, l1, l2, l3, l4, l5, l6, l7, l8, l9, l10, l11, l12, l13, l14, some (.long u), l16, l17, l18] (.long u :: S) sh mi mj mr := zr_l (zD_of zk_152 d_152_323 rfl rfl) rfl rfl rfl
theorem q_152_325 : zRun 152 325 [l0, l1, l2, l3, l4, l5, l6, l7, l8, l9, l10, l11, l12, l13, l14, l15, l16, some (.long u), l18] S sh mi mj mr = zRun 152 327 [l0, l1, l2, l3, l4, l5, l6, l7, l8, l9, l10, l11, l12, l13, l14, l15, l16, some (.long u), l18] (.long u :: S) sh mi mj mr := zr_l (zD_of zk_152 d_152_325 rfl rfl) rfl rfl rfl
theorem q_152_327  {u0 u1 : Int64} (hS : zcat S ≤ 8) : zRun 152 327 L (.long u1 :: .long u0 :: S) sh mi mj mr = (zCall 150 [.long u0, .long u1] sh mi mj mr).bind fun r => zRun 152 330 L (r.1.toList ++ S) r.2.1 r.2.2.1 r.2.2.2.1 r.2.2.2.2 := zr_S (zD_of zk_152 d_152_327 rfl rfl) rfl zk_150 rfl rfl rfl hS
theorem q_152_330  {u0 u1 : Int64} (hS : zcat S ≤ 8) : zRun 152 330 L (.long u1 :: .long u0 :: S) sh mi mj mr = (zCall 150 [.long u0, .long u1] sh mi mj mr).bind fun r => zRun 152 333 L (r.1.toList ++ S) r.2.1 r.2.2.1 r.2.2.2.1 r.2.2.2.2 := zr_S (zD_of zk_152 d_152_330 rfl rfl) rfl zk_150 rfl rfl rfl hS
theorem q_152_333  : zRun 152 333 L S sh mi mj mr = zRun 152 336 L (.long 256 :: S) sh mi mj mr := zr_k64 (zD_of zk_152 d_152_333 rfl rfl) rfl
theorem q_152_336  {u0 u1 : Int64} (hS : zcat S ≤ 8) : zRun 152 336 L (.long u1 :: .long u0 :: S) sh mi mj mr = (zCall 147 [.long u0, .long u1] sh mi mj mr).bind fun r => zRun 152 339 L (r.1.toList ++ S) r.2.1 r.2.2.1 r.2.2.2.1 r.2.2.2.2 := zr_S (zD_of zk_152 d_152_336 rfl rfl) rfl zk_147 rfl rfl rfl hS
theorem q_152_339 (h : zAt sh o 2 x) : zRun 152 339 L (.long u :: .int x :: .ref o :: S) sh mi mj mr = zRun 152 340 L S sh mi (zup mj o x.toNatClampNeg u) mr := zr_last (zD_of zk_152 d_152_339 rfl rfl) h
theorem q_152_340r : zRun 152 340 [some (.ref o), l1, l2, l3, l4, l5, l6, l7, l8, l9, l10, l11, l12, l13, l14, l15, l16, l17, l18] S sh mi mj mr = zRun 152 341 [some (.ref o), l1, l2, l3, l4, l5, l6, l7, l8, l9, l10, l11, l12, l13, l14, l15, l16, l17, l18] (.ref o :: S) sh mi mj mr := zr_l (zD_of zk_152 d_152_340 rfl rfl) rfl rfl rfl
theorem q_152_340n : zRun 152 340 [some (.null), l1, l2, l3, l4, l5, l6, l7, l8, l9, l10, l11, l12, l13, l14, l15, l16, l17, l18] S sh mi mj mr = zRun 152 341 [some (.null), l1, l2, l3, l4, l5, l6, l7, l8, l9, l10, l11, l12, l13, l14, l15, l16, l17, l18] (.null :: S) sh mi mj mr := zr_l (zD_of zk_152 d_152_340 rfl rfl) rfl rfl rfl
theorem q_152_341 (h : zIs sh o 0 8) : zRun 152 341 L (.ref o :: S) sh mi mj mr = zRun 152 344 L (va_rf (mr o 10) :: S) sh mi mj mr := zr_getR (zD_of zk_152 d_152_341 rfl rfl) rfl rfl rfl h
theorem q_152_344 : zRun 152 344 [l0, l1, l2, some (.int x), l4, l5, l6, l7, l8, l9, l10, l11, l12, l13, l14, l15, l16, l17, l18] S sh mi mj mr = zRun 152 345 [l0, l1, l2, some (.int x), l4, l5, l6, l7, l8, l9, l10, l11, l12, l13, l14, l15, l16, l17, l18] (.int x :: S) sh mi mj mr := zr_l (zD_of zk_152 d_152_344 rfl rfl) rfl rfl rfl
theorem q_152_345  : zRun 152 345 L S sh mi mj mr = zRun 152 347 L (.int 15 :: S) sh mi mj mr := zr_p (zD_of zk_152 d_152_345 rfl rfl) rfl
theorem q_152_347  : zRun 152 347 L (.int y :: .int x :: S) sh mi mj mr = zRun 152 348 L (.int (x + y) :: S) sh mi mj mr := zr_p (zD_of zk_152 d_152_347 rfl rfl) rfl
theorem q_152_348 : zRun 152 348 [l0, l1, l2, l3, l4, l5, l6, l7, l8, l9, l10, some (.long u), l12, l13, l14, l15, l16, l17, l18] S sh mi mj mr = zRun 152 350 [l0, l1, l2, l3, l4, l5, l6, l7, l8, l9, l10, some (.long u), l12, l13, l14, l15, l16, l17, l18] (.long u :: S) sh mi mj mr := zr_l (zD_of zk_152 d_152_348 rfl rfl) rfl rfl rfl
theorem q_152_350 : zRun 152 350 [l0, l1, l2, l3, l4, l5, l6, l7, l8, l9, l10, l11, l12, some (.long u), l14, l15, l16, l17, l18] S sh mi mj mr = zRun 152 352 [l0, l1, l2, l3, l4, l5, l6, l7, l8, l9, l10, l11, l12, some (.long u), l14, l15, l16, l17, l18] (.long u :: S) sh mi mj mr := zr_l (zD_of zk_152 d_152_350 rfl rfl) rfl rfl rfl
theorem q_152_352  {u0 u1 : Int64} (hS : zcat S ≤ 8) : zRun 152 352 L (.long u1 :: .long u0 :: S) sh mi mj mr = (zCall 151 [.long u0, .long u1] sh mi mj mr).bind fun r => zRun 152 355 L (r.1.toList ++ S) r.2.1 r.2.2.1 r.2.2.2.1 r.2.2.2.2 := zr_S (zD_of zk_152 d_152_352 rfl rfl) rfl zk_151 rfl rfl rfl hS
theorem q_152_355 : zRun 152 355 [l0, l1, l2, l3, l4, l5, l6, l7, l8, l9, l10, l11, l12, l13, l14, some (.long u), l16, l17, l18] S sh mi mj mr = zRun 152 357 [l0, l1, l2, l3, l4, l5, l6, l7, l8, l9, l10, l11, l12, l13, l14, some (.long u), l16, l17, l18] (.long u :: S) sh mi mj mr := zr_l (zD_of zk_152 d_152_355 rfl rfl) rfl rfl rfl
theorem q_152_357 : zRun 152 357 [l0, l1, l2, l3, l4, l5, l6, l7, l8, l9, l10, l11, l12, l13, l14, l15, l16, some (.long u), l18] S sh mi mj mr = zRun 152 359 [l0, l1, l2, l3, l4, l5, l6, l7, l8, l9, l10, l11, l12, l13, l14, l15, l16, some (.long u), l18] (.long u :: S) sh mi mj mr := zr_l (zD_of zk_152 d_152_357 rfl rfl) rfl rfl rfl
theorem q_152_359  {u0 u1 : Int64} (hS : zcat S ≤ 8) : zRun 152 359 L (.long u1 :: .long u0 :: S) sh mi mj mr = (zCall 151 [.long u0, .long u1] sh mi mj mr).bind fun r => zRun 152 362 L (r.1.toList ++ S) r.2.1 r.2.2.1 r.2.2.2.1 r.2.2.2.2 := zr_S (zD_of zk_152 d_152_359 rfl rfl) rfl zk_151 rfl rfl rfl hS
theorem q_152_362  {u0 u1 : Int64} (hS : zcat S ≤ 8) : zRun 152 362 L (.long u1 :: .long u0 :: S) sh mi mj mr = (zCall 151 [.long u0, .long u1] sh mi mj mr).bind fun r => zRun 152 365 L (r.1.toList ++ S) r.2.1 r.2.2.1 r.2.2.2.1 r.2.2.2.2 := zr_S (zD_of zk_152 d_152_362 rfl rfl) rfl zk_151 rfl rfl rfl hS
theorem q_152_365  : zRun 152 365 L S sh mi mj mr = zRun 152 368 L (.long 256 :: S) sh mi mj mr := zr_k64 (zD_of zk_152 d_152_365 rfl rfl) rfl
theorem q_152_368  {u0 u1 : Int64} (hS : zcat S ≤ 8) : zRun 152 368 L (.long u1 :: .long u0 :: S) sh mi mj mr = (zCall 148 [.long u0, .long u1] sh mi mj mr).bind fun r => zRun 152 371 L (r.1.toList ++ S) r.2.1 r.2.2.1 r.2.2.2.1 r.2.2.2.2 := zr_S (zD_of zk_152 d_152_368 rfl rfl) rfl zk_148 rfl rfl rfl hS
theorem q_152_371 (h : zAt sh o 2 x) : zRun 152 371 L (.long u :: .int x :: .ref o :: S) sh mi mj mr = zRun 152 372 L S sh mi (zup mj o x.toNatClampNeg u) mr := zr_last (zD_of zk_152 d_152_371 rfl rfl) h
theorem q_152_372  : zRun 152 372 L [] sh mi mj mr = some (none, sh, mi, mj, mr) := zr_ret (zD_of zk_152 d_152_372 rfl rfl) rfl rfl rfl rfl rfl rfl
theorem e_152 {x0 x1 : Int32} : zCall 152 [.ref o, .int x0, .int x1] sh mi mj mr = zRun 152 0 [some (.ref o), some (.int x0), some (.int x1), none, none, none, none, none, none, none, none, none, none, none, none, none, none, none, none] [] sh mi mj mr := rfl
theorem d_153_0 : decode cX8_square 0 = .ok (.bipush 17, 2) := by decide +kernel
theorem d_153_2 : decode cX8_square 2 = .ok (.iload_n 1, 1) := by decide +kernel
theorem d_153_3 : decode cX8_square 3 = .ok (.imul, 1) := by decide +kernel
theorem d_153_4 : decode cX8_square 4 = .ok (.istore_n 2, 1) := by decide +kernel
theorem d_153_5 : decode cX8_square 5 = .ok (.aload_n 0, 1) := by decide +kernel
theorem d_153_6 : decode cX8_square 6 = .ok (.getfield 29, 3) := by decide +kernel
theorem d_153_9 : decode cX8_square 9 = .ok (.iload_n 2, 1) := by decide +kernel
theorem d_153_10 : decode cX8_square 10 = .ok (.laload, 1) := by decide +kernel
theorem d_153_11 : decode cX8_square 11 = .ok (.lstore_n 3, 1) := by decide +kernel
theorem d_153_12 : decode cX8_square 12 = .ok (.aload_n 0, 1) := by decide +kernel
theorem d_153_13 : decode cX8_square 13 = .ok (.iload_n 1, 1) := by decide +kernel
theorem d_153_14 : decode cX8_square 14 = .ok (.invokevirtual 153, 3) := by decide +kernel
theorem d_153_17 : decode cX8_square 17 = .ok (.lstore 5, 2) := by decide +kernel
theorem d_153_19 : decode cX8_square 19 = .ok (.ldc2_w 181, 3) := by decide +kernel
theorem d_153_22 : decode cX8_square 22 = .ok (.lload_n 3, 1) := by decide +kernel
theorem d_153_23 : decode cX8_square 23 = .ok (.invokestatic 149, 3) := by decide +kernel
theorem d_153_26 : decode cX8_square 26 = .ok (.lmul, 1) := by decide +kernel
theorem d_153_27 : decode cX8_square 27 = .ok (.aload_n 0, 1) := by decide +kernel
theorem d_153_28 : decode cX8_square 28 = .ok (.getfield 29, 3) := by decide +kernel
theorem d_153_31 : decode cX8_square 31 = .ok (.iload_n 2, 1) := by decide +kernel
theorem d_153_32 : decode cX8_square 32 = .ok (.bipush 13, 2) := by decide +kernel
theorem d_153_34 : decode cX8_square 34 = .ok (.iadd, 1) := by decide +kernel
theorem d_153_35 : decode cX8_square 35 = .ok (.laload, 1) := by decide +kernel
theorem d_153_36 : decode cX8_square 36 = .ok (.lmul, 1) := by decide +kernel
theorem d_153_37 : decode cX8_square 37 = .ok (.lload 5, 2) := by decide +kernel
theorem d_153_39 : decode cX8_square 39 = .ok (.lload 5, 2) := by decide +kernel
theorem d_153_41 : decode cX8_square 41 = .ok (.lmul, 1) := by decide +kernel
theorem d_153_42 : decode cX8_square 42 = .ok (.ladd, 1) := by decide +kernel
theorem d_153_43 : decode cX8_square 43 = .ok (.ldc2_w 183, 3) := by decide +kernel
theorem d_153_46 : decode cX8_square 46 = .ok (.invokestatic 168, 3) := by decide +kernel
theorem d_153_49 : decode cX8_square 49 = .ok (.lstore 7, 2) := by decide +kernel
theorem d_153_51 : decode cX8_square 51 = .ok (.iconst 0, 1) := by decide +kernel
theorem d_153_52 : decode cX8_square 52 = .ok (.istore 9, 2) := by decide +kernel
theorem d_153_54 : decode cX8_square 54 = .ok (.iload 9, 2) := by decide +kernel
theorem d_153_56 : decode cX8_square 56 = .ok (.bipush 12, 2) := by decide +kernel
theorem d_153_58 : decode cX8_square 58 = .ok (.if_icmp .ge 68, 3) := by decide +kernel
theorem d_153_61 : decode cX8_square 61 = .ok (.ldc2_w 185, 3) := by decide +kernel
theorem d_153_64 : decode cX8_square 64 = .ok (.lload_n 3, 1) := by decide +kernel
theorem d_153_65 : decode cX8_square 65 = .ok (.lmul, 1) := by decide +kernel
theorem d_153_66 : decode cX8_square 66 = .ok (.aload_n 0, 1) := by decide +kernel
theorem d_153_67 : decode cX8_square 67 = .ok (.getfield 29, 3) := by decide +kernel
theorem d_153_70 : decode cX8_square 70 = .ok (.iload_n 2, 1) := by decide +kernel
theorem d_153_71 : decode cX8_square 71 = .ok (.iconst 1, 1) := by decide +kernel
theorem d_153_72 : decode cX8_square 72 = .ok (.iadd, 1) := by decide +kernel
theorem d_153_73 : decode cX8_square 73 = .ok (.iload 9, 2) := by decide +kernel
theorem d_153_75 : decode cX8_square 75 = .ok (.iadd, 1) := by decide +kernel
theorem d_153_76 : decode cX8_square 76 = .ok (.laload, 1) := by decide +kernel
theorem d_153_77 : decode cX8_square 77 = .ok (.lmul, 1) := by decide +kernel
theorem d_153_78 : decode cX8_square 78 = .ok (.lstore 10, 2) := by decide +kernel
theorem d_153_80 : decode cX8_square 80 = .ok (.lload 7, 2) := by decide +kernel
theorem d_153_82 : decode cX8_square 82 = .ok (.lload 10, 2) := by decide +kernel
theorem d_153_84 : decode cX8_square 84 = .ok (.ldc2_w 166, 3) := by decide +kernel
theorem d_153_87 : decode cX8_square 87 = .ok (.lrem, 1) := by decide +kernel
theorem d_153_88 : decode cX8_square 88 = .ok (.lconst 0, 1) := by decide +kernel
theorem d_153_89 : decode cX8_square 89 = .ok (.lcmp, 1) := by decide +kernel
theorem d_153_90 : decode cX8_square 90 = .ok (.ifCond .eq 7, 3) := by decide +kernel
theorem d_153_93 : decode cX8_square 93 = .ok (.lconst 1, 1) := by decide +kernel
theorem d_153_94 : decode cX8_square 94 = .ok (.goto 4, 3) := by decide +kernel
theorem d_153_97 : decode cX8_square 97 = .ok (.lconst 0, 1) := by decide +kernel
theorem d_153_98 : decode cX8_square 98 = .ok (.ladd, 1) := by decide +kernel
theorem d_153_99 : decode cX8_square 99 = .ok (.lstore 7, 2) := by decide +kernel
theorem d_153_101 : decode cX8_square 101 = .ok (.aload_n 0, 1) := by decide +kernel
theorem d_153_102 : decode cX8_square 102 = .ok (.getfield 29, 3) := by decide +kernel
theorem d_153_105 : decode cX8_square 105 = .ok (.iload_n 2, 1) := by decide +kernel
theorem d_153_106 : decode cX8_square 106 = .ok (.iconst 1, 1) := by decide +kernel
theorem d_153_107 : decode cX8_square 107 = .ok (.iadd, 1) := by decide +kernel
theorem d_153_108 : decode cX8_square 108 = .ok (.iload 9, 2) := by decide +kernel
theorem d_153_110 : decode cX8_square 110 = .ok (.iadd, 1) := by decide +kernel
theorem d_153_111 : decode cX8_square 111 = .ok (.lload 10, 2) := by decide +kernel
theorem d_153_113 : decode cX8_square 113 = .ok (.ldc2_w 166, 3) := by decide +kernel
theorem d_153_116 : decode cX8_square 116 = .ok (.invokestatic 172, 3) := by decide +kernel
theorem d_153_119 : decode cX8_square 119 = .ok (.lastore, 1) := by decide +kernel
theorem d_153_120 : decode cX8_square 120 = .ok (.iinc 9 1, 3) := by decide +kernel
theorem d_153_123 : decode cX8_square 123 = .ok (.goto (-69), 3) := by decide +kernel
theorem d_153_126 : decode cX8_square 126 = .ok (.ldc2_w 185, 3) := by decide +kernel
theorem d_153_129 : decode cX8_square 129 = .ok (.lload_n 3, 1) := by decide +kernel
theorem d_153_130 : decode cX8_square 130 = .ok (.lmul, 1) := by decide +kernel
theorem d_153_131 : decode cX8_square 131 = .ok (.lload_n 3, 1) := by decide +kernel
theorem d_153_132 : decode cX8_square 132 = .ok (.lmul, 1) := by decide +kernel
theorem d_153_133 : decode cX8_square 133 = .ok (.lload 5, 2) := by decide +kernel
theorem d_153_135 : decode cX8_square 135 = .ok (.lload 5, 2) := by decide +kernel
theorem d_153_137 : decode cX8_square 137 = .ok (.lmul, 1) := by decide +kernel
theorem d_153_138 : decode cX8_square 138 = .ok (.ladd, 1) := by decide +kernel
theorem d_153_139 : decode cX8_square 139 = .ok (.lstore 9, 2) := by decide +kernel
theorem d_153_141 : decode cX8_square 141 = .ok (.lload 7, 2) := by decide +kernel
theorem d_153_143 : decode cX8_square 143 = .ok (.lload 9, 2) := by decide +kernel
theorem d_153_145 : decode cX8_square 145 = .ok (.ldc2_w 183, 3) := by decide +kernel
theorem d_153_148 : decode cX8_square 148 = .ok (.lrem, 1) := by decide +kernel
theorem d_153_149 : decode cX8_square 149 = .ok (.lconst 0, 1) := by decide +kernel
theorem d_153_150 : decode cX8_square 150 = .ok (.lcmp, 1) := by decide +kernel
theorem d_153_151 : decode cX8_square 151 = .ok (.ifCond .eq 7, 3) := by decide +kernel
theorem d_153_154 : decode cX8_square 154 = .ok (.lconst 1, 1) := by decide +kernel
theorem d_153_155 : decode cX8_square 155 = .ok (.goto 4, 3) := by decide +kernel
theorem d_153_158 : decode cX8_square 158 = .ok (.lconst 0, 1) := by decide +kernel
theorem d_153_159 : decode cX8_square 159 = .ok (.ladd, 1) := by decide +kernel
theorem d_153_160 : decode cX8_square 160 = .ok (.lstore 7, 2) := by decide +kernel
theorem d_153_162 : decode cX8_square 162 = .ok (.aload_n 0, 1) := by decide +kernel
theorem d_153_163 : decode cX8_square 163 = .ok (.getfield 29, 3) := by decide +kernel
theorem d_153_166 : decode cX8_square 166 = .ok (.iload_n 2, 1) := by decide +kernel
theorem d_153_167 : decode cX8_square 167 = .ok (.lload 9, 2) := by decide +kernel
theorem d_153_169 : decode cX8_square 169 = .ok (.ldc2_w 183, 3) := by decide +kernel
theorem d_153_172 : decode cX8_square 172 = .ok (.invokestatic 172, 3) := by decide +kernel
theorem d_153_175 : decode cX8_square 175 = .ok (.lastore, 1) := by decide +kernel
theorem d_153_176 : decode cX8_square 176 = .ok (.aload_n 0, 1) := by decide +kernel
theorem d_153_177 : decode cX8_square 177 = .ok (.getfield 29, 3) := by decide +kernel
theorem d_153_180 : decode cX8_square 180 = .ok (.iload_n 2, 1) := by decide +kernel
theorem d_153_181 : decode cX8_square 181 = .ok (.bipush 13, 2) := by decide +kernel
theorem d_153_183 : decode cX8_square 183 = .ok (.iadd, 1) := by decide +kernel
theorem d_153_184 : decode cX8_square 184 = .ok (.lload 7, 2) := by decide +kernel
theorem d_153_186 : decode cX8_square 186 = .ok (.lastore, 1) := by decide +kernel
theorem d_153_187 : decode cX8_square 187 = .ok (.aload_n 0, 1) := by decide +kernel
theorem d_153_188 : decode cX8_square 188 = .ok (.getfield 29, 3) := by decide +kernel
theorem d_153_191 : decode cX8_square 191 = .ok (.iload_n 2, 1) := by decide +kernel
theorem d_153_192 : decode cX8_square 192 = .ok (.bipush 14, 2) := by decide +kernel
theorem d_153_194 : decode cX8_square 194 = .ok (.iadd, 1) := by decide +kernel
theorem d_153_195 : decode cX8_square 195 = .ok (.laload, 1) := by decide +kernel
theorem d_153_196 : decode cX8_square 196 = .ok (.aload_n 0, 1) := by decide +kernel
theorem d_153_197 : decode cX8_square 197 = .ok (.getfield 29, 3) := by decide +kernel
theorem d_153_200 : decode cX8_square 200 = .ok (.iload_n 2, 1) := by decide +kernel
theorem d_153_201 : decode cX8_square 201 = .ok (.bipush 14, 2) := by decide +kernel
theorem d_153_203 : decode cX8_square 203 = .ok (.iadd, 1) := by decide +kernel
theorem d_153_204 : decode cX8_square 204 = .ok (.laload, 1) := by decide +kernel
theorem d_153_205 : decode cX8_square 205 = .ok (.lmul, 1) := by decide +kernel
theorem d_153_206 : decode cX8_square 206 = .ok (.lstore 11, 2) := by decide +kernel
theorem d_153_208 : decode cX8_square 208 = .ok (.aload_n 0, 1) := by decide +kernel
theorem d_153_209 : decode cX8_square 209 = .ok (.getfield 29, 3) := by decide +kernel
theorem d_153_212 : decode cX8_square 212 = .ok (.iload_n 2, 1) := by decide +kernel
theorem d_153_213 : decode cX8_square 213 = .ok (.bipush 15, 2) := by decide +kernel
theorem d_153_215 : decode cX8_square 215 = .ok (.iadd, 1) := by decide +kernel
theorem d_153_216 : decode cX8_square 216 = .ok (.laload, 1) := by decide +kernel
theorem d_153_217 : decode cX8_square 217 = .ok (.aload_n 0, 1) := by decide +kernel
theorem d_153_218 : decode cX8_square 218 = .ok (.getfield 29, 3) := by decide +kernel
theorem d_153_221 : decode cX8_square 221 = .ok (.iload_n 2, 1) := by decide +kernel
theorem d_153_222 : decode cX8_square 222 = .ok (.bipush 15, 2) := by decide +kernel
theorem d_153_224 : decode cX8_square 224 = .ok (.iadd, 1) := by decide +kernel
theorem d_153_225 : decode cX8_square 225 = .ok (.laload, 1) := by decide +kernel
theorem d_153_226 : decode cX8_square 226 = .ok (.lmul, 1) := by decide +kernel
theorem d_153_227 : decode cX8_square 227 = .ok (.lstore 13, 2) := by decide +kernel
theorem d_153_229 : decode cX8_square 229 = .ok (.aload_n 0, 1) := by decide +kernel
theorem d_153_230 : decode cX8_square 230 = .ok (.getfield 29, 3) := by decide +kernel
theorem d_153_233 : decode cX8_square 233 = .ok (.iload_n 2, 1) := by decide +kernel
theorem d_153_234 : decode cX8_square 234 = .ok (.bipush 14, 2) := by decide +kernel
theorem d_153_236 : decode cX8_square 236 = .ok (.iadd, 1) := by decide +kernel
theorem d_153_237 : decode cX8_square 237 = .ok (.laload, 1) := by decide +kernel
theorem d_153_238 : decode cX8_square 238 = .ok (.lconst 0, 1) := by decide +kernel
theorem d_153_239 : decode cX8_square 239 = .ok (.lcmp, 1) := by decide +kernel
theorem d_153_240 : decode cX8_square 240 = .ok (.ifCond .gt 21, 3) := by decide +kernel
theorem d_153_243 : decode cX8_square 243 = .ok (.aload_n 0, 1) := by decide +kernel
theorem d_153_244 : decode cX8_square 244 = .ok (.getfield 29, 3) := by decide +kernel
theorem d_153_247 : decode cX8_square 247 = .ok (.iload_n 2, 1) := by decide +kernel
theorem d_153_248 : decode cX8_square 248 = .ok (.bipush 15, 2) := by decide +kernel
theorem d_153_250 : decode cX8_square 250 = .ok (.iadd, 1) := by decide +kernel
theorem d_153_251 : decode cX8_square 251 = .ok (.laload, 1) := by decide +kernel
theorem d_153_252 : decode cX8_square 252 = .ok (.lconst 0, 1) := by decide +kernel
theorem d_153_253 : decode cX8_square 253 = .ok (.lcmp, 1) := by decide +kernel
theorem d_153_254 : decode cX8_square 254 = .ok (.ifCond .lt 7, 3) := by decide +kernel
theorem d_153_257 : decode cX8_square 257 = .ok (.iconst 1, 1) := by decide +kernel
theorem d_153_258 : decode cX8_square 258 = .ok (.goto 4, 3) := by decide +kernel
theorem d_153_261 : decode cX8_square 261 = .ok (.iconst 0, 1) := by decide +kernel
theorem d_153_262 : decode cX8_square 262 = .ok (.istore 15, 2) := by decide +kernel
theorem d_153_264 : decode cX8_square 264 = .ok (.aload_n 0, 1) := by decide +kernel
theorem d_153_265 : decode cX8_square 265 = .ok (.getfield 29, 3) := by decide +kernel
theorem d_153_268 : decode cX8_square 268 = .ok (.iload_n 2, 1) := by decide +kernel
theorem d_153_269 : decode cX8_square 269 = .ok (.bipush 14, 2) := by decide +kernel
theorem d_153_271 : decode cX8_square 271 = .ok (.iadd, 1) := by decide +kernel
theorem d_153_272 : decode cX8_square 272 = .ok (.iload 15, 2) := by decide +kernel
theorem d_153_274 : decode cX8_square 274 = .ok (.ifCond .eq 7, 3) := by decide +kernel
theorem d_153_277 : decode cX8_square 277 = .ok (.lconst 0, 1) := by decide +kernel
theorem d_153_278 : decode cX8_square 278 = .ok (.goto 16, 3) := by decide +kernel
theorem d_153_281 : decode cX8_square 281 = .ok (.lload 11, 2) := by decide +kernel
theorem d_153_283 : decode cX8_square 283 = .ok (.lload 13, 2) := by decide +kernel
theorem d_153_285 : decode cX8_square 285 = .ok (.invokestatic 175, 3) := by decide +kernel
theorem d_153_288 : decode cX8_square 288 = .ok (.ldc2_w 166, 3) := by decide +kernel
theorem d_153_291 : decode cX8_square 291 = .ok (.invokestatic 172, 3) := by decide +kernel
theorem d_153_294 : decode cX8_square 294 = .ok (.lastore, 1) := by decide +kernel
theorem d_153_295 : decode cX8_square 295 = .ok (.aload_n 0, 1) := by decide +kernel
theorem d_153_296 : decode cX8_square 296 = .ok (.getfield 29, 3) := by decide +kernel
theorem d_153_299 : decode cX8_square 299 = .ok (.iload_n 2, 1) := by decide +kernel
theorem d_153_300 : decode cX8_square 300 = .ok (.bipush 15, 2) := by decide +kernel
theorem d_153_302 : decode cX8_square 302 = .ok (.iadd, 1) := by decide +kernel
theorem d_153_303 : decode cX8_square 303 = .ok (.lload 11, 2) := by decide +kernel
theorem d_153_305 : decode cX8_square 305 = .ok (.lload 13, 2) := by decide +kernel
theorem d_153_307 : decode cX8_square 307 = .ok (.invokestatic 178, 3) := by decide +kernel
theorem d_153_310 : decode cX8_square 310 = .ok (.ldc2_w 166, 3) := by decide +kernel
theorem d_153_313 : decode cX8_square 313 = .ok (.invokestatic 168, 3) := by decide +kernel
theorem d_153_316 : decode cX8_square 316 = .ok (.lastore, 1) := by decide +kernel
theorem d_153_317 : decode cX8_square 317 = .ok (.return_, 1) := by decide +kernel
theorem q_153_0  : zRun 153 0 L S sh mi mj mr = zRun 153 2 L (.int 17 :: S) sh mi mj mr := zr_p (zD_of zk_153 d_153_0 rfl rfl) rfl
theorem q_153_2 : zRun 153 2 [l0, some (.int x), l2, l3, l4, l5, l6, l7, l8, l9, l10, l11, l12, l13, l14, l15] S sh mi mj mr = zRun 153 3 [l0, some (.int x), l2, l3, l4, l5, l6, l7, l8, l9, l10, l11, l12, l13, l14, l15] (.int x :: S) sh mi mj mr := zr_l (zD_of zk_153 d_153_2 rfl rfl) rfl rfl rfl
theorem q_153_3  : zRun 153 3 L (.int y :: .int x :: S) sh mi mj mr = zRun 153 4 L (.int (x * y) :: S) sh mi mj mr := zr_p (zD_of zk_153 d_153_3 rfl rfl) rfl
theorem q_153_4 : zRun 153 4 [l0, l1, l2, l3, l4, l5, l6, l7, l8, l9, l10, l11, l12, l13, l14, l15] (.int x :: S) sh mi mj mr = zRun 153 5 [l0, zk2 l1, some (.int x), l3, l4, l5, l6, l7, l8, l9, l10, l11, l12, l13, l14, l15] S sh mi mj mr := zr_s1 (i := 2) (v := .int x) (L := [l0, l1, l2, l3, l4, l5, l6, l7, l8, l9, l10, l11, l12, l13, l14, l15]) (zD_of zk_153 d_153_4 rfl rfl) rfl rfl rfl rfl
theorem q_153_5r : zRun 153 5 [some (.ref o), l1, l2, l3, l4, l5, l6, l7, l8, l9, l10, l11, l12, l13, l14, l15] S sh mi mj mr = zRun 153 6 [some (.ref o), l1, l2, l3, l4, l5, l6, l7, l8, l9, l10, l11, l12, l13, l14, l15] (.ref o :: S) sh mi mj mr := zr_l (zD_of zk_153 d_153_5 rfl rfl) rfl rfl rfl
theorem q_153_5n : zRun 153 5 [some (.null), l1, l2, l3, l4, l5, l6, l7, l8, l9, l10, l11, l12, l13, l14, l15] S sh mi mj mr = zRun 153 6 [some (.null), l1, l2, l3, l4, l5, l6, l7, l8, l9, l10, l11, l12, l13, l14, l15] (.null :: S) sh mi mj mr := zr_l (zD_of zk_153 d_153_5 rfl rfl) rfl rfl rfl
theorem q_153_6 (h : zIs sh o 0 8) : zRun 153 6 L (.ref o :: S) sh mi mj mr = zRun 153 9 L (va_rf (mr o 10) :: S) sh mi mj mr := zr_getR (zD_of zk_153 d_153_6 rfl rfl) rfl rfl rfl h
theorem q_153_9 : zRun 153 9 [l0, l1, some (.int x), l3, l4, l5, l6, l7, l8, l9, l10, l11, l12, l13, l14, l15] S sh mi mj mr = zRun 153 10 [l0, l1, some (.int x), l3, l4, l5, l6, l7, l8, l9, l10, l11, l12, l13, l14, l15] (.int x :: S) sh mi mj mr := zr_l (zD_of zk_153 d_153_9 rfl rfl) rfl rfl rfl
theorem q_153_10 (h : zAt sh o 2 x) : zRun 153 10 L (.int x :: .ref o :: S) sh mi mj mr = zRun 153 11 L (.long (mj o x.toNatClampNeg) :: S) sh mi mj mr := zr_lald (zD_of zk_153 d_153_10 rfl rfl) h
theorem q_153_11 : zRun 153 11 [l0, l1, l2, l3, l4, l5, l6, l7, l8, l9, l10, l11, l12, l13, l14, l15] (.long u :: S) sh mi mj mr = zRun 153 12 [l0, l1, zk2 l2, some (.long u), none, l5, l6, l7, l8, l9, l10, l11, l12, l13, l14, l15] S sh mi mj mr := zr_s2 (i := 3) (v := .long u) (L := [l0, l1, l2, l3, l4, l5, l6, l7, l8, l9, l10, l11, l12, l13, l14, l15]) (zD_of zk_153 d_153_11 rfl rfl) rfl rfl rfl rfl
theorem q_153_12r : zRun 153 12 [some (.ref o), l1, l2, l3, l4, l5, l6, l7, l8, l9, l10, l11, l12, l13, l14, l15] S sh mi mj mr = zRun 153 13 [some (.ref o), l1, l2, l3, l4, l5, l6, l7, l8, l9, l10, l11, l12, l13, l14, l15] (.ref o :: S) sh mi mj mr := zr_l (zD_of zk_153 d_153_12 rfl rfl) rfl rfl rfl
theorem q_153_12n : zRun 153 12 [some (.null), l1, l2, l3, l4, l5, l6, l7, l8, l9, l10, l11, l12, l13, l14, l15] S sh mi mj mr = zRun 153 13 [some (.null), l1, l2, l3, l4, l5, l6, l7, l8, l9, l10, l11, l12, l13, l14, l15] (.null :: S) sh mi mj mr := zr_l (zD_of zk_153 d_153_12 rfl rfl) rfl rfl rfl
theorem q_153_13 : zRun 153 13 [l0, some (.int x), l2, l3, l4, l5, l6, l7, l8, l9, l10, l11, l12, l13, l14, l15] S sh mi mj mr = zRun 153 14 [l0, some (.int x), l2, l3, l4, l5, l6, l7, l8, l9, l10, l11, l12, l13, l14, l15] (.int x :: S) sh mi mj mr := zr_l (zD_of zk_153 d_153_13 rfl rfl) rfl rfl rfl
theorem q_153_14  {x0 : Int32} (hS : zcat S ≤ 8) (h : zIs sh o 0 8) : zRun 153 14 L (.int x0 :: .ref o :: S) sh mi mj mr = (zCall 138 [.ref o, .int x0] sh mi mj mr).bind fun r => zRun 153 17 L (r.1.toList ++ S) r.2.1 r.2.2.1 r.2.2.2.1 r.2.2.2.2 := zr_V (zD_of zk_153 d_153_14 rfl rfl) rfl zk_138 rfl rfl rfl hS h
theorem q_153_17 : zRun 153 17 [l0, l1, l2, l3, l4, l5, l6, l7, l8, l9, l10, l11, l12, l13, l14, l15] (.long u :: S) sh mi mj mr = zRun 153 19 [l0, l1, l2, l3, zk2 l4, some (.long u), none, l7, l8, l9, l10, l11, l12, l13, l14, l15] S sh mi mj mr := zr_s2 (i := 5) (v := .long u) (L := [l0, l1, l2, l3, l4, l5, l6, l7, l8, l9, l10, l11, l12, l13, l14, l15]) (zD_of zk_153 d_153_17 rfl rfl) rfl rfl rfl rfl
theorem q_153_19  : zRun 153 19 L S sh mi mj mr = zRun 153 22 L (.long 4 :: S) sh mi mj mr := zr_k64 (zD_of zk_153 d_153_19 rfl rfl) rfl
theorem q_153_22 : zRun 153 22 [l0, l1, l2, some (.long u), l4, l5, l6, l7, l8, l9, l10, l11, l12, l13, l14, l15] S sh mi mj mr = zRun 153 23 [l0, l1, l2, some (.long u), l4, l5, l6, l7, l8, l9, l10, l11, l12, l13, l14, l15] (.long u :: S) sh mi mj mr := zr_l (zD_of zk_153 d_153_22 rfl rfl) rfl rfl rfl
theorem q_153_23  {u0 : Int64} (hS : zcat S ≤ 8) : zRun 153 23 L (.long u0 :: S) sh mi mj mr = (zCall 137 [.long u0] sh mi mj mr).bind fun r => zRun 153 26 L (r.1.toList ++ S) r.2.1 r.2.2.1 r.2.2.2.1 r.2.2.2.2 := zr_S (zD_of zk_153 d_153_23 rfl rfl) rfl zk_137 rfl rfl rfl hS
theorem q_153_26  : zRun 153 26 L (.long v :: .long u :: S) sh mi mj mr = zRun 153 27 L (.long (u * v) :: S) sh mi mj mr := zr_p (zD_of zk_153 d_153_26 rfl rfl) rfl
theorem q_153_27r : zRun 153 27 [some (.ref o), l1, l2, l3, l4, l5, l6, l7, l8, l9, l10, l11, l12, l13, l14, l15] S sh mi mj mr = zRun 153 28 [some (.ref o), l1, l2, l3, l4, l5, l6, l7, l8, l9, l10, l11, l12, l13, l14, l15] (.ref o :: S) sh mi mj mr := zr_l (zD_of zk_153 d_153_27 rfl rfl) rfl rfl rfl
theorem q_153_27n : zRun 153 27 [some (.null), l1, l2, l3, l4, l5, l6, l7, l8, l9, l10, l11, l12, l13, l14, l15] S sh mi mj mr = zRun 153 28 [some (.null), l1, l2, l3, l4, l5, l6, l7, l8, l9, l10, l11, l12, l13, l14, l15] (.null :: S) sh mi mj mr := zr_l (zD_of zk_153 d_153_27 rfl rfl) rfl rfl rfl
theorem q_153_28 (h : zIs sh o 0 8) : zRun 153 28 L (.ref o :: S) sh mi mj mr = zRun 153 31 L (va_rf (mr o 10) :: S) sh mi mj mr := zr_getR (zD_of zk_153 d_153_28 rfl rfl) rfl rfl rfl h
theorem q_153_31 : zRun 153 31 [l0, l1, some (.int x), l3, l4, l5, l6, l7, l8, l9, l10, l11, l12, l13, l14, l15] S sh mi mj mr = zRun 153 32 [l0, l1, some (.int x), l3, l4, l5, l6, l7, l8, l9, l10, l11, l12, l13, l14, l15] (.int x :: S) sh mi mj mr := zr_l (zD_of zk_153 d_153_31 rfl rfl) rfl rfl rfl
theorem q_153_32  : zRun 153 32 L S sh mi mj mr = zRun 153 34 L (.int 13 :: S) sh mi mj mr := zr_p (zD_of zk_153 d_153_32 rfl rfl) rfl
theorem q_153_34  : zRun 153 34 L (.int y :: .int x :: S) sh mi mj mr = zRun 153 35 L (.int (x + y) :: S) sh mi mj mr := zr_p (zD_of zk_153 d_153_34 rfl rfl) rfl
theorem q_153_35 (h : zAt sh o 2 x) : zRun 153 35 L (.int x :: .ref o :: S) sh mi mj mr = zRun 153 36 L (.long (mj o x.toNatClampNeg) :: S) sh mi mj mr := zr_lald (zD_of zk_153 d_153_35 rfl rfl) h
theorem q_153_36  : zRun 153 36 L (.long v :: .long u :: S) sh mi mj mr = zRun 153 37 L (.long (u * v) :: S) sh mi mj mr := zr_p (zD_of zk_153 d_153_36 rfl rfl) rfl
theorem q_153_37 : zRun 153 37 [l0, l1, l2, l3, l4, some (.long u), l6, l7, l8, l9, l10, l11, l12, l13, l14, l15] S sh mi mj mr = zRun 153 39 [l0, l1, l2, l3, l4, some (.long u), l6, l7, l8, l9, l10, l11, l12, l13, l14, l15] (.long u :: S) sh mi mj mr := zr_l (zD_of zk_153 d_153_37 rfl rfl) rfl rfl rfl
theorem q_153_39 : zRun 153 39 [l0, l1, l2, l3, l4, some (.long u), l6, l7, l8, l9, l10, l11, l12, l13, l14, l15] S sh mi mj mr = zRun 153 41 [l0, l1, l2, l3, l4, some (.long u), l6, l7, l8, l9, l10, l11, l12, l13, l14, l15] (.long u :: S) sh mi mj mr := zr_l (zD_of zk_153 d_153_39 rfl rfl) rfl rfl rfl
theorem q_153_41  : zRun 153 41 L (.long v :: .long u :: S) sh mi mj mr = zRun 153 42 L (.long (u * v) :: S) sh mi mj mr := zr_p (zD_of zk_153 d_153_41 rfl rfl) rfl
theorem q_153_42  : zRun 153 42 L (.long v :: .long u :: S) sh mi mj mr = zRun 153 43 L (.long (u + v) :: S) sh mi mj mr := zr_p (zD_of zk_153 d_153_42 rfl rfl) rfl
theorem q_153_43  : zRun 153 43 L S sh mi mj mr = zRun 153 46 L (.long 512 :: S) sh mi mj mr := zr_k64 (zD_of zk_153 d_153_43 rfl rfl) rfl
theorem q_153_46  {u0 u1 : Int64} (hS : zcat S ≤ 8) : zRun 153 46 L (.long u1 :: .long u0 :: S) sh mi mj mr = (zCall 148 [.long u0, .long u1] sh mi mj mr).bind fun r => zRun 153 49 L (r.1.toList ++ S) r.2.1 r.2.2.1 r.2.2.2.1 r.2.2.2.2 := zr_S (zD_of zk_153 d_153_46 rfl rfl) rfl zk_148 rfl rfl rfl hS
theorem q_153_49 : zRun 153 49 [l0, l1, l2, l3, l4, l5, l6, l7, l8, l9, l10, l11, l12, l13, l14, l15] (.long u :: S) sh mi mj mr = zRun 153 51 [l0, l1, l2, l3, l4, l5, zk2 l6, some (.long u), none, l9, l10, l11, l12, l13, l14, l15] S sh mi mj mr := zr_s2 (i := 7) (v := .long u) (L := [l0, l1, l2, l3, l4, l5, l6, l7, l8, l9, l10, l11, l12, l13, l14, l15]) (zD_of zk_153 d_153_49 rfl rfl) rfl rfl rfl rfl
theorem q_153_51  : zRun 153 51 L S sh mi mj mr = zRun 153 52 L (.int 0 :: S) sh mi mj mr := zr_p (zD_of zk_153 d_153_51 rfl rfl) rfl
theorem q_153_52 : zRun 153 52 [l0, l1, l2, l3, l4, l5, l6, l7, l8, l9, l10, l11, l12, l13, l14, l15] (.int x :: S) sh mi mj mr = zRun 153 54 [l0, l1, l2, l3, l4, l5, l6, l7, zk2 l8, some (.int x), l10, l11, l12, l13, l14, l15] S sh mi mj mr := zr_s1 (i := 9) (v := .int x) (L := [l0, l1, l2, l3, l4, l5, l6, l7, l8, l9, l10, l11, l12, l13, l14, l15]) (zD_of zk_153 d_153_52 rfl rfl) rfl rfl rfl rfl
theorem q_153_54 : zRun 153 54 [l0, l1, l2, l3, l4, l5, l6, l7, l8, some (.int x), l10, l11, l12, l13, l14, l15] S sh mi mj mr = zRun 153 56 [l0, l1, l2, l3, l4, l5, l6, l7, l8, some (.int x), l10, l11, l12, l13, l14, l15] (.int x :: S) sh mi mj mr := zr_l (zD_of zk_153 d_153_54 rfl rfl) rfl rfl rfl
theorem q_153_56  : zRun 153 56 L S sh mi mj mr = zRun 153 58 L (.int 12 :: S) sh mi mj mr := zr_p (zD_of zk_153 d_153_56 rfl rfl) rfl
theorem q_153_58  : zRun 153 58 L (.int y :: .int x :: S) sh mi mj mr = if y ≤ x then zRun 153 126 L S sh mi mj mr else zRun 153 61 L S sh mi mj mr := zr_if (off := 68) (P := y ≤ x) (zD_of zk_153 d_153_58 rfl rfl) rfl rfl (by decide)
theorem q_153_61  : zRun 153 61 L S sh mi mj mr = zRun 153 64 L (.long 2 :: S) sh mi mj mr := zr_k64 (zD_of zk_153 d_153_61 rfl rfl) rfl
theorem q_153_64 : zRun 153 64 [l0, l1, l2, some (.long u), l4, l5, l6, l7, l8, l9, l10, l11, l12, l13, l14, l15] S sh mi mj mr = zRun 153 65 [l0, l1, l2, some (.long u), l4, l5, l6, l7, l8, l9, l10, l11, l12, l13, l14, l15] (.long u :: S) sh mi mj mr := zr_l (zD_of zk_153 d_153_64 rfl rfl) rfl rfl rfl
theorem q_153_65  : zRun 153 65 L (.long v :: .long u :: S) sh mi mj mr = zRun 153 66 L (.long (u * v) :: S) sh mi mj mr := zr_p (zD_of zk_153 d_153_65 rfl rfl) rfl
theorem q_153_66r : zRun 153 66 [some (.ref o), l1, l2, l3, l4, l5, l6, l7, l8, l9, l10, l11, l12, l13, l14, l15] S sh mi mj mr = zRun 153 67 [some (.ref o), l1, l2, l3, l4, l5, l6, l7, l8, l9, l10, l11, l12, l13, l14, l15] (.ref o :: S) sh mi mj mr := zr_l (zD_of zk_153 d_153_66 rfl rfl) rfl rfl rfl
theorem q_153_66n : zRun 153 66 [some (.null), l1, l2, l3, l4, l5, l6, l7, l8, l9, l10, l11, l12, l13, l14, l15] S sh mi mj mr = zRun 153 67 [some (.null), l1, l2, l3, l4, l5, l6, l7, l8, l9, l10, l11, l12, l13, l14, l15] (.null :: S) sh mi mj mr := zr_l (zD_of zk_153 d_153_66 rfl rfl) rfl rfl rfl
theorem q_153_67 (h : zIs sh o 0 8) : zRun 153 67 L (.ref o :: S) sh mi mj mr = zRun 153 70 L (va_rf (mr o 10) :: S) sh mi mj mr := zr_getR (zD_of zk_153 d_153_67 rfl rfl) rfl rfl rfl h
theorem q_153_70 : zRun 153 70 [l0, l1, some (.int x), l3, l4, l5, l6, l7, l8, l9, l10, l11, l12, l13, l14, l15] S sh mi mj mr = zRun 153 71 [l0, l1, some (.int x), l3, l4, l5, l6, l7, l8, l9, l10, l11, l12, l13, l14, l15] (.int x :: S) sh mi mj mr := zr_l (zD_of zk_153 d_153_70 rfl rfl) rfl rfl rfl
theorem q_153_71  : zRun 153 71 L S sh mi mj mr = zRun 153 72 L (.int 1 :: S) sh mi mj mr := zr_p (zD_of zk_153 d_153_71 rfl rfl) rfl
theorem q_153_72  : zRun 153 72 L (.int y :: .int x :: S) sh mi mj mr = zRun 153 73 L (.int (x + y) :: S) sh mi mj mr := zr_p (zD_of zk_153 d_153_72 rfl rfl) rfl
theorem q_153_73 : zRun 153 73 [l0, l1, l2, l3, l4, l5, l6, l7, l8, some (.int x), l10, l11, l12, l13, l14, l15] S sh mi mj mr = zRun 153 75 [l0, l1, l2, l3, l4, l5, l6, l7, l8, some (.int x), l10, l11, l12, l13, l14, l15] (.int x :: S) sh mi mj mr := zr_l (zD_of zk_153 d_153_73 rfl rfl) rfl rfl rfl
theorem q_153_75  : zRun 153 75 L (.int y :: .int x :: S) sh mi mj mr = zRun 153 76 L (.int (x + y) :: S) sh mi mj mr := zr_p (zD_of zk_153 d_153_75 rfl rfl) rfl
theorem q_153_76 (h : zAt sh o 2 x) : zRun 153 76 L (.int x :: .ref o :: S) sh mi mj mr = zRun 153 77 L (.long (mj o x.toNatClampNeg) :: S) sh mi mj mr := zr_lald (zD_of zk_153 d_153_76 rfl rfl) h
theorem q_153_77  : zRun 153 77 L (.long v :: .long u :: S) sh mi mj mr = zRun 153 78 L (.long (u * v) :: S) sh mi mj mr := zr_p (zD_of zk_153 d_153_77 rfl rfl) rfl
theorem q_153_78 : zRun 153 78 [l0, l1, l2, l3, l4, l5, l6, l7, l8, l9, l10, l11, l12, l13, l14, l15] (.long u :: S) sh mi mj mr = zRun 153 80 [l0, l1, l2, l3, l4, l5, l6, l7, l8, zk2 l9, some (.long u), none, l12, l13, l14, l15] S sh mi mj mr := zr_s2 (i := 10) (v := .long u) (L := [l0, l1, l2, l3, l4, l5, l6, l7, l8, l9, l10, l11, l12, l13, l14, l15]) (zD_of zk_153 d_153_78 rfl rfl) rfl rfl rfl rfl
theorem q_153_80 : zRun 153 80 [l0, l1, l2, l3, l4, l5, l6, some (.long u), l8, l9, l10, l11, l12, l13, l14, l15] S sh mi mj mr = zRun 153 82 [l0, l1, l2, l3, l4, l5, l6, some (.long u), l8, l9, l10, l11, l12, l13, l14, l15] (.long u :: S) sh mi mj mr := zr_l (zD_of zk_153 d_153_80 rfl rfl) rfl rfl rfl
theorem q_153_82 : zRun 153 82 [l0, l1, l2, l3, l4, l5, l6, l7, l8, l9, some (.long u), l11, l12, l13, l14, l15] S sh mi mj mr = zRun 153 84 [l0, l1, l2, l3, l4, l5, l6, l7, l8, l9, some (.long u), l11, l12, l13, l14, l15] (.long u :: S) sh mi mj mr := zr_l (zD_of zk_153 d_153_82 rfl rfl) rfl rfl rfl
theorem q_153_84  : zRun 153 84 L S sh mi mj mr = zRun 153 87 L (.long 256 :: S) sh mi mj mr := zr_k64 (zD_of zk_153 d_153_84 rfl rfl) rfl
theorem q_153_87 (h : ¬ v = 0) : zRun 153 87 L (.long v :: .long u :: S) sh mi mj mr = zRun 153 88 L (.long (u - (u / v) * v) :: S) sh mi mj mr := zr_p (zD_of zk_153 d_153_87 rfl rfl) (if_neg h)
theorem q_153_88  : zRun 153 88 L S sh mi mj mr = zRun 153 89 L (.long 0 :: S) sh mi mj mr := zr_p (zD_of zk_153 d_153_88 rfl rfl) rfl
theorem q_153_89  : zRun 153 89 L (.long v :: .long u :: S) sh mi mj mr = if u = v then zRun 153 97 L S sh mi mj mr else zRun 153 93 L S sh mi mj mr := zr_cmp (off := 7) (zD_of zk_153 d_153_89 rfl rfl) (zD_of zk_153 d_153_90 rfl rfl) rfl rfl (by decide) (lg_cmp_eq u v)
theorem q_153_90  : zRun 153 90 L (.int x :: S) sh mi mj mr = if x = 0 then zRun 153 97 L S sh mi mj mr else zRun 153 93 L S sh mi mj mr := zr_if (off := 7) (P := x = 0) (zD_of zk_153 d_153_90 rfl rfl) rfl rfl (by decide)
theorem q_153_93  : zRun 153 93 L S sh mi mj mr = zRun 153 94 L (.long 1 :: S) sh mi mj mr := zr_p (zD_of zk_153 d_153_93 rfl rfl) rfl
theorem q_153_94  : zRun 153 94 L S sh mi mj mr = zRun 153 98 L S sh mi mj mr := zr_go (off := 4) (zD_of zk_153 d_153_94 rfl rfl) rfl rfl (by decide)
theorem q_153_97  : zRun 153 97 L S sh mi mj mr = zRun 153 98 L (.long 0 :: S) sh mi mj mr := zr_p (zD_of zk_153 d_153_97 rfl rfl) rfl
theorem q_153_98  : zRun 153 98 L (.long v :: .long u :: S) sh mi mj mr = zRun 153 99 L (.long (u + v) :: S) sh mi mj mr := zr_p (zD_of zk_153 d_153_98 rfl rfl) rfl
theorem q_153_99 : zRun 153 99 [l0, l1, l2, l3, l4, l5, l6, l7, l8, l9, l10, l11, l12, l13, l14, l15] (.long u :: S) sh mi mj mr = zRun 153 101 [l0, l1, l2, l3, l4, l5, zk2 l6, some (.long u), none, l9, l10, l11, l12, l13, l14, l15] S sh mi mj mr := zr_s2 (i := 7) (v := .long u) (L := [l0, l1, l2, l3, l4, l5, l6, l7, l8, l9, l10, l11, l12, l13, l14, l15]) (zD_of zk_153 d_153_99 rfl rfl) rfl rfl rfl rfl
theorem q_153_101r : zRun 153 101 [some (.ref o), l1, l2, l3, l4, l5, l6, l7, l8, l9, l10, l11, l12, l13, l14, l15] S sh mi mj mr = zRun 153 102 [some (.ref o), l1, l2, l3, l4, l5, l6, l7, l8, l9, l10, l11, l12, l13, l14, l15] (.ref o :: S) sh mi mj mr := zr_l (zD_of zk_153 d_153_101 rfl rfl) rfl rfl rfl
theorem q_153_101n : zRun 153 101 [some (.null), l1, l2, l3, l4, l5, l6, l7, l8, l9, l10, l11, l12, l13, l14, l15] S sh mi mj mr = zRun 153 102 [some (.null), l1, l2, l3, l4, l5, l6, l7, l8, l9, l10, l11, l12, l13, l14, l15] (.null :: S) sh mi mj mr := zr_l (zD_of zk_153 d_153_101 rfl rfl) rfl rfl rfl
theorem q_153_102 (h : zIs sh o 0 8) : zRun 153 102 L (.ref o :: S) sh mi mj mr = zRun 153 105 L (va_rf (mr o 10) :: S) sh mi mj mr := zr_getR (zD_of zk_153 d_153_102 rfl rfl) rfl rfl rfl h
theorem q_153_105 : zRun 153 105 [l0, l1, some (.int x), l3, l4, l5, l6, l7, l8, l9, l10, l11, l12, l13, l14, l15] S sh mi mj mr = zRun 153 106 [l0, l1, some (.int x), l3, l4, l5, l6, l7, l8, l9, l10, l11, l12, l13, l14, l15] (.int x :: S) sh mi mj mr := zr_l (zD_of zk_153 d_153_105 rfl rfl) rfl rfl rfl
theorem q_153_106  : zRun 153 106 L S sh mi mj mr = zRun 153 107 L (.int 1 :: S) sh mi mj mr := zr_p (zD_of zk_153 d_153_106 rfl rfl) rfl
theorem q_153_107  : zRun 153 107 L (.int y :: .int x :: S) sh mi mj mr = zRun 153 108 L (.int (x + y) :: S) sh mi mj mr := zr_p (zD_of zk_153 d_153_107 rfl rfl) rfl
theorem q_153_108 : zRun 153 108 [l0, l1, l2, l3, l4, l5, l6, l7, l8, some (.int x), l10, l11, l12, l13, l14, l15] S sh mi mj mr = zRun 153 110 [l0, l1, l2, l3, l4, l5, l6, l7, l8, some (.int x), l10, l11, l12, l13, l14, l15] (.int x :: S) sh mi mj mr := zr_l (zD_of zk_153 d_153_108 rfl rfl) rfl rfl rfl
theorem q_153_110  : zRun 153 110 L (.int y :: .int x :: S) sh mi mj mr = zRun 153 111 L (.int (x + y) :: S) sh mi mj mr := zr_p (zD_of zk_153 d_153_110 rfl rfl) rfl
theorem q_153_111 : zRun 153 111 [l0, l1, l2, l3, l4, l5, l6, l7, l8, l9, some (.long u), l11, l12, l13, l14, l15] S sh mi mj mr = zRun 153 113 [l0, l1, l2, l3, l4, l5, l6, l7, l8, l9, some (.long u), l11, l12, l13, l14, l15] (.long u :: S) sh mi mj mr := zr_l (zD_of zk_153 d_153_111 rfl rfl) rfl rfl rfl
theorem q_153_113  : zRun 153 113 L S sh mi mj mr = zRun 153 116 L (.long 256 :: S) sh mi mj mr := zr_k64 (zD_of zk_153 d_153_113 rfl rfl) rfl
theorem q_153_116  {u0 u1 : Int64} (hS : zcat S ≤ 8) : zRun 153 116 L (.long u1 :: .long u0 :: S) sh mi mj mr = (zCall 147 [.long u0, .long u1] sh mi mj mr).bind fun r => zRun 153 119 L (r.1.toList ++ S) r.2.1 r.2.2.1 r.2.2.2.1 r.2.2.2.2 := zr_S (zD_of zk_153 d_153_116 rfl rfl) rfl zk_147 rfl rfl rfl hS
theorem q_153_119 (h : zAt sh o 2 x) : zRun 153 119 L (.long u :: .int x :: .ref o :: S) sh mi mj mr = zRun 153 120 L S sh mi (zup mj o x.toNatClampNeg u) mr := zr_last (zD_of zk_153 d_153_119 rfl rfl) h
theorem q_153_120  : zRun 153 120 [l0, l1, l2, l3, l4, l5, l6, l7, l8, some (.int x), l10, l11, l12, l13, l14, l15] S sh mi mj mr = zRun 153 123 [l0, l1, l2, l3, l4, l5, l6, l7, zk2 l8, some (.int (x + 1)), l10, l11, l12, l13, l14, l15] S sh mi mj mr := zr_s1 (i := 9) (v := .int (x + 1)) (L := [l0, l1, l2, l3, l4, l5, l6, l7, l8, some (.int x), l10, l11, l12, l13, l14, l15]) (zD_of zk_153 d_153_120 rfl rfl) rfl rfl rfl rfl
theorem q_153_123  : zRun 153 123 L S sh mi mj mr = zRun 153 54 L S sh mi mj mr := zr_go (off := (-69)) (zD_of zk_153 d_153_123 rfl rfl) rfl rfl (by decide)
theorem q_153_126  : zRun 153 126 L S sh mi mj mr = zRun 153 129 L (.long 2 :: S) sh mi mj mr := zr_k64 (zD_of zk_153 d_153_126 rfl rfl) rfl
theorem q_153_129 : zRun 153 129 [l0, l1, l2, some (.long u), l4, l5, l6, l7, l8, l9, l10, l11, l12, l13, l14, l15] S sh mi mj mr = zRun 153 130 [l0, l1, l2, some (.long u), l4, l5, l6, l7, l8, l9, l10, l11, l12, l13, l14, l15] (.long u :: S) sh mi mj mr := zr_l (zD_of zk_153 d_153_129 rfl rfl) rfl rfl rfl
theorem q_153_130  : zRun 153 130 L (.long v :: .long u :: S) sh mi mj mr = zRun 153 131 L (.long (u * v) :: S) sh mi mj mr := zr_p (zD_of zk_153 d_153_130 rfl rfl) rfl
theorem q_153_131 : zRun 153 131 [l0, l1, l2, some (.long u), l4, l5, l6, l7, l8, l9, l10, l11, l12, l13, l14, l15] S sh mi mj mr = zRun 153 132 [l0, l1, l2, some (.long u), l4, l5, l6, l7, l8, l9, l10, l11, l12, l13, l14, l15] (.long u :: S) sh mi mj mr := zr_l (zD_of zk_153 d_153_131 rfl rfl) rfl rfl rfl
theorem q_153_132  : zRun 153 132 L (.long v :: .long u :: S) sh mi mj mr = zRun 153 133 L (.long (u * v) :: S) sh mi mj mr := zr_p (zD_of zk_153 d_153_132 rfl rfl) rfl
theorem q_153_133 : zRun 153 133 [l0, l1, l2, l3, l4, some (.long u), l6, l7, l8, l9, l10, l11, l12, l13, l14, l15] S sh mi mj mr = zRun 153 135 [l0, l1, l2, l3, l4, some (.long u), l6, l7, l8, l9, l10, l11, l12, l13, l14, l15] (.long u :: S) sh mi mj mr := zr_l (zD_of zk_153 d_153_133 rfl rfl) rfl rfl rfl
theorem q_153_135 : zRun 153 135 [l0, l1, l2, l3, l4, some (.long u), l6, l7, l8, l9, l10, l11, l12, l13, l14, l15] S sh mi mj mr = zRun 153 137 [l0, l1, l2, l3, l4, some (.long u), l6, l7, l8, l9, l10, l11, l12, l13, l14, l15] (.long u :: S) sh mi mj mr := zr_l (zD_of zk_153 d_153_135 rfl rfl) rfl rfl rfl
theorem q_153_137  : zRun 153 137 L (.long v :: .long u :: S) sh mi mj mr = zRun 153 138 L (.long (u * v) :: S) sh mi mj mr := zr_p (zD_of zk_153 d_153_137 rfl rfl) rfl
theorem q_153_138  : zRun 153 138 L (.long v :: .long u :: S) sh mi mj mr = zRun 153 139 L (.long (u + v) :: S) sh mi mj mr := zr_p (zD_of zk_153 d_153_138 rfl rfl) rfl
theorem q_153_139 : zRun 153 139 [l0, l1, l2, l3, l4, l5, l6, l7, l8, l9, l10, l11, l12, l13, l14, l15] (.long u :: S) sh mi mj mr = zRun 153 141 [l0, l1, l2, l3, l4, l5, l6, l7, zk2 l8, some (.long u), none, l11, l12, l13, l14, l15] S sh mi mj mr := zr_s2 (i := 9) (v := .long u) (L := [l0, l1, l2, l3, l4, l5, l6, l7, l8, l9, l10, l11, l12, l13, l14, l15]) (zD_of zk_153 d_153_139 rfl rfl) rfl rfl rfl rfl
theorem q_153_141 : zRun 153 141 [l0, l1, l2, l3, l4, l5, l6, some (.long u), l8, l9, l10, l11, l12, l13, l14, l15] S sh mi mj mr = zRun 153 143 [l0, l1, l2, l3, l4, l5, l6, some (.long u), l8, l9, l10, l11, l12, l13, l14, l15] (.long u :: S) sh mi mj mr := zr_l (zD_of zk_153 d_153_141 rfl rfl) rfl rfl rfl
theorem q_153_143 : zRun 153 143 [l0, l1, l2, l3, l4, l5, l6, l7, l8, some (.long u), l10, l11, l12, l13, l14, l15] S sh mi mj mr = zRun 153 145 [l0, l1, l2, l3, l4, l5, l6, l7, l8, some (.long u), l10, l11, l12, l13, l14, l15] (.long u :: S) sh mi mj mr := zr_l (zD_of zk_153 d_153_143 rfl rfl) rfl rfl rfl
theorem q_153_145  : zRun 153 145 L S sh mi mj mr = zRun 153 148 L (.long 512 :: S) sh mi mj mr := zr_k64 (zD_of zk_153 d_153_145 rfl rfl) rfl
theorem q_153_148 (h : ¬ v = 0) : zRun 153 148 L (.long v :: .long u :: S) sh mi mj mr = zRun 153 149 L (.long (u - (u / v) * v) :: S) sh mi mj mr := zr_p (zD_of zk_153 d_153_148 rfl rfl) (if_neg h)
theorem q_153_149  : zRun 153 149 L S sh mi mj mr = zRun 153 150 L (.long 0 :: S) sh mi mj mr := zr_p (zD_of zk_153 d_153_149 rfl rfl) rfl
theorem q_153_150  : zRun 153 150 L (.long v :: .long u :: S) sh mi mj mr = if u = v then zRun 153 158 L S sh mi mj mr else zRun 153 154 L S sh mi mj mr := zr_cmp (off := 7) (zD_of zk_153 d_153_150 rfl rfl) (zD_of zk_153 d_153_151 rfl rfl) rfl rfl (by decide) (lg_cmp_eq u v)
theorem q_153_151  : zRun 153 151 L (.int x :: S) sh mi mj mr = if x = 0 then zRun 153 158 L S sh mi mj mr else zRun 153 154 L S sh mi mj mr := zr_if (off := 7) (P := x = 0) (zD_of zk_153 d_153_151 rfl rfl) rfl rfl (by decide)
theorem q_153_154  : zRun 153 154 L S sh mi mj mr = zRun 153 155 L (.long 1 :: S) sh mi mj mr := zr_p (zD_of zk_153 d_153_154 rfl rfl) rfl
theorem q_153_155  : zRun 153 155 L S sh mi mj mr = zRun 153 159 L S sh mi mj mr := zr_go (off := 4) (zD_of zk_153 d_153_155 rfl rfl) rfl rfl (by decide)
theorem q_153_158  : zRun 153 158 L S sh mi mj mr = zRun 153 159 L (.long 0 :: S) sh mi mj mr := zr_p (zD_of zk_153 d_153_158 rfl rfl) rfl
theorem q_153_159  : zRun 153 159 L (.long v :: .long u :: S) sh mi mj mr = zRun 153 160 L (.long (u + v) :: S) sh mi mj mr := zr_p (zD_of zk_153 d_153_159 rfl rfl) rfl
theorem q_153_160 : zRun 153 160 [l0, l1, l2, l3, l4, l5, l6, l7, l8, l9, l10, l11, l12, l13, l14, l15] (.long u :: S) sh mi mj mr = zRun 153 162 [l0, l1, l2, l3, l4, l5, zk2 l6, some (.long u), none, l9, l10, l11, l12, l13, l14, l15] S sh mi mj mr := zr_s2 (i := 7) (v := .long u) (L := [l0, l1, l2, l3, l4, l5, l6, l7, l8, l9, l10, l11, l12, l13, l14, l15]) (zD_of zk_153 d_153_160 rfl rfl) rfl rfl rfl rfl
theorem q_153_162r : zRun 153 162 [some (.ref o), l1, l2, l3, l4, l5, l6, l7, l8, l9, l10, l11, l12, l13, l14, l15] S sh mi mj mr = zRun 153 163 [some (.ref o), l1, l2, l3, l4, l5, l6, l7, l8, l9, l10, l11, l12, l13, l14, l15] (.ref o :: S) sh mi mj mr := zr_l (zD_of zk_153 d_153_162 rfl rfl) rfl rfl rfl
theorem q_153_162n : zRun 153 162 [some (.null), l1, l2, l3, l4, l5, l6, l7, l8, l9, l10, l11, l12, l13, l14, l15] S sh mi mj mr = zRun 153 163 [some (.null), l1, l2, l3, l4, l5, l6, l7, l8, l9, l10, l11, l12, l13, l14, l15] (.null :: S) sh mi mj mr := zr_l (zD_of zk_153 d_153_162 rfl rfl) rfl rfl rfl
theorem q_153_163 (h : zIs sh o 0 8) : zRun 153 163 L (.ref o :: S) sh mi mj mr = zRun 153 166 L (va_rf (mr o 10) :: S) sh mi mj mr := zr_getR (zD_of zk_153 d_153_163 rfl rfl) rfl rfl rfl h
theorem q_153_166 : zRun 153 166 [l0, l1, some (.int x), l3, l4, l5, l6, l7, l8, l9, l10, l11, l12, l13, l14, l15] S sh mi mj mr = zRun 153 167 [l0, l1, some (.int x), l3, l4, l5, l6, l7, l8, l9, l10, l11, l12, l13, l14, l15] (.int x :: S) sh mi mj mr := zr_l (zD_of zk_153 d_153_166 rfl rfl) rfl rfl rfl
theorem q_153_167 : zRun 153 167 [l0, l1, l2, l3, l4, l5, l6, l7, l8, some (.long u), l10, l11, l12, l13, l14, l15] S sh mi mj mr = zRun 153 169 [l0, l1, l2, l3, l4, l5, l6, l7, l8, some (.long u), l10, l11, l12, l13, l14, l15] (.long u :: S) sh mi mj mr := zr_l (zD_of zk_153 d_153_167 rfl rfl) rfl rfl rfl
theorem q_153_169  : zRun 153 169 L S sh mi mj mr = zRun 153 172 L (.long 512 :: S) sh mi mj mr := zr_k64 (zD_of zk_153 d_153_169 rfl rfl) rfl
theorem q_153_172  {u0 u1 : Int64} (hS : zcat S ≤ 8) : zRun 153 172 L (.long u1 :: .long u0 :: S) sh mi mj mr = (zCall 147 [.long u0, .long u1] sh mi mj mr).bind fun r => zRun 153 175 L (r.1.toList ++ S) r.2.1 r.2.2.1 r.2.2.2.1 r.2.2.2.2 := zr_S (zD_of zk_153 d_153_172 rfl rfl) rfl zk_147 rfl rfl rfl hS
theorem q_153_175 (h : zAt sh o 2 x) : zRun 153 175 L (.long u :: .int x :: .ref o :: S) sh mi mj mr = zRun 153 176 L S sh mi (zup mj o x.toNatClampNeg u) mr := zr_last (zD_of zk_153 d_153_175 rfl rfl) h
theorem q_153_176r : zRun 153 176 [some (.ref o), l1, l2, l3, l4, l5, l6, l7, l8, l9, l10, l11, l12, l13, l14, l15] S sh mi mj mr = zRun 153 177 [some (.ref o), l1, l2, l3, l4, l5, l6, l7, l8, l9, l10, l11, l12, l13, l14, l15] (.ref o :: S) sh mi mj mr := zr_l (zD_of zk_153 d_153_176 rfl rfl) rfl rfl rfl
theorem q_153_176n : zRun 153 176 [some (.null), l1, l2, l3, l4, l5, l6, l7, l8, l9, l10, l11, l12, l13, l14, l15] S sh mi mj mr = zRun 153 177 [some (.null), l1, l2, l3, l4, l5, l6, l7, l8, l9, l10, l11, l12, l13, l14, l15] (.null :: S) sh mi mj mr := zr_l (zD_of zk_153 d_153_176 rfl rfl) rfl rfl rfl
theorem q_153_177 (h : zIs sh o 0 8) : zRun 153 177 L (.ref o :: S) sh mi mj mr = zRun 153 180 L (va_rf (mr o 10) :: S) sh mi mj mr := zr_getR (zD_of zk_153 d_153_177 rfl rfl) rfl rfl rfl h
theorem q_153_180 : zRun 153 180 [l0, l1, some (.int x), l3, l4, l5, l6, l7, l8, l9, l10, l11, l12, l13, l14, l15] S sh mi mj mr = zRun 153 181 [l0, l1, some (.int x), l3, l4, l5, l6, l7, l8, l9, l10, l11, l12, l13, l14, l15] (.int x :: S) sh mi mj mr := zr_l (zD_of zk_153 d_153_180 rfl rfl) rfl rfl rfl
theorem q_153_181  : zRun 153 181 L S sh mi mj mr = zRun 153 183 L (.int 13 :: S) sh mi mj mr := zr_p (zD_of zk_153 d_153_181 rfl rfl) rfl
theorem q_153_183  : zRun 153 183 L (.int y :: .int x :: S) sh mi mj mr = zRun 153 184 L (.int (x + y) :: S) sh mi mj mr := zr_p (zD_of zk_153 d_153_183 rfl rfl) rfl
theorem q_153_184 : zRun 153 184 [l0, l1, l2, l3, l4, l5, l6, some (.long u), l8, l9, l10, l11, l12, l13, l14, l15] S sh mi mj mr = zRun 153 186 [l0, l1, l2, l3, l4, l5, l6, some (.long u), l8, l9, l10, l11, l12, l13, l14, l15] (.long u :: S) sh mi mj mr := zr_l (zD_of zk_153 d_153_184 rfl rfl) rfl rfl rfl
theorem q_153_186 (h : zAt sh o 2 x) : zRun 153 186 L (.long u :: .int x :: .ref o :: S) sh mi mj mr = zRun 153 187 L S sh mi (zup mj o x.toNatClampNeg u) mr := zr_last (zD_of zk_153 d_153_186 rfl rfl) h
theorem q_153_187r : zRun 153 187 [some (.ref o), l1, l2, l3, l4, l5, l6, l7, l8, l9, l10, l11, l12, l13, l14, l15] S sh mi mj mr = zRun 153 188 [some (.ref o), l1, l2, l3, l4, l5, l6, l7, l8, l9, l10, l11, l12, l13, l14, l15] (.ref o :: S) sh mi mj mr := zr_l (zD_of zk_153 d_153_187 rfl rfl) rfl rfl rfl
theorem q_153_187n : zRun 153 187 [some (.null), l1, l2, l3, l4, l5, l6, l7, l8, l9, l10, l11, l12, l13, l14, l15] S sh mi mj mr = zRun 153 188 [some (.null), l1, l2, l3, l4, l5, l6, l7, l8, l9, l10, l11, l12, l13, l14, l15] (.null :: S) sh mi mj mr := zr_l (zD_of zk_153 d_153_187 rfl rfl) rfl rfl rfl
theorem q_153_188 (h : zIs sh o 0 8) : zRun 153 188 L (.ref o :: S) sh mi mj mr = zRun 153 191 L (va_rf (mr o 10) :: S) sh mi mj mr := zr_getR (zD_of zk_153 d_153_188 rfl rfl) rfl rfl rfl h
theorem q_153_191 : zRun 153 191 [l0, l1, some (.int x), l3, l4, l5, l6, l7, l8, l9, l10, l11, l12, l13, l14, l15] S sh mi mj mr = zRun 153 192 [l0, l1, some (.int x), l3, l4, l5, l6, l7, l8, l9, l10, l11, l12, l13, l14, l15] (.int x :: S) sh mi mj mr := zr_l (zD_of zk_153 d_153_191 rfl rfl) rfl rfl rfl
theorem q_153_192  : zRun 153 192 L S sh mi mj mr = zRun 153 194 L (.int 14 :: S) sh mi mj mr := zr_p (zD_of zk_153 d_153_192 rfl rfl) rfl
theorem q_153_194  : zRun 153 194 L (.int y :: .int x :: S) sh mi mj mr = zRun 153 195 L (.int (x + y) :: S) sh mi mj mr := zr_p (zD_of zk_153 d_153_194 rfl rfl) rfl
theorem q_153_195 (h : zAt sh o 2 x) : zRun 153 195 L (.int x :: .ref o :: S) sh mi mj mr = zRun 153 196 L (.long (mj o x.toNatClampNeg) :: S) sh mi mj mr := zr_lald (zD_of zk_153 d_153_195 rfl rfl) h
theorem q_153_196r : zRun 153 196 [some (.ref o), l1, l2, l3, l4, l5, l6, l7, l8, l9, l10, l11, l12, l13, l14, l15] S sh mi mj mr = zRun 153 197 [some (.ref o), l1, l2, l3, l4, l5, l6, l7, l8, l9, l10, l11, l12, l13, l14, l15] (.ref o :: S) sh mi mj mr := zr_l (zD_of zk_153 d_153_196 rfl rfl) rfl rfl rfl
theorem q_153_196n : zRun 153 196 [some (.null), l1, l2, l3, l4, l5, l6, l7, l8, l9, l10, l11, l12, l13, l14, l15] S sh mi mj mr = zRun 153 197 [some (.null), l1, l2, l3, l4, l5, l6, l7, l8, l9, l10, l11, l12, l13, l14, l15] (.null :: S) sh mi mj mr := zr_l (zD_of zk_153 d_153_196 rfl rfl) rfl rfl rfl
theorem q_153_197 (h : zIs sh o 0 8) : zRun 153 197 L (.ref o :: S) sh mi mj mr = zRun 153 200 L (va_rf (mr o 10) :: S) sh mi mj mr := zr_getR (zD_of zk_153 d_153_197 rfl rfl) rfl rfl rfl h
theorem q_153_200 : zRun 153 200 [l0, l1, some (.int x), l3, l4, l5, l6, l7, l8, l9, l10, l11, l12, l13, l14, l15] S sh mi mj mr = zRun 153 201 [l0, l1, some (.int x), l3, l4, l5, l6, l7, l8, l9, l10, l11, l12, l13, l14, l15] (.int x :: S) sh mi mj mr := zr_l (zD_of zk_153 d_153_200 rfl rfl) rfl rfl rfl
theorem q_153_201  : zRun 153 201 L S sh mi mj mr = zRun 153 203 L (.int 14 :: S) sh mi mj mr := zr_p (zD_of zk_153 d_153_201 rfl rfl) rfl
theorem q_153_203  : zRun 153 203 L (.int y :: .int x :: S) sh mi mj mr = zRun 153 204 L (.int (x + y) :: S) sh mi mj mr := zr_p (zD_of zk_153 d_153_203 rfl rfl) rfl
theorem q_153_204 (h : zAt sh o 2 x) : zRun 153 204 L (.int x :: .ref o :: S) sh mi mj mr = zRun 153 205 L (.long (mj o x.toNatClampNeg) :: S) sh mi mj mr := zr_lald (zD_of zk_153 d_153_204 rfl rfl) h
theorem q_153_205  : zRun 153 205 L (.long v :: .long u :: S) sh mi mj mr = zRun 153 206 L (.long (u * v) :: S) sh mi mj mr := zr_p (zD_of zk_153 d_153_205 rfl rfl) rfl
theorem q_153_206 : zRun 153 206 [l0, l1, l2, l3, l4, l5, l6, l7, l8, l9, l10, l11, l12, l13, l14, l15] (.long u :: S) sh mi mj mr = zRun 153 208 [l0, l1, l2, l3, l4, l5, l6, l7, l8, l9, zk2 l10, some (.long u), none, l13, l14, l15] S sh mi mj mr := zr_s2 (i := 11) (v := .long u) (L := [l0, l1, l2, l3, l4, l5, l6, l7, l8, l9, l10, l11, l12, l13, l14, l15]) (zD_of zk_153 d_153_206 rfl rfl) rfl rfl rfl rfl
theorem q_153_208r : zRun 153 208 [some (.ref o), l1, l2, l3, l4, l5, l6, l7, l8, l9, l10, l11, l12, l13, l14, l15] S sh mi mj mr = zRun 153 209 [some (.ref o), l1, l2, l3, l4, l5, l6, l7, l8, l9, l10, l11, l12, l13, l14, l15] (.ref o :: S) sh mi mj mr := zr_l (zD_of zk_153 d_153_208 rfl rfl) rfl rfl rfl
theorem q_153_208n : zRun 153 208 [some (.null), l1, l2, l3, l4, l5, l6, l7, l8, l9, l10, l11, l12, l13, l14, l15] S sh mi mj mr = zRun 153 209 [some (.null), l1, l2, l3, l4, l5, l6, l7, l8, l9, l10, l11, l12, l13, l14, l15] (.null :: S) sh mi mj mr := zr_l (zD_of zk_153 d_153_208 rfl rfl) rfl rfl rfl
theorem q_153_209 (h : zIs sh o 0 8) : zRun 153 209 L (.ref o :: S) sh mi mj mr = zRun 153 212 L (va_rf (mr o 10) :: S) sh mi mj mr := zr_getR (zD_of zk_153 d_153_209 rfl rfl) rfl rfl rfl h
theorem q_153_212 : zRun 153 212 [l0, l1, some (.int x), l3, l4, l5, l6, l7, l8, l9, l10, l11, l12, l13, l14, l15] S sh mi mj mr = zRun 153 213 [l0, l1, some (.int x), l3, l4, l5, l6, l7, l8, l9, l10, l11, l12, l13, l14, l15] (.int x :: S) sh mi mj mr := zr_l (zD_of zk_153 d_153_212 rfl rfl) rfl rfl rfl
theorem q_153_213  : zRun 153 213 L S sh mi mj mr = zRun 153 215 L (.int 15 :: S) sh mi mj mr := zr_p (zD_of zk_153 d_153_213 rfl rfl) rfl
theorem q_153_215  : zRun 153 215 L (.int y :: .int x :: S) sh mi mj mr = zRun 153 216 L (.int (x + y) :: S) sh mi mj mr := zr_p (zD_of zk_153 d_153_215 rfl rfl) rfl
theorem q_153_216 (h : zAt sh o 2 x) : zRun 153 216 L (.int x :: .ref o :: S) sh mi mj mr = zRun 153 217 L (.long (mj o x.toNatClampNeg) :: S) sh mi mj mr := zr_lald (zD_of zk_153 d_153_216 rfl rfl) h
theorem q_153_217r : zRun 153 217 [some (.ref o), l1, l2, l3, l4, l5, l6, l7, l8, l9, l10, l11, l12, l13, l14, l15] S sh mi mj mr = zRun 153 218 [some (.ref o), l1, l2, l3, l4, l5, l6, l7, l8, l9, l10, l11, l12, l13, l14, l15] (.ref o :: S) sh mi mj mr := zr_l (zD_of zk_153 d_153_217 rfl rfl) rfl rfl rfl
theorem q_153_217n : zRun 153 217 [some (.null), l1, l2, l3, l4, l5, l6, l7, l8, l9, l10, l11, l12, l13, l14, l15] S sh mi mj mr = zRun 153 218 [some (.null), l1, l2, l3, l4, l5, l6, l7, l8, l9, l10, l11, l12, l13, l14, l15] (.null :: S) sh mi mj mr := zr_l (zD_of zk_153 d_153_217 rfl rfl) rfl rfl rfl
theorem q_153_218 (h : zIs sh o 0 8) : zRun 153 218 L (.ref o :: S) sh mi mj mr = zRun 153 221 L (va_rf (mr o 10) :: S) sh mi mj mr := zr_getR (zD_of zk_153 d_153_218 rfl rfl) rfl rfl rfl h
theorem q_153_221 : zRun 153 221 [l0, l1, some (.int x), l3, l4, l5, l6, l7, l8, l9, l10, l11, l12, l13, l14, l15] S sh mi mj mr = zRun 153 222 [l0, l1, some (.int x), l3, l4, l5, l6, l7, l8, l9, l10, l11, l12, l13, l14, l15] (.int x :: S) sh mi mj mr := zr_l (zD_of zk_153 d_153_221 rfl rfl) rfl rfl rfl
theorem q_153_222  : zRun 153 222 L S sh mi mj mr = zRun 153 224 L (.int 15 :: S) sh mi mj mr := zr_p (zD_of zk_153 d_153_222 rfl rfl) rfl
theorem q_153_224  : zRun 153 224 L (.int y :: .int x :: S) sh mi mj mr = zRun 153 225 L (.int (x + y) :: S) sh mi mj mr := zr_p (zD_of zk_153 d_153_224 rfl rfl) rfl
theorem q_153_225 (h : zAt sh o 2 x) : zRun 153 225 L (.int x :: .ref o :: S) sh mi mj mr = zRun 153 226 L (.long (mj o x.toNatClampNeg) :: S) sh mi mj mr := zr_lald (zD_of zk_153 d_153_225 rfl rfl) h
theorem q_153_226  : zRun 153 226 L (.long v :: .long u :: S) sh mi mj mr = zRun 153 227 L (.long (u * v) :: S) sh mi mj mr := zr_p (zD_of zk_153 d_153_226 rfl rfl) rfl
theorem q_153_227 : zRun 153 227 [l0, l1, l2, l3, l4, l5, l6, l7, l8, l9, l10, l11, l12, l13, l14, l15] (.long u :: S) sh mi mj mr = zRun 153 229 [l0, l1, l2, l3, l4, l5, l6, l7, l8, l9, l10, l11, zk2 l12, some (.long u), none, l15] S sh mi mj mr := zr_s2 (i := 13) (v := .long u) (L := [l0, l1, l2, l3, l4, l5, l6, l7, l8, l9, l10, l11, l12, l13, l14, l15]) (zD_of zk_153 d_153_227 rfl rfl) rfl rfl rfl rfl
theorem q_153_229r : zRun 153 229 [some (.ref o), l1, l2, l3, l4, l5, l6, l7, l8, l9, l10, l11, l12, l13, l14, l15] S sh mi mj mr = zRun 153 230 [some (.ref o), l1, l2, l3, l4, l5, l6, l7, l8, l9, l10, l11, l12, l13, l14, l15] (.ref o :: S) sh mi mj mr := zr_l (zD_of zk_153 d_153_229 rfl rfl) rfl rfl rfl
theorem q_153_229n : zRun 153 229 [some (.null), l1, l2, l3, l4, l5, l6, l7, l8, l9, l10, l11, l12, l13, l14, l15] S sh mi mj mr = zRun 153 230 [some (.null), l1, l2, l3, l4, l5, l6, l7, l8, l9, l10, l11, l12, l13, l14, l15] (.null :: S) sh mi mj mr := zr_l (zD_of zk_153 d_153_229 rfl rfl) rfl rfl rfl
theorem q_153_230 (h : zIs sh o 0 8) : zRun 153 230 L (.ref o :: S) sh mi mj mr = zRun 153 233 L (va_rf (mr o 10) :: S) sh mi mj mr := zr_getR (zD_of zk_153 d_153_230 rfl rfl) rfl rfl rfl h
theorem q_153_233 : zRun 153 233 [l0, l1, some (.int x), l3, l4, l5, l6, l7, l8, l9, l10, l11, l12, l13, l14, l15] S sh mi mj mr = zRun 153 234 [l0, l1, some (.int x), l3, l4, l5, l6, l7, l8, l9, l10, l11, l12, l13, l14, l15] (.int x :: S) sh mi mj mr := zr_l (zD_of zk_153 d_153_233 rfl rfl) rfl rfl rfl
theorem q_153_234  : zRun 153 234 L S sh mi mj mr = zRun 153 236 L (.int 14 :: S) sh mi mj mr := zr_p (zD_of zk_153 d_153_234 rfl rfl) rfl
theorem q_153_236  : zRun 153 236 L (.int y :: .int x :: S) sh mi mj mr = zRun 153 237 L (.int (x + y) :: S) sh mi mj mr := zr_p (zD_of zk_153 d_153_236 rfl rfl) rfl
theorem q_153_237 (h : zAt sh o 2 x) : zRun 153 237 L (.int x :: .ref o :: S) sh mi mj mr = zRun 153 238 L (.long (mj o x.toNatClampNeg) :: S) sh mi mj mr := zr_lald (zD_of zk_153 d_153_237 rfl rfl) h
theorem q_153_238  : zRun 153 238 L S sh mi mj mr = zRun 153 239 L (.long 0 :: S) sh mi mj mr := zr_p (zD_of zk_153 d_153_238 rfl rfl) rfl
theorem q_153_239  : zRun 153 239 L (.long v :: .long u :: S) sh mi mj mr = if v < u then zRun 153 261 L S sh mi mj mr else zRun 153 243 L S sh mi mj mr := zr_cmp (off := 21) (zD_of zk_153 d_153_239 rfl rfl) (zD_of zk_153 d_153_240 rfl rfl) rfl rfl (by decide) (lg_cmp_gt u v)
theorem q_153_240  : zRun 153 240 L (.int x :: S) sh mi mj mr = if 0 < x then zRun 153 261 L S sh mi mj mr else zRun 153 243 L S sh mi mj mr := zr_if (off := 21) (P := 0 < x) (zD_of zk_153 d_153_240 rfl rfl) rfl rfl (by decide)
theorem q_153_243r : zRun 153 243 [some (.ref o), l1, l2, l3, l4, l5, l6, l7, l8, l9, l10, l11, l12, l13, l14, l15] S sh mi mj mr = zRun 153 244 [some (.ref o), l1, l2, l3, l4, l5, l6, l7, l8, l9, l10, l11, l12, l13, l14, l15] (.ref o :: S) sh mi mj mr := zr_l (zD_of zk_153 d_153_243 rfl rfl) rfl rfl rfl
theorem q_153_243n : zRun 153 243 [some (.null), l1, l2, l3, l4, l5, l6, l7, l8, l9, l10, l11, l12, l13, l14, l15] S sh mi mj mr = zRun 153 244 [some (.null), l1, l2, l3, l4, l5, l6, l7, l8, l9, l10, l11, l12, l13, l14, l15] (.null :: S) sh mi mj mr := zr_l (zD_of zk_153 d_153_243 rfl rfl) rfl rfl rfl
theorem q_153_244 (h : zIs sh o 0 8) : zRun 153 244 L (.ref o :: S) sh mi mj mr = zRun 153 247 L (va_rf (mr o 10) :: S) sh mi mj mr := zr_getR (zD_of zk_153 d_153_244 rfl rfl) rfl rfl rfl h
theorem q_153_247 : zRun 153 247 [l0, l1, some (.int x), l3, l4, l5, l6, l7, l8, l9, l10, l11, l12, l13, l14, l15] S sh mi mj mr = zRun 153 248 [l0, l1, some (.int x), l3, l4, l5, l6, l7, l8, l9, l10, l11, l12, l13, l14, l15] (.int x :: S) sh mi mj mr := zr_l (zD_of zk_153 d_153_247 rfl rfl) rfl rfl rfl
theorem q_153_248  : zRun 153 248 L S sh mi mj mr = zRun 153 250 L (.int 15 :: S) sh mi mj mr := zr_p (zD_of zk_153 d_153_248 rfl rfl) rfl
theorem q_153_250  : zRun 153 250 L (.int y :: .int x :: S) sh mi mj mr = zRun 153 251 L (.int (x + y) :: S) sh mi mj mr := zr_p (zD_of zk_153 d_153_250 rfl rfl) rfl
theorem q_153_251 (h : zAt sh o 2 x) : zRun 153 251 L (.int x :: .ref o :: S) sh mi mj mr = zRun 153 252 L (.long (mj o x.toNatClampNeg) :: S) sh mi mj mr := zr_lald (zD_of zk_153 d_153_251 rfl rfl) h
theorem q_153_252  : zRun 153 252 L S sh mi mj mr = zRun 153 253 L (.long 0 :: S) sh mi mj mr := zr_p (zD_of zk_153 d_153_252 rfl rfl) rfl
theorem q_153_253  : zRun 153 253 L (.long v :: .long u :: S) sh mi mj mr = if u < v then zRun 153 261 L S sh mi mj mr else zRun 153 257 L S sh mi mj mr := zr_cmp (off := 7) (zD_of zk_153 d_153_253 rfl rfl) (zD_of zk_153 d_153_254 rfl rfl) rfl rfl (by decide) (lg_cmp_lt u v)
theorem q_153_254  : zRun 153 254 L (.int x :: S) sh mi mj mr = if x < 0 then zRun 153 261 L S sh mi mj mr else zRun 153 257 L S sh mi mj mr := zr_if (off := 7) (P := x < 0) (zD_of zk_153 d_153_254 rfl rfl) rfl rfl (by decide)
theorem q_153_257  : zRun 153 257 L S sh mi mj mr = zRun 153 258 L (.int 1 :: S) sh mi mj mr := zr_p (zD_of zk_153 d_153_257 rfl rfl) rfl
theorem q_153_258  : zRun 153 258 L S sh mi mj mr = zRun 153 262 L S sh mi mj mr := zr_go (off := 4) (zD_of zk_153 d_153_258 rfl rfl) rfl rfl (by decide)
theorem q_153_261  : zRun 153 261 L S sh mi mj mr = zRun 153 262 L (.int 0 :: S) sh mi mj mr := zr_p (zD_of zk_153 d_153_261 rfl rfl) rfl
theorem q_153_262 : zRun 153 262 [l0, l1, l2, l3, l4, l5, l6, l7, l8, l9, l10, l11, l12, l13, l14, l15] (.int x :: S) sh mi mj mr = zRun 153 264 [l0, l1, l2, l3, l4, l5, l6, l7, l8, l9, l10, l11, l12, l13, zk2 l14, some (.int x)] S sh mi mj mr := zr_s1 (i := 15) (v := .int x) (L := [l0, l1, l2, l3, l4, l5, l6, l7, l8, l9, l10, l11, l12, l13, l14, l15]) (zD_of zk_153 d_153_262 rfl rfl) rfl rfl rfl rfl
theorem q_153_264r : zRun 153 264 [some (.ref o), l1, l2, l3, l4, l5, l6, l7, l8, l9, l10, l11, l12, l13, l14, l15] S sh mi mj mr = zRun 153 265 [some (.ref o), l1, l2, l3, l4, l5, l6, l7, l8, l9, l10, l11, l12, l13, l14, l15] (.ref o :: S) sh mi mj mr := zr_l (zD_of zk_153 d_153_264 rfl rfl) rfl rfl rfl
theorem q_153_264n : zRun 153 264 [some (.null), l1, l2, l3, l4, l5, l6, l7, l8, l9, l10, l11, l12, l13, l14, l15] S sh mi mj mr = zRun 153 265 [some (.null), l1, l2, l3, l4, l5, l6, l7, l8, l9, l10, l11, l12, l13, l14, l15] (.null :: S) sh mi mj mr := zr_l (zD_of zk_153 d_153_264 rfl rfl) rfl rfl rfl
theorem q_153_265 (h : zIs sh o 0 8) : zRun 153 265 L (.ref o :: S) sh mi mj mr = zRun 153 268 L (va_rf (mr o 10) :: S) sh mi mj mr := zr_getR (zD_of zk_153 d_153_265 rfl rfl) rfl rfl rfl h
theorem q_153_268 : zRun 153 268 [l0, l1, some (.int x), l3, l4, l5, l6, l7, l8, l9, l10, l11, l12, l13, l14, l15] S sh mi mj mr = zRun 153 269 [l0, l1, some (.int x), l3, l4, l5, l6, l7, l8, l9, l10, l11, l12, l13, l14, l15] (.int x :: S) sh mi mj mr := zr_l (zD_of zk_153 d_153_268 rfl rfl) rfl rfl rfl
theorem q_153_269  : zRun 153 269 L S sh mi mj mr = zRun 153 271 L (.int 14 :: S) sh mi mj mr := zr_p (zD_of zk_153 d_153_269 rfl rfl) rfl
theorem q_153_271  : zRun 153 271 L (.int y :: .int x :: S) sh mi mj mr = zRun 153 272 L (.int (x + y) :: S) sh mi mj mr := zr_p (zD_of zk_153 d_153_271 rfl rfl) rfl
theorem q_153_272 : zRun 153 272 [l0, l1, l2, l3, l4, l5, l6, l7, l8, l9, l10, l11, l12, l13, l14, some (.int x)] S sh mi mj mr = zRun 153 274 [l0, l1, l2, l3, l4, l5, l6, l7, l8, l9, l10, l11, l12, l13, l14, some (.int x)] (.int x :: S) sh mi mj mr := zr_l (zD_of zk_153 d_153_272 rfl rfl) rfl rfl rfl
theorem q_153_274  : zRun 153 274 L (.int x :: S) sh mi mj mr = if x = 0 then zRun 153 281 L S sh mi mj mr else zRun 153 277 L S sh mi mj mr := zr_if (off := 7) (P := x = 0) (zD_of zk_153 d_153_274 rfl rfl) rfl rfl (by decide)
theorem q_153_277  : zRun 153 277 L S sh mi mj mr = zRun 153 278 L (.long 0 :: S) sh mi mj mr := zr_p (zD_of zk_153 d_153_277 rfl rfl) rfl
theorem q_153_278  : zRun 153 278 L S sh mi mj mr = zRun 153 294 L S sh mi mj mr := zr_go (off := 16) (zD_of zk_153 d_153_278 rfl rfl) rfl rfl (by decide)
theorem q_153_281 : zRun 153 281 [l0, l1, l2, l3, l4, l5, l6, l7, l8, l9, l10, some (.long u), l12, l13, l14, l15] S sh mi mj mr = zRun 153 283 [l0, l1, l2, l3, l4, l5, l6, l7, l8, l9, l10, some (.long u), l12, l13, l14, l15] (.long u :: S) sh mi mj mr := zr_l (zD_of zk_153 d_153_281 rfl rfl) rfl rfl rfl
theorem q_153_283 : zRun 153 283 [l0, l1, l2, l3, l4, l5, l6, l7, l8, l9, l10, l11, l12, some (.long u), l14, l15] S sh mi mj mr = zRun 153 285 [l0, l1, l2, l3, l4, l5, l6, l7, l8, l9, l10, l11, l12, some (.long u), l14, l15] (.long u :: S) sh mi mj mr := zr_l (zD_of zk_153 d_153_283 rfl rfl) rfl rfl rfl
theorem q_153_285  {u0 u1 : Int64} (hS : zcat S ≤ 8) : zRun 153 285 L (.long u1 :: .long u0 :: S) sh mi mj mr = (zCall 150 [.long u0, .long u1] sh mi mj mr).bind fun r => zRun 153 288 L (r.1.toList ++ S) r.2.1 r.2.2.1 r.2.2.2.1 r.2.2.2.2 := zr_S (zD_of zk_153 d_153_285 rfl rfl) rfl zk_150 rfl rfl rfl hS
theorem q_153_288  : zRun 153 288 L S sh mi mj mr = zRun 153 291 L (.long 256 :: S) sh mi mj mr := zr_k64 (zD_of zk_153 d_153_288 rfl rfl) rfl
theorem q_153_291  {u0 u1 : Int64} (hS : zcat S ≤ 8) : zRun 153 291 L (.long u1 :: .long u0 :: S) sh mi mj mr = (zCall 147 [.long u0, .long u1] sh mi mj mr).bind fun r => zRun 153 294 L (r.1.toList ++ S) r.2.1 r.2.2.1 r.2.2.2.1 r.2.2.2.2 := zr_S (zD_of zk_153 d_153_291 rfl rfl) rfl zk_147 rfl rfl rfl hS
theorem q_153_294 (h : zAt sh o 2 x) : zRun 153 294 L (.long u :: .int x :: .ref o :: S) sh mi mj mr = zRun 153 295 L S sh mi (zup mj o x.toNatClampNeg u) mr := zr_last (zD_of zk_153 d_153_294 rfl rfl) h
theorem q_153_295r : zRun 153 295 [some (.ref o), l1, l2, l3, l4, l5, l6, l7, l8, l9, l10, l11, l12, l13, l14, l15] S sh mi mj mr = zRun 153 296 [some (.ref o), l1, l2, l3, l4, l5, l6, l7, l8, l9, l10, l11, l12, l13, l14, l15] (.ref o :: S) sh mi mj mr := zr_l (zD_of zk_153 d_153_295 rfl rfl) rfl rfl rfl
theorem q_153_295n : zRun 153 295 [some (.null), l1, l2, l3, l4, l5, l6, l7, l8, l9, l10, l11, l12, l13, l14, l15] S sh mi mj mr = zRun 153 296 [some (.null), l1, l2, l3, l4, l5, l6, l7, l8, l9, l10, l11, l12, l13, l14, l15] (.null :: S) sh mi mj mr := zr_l (zD_of zk_153 d_153_295 rfl rfl) rfl rfl rfl
theorem q_153_296 (h : zIs sh o 0 8) : zRun 153 296 L (.ref o :: S) sh mi mj mr = zRun 153 299 L (va_rf (mr o 10) :: S) sh mi mj mr := zr_getR (zD_of zk_153 d_153_296 rfl rfl) rfl rfl rfl h
theorem q_153_299 : zRun 153 299 [l0, l1, some (.int x), l3, l4, l5, l6, l7, l8, l9, l10, l11, l12, l13, l14, l15] S sh mi mj mr = zRun 153 300 [l0, l1, some (.int x), l3, l4, l5, l6, l7, l8, l9, l10, l11, l12, l13, l14, l15] (.int x :: S) sh mi mj mr := zr_l (zD_of zk_153 d_153_299 rfl rfl) rfl rfl rfl
theorem q_153_300  : zRun 153 300 L S sh mi mj mr = zRun 153 302 L (.int 15 :: S) sh mi mj mr := zr_p (zD_of zk_153 d_153_300 rfl rfl) rfl
theorem q_153_302  : zRun 153 302 L (.int y :: .int x :: S) sh mi mj mr = zRun 153 303 L (.int (x + y) :: S) sh mi mj mr := zr_p (zD_of zk_153 d_153_302 rfl rfl) rfl
theorem q_153_303 : zRun 153 303 [l0, l1, l2, l3, l4, l5, l6, l7, l8, l9, l10, some (.long u), l12, l13, l14, l15] S sh mi mj mr = zRun 153 305 [l0, l1, l2, l3, l4, l5, l6, l7, l8, l9, l10, some (.long u), l12, l13, l14, l15] (.long u :: S) sh mi mj mr := zr_l (zD_of zk_153 d_153_303 rfl rfl) rfl rfl rfl
theorem q_153_305 : zRun 153 305 [l0, l1, l2, l3, l4, l5, l6, l7, l8, l9, l10, l11, l12, some (.long u), l14, l15] S sh mi mj mr = zRun 153 307 [l0, l1, l2, l3, l4, l5, l6, l7, l8, l9, l10, l11, l12, some (.long u), l14, l15] (.long u :: S) sh mi mj mr := zr_l (zD_of zk_153 d_153_305 rfl rfl) rfl rfl rfl
theorem q_153_307  {u0 u1 : Int64} (hS : zcat S ≤ 8) : zRun 153 307 L (.long u1 :: .long u0 :: S) sh mi mj mr = (zCall 151 [.long u0, .long u1] sh mi mj mr).bind fun r => zRun 153 310 L (r.1.toList ++ S) r.2.1 r.2.2.1 r.2.2.2.1 r.2.2.2.2 := zr_S (zD_of zk_153 d_153_307 rfl rfl) rfl zk_151 rfl rfl rfl hS
theorem q_153_310  : zRun 153 310 L S sh mi mj mr = zRun 153 313 L (.long 256 :: S) sh mi mj mr := zr_k64 (zD_of zk_153 d_153_310 rfl rfl) rfl
theorem q_153_313  {u0 u1 : Int64} (hS : zcat S ≤ 8) : zRun 153 313 L (.long u1 :: .long u0 :: S) sh mi mj mr = (zCall 148 [.long u0, .long u1] sh mi mj mr).bind fun r => zRun 153 316 L (r.1.toList ++ S) r.2.1 r.2.2.1 r.2.2.2.1 r.2.2.2.2 := zr_S (zD_of zk_153 d_153_313 rfl rfl) rfl zk_148 rfl rfl rfl hS
theorem q_153_316 (h : zAt sh o 2 x) : zRun 153 316 L (.long u :: .int x :: .ref o :: S) sh mi mj mr = zRun 153 317 L S sh mi (zup mj o x.toNatClampNeg u) mr := zr_last (zD_of zk_153 d_153_316 rfl rfl) h
theorem q_153_317  : zRun 153 317 L [] sh mi mj mr = some (none, sh, mi, mj, mr) := zr_ret (zD_of zk_153 d_153_317 rfl rfl) rfl rfl rfl rfl rfl rfl
theorem e_153 {x0 : Int32} : zCall 153 [.ref o, .int x0] sh mi mj mr = zRun 153 0 [some (.ref o), some (.int x0), none, none, none, none, none, none, none, none, none, none, none, none, none, none] [] sh mi mj mr := rfl
theorem d_154_0 : decode cX8_root 0 = .ok (.lconst 0, 1) := by decide +kernel
theorem d_154_1 : decode cX8_root 1 = .ok (.lstore_n 2, 1) := by decide +kernel
theorem d_154_2 : decode cX8_root 2 = .ok (.ldc2_w 187, 3) := by decide +kernel
theorem d_154_5 : decode cX8_root 5 = .ok (.lstore 4, 2) := by decide +kernel
theorem d_154_7 : decode cX8_root 7 = .ok (.lload_n 2, 1) := by decide +kernel
theorem d_154_8 : decode cX8_root 8 = .ok (.lload 4, 2) := by decide +kernel
theorem d_154_10 : decode cX8_root 10 = .ok (.lcmp, 1) := by decide +kernel
theorem d_154_11 : decode cX8_root 11 = .ok (.ifCond .ge 40, 3) := by decide +kernel
theorem d_154_14 : decode cX8_root 14 = .ok (.lload_n 2, 1) := by decide +kernel
theorem d_154_15 : decode cX8_root 15 = .ok (.lload 4, 2) := by decide +kernel
theorem d_154_17 : decode cX8_root 17 = .ok (.ladd, 1) := by decide +kernel
theorem d_154_18 : decode cX8_root 18 = .ok (.lconst 1, 1) := by decide +kernel
theorem d_154_19 : decode cX8_root 19 = .ok (.ladd, 1) := by decide +kernel
theorem d_154_20 : decode cX8_root 20 = .ok (.ldc2_w 185, 3) := by decide +kernel
theorem d_154_23 : decode cX8_root 23 = .ok (.ldiv, 1) := by decide +kernel
theorem d_154_24 : decode cX8_root 24 = .ok (.lstore 6, 2) := by decide +kernel
theorem d_154_26 : decode cX8_root 26 = .ok (.lload 6, 2) := by decide +kernel
theorem d_154_28 : decode cX8_root 28 = .ok (.lload 6, 2) := by decide +kernel
theorem d_154_30 : decode cX8_root 30 = .ok (.lmul, 1) := by decide +kernel
theorem d_154_31 : decode cX8_root 31 = .ok (.lload_n 0, 1) := by decide +kernel
theorem d_154_32 : decode cX8_root 32 = .ok (.lcmp, 1) := by decide +kernel
theorem d_154_33 : decode cX8_root 33 = .ok (.ifCond .gt 9, 3) := by decide +kernel
theorem d_154_36 : decode cX8_root 36 = .ok (.lload 6, 2) := by decide +kernel
theorem d_154_38 : decode cX8_root 38 = .ok (.lstore_n 2, 1) := by decide +kernel
theorem d_154_39 : decode cX8_root 39 = .ok (.goto 9, 3) := by decide +kernel
theorem d_154_42 : decode cX8_root 42 = .ok (.lload 6, 2) := by decide +kernel
theorem d_154_44 : decode cX8_root 44 = .ok (.lconst 1, 1) := by decide +kernel
theorem d_154_45 : decode cX8_root 45 = .ok (.lsub, 1) := by decide +kernel
theorem d_154_46 : decode cX8_root 46 = .ok (.lstore 4, 2) := by decide +kernel
theorem d_154_48 : decode cX8_root 48 = .ok (.goto (-41), 3) := by decide +kernel
theorem d_154_51 : decode cX8_root 51 = .ok (.lload_n 2, 1) := by decide +kernel
theorem d_154_52 : decode cX8_root 52 = .ok (.lreturn, 1) := by decide +kernel
theorem q_154_0  : zRun 154 0 L S sh mi mj mr = zRun 154 1 L (.long 0 :: S) sh mi mj mr := zr_p (zD_of zk_154 d_154_0 rfl rfl) rfl
theorem q_154_1 : zRun 154 1 [l0, l1, l2, l3, l4, l5, l6, l7] (.long u :: S) sh mi mj mr = zRun 154 2 [l0, zk2 l1, some (.long u), none, l4, l5, l6, l7] S sh mi mj mr := zr_s2 (i := 2) (v := .long u) (L := [l0, l1, l2, l3, l4, l5, l6, l7]) (zD_of zk_154 d_154_1 rfl rfl) rfl rfl rfl rfl
theorem q_154_2  : zRun 154 2 L S sh mi mj mr = zRun 154 5 L (.long 1000000 :: S) sh mi mj mr := zr_k64 (zD_of zk_154 d_154_2 rfl rfl) rfl
theorem q_154_5 : zRun 154 5 [l0, l1, l2, l3, l4, l5, l6, l7] (.long u :: S) sh mi mj mr = zRun 154 7 [l0, l1, l2, zk2 l3, some (.long u), none, l6, l7] S sh mi mj mr := zr_s2 (i := 4) (v := .long u) (L := [l0, l1, l2, l3, l4, l5, l6, l7]) (zD_of zk_154 d_154_5 rfl rfl) rfl rfl rfl rfl
theorem q_154_7 : zRun 154 7 [l0, l1, some (.long u), l3, l4, l5, l6, l7] S sh mi mj mr = zRun 154 8 [l0, l1, some (.long u), l3, l4, l5, l6, l7] (.long u :: S) sh mi mj mr := zr_l (zD_of zk_154 d_154_7 rfl rfl) rfl rfl rfl
theorem q_154_8 : zRun 154 8 [l0, l1, l2, l3, some (.long u), l5, l6, l7] S sh mi mj mr = zRun 154 10 [l0, l1, l2, l3, some (.long u), l5, l6, l7] (.long u :: S) sh mi mj mr := zr_l (zD_of zk_154 d_154_8 rfl rfl) rfl rfl rfl
theorem q_154_10  : zRun 154 10 L (.long v :: .long u :: S) sh mi mj mr = if v ≤ u then zRun 154 51 L S sh mi mj mr else zRun 154 14 L S sh mi mj mr := zr_cmp (off := 40) (zD_of zk_154 d_154_10 rfl rfl) (zD_of zk_154 d_154_11 rfl rfl) rfl rfl (by decide) (lg_cmp_ge u v)
theorem q_154_11  : zRun 154 11 L (.int x :: S) sh mi mj mr = if 0 ≤ x then zRun 154 51 L S sh mi mj mr else zRun 154 14 L S sh mi mj mr := zr_if (off := 40) (P := 0 ≤ x) (zD_of zk_154 d_154_11 rfl rfl) rfl rfl (by decide)
theorem q_154_14 : zRun 154 14 [l0, l1, some (.long u), l3, l4, l5, l6, l7] S sh mi mj mr = zRun 154 15 [l0, l1, some (.long u), l3, l4, l5, l6, l7] (.long u :: S) sh mi mj mr := zr_l (zD_of zk_154 d_154_14 rfl rfl) rfl rfl rfl
theorem q_154_15 : zRun 154 15 [l0, l1, l2, l3, some (.long u), l5, l6, l7] S sh mi mj mr = zRun 154 17 [l0, l1, l2, l3, some (.long u), l5, l6, l7] (.long u :: S) sh mi mj mr := zr_l (zD_of zk_154 d_154_15 rfl rfl) rfl rfl rfl
theorem q_154_17  : zRun 154 17 L (.long v :: .long u :: S) sh mi mj mr = zRun 154 18 L (.long (u + v) :: S) sh mi mj mr := zr_p (zD_of zk_154 d_154_17 rfl rfl) rfl
theorem q_154_18  : zRun 154 18 L S sh mi mj mr = zRun 154 19 L (.long 1 :: S) sh mi mj mr := zr_p (zD_of zk_154 d_154_18 rfl rfl) rfl
theorem q_154_19  : zRun 154 19 L (.long v :: .long u :: S) sh mi mj mr = zRun 154 20 L (.long (u + v) :: S) sh mi mj mr := zr_p (zD_of zk_154 d_154_19 rfl rfl) rfl
theorem q_154_20  : zRun 154 20 L S sh mi mj mr = zRun 154 23 L (.long 2 :: S) sh mi mj mr := zr_k64 (zD_of zk_154 d_154_20 rfl rfl) rfl
theorem q_154_23 (h : ¬ v = 0) : zRun 154 23 L (.long v :: .long u :: S) sh mi mj mr = zRun 154 24 L (.long (u / v) :: S) sh mi mj mr := zr_p (zD_of zk_154 d_154_23 rfl rfl) (if_neg h)
theorem q_154_24 : zRun 154 24 [l0, l1, l2, l3, l4, l5, l6, l7] (.long u :: S) sh mi mj mr = zRun 154 26 [l0, l1, l2, l3, l4, zk2 l5, some (.long u), none] S sh mi mj mr := zr_s2 (i := 6) (v := .long u) (L := [l0, l1, l2, l3, l4, l5, l6, l7]) (zD_of zk_154 d_154_24 rfl rfl) rfl rfl rfl rfl
theorem q_154_26 : zRun 154 26 [l0, l1, l2, l3, l4, l5, some (.long u), l7] S sh mi mj mr = zRun 154 28 [l0, l1, l2, l3, l4, l5, some (.long u), l7] (.long u :: S) sh mi mj mr := zr_l (zD_of zk_154 d_154_26 rfl rfl) rfl rfl rfl
theorem q_154_28 : zRun 154 28 [l0, l1, l2, l3, l4, l5, some (.long u), l7] S sh mi mj mr = zRun 154 30 [l0, l1, l2, l3, l4, l5, some (.long u), l7] (.long u :: S) sh mi mj mr := zr_l (zD_of zk_154 d_154_28 rfl rfl) rfl rfl rfl
theorem q_154_30  : zRun 154 30 L (.long v :: .long u :: S) sh mi mj mr = zRun 154 31 L (.long (u * v) :: S) sh mi mj mr := zr_p (zD_of zk_154 d_154_30 rfl rfl) rfl
theorem q_154_31 : zRun 154 31 [some (.long u), l1, l2, l3, l4, l5, l6, l7] S sh mi mj mr = zRun 154 32 [some (.long u), l1, l2, l3, l4, l5, l6, l7] (.long u :: S) sh mi mj mr := zr_l (zD_of zk_154 d_154_31 rfl rfl) rfl rfl rfl
theorem q_154_32  : zRun 154 32 L (.long v :: .long u :: S) sh mi mj mr = if v < u then zRun 154 42 L S sh mi mj mr else zRun 154 36 L S sh mi mj mr := zr_cmp (off := 9) (zD_of zk_154 d_154_32 rfl rfl) (zD_of zk_154 d_154_33 rfl rfl) rfl rfl (by decide) (lg_cmp_gt u v)
theorem q_154_33  : zRun 154 33 L (.int x :: S) sh mi mj mr = if 0 < x then zRun 154 42 L S sh mi mj mr else zRun 154 36 L S sh mi mj mr := zr_if (off := 9) (P := 0 < x) (zD_of zk_154 d_154_33 rfl rfl) rfl rfl (by decide)
theorem q_154_36 : zRun 154 36 [l0, l1, l2, l3, l4, l5, some (.long u), l7] S sh mi mj mr = zRun 154 38 [l0, l1, l2, l3, l4, l5, some (.long u), l7] (.long u :: S) sh mi mj mr := zr_l (zD_of zk_154 d_154_36 rfl rfl) rfl rfl rfl
theorem q_154_38 : zRun 154 38 [l0, l1, l2, l3, l4, l5, l6, l7] (.long u :: S) sh mi mj mr = zRun 154 39 [l0, zk2 l1, some (.long u), none, l4, l5, l6, l7] S sh mi mj mr := zr_s2 (i := 2) (v := .long u) (L := [l0, l1, l2, l3, l4, l5, l6, l7]) (zD_of zk_154 d_154_38 rfl rfl) rfl rfl rfl rfl
theorem q_154_39  : zRun 154 39 L S sh mi mj mr = zRun 154 48 L S sh mi mj mr := zr_go (off := 9) (zD_of zk_154 d_154_39 rfl rfl) rfl rfl (by decide)
theorem q_154_42 : zRun 154 42 [l0, l1, l2, l3, l4, l5, some (.long u), l7] S sh mi mj mr = zRun 154 44 [l0, l1, l2, l3, l4, l5, some (.long u), l7] (.long u :: S) sh mi mj mr := zr_l (zD_of zk_154 d_154_42 rfl rfl) rfl rfl rfl
theorem q_154_44  : zRun 154 44 L S sh mi mj mr = zRun 154 45 L (.long 1 :: S) sh mi mj mr := zr_p (zD_of zk_154 d_154_44 rfl rfl) rfl
theorem q_154_45  : zRun 154 45 L (.long v :: .long u :: S) sh mi mj mr = zRun 154 46 L (.long (u - v) :: S) sh mi mj mr := zr_p (zD_of zk_154 d_154_45 rfl rfl) rfl
theorem q_154_46 : zRun 154 46 [l0, l1, l2, l3, l4, l5, l6, l7] (.long u :: S) sh mi mj mr = zRun 154 48 [l0, l1, l2, zk2 l3, some (.long u), none, l6, l7] S sh mi mj mr := zr_s2 (i := 4) (v := .long u) (L := [l0, l1, l2, l3, l4, l5, l6, l7]) (zD_of zk_154 d_154_46 rfl rfl) rfl rfl rfl rfl
theorem q_154_48  : zRun 154 48 L S sh mi mj mr = zRun 154 7 L S sh mi mj mr := zr_go (off := (-41)) (zD_of zk_154 d_154_48 rfl rfl) rfl rfl (by decide)
theorem q_154_51 : zRun 154 51 [l0, l1, some (.long u), l3, l4, l5, l6, l7] S sh mi mj mr = zRun 154 52 [l0, l1, some (.long u), l3, l4, l5, l6, l7] (.long u :: S) sh mi mj mr := zr_l (zD_of zk_154 d_154_51 rfl rfl) rfl rfl rfl
theorem q_154_52  : zRun 154 52 L ([.long u]) sh mi mj mr = some (some (.long u), sh, mi, mj, mr) := zr_ret (zD_of zk_154 d_154_52 rfl rfl) rfl rfl rfl rfl rfl rfl
theorem e_154 {u0 : Int64} : zCall 154 [.long u0] sh mi mj mr = zRun 154 0 [some (.long u0), none, none, none, none, none, none, none] [] sh mi mj mr := rfl
theorem d_155_0 : decode cX8_divide 0 = .ok (.aload_n 0, 1) := by decide +kernel
theorem d_155_1 : decode cX8_divide 1 = .ok (.iload_n 2, 1) := by decide +kernel
theorem d_155_2 : decode cX8_divide 2 = .ok (.invokevirtual 189, 3) := by decide +kernel
theorem d_155_5 : decode cX8_divide 5 = .ok (.lstore_n 3, 1) := by decide +kernel
theorem d_155_6 : decode cX8_divide 6 = .ok (.aload_n 0, 1) := by decide +kernel
theorem d_155_7 : decode cX8_divide 7 = .ok (.iload_n 2, 1) := by decide +kernel
theorem d_155_8 : decode cX8_divide 8 = .ok (.invokevirtual 192, 3) := by decide +kernel
theorem d_155_11 : decode cX8_divide 11 = .ok (.lstore 5, 2) := by decide +kernel
theorem d_155_13 : decode cX8_divide 13 = .ok (.lload_n 3, 1) := by decide +kernel
theorem d_155_14 : decode cX8_divide 14 = .ok (.lconst 0, 1) := by decide +kernel
theorem d_155_15 : decode cX8_divide 15 = .ok (.lcmp, 1) := by decide +kernel
theorem d_155_16 : decode cX8_divide 16 = .ok (.ifCond .gt 17, 3) := by decide +kernel
theorem d_155_19 : decode cX8_divide 19 = .ok (.lload 5, 2) := by decide +kernel
theorem d_155_21 : decode cX8_divide 21 = .ok (.lconst 0, 1) := by decide +kernel
theorem d_155_22 : decode cX8_divide 22 = .ok (.lcmp, 1) := by decide +kernel
theorem d_155_23 : decode cX8_divide 23 = .ok (.ifCond .lt 10, 3) := by decide +kernel
theorem d_155_26 : decode cX8_divide 26 = .ok (.aload_n 0, 1) := by decide +kernel
theorem d_155_27 : decode cX8_divide 27 = .ok (.iload_n 1, 1) := by decide +kernel
theorem d_155_28 : decode cX8_divide 28 = .ok (.iconst 1, 1) := by decide +kernel
theorem d_155_29 : decode cX8_divide 29 = .ok (.invokevirtual 195, 3) := by decide +kernel
theorem d_155_32 : decode cX8_divide 32 = .ok (.return_, 1) := by decide +kernel
theorem d_155_33 : decode cX8_divide 33 = .ok (.aload_n 0, 1) := by decide +kernel
theorem d_155_34 : decode cX8_divide 34 = .ok (.iload_n 2, 1) := by decide +kernel
theorem d_155_35 : decode cX8_divide 35 = .ok (.ldc2_w 198, 3) := by decide +kernel
theorem d_155_38 : decode cX8_divide 38 = .ok (.lload 5, 2) := by decide +kernel
theorem d_155_40 : decode cX8_divide 40 = .ok (.invokestatic 172, 3) := by decide +kernel
theorem d_155_43 : decode cX8_divide 43 = .ok (.ldc2_w 198, 3) := by decide +kernel
theorem d_155_46 : decode cX8_divide 46 = .ok (.lload_n 3, 1) := by decide +kernel
theorem d_155_47 : decode cX8_divide 47 = .ok (.invokestatic 168, 3) := by decide +kernel
theorem d_155_50 : decode cX8_divide 50 = .ok (.invokevirtual 200, 3) := by decide +kernel
theorem d_155_53 : decode cX8_divide 53 = .ok (.aload_n 0, 1) := by decide +kernel
theorem d_155_54 : decode cX8_divide 54 = .ok (.iload_n 1, 1) := by decide +kernel
theorem d_155_55 : decode cX8_divide 55 = .ok (.iload_n 2, 1) := by decide +kernel
theorem d_155_56 : decode cX8_divide 56 = .ok (.invokevirtual 204, 3) := by decide +kernel
theorem d_155_59 : decode cX8_divide 59 = .ok (.return_, 1) := by decide +kernel
theorem q_155_0r : zRun 155 0 [some (.ref o), l1, l2, l3, l4, l5, l6] S sh mi mj mr = zRun 155 1 [some (.ref o), l1, l2, l3, l4, l5, l6] (.ref o :: S) sh mi mj mr := zr_l (zD_of zk_155 d_155_0 rfl rfl) rfl rfl rfl
theorem q_155_0n : zRun 155 0 [some (.null), l1, l2, l3, l4, l5, l6] S sh mi mj mr = zRun 155 1 [some (.null), l1, l2, l3, l4, l5, l6] (.null :: S) sh mi mj mr := zr_l (zD_of zk_155 d_155_0 rfl rfl) rfl rfl rfl
theorem q_155_1 : zRun 155 1 [l0, l1, some (.int x), l3, l4, l5, l6] S sh mi mj mr = zRun 155 2 [l0, l1, some (.int x), l3, l4, l5, l6] (.int x :: S) sh mi mj mr := zr_l (zD_of zk_155 d_155_1 rfl rfl) rfl rfl rfl
theorem q_155_2  {x0 : Int32} (hS : zcat S ≤ 8) (h : zIs sh o 0 8) : zRun 155 2 L (.int x0 :: .ref o :: S) sh mi mj mr = (zCall 139 [.ref o, .int x0] sh mi mj mr).bind fun r => zRun 155 5 L (r.1.toList ++ S) r.2.1 r.2.2.1 r.2.2.2.1 r.2.2.2.2 := zr_V (zD_of zk_155 d_155_2 rfl rfl) rfl zk_139 rfl rfl rfl hS h
theorem q_155_5 : zRun 155 5 [l0, l1, l2, l3, l4, l5, l6] (.long u :: S) sh mi mj mr = zRun 155 6 [l0, l1, zk2 l2, some (.long u), none, l5, l6] S sh mi mj mr := zr_s2 (i := 3) (v := .long u) (L := [l0, l1, l2, l3, l4, l5, l6]) (zD_of zk_155 d_155_5 rfl rfl) rfl rfl rfl rfl
theorem q_155_6r : zRun 155 6 [some (.ref o), l1, l2, l3, l4, l5, l6] S sh mi mj mr = zRun 155 7 [some (.ref o), l1, l2, l3, l4, l5, l6] (.ref o :: S) sh mi mj mr := zr_l (zD_of zk_155 d_155_6 rfl rfl) rfl rfl rfl
theorem q_155_6n : zRun 155 6 [some (.null), l1, l2, l3, l4, l5, l6] S sh mi mj mr = zRun 155 7 [some (.null), l1, l2, l3, l4, l5, l6] (.null :: S) sh mi mj mr := zr_l (zD_of zk_155 d_155_6 rfl rfl) rfl rfl rfl
theorem q_155_7 : zRun 155 7 [l0, l1, some (.int x), l3, l4, l5, l6] S sh mi mj mr = zRun 155 8 [l0, l1, some (.int x), l3, l4, l5, l6] (.int x :: S) sh mi mj mr := zr_l (zD_of zk_155 d_155_7 rfl rfl) rfl rfl rfl
theorem q_155_8  {x0 : Int32} (hS : zcat S ≤ 8) (h : zIs sh o 0 8) : zRun 155 8 L (.int x0 :: .ref o :: S) sh mi mj mr = (zCall 140 [.ref o, .int x0] sh mi mj mr).bind fun r => zRun 155 11 L (r.1.toList ++ S) r.2.1 r.2.2.1 r.2.2.2.1 r.2.2.2.2 := zr_V (zD_of zk_155 d_155_8 rfl rfl) rfl zk_140 rfl rfl rfl hS h
theorem q_155_11 : zRun 155 11 [l0, l1, l2, l3, l4, l5, l6] (.long u :: S) sh mi mj mr = zRun 155 13 [l0, l1, l2, l3, zk2 l4, some (.long u), none] S sh mi mj mr := zr_s2 (i := 5) (v := .long u) (L := [l0, l1, l2, l3, l4, l5, l6]) (zD_of zk_155 d_155_11 rfl rfl) rfl rfl rfl rfl
theorem q_155_13 : zRun 155 13 [l0, l1, l2, some (.long u), l4, l5, l6] S sh mi mj mr = zRun 155 14 [l0, l1, l2, some (.long u), l4, l5, l6] (.long u :: S) sh mi mj mr := zr_l (zD_of zk_155 d_155_13 rfl rfl) rfl rfl rfl
theorem q_155_14  : zRun 155 14 L S sh mi mj mr = zRun 155 15 L (.long 0 :: S) sh mi mj mr := zr_p (zD_of zk_155 d_155_14 rfl rfl) rfl
theorem q_155_15  : zRun 155 15 L (.long v :: .long u :: S) sh mi mj mr = if v < u then zRun 155 33 L S sh mi mj mr else zRun 155 19 L S sh mi mj mr := zr_cmp (off := 17) (zD_of zk_155 d_155_15 rfl rfl) (zD_of zk_155 d_155_16 rfl rfl) rfl rfl (by decide) (lg_cmp_gt u v)
theorem q_155_16  : zRun 155 16 L (.int x :: S) sh mi mj mr = if 0 < x then zRun 155 33 L S sh mi mj mr else zRun 155 19 L S sh mi mj mr := zr_if (off := 17) (P := 0 < x) (zD_of zk_155 d_155_16 rfl rfl) rfl rfl (by decide)
theorem q_155_19 : zRun 155 19 [l0, l1, l2, l3, l4, some (.long u), l6] S sh mi mj mr = zRun 155 21 [l0, l1, l2, l3, l4, some (.long u), l6] (.long u :: S) sh mi mj mr := zr_l (zD_of zk_155 d_155_19 rfl rfl) rfl rfl rfl
theorem q_155_21  : zRun 155 21 L S sh mi mj mr = zRun 155 22 L (.long 0 :: S) sh mi mj mr := zr_p (zD_of zk_155 d_155_21 rfl rfl) rfl
theorem q_155_22  : zRun 155 22 L (.long v :: .long u :: S) sh mi mj mr = if u < v then zRun 155 33 L S sh mi mj mr else zRun 155 26 L S sh mi mj mr := zr_cmp (off := 10) (zD_of zk_155 d_155_22 rfl rfl) (zD_of zk_155 d_155_23 rfl rfl) rfl rfl (by decide) (lg_cmp_lt u v)
theorem q_155_23  : zRun 155 23 L (.int x :: S) sh mi mj mr = if x < 0 then zRun 155 33 L S sh mi mj mr else zRun 155 26 L S sh mi mj mr := zr_if (off := 10) (P := x < 0) (zD_of zk_155 d_155_23 rfl rfl) rfl rfl (by decide)
theorem q_155_26r : zRun 155 26 [some (.ref o), l1, l2, l3, l4, l5, l6] S sh mi mj mr = zRun 155 27 [some (.ref o), l1, l2, l3, l4, l5, l6] (.ref o :: S) sh mi mj mr := zr_l (zD_of zk_155 d_155_26 rfl rfl) rfl rfl rfl
theorem q_155_26n : zRun 155 26 [some (.null), l1, l2, l3, l4, l5, l6] S sh mi mj mr = zRun 155 27 [some (.null), l1, l2, l3, l4, l5, l6] (.null :: S) sh mi mj mr := zr_l (zD_of zk_155 d_155_26 rfl rfl) rfl rfl rfl
theorem q_155_27 : zRun 155 27 [l0, some (.int x), l2, l3, l4, l5, l6] S sh mi mj mr = zRun 155 28 [l0, some (.int x), l2, l3, l4, l5, l6] (.int x :: S) sh mi mj mr := zr_l (zD_of zk_155 d_155_27 rfl rfl) rfl rfl rfl
theorem q_155_28  : zRun 155 28 L S sh mi mj mr = zRun 155 29 L (.int 1 :: S) sh mi mj mr := zr_p (zD_of zk_155 d_155_28 rfl rfl) rfl
theorem q_155_29  {x0 x1 : Int32} (hS : zcat S ≤ 8) (h : zIs sh o 0 8) : zRun 155 29 L (.int x1 :: .int x0 :: .ref o :: S) sh mi mj mr = (zCall 144 [.ref o, .int x0, .int x1] sh mi mj mr).bind fun r => zRun 155 32 L (r.1.toList ++ S) r.2.1 r.2.2.1 r.2.2.2.1 r.2.2.2.2 := zr_V (zD_of zk_155 d_155_29 rfl rfl) rfl zk_144 rfl rfl rfl hS h
theorem q_155_32  : zRun 155 32 L [] sh mi mj mr = some (none, sh, mi, mj, mr) := zr_ret (zD_of zk_155 d_155_32 rfl rfl) rfl rfl rfl rfl rfl rfl
theorem q_155_33r : zRun 155 33 [some (.ref o), l1, l2, l3, l4, l5, l6] S sh mi mj mr = zRun 155 34 [some (.ref o), l1, l2, l3, l4, l5, l6] (.ref o :: S) sh mi mj mr := zr_l (zD_of zk_155 d_155_33 rfl rfl) rfl rfl rfl
theorem q_155_33n : zRun 155 33 [some (.null), l1, l2, l3, l4, l5, l6] S sh mi mj mr = zRun 155 34 [some (.null), l1, l2, l3, l4, l5, l6] (.null :: S) sh mi mj mr := zr_l (zD_of zk_155 d_155_33 rfl rfl) rfl rfl rfl
theorem q_155_34 : zRun 155 34 [l0, l1, some (.int x), l3, l4, l5, l6] S sh mi mj mr = zRun 155 35 [l0, l1, some (.int x), l3, l4, l5, l6] (.int x :: S) sh mi mj mr := zr_l (zD_of zk_155 d_155_34 rfl rfl) rfl rfl rfl
theorem q_155_35  : zRun 155 35 L S sh mi mj mr = zRun 155 38 L (.long 65536 :: S) sh mi mj mr := zr_k64 (zD_of zk_155 d_155_35 rfl rfl) rfl
theorem q_155_38 : zRun 155 38 [l0, l1, l2, l3, l4, some (.long u), l6] S sh mi mj mr = zRun 155 40 [l0, l1, l2, l3, l4, some (.long u), l6] (.long u :: S) sh mi mj mr := zr_l (zD_of zk_155 d_155_38 rfl rfl) rfl rfl rfl
theorem q_155_40  {u0 u1 : Int64} (hS : zcat S ≤ 8) : zRun 155 40 L (.long u1 :: .long u0 :: S) sh mi mj mr = (zCall 147 [.long u0, .long u1] sh mi mj mr).bind fun r => zRun 155 43 L (r.1.toList ++ S) r.2.1 r.2.2.1 r.2.2.2.1 r.2.2.2.2 := zr_S (zD_of zk_155 d_155_40 rfl rfl) rfl zk_147 rfl rfl rfl hS
theorem q_155_43  : zRun 155 43 L S sh mi mj mr = zRun 155 46 L (.long 65536 :: S) sh mi mj mr := zr_k64 (zD_of zk_155 d_155_43 rfl rfl) rfl
theorem q_155_46 : zRun 155 46 [l0, l1, l2, some (.long u), l4, l5, l6] S sh mi mj mr = zRun 155 47 [l0, l1, l2, some (.long u), l4, l5, l6] (.long u :: S) sh mi mj mr := zr_l (zD_of zk_155 d_155_46 rfl rfl) rfl rfl rfl
theorem q_155_47  {u0 u1 : Int64} (hS : zcat S ≤ 8) : zRun 155 47 L (.long u1 :: .long u0 :: S) sh mi mj mr = (zCall 148 [.long u0, .long u1] sh mi mj mr).bind fun r => zRun 155 50 L (r.1.toList ++ S) r.2.1 r.2.2.1 r.2.2.2.1 r.2.2.2.2 := zr_S (zD_of zk_155 d_155_47 rfl rfl) rfl zk_148 rfl rfl rfl hS
theorem q_155_50  {x0 : Int32} {u0 u1 : Int64} (hS : zcat S ≤ 8) (h : zIs sh o 0 8) : zRun 155 50 L (.long u1 :: .long u0 :: .int x0 :: .ref o :: S) sh mi mj mr = (zCall 145 [.ref o, .int x0, .long u0, .long u1] sh mi mj mr).bind fun r => zRun 155 53 L (r.1.toList ++ S) r.2.1 r.2.2.1 r.2.2.2.1 r.2.2.2.2 := zr_V (zD_of zk_155 d_155_50 rfl rfl) rfl zk_145 rfl rfl rfl hS h
theorem q_155_53r : zRun 155 53 [some (.ref o), l1, l2, l3, l4, l5, l6] S sh mi mj mr = zRun 155 54 [some (.ref o), l1, l2, l3, l4, l5, l6] (.ref o :: S) sh mi mj mr := zr_l (zD_of zk_155 d_155_53 rfl rfl) rfl rfl rfl
theorem q_155_53n : zRun 155 53 [some (.null), l1, l2, l3, l4, l5, l6] S sh mi mj mr = zRun 155 54 [some (.null), l1, l2, l3, l4, l5, l6] (.null :: S) sh mi mj mr := zr_l (zD_of zk_155 d_155_53 rfl rfl) rfl rfl rfl
theorem q_155_54 : zRun 155 54 [l0, some (.int x), l2, l3, l4, l5, l6] S sh mi mj mr = zRun 155 55 [l0, some (.int x), l2, l3, l4, l5, l6] (.int x :: S) sh mi mj mr := zr_l (zD_of zk_155 d_155_54 rfl rfl) rfl rfl rfl
theorem q_155_55 : zRun 155 55 [l0, l1, some (.int x), l3, l4, l5, l6] S sh mi mj mr = zRun 155 56 [l0, l1, some (.int x), l3, l4, l5, l6] (.int x :: S) sh mi mj mr := zr_l (zD_of zk_155 d_155_55 rfl rfl) rfl rfl rfl
theorem q_155_56  {x0 x1 : Int32} (hS : zcat S ≤ 8) (h : zIs sh o 0 8) : zRun 155 56 L (.int x1 :: .int x0 :: .ref o :: S) sh mi mj mr = (zCall 152 [.ref o, .int x0, .int x1] sh mi mj mr).bind fun r => zRun 155 59 L (r.1.toList ++ S) r.2.1 r.2.2.1 r.2.2.2.1 r.2.2.2.2 := zr_V (zD_of zk_155 d_155_56 rfl rfl) rfl zk_152 rfl rfl rfl hS h
theorem q_155_59  : zRun 155 59 L [] sh mi mj mr = some (none, sh, mi, mj, mr) := zr_ret (zD_of zk_155 d_155_59 rfl rfl) rfl rfl rfl rfl rfl rfl
theorem e_155 {x0 x1 : Int32} : zCall 155 [.ref o, .int x0, .int x1] sh mi mj mr = zRun 155 0 [some (.ref o), some (.int x0), some (.int x1), none, none, none, none] [] sh mi mj mr := rfl
theorem d_156_0 : decode cX8_absolute 0 = .ok (.aload_n 0, 1) := by decide +kernel
theorem d_156_1 : decode cX8_absolute 1 = .ok (.iload_n 1, 1) := by decide +kernel
theorem d_156_2 : decode cX8_absolute 2 = .ok (.invokevirtual 189, 3) := by decide +kernel
theorem d_156_5 : decode cX8_absolute 5 = .ok (.lstore_n 2, 1) := by decide +kernel
theorem d_156_6 : decode cX8_absolute 6 = .ok (.aload_n 0, 1) := by decide +kernel
theorem d_156_7 : decode cX8_absolute 7 = .ok (.iload_n 1, 1) := by decide +kernel
theorem d_156_8 : decode cX8_absolute 8 = .ok (.invokevirtual 192, 3) := by decide +kernel
theorem d_156_11 : decode cX8_absolute 11 = .ok (.lstore 4, 2) := by decide +kernel
theorem d_156_13 : decode cX8_absolute 13 = .ok (.lload_n 2, 1) := by decide +kernel
theorem d_156_14 : decode cX8_absolute 14 = .ok (.lconst 0, 1) := by decide +kernel
theorem d_156_15 : decode cX8_absolute 15 = .ok (.lcmp, 1) := by decide +kernel
theorem d_156_16 : decode cX8_absolute 16 = .ok (.ifCond .lt 4, 3) := by decide +kernel
theorem d_156_19 : decode cX8_absolute 19 = .ok (.return_, 1) := by decide +kernel
theorem d_156_20 : decode cX8_absolute 20 = .ok (.lload 4, 2) := by decide +kernel
theorem d_156_22 : decode cX8_absolute 22 = .ok (.lconst 0, 1) := by decide +kernel
theorem d_156_23 : decode cX8_absolute 23 = .ok (.lcmp, 1) := by decide +kernel
theorem d_156_24 : decode cX8_absolute 24 = .ok (.ifCond .gt 11, 3) := by decide +kernel
theorem d_156_27 : decode cX8_absolute 27 = .ok (.aload_n 0, 1) := by decide +kernel
theorem d_156_28 : decode cX8_absolute 28 = .ok (.iload_n 1, 1) := by decide +kernel
theorem d_156_29 : decode cX8_absolute 29 = .ok (.invokevirtual 163, 3) := by decide +kernel
theorem d_156_32 : decode cX8_absolute 32 = .ok (.goto 16, 3) := by decide +kernel
theorem d_156_35 : decode cX8_absolute 35 = .ok (.aload_n 0, 1) := by decide +kernel
theorem d_156_36 : decode cX8_absolute 36 = .ok (.iload_n 1, 1) := by decide +kernel
theorem d_156_37 : decode cX8_absolute 37 = .ok (.lconst 0, 1) := by decide +kernel
theorem d_156_38 : decode cX8_absolute 38 = .ok (.lload_n 2, 1) := by decide +kernel
theorem d_156_39 : decode cX8_absolute 39 = .ok (.lneg, 1) := by decide +kernel
theorem d_156_40 : decode cX8_absolute 40 = .ok (.lload 4, 2) := by decide +kernel
theorem d_156_42 : decode cX8_absolute 42 = .ok (.invokestatic 178, 3) := by decide +kernel
theorem d_156_45 : decode cX8_absolute 45 = .ok (.invokevirtual 200, 3) := by decide +kernel
theorem d_156_48 : decode cX8_absolute 48 = .ok (.return_, 1) := by decide +kernel
theorem q_156_0r : zRun 156 0 [some (.ref o), l1, l2, l3, l4, l5] S sh mi mj mr = zRun 156 1 [some (.ref o), l1, l2, l3, l4, l5] (.ref o :: S) sh mi mj mr := zr_l (zD_of zk_156 d_156_0 rfl rfl) rfl rfl rfl
theorem q_156_0n : zRun 156 0 [some (.null), l1, l2, l3, l4, l5] S sh mi mj mr = zRun 156 1 [some (.null), l1, l2, l3, l4, l5] (.null :: S) sh mi mj mr := zr_l (zD_of zk_156 d_156_0 rfl rfl) rfl rfl rfl
theorem q_156_1 : zRun 156 1 [l0, some (.int x), l2, l3, l4, l5] S sh mi mj mr = zRun 156 2 [l0, some (.int x), l2, l3, l4, l5] (.int x :: S) sh mi mj mr := zr_l (zD_of zk_156 d_156_1 rfl rfl) rfl rfl rfl
theorem q_156_2  {x0 : Int32} (hS : zcat S ≤ 8) (h : zIs sh o 0 8) : zRun 156 2 L (.int x0 :: .ref o :: S) sh mi mj mr = (zCall 139 [.ref o, .int x0] sh mi mj mr).bind fun r => zRun 156 5 L (r.1.toList ++ S) r.2.1 r.2.2.1 r.2.2.2.1 r.2.2.2.2 := zr_V (zD_of zk_156 d_156_2 rfl rfl) rfl zk_139 rfl rfl rfl hS h
theorem q_156_5 : zRun 156 5 [l0, l1, l2, l3, l4, l5] (.long u :: S) sh mi mj mr = zRun 156 6 [l0, zk2 l1, some (.long u), none, l4, l5] S sh mi mj mr := zr_s2 (i := 2) (v := .long u) (L := [l0, l1, l2, l3, l4, l5]) (zD_of zk_156 d_156_5 rfl rfl) rfl rfl rfl rfl
theorem q_156_6r : zRun 156 6 [some (.ref o), l1, l2, l3, l4, l5] S sh mi mj mr = zRun 156 7 [some (.ref o), l1, l2, l3, l4, l5] (.ref o :: S) sh mi mj mr := zr_l (zD_of zk_156 d_156_6 rfl rfl) rfl rfl rfl
theorem q_156_6n : zRun 156 6 [some (.null), l1, l2, l3, l4, l5] S sh mi mj mr = zRun 156 7 [some (.null), l1, l2, l3, l4, l5] (.null :: S) sh mi mj mr := zr_l (zD_of zk_156 d_156_6 rfl rfl) rfl rfl rfl
theorem q_156_7 : zRun 156 7 [l0, some (.int x), l2, l3, l4, l5] S sh mi mj mr = zRun 156 8 [l0, some (.int x), l2, l3, l4, l5] (.int x :: S) sh mi mj mr := zr_l (zD_of zk_156 d_156_7 rfl rfl) rfl rfl rfl
theorem q_156_8  {x0 : Int32} (hS : zcat S ≤ 8) (h : zIs sh o 0 8) : zRun 156 8 L (.int x0 :: .ref o :: S) sh mi mj mr = (zCall 140 [.ref o, .int x0] sh mi mj mr).bind fun r => zRun 156 11 L (r.1.toList ++ S) r.2.1 r.2.2.1 r.2.2.2.1 r.2.2.2.2 := zr_V (zD_of zk_156 d_156_8 rfl rfl) rfl zk_140 rfl rfl rfl hS h
theorem q_156_11 : zRun 156 11 [l0, l1, l2, l3, l4, l5] (.long u :: S) sh mi mj mr = zRun 156 13 [l0, l1, l2, zk2 l3, some (.long u), none] S sh mi mj mr := zr_s2 (i := 4) (v := .long u) (L := [l0, l1, l2, l3, l4, l5]) (zD_of zk_156 d_156_11 rfl rfl) rfl rfl rfl rfl
theorem q_156_13 : zRun 156 13 [l0, l1, some (.long u), l3, l4, l5] S sh mi mj mr = zRun 156 14 [l0, l1, some (.long u), l3, l4, l5] (.long u :: S) sh mi mj mr := zr_l (zD_of zk_156 d_156_13 rfl rfl) rfl rfl rfl
theorem q_156_14  : zRun 156 14 L S sh mi mj mr = zRun 156 15 L (.long 0 :: S) sh mi mj mr := zr_p (zD_of zk_156 d_156_14 rfl rfl) rfl
theorem q_156_15  : zRun 156 15 L (.long v :: .long u :: S) sh mi mj mr = if u < v then zRun 156 20 L S sh mi mj mr else zRun 156 19 L S sh mi mj mr := zr_cmp (off := 4) (zD_of zk_156 d_156_15 rfl rfl) (zD_of zk_156 d_156_16 rfl rfl) rfl rfl (by decide) (lg_cmp_lt u v)
theorem q_156_16  : zRun 156 16 L (.int x :: S) sh mi mj mr = if x < 0 then zRun 156 20 L S sh mi mj mr else zRun 156 19 L S sh mi mj mr := zr_if (off := 4) (P := x < 0) (zD_of zk_156 d_156_16 rfl rfl) rfl rfl (by decide)
theorem q_156_19  : zRun 156 19 L [] sh mi mj mr = some (none, sh, mi, mj, mr) := zr_ret (zD_of zk_156 d_156_19 rfl rfl) rfl rfl rfl rfl rfl rfl
theorem q_156_20 : zRun 156 20 [l0, l1, l2, l3, some (.long u), l5] S sh mi mj mr = zRun 156 22 [l0, l1, l2, l3, some (.long u), l5] (.long u :: S) sh mi mj mr := zr_l (zD_of zk_156 d_156_20 rfl rfl) rfl rfl rfl
theorem q_156_22  : zRun 156 22 L S sh mi mj mr = zRun 156 23 L (.long 0 :: S) sh mi mj mr := zr_p (zD_of zk_156 d_156_22 rfl rfl) rfl
theorem q_156_23  : zRun 156 23 L (.long v :: .long u :: S) sh mi mj mr = if v < u then zRun 156 35 L S sh mi mj mr else zRun 156 27 L S sh mi mj mr := zr_cmp (off := 11) (zD_of zk_156 d_156_23 rfl rfl) (zD_of zk_156 d_156_24 rfl rfl) rfl rfl (by decide) (lg_cmp_gt u v)
theorem q_156_24  : zRun 156 24 L (.int x :: S) sh mi mj mr = if 0 < x then zRun 156 35 L S sh mi mj mr else zRun 156 27 L S sh mi mj mr := zr_if (off := 11) (P := 0 < x) (zD_of zk_156 d_156_24 rfl rfl) rfl rfl (by decide)
theorem q_156_27r : zRun 156 27 [some (.ref o), l1, l2, l3, l4, l5] S sh mi mj mr = zRun 156 28 [some (.ref o), l1, l2, l3, l4, l5] (.ref o :: S) sh mi mj mr := zr_l (zD_of zk_156 d_156_27 rfl rfl) rfl rfl rfl
theorem q_156_27n : zRun 156 27 [some (.null), l1, l2, l3, l4, l5] S sh mi mj mr = zRun 156 28 [some (.null), l1, l2, l3, l4, l5] (.null :: S) sh mi mj mr := zr_l (zD_of zk_156 d_156_27 rfl rfl) rfl rfl rfl
theorem q_156_28 : zRun 156 28 [l0, some (.int x), l2, l3, l4, l5] S sh mi mj mr = zRun 156 29 [l0, some (.int x), l2, l3, l4, l5] (.int x :: S) sh mi mj mr := zr_l (zD_of zk_156 d_156_28 rfl rfl) rfl rfl rfl
theorem q_156_29  {x0 : Int32} (hS : zcat S ≤ 8) (h : zIs sh o 0 8) : zRun 156 29 L (.int x0 :: .ref o :: S) sh mi mj mr = (zCall 146 [.ref o, .int x0] sh mi mj mr).bind fun r => zRun 156 32 L (r.1.toList ++ S) r.2.1 r.2.2.1 r.2.2.2.1 r.2.2.2.2 := zr_V (zD_of zk_156 d_156_29 rfl rfl) rfl zk_146 rfl rfl rfl hS h
theorem q_156_32  : zRun 156 32 L S sh mi mj mr = zRun 156 48 L S sh mi mj mr := zr_go (off := 16) (zD_of zk_156 d_156_32 rfl rfl) rfl rfl (by decide)
theorem q_156_35r : zRun 156 35 [some (.ref o), l1, l2, l3, l4, l5] S sh mi mj mr = zRun 156 36 [some (.ref o), l1, l2, l3, l4, l5] (.ref o :: S) sh mi mj mr := zr_l (zD_of zk_156 d_156_35 rfl rfl) rfl rfl rfl
theorem q_156_35n : zRun 156 35 [some (.null), l1, l2, l3, l4, l5] S sh mi mj mr = zRun 156 36 [some (.null), l1, l2, l3, l4, l5] (.null :: S) sh mi mj mr := zr_l (zD_of zk_156 d_156_35 rfl rfl) rfl rfl rfl
theorem q_156_36 : zRun 156 36 [l0, some (.int x), l2, l3, l4, l5] S sh mi mj mr = zRun 156 37 [l0, some (.int x), l2, l3, l4, l5] (.int x :: S) sh mi mj mr := zr_l (zD_of zk_156 d_156_36 rfl rfl) rfl rfl rfl
theorem q_156_37  : zRun 156 37 L S sh mi mj mr = zRun 156 38 L (.long 0 :: S) sh mi mj mr := zr_p (zD_of zk_156 d_156_37 rfl rfl) rfl
theorem q_156_38 : zRun 156 38 [l0, l1, some (.long u), l3, l4, l5] S sh mi mj mr = zRun 156 39 [l0, l1, some (.long u), l3, l4, l5] (.long u :: S) sh mi mj mr := zr_l (zD_of zk_156 d_156_38 rfl rfl) rfl rfl rfl
theorem q_156_39  : zRun 156 39 L (.long u :: S) sh mi mj mr = zRun 156 40 L (.long (-u) :: S) sh mi mj mr := zr_p (zD_of zk_156 d_156_39 rfl rfl) rfl
theorem q_156_40 : zRun 156 40 [l0, l1, l2, l3, some (.long u), l5] S sh mi mj mr = zRun 156 42 [l0, l1, l2, l3, some (.long u), l5] (.long u :: S) sh mi mj mr := zr_l (zD_of zk_156 d_156_40 rfl rfl) rfl rfl rfl
theorem q_156_42  {u0 u1 : Int64} (hS : zcat S ≤ 8) : zRun 156 42 L (.long u1 :: .long u0 :: S) sh mi mj mr = (zCall 151 [.long u0, .long u1] sh mi mj mr).bind fun r => zRun 156 45 L (r.1.toList ++ S) r.2.1 r.2.2.1 r.2.2.2.1 r.2.2.2.2 := zr_S (zD_of zk_156 d_156_42 rfl rfl) rfl zk_151 rfl rfl rfl hS
theorem q_156_45  {x0 : Int32} {u0 u1 : Int64} (hS : zcat S ≤ 8) (h : zIs sh o 0 8) : zRun 156 45 L (.long u1 :: .long u0 :: .int x0 :: .ref o :: S) sh mi mj mr = (zCall 145 [.ref o, .int x0, .long u0, .long u1] sh mi mj mr).bind fun r => zRun 156 48 L (r.1.toList ++ S) r.2.1 r.2.2.1 r.2.2.2.1 r.2.2.2.2 := zr_V (zD_of zk_156 d_156_45 rfl rfl) rfl zk_145 rfl rfl rfl hS h
theorem q_156_48  : zRun 156 48 L [] sh mi mj mr = some (none, sh, mi, mj, mr) := zr_ret (zD_of zk_156 d_156_48 rfl rfl) rfl rfl rfl rfl rfl rfl
theorem e_156 {x0 : Int32} : zCall 156 [.ref o, .int x0] sh mi mj mr = zRun 156 0 [some (.ref o), some (.int x0), none, none, none, none] [] sh mi mj mr := rfl
theorem d_157_0 : decode cX8_squareRoot 0 = .ok (.aload_n 0, 1) := by decide +kernel
theorem d_157_1 : decode cX8_squareRoot 1 = .ok (.iload_n 1, 1) := by decide +kernel
theorem d_157_2 : decode cX8_squareRoot 2 = .ok (.invokevirtual 189, 3) := by decide +kernel
theorem d_157_5 : decode cX8_squareRoot 5 = .ok (.lstore_n 2, 1) := by decide +kernel
theorem d_157_6 : decode cX8_squareRoot 6 = .ok (.aload_n 0, 1) := by decide +kernel
theorem d_157_7 : decode cX8_squareRoot 7 = .ok (.iload_n 1, 1) := by decide +kernel
theorem d_157_8 : decode cX8_squareRoot 8 = .ok (.invokevirtual 192, 3) := by decide +kernel
theorem d_157_11 : decode cX8_squareRoot 11 = .ok (.lstore 4, 2) := by decide +kernel
theorem d_157_13 : decode cX8_squareRoot 13 = .ok (.lload 4, 2) := by decide +kernel
theorem d_157_15 : decode cX8_squareRoot 15 = .ok (.lconst 0, 1) := by decide +kernel
theorem d_157_16 : decode cX8_squareRoot 16 = .ok (.lcmp, 1) := by decide +kernel
theorem d_157_17 : decode cX8_squareRoot 17 = .ok (.ifCond .ge 10, 3) := by decide +kernel
theorem d_157_20 : decode cX8_squareRoot 20 = .ok (.aload_n 0, 1) := by decide +kernel
theorem d_157_21 : decode cX8_squareRoot 21 = .ok (.iload_n 1, 1) := by decide +kernel
theorem d_157_22 : decode cX8_squareRoot 22 = .ok (.iconst 2, 1) := by decide +kernel
theorem d_157_23 : decode cX8_squareRoot 23 = .ok (.invokevirtual 195, 3) := by decide +kernel
theorem d_157_26 : decode cX8_squareRoot 26 = .ok (.return_, 1) := by decide +kernel
theorem d_157_27 : decode cX8_squareRoot 27 = .ok (.ldc2_w 166, 3) := by decide +kernel
theorem d_157_30 : decode cX8_squareRoot 30 = .ok (.lload 4, 2) := by decide +kernel
theorem d_157_32 : decode cX8_squareRoot 32 = .ok (.lmul, 1) := by decide +kernel
theorem d_157_33 : decode cX8_squareRoot 33 = .ok (.invokestatic 207, 3) := by decide +kernel
theorem d_157_36 : decode cX8_squareRoot 36 = .ok (.lstore 6, 2) := by decide +kernel
theorem d_157_38 : decode cX8_squareRoot 38 = .ok (.aload_n 0, 1) := by decide +kernel
theorem d_157_39 : decode cX8_squareRoot 39 = .ok (.iload_n 1, 1) := by decide +kernel
theorem d_157_40 : decode cX8_squareRoot 40 = .ok (.lload_n 2, 1) := by decide +kernel
theorem d_157_41 : decode cX8_squareRoot 41 = .ok (.lconst 0, 1) := by decide +kernel
theorem d_157_42 : decode cX8_squareRoot 42 = .ok (.lcmp, 1) := by decide +kernel
theorem d_157_43 : decode cX8_squareRoot 43 = .ok (.ifCond .ge 7, 3) := by decide +kernel
theorem d_157_46 : decode cX8_squareRoot 46 = .ok (.lconst 0, 1) := by decide +kernel
theorem d_157_47 : decode cX8_squareRoot 47 = .ok (.goto 8, 3) := by decide +kernel
theorem d_157_50 : decode cX8_squareRoot 50 = .ok (.ldc2_w 166, 3) := by decide +kernel
theorem d_157_53 : decode cX8_squareRoot 53 = .ok (.lload_n 2, 1) := by decide +kernel
theorem d_157_54 : decode cX8_squareRoot 54 = .ok (.lmul, 1) := by decide +kernel
theorem d_157_55 : decode cX8_squareRoot 55 = .ok (.invokestatic 207, 3) := by decide +kernel
theorem d_157_58 : decode cX8_squareRoot 58 = .ok (.lload 6, 2) := by decide +kernel
theorem d_157_60 : decode cX8_squareRoot 60 = .ok (.lload 6, 2) := by decide +kernel
theorem d_157_62 : decode cX8_squareRoot 62 = .ok (.lmul, 1) := by decide +kernel
theorem d_157_63 : decode cX8_squareRoot 63 = .ok (.ldc2_w 166, 3) := by decide +kernel
theorem d_157_66 : decode cX8_squareRoot 66 = .ok (.lload 4, 2) := by decide +kernel
theorem d_157_68 : decode cX8_squareRoot 68 = .ok (.lmul, 1) := by decide +kernel
theorem d_157_69 : decode cX8_squareRoot 69 = .ok (.lcmp, 1) := by decide +kernel
theorem d_157_70 : decode cX8_squareRoot 70 = .ok (.ifCond .ge 10, 3) := by decide +kernel
theorem d_157_73 : decode cX8_squareRoot 73 = .ok (.lload 6, 2) := by decide +kernel
theorem d_157_75 : decode cX8_squareRoot 75 = .ok (.lconst 1, 1) := by decide +kernel
theorem d_157_76 : decode cX8_squareRoot 76 = .ok (.ladd, 1) := by decide +kernel
theorem d_157_77 : decode cX8_squareRoot 77 = .ok (.goto 5, 3) := by decide +kernel
theorem d_157_80 : decode cX8_squareRoot 80 = .ok (.lload 6, 2) := by decide +kernel
theorem d_157_82 : decode cX8_squareRoot 82 = .ok (.invokevirtual 200, 3) := by decide +kernel
theorem d_157_85 : decode cX8_squareRoot 85 = .ok (.return_, 1) := by decide +kernel
theorem q_157_0r : zRun 157 0 [some (.ref o), l1, l2, l3, l4, l5, l6, l7] S sh mi mj mr = zRun 157 1 [some (.ref o), l1, l2, l3, l4, l5, l6, l7] (.ref o :: S) sh mi mj mr := zr_l (zD_of zk_157 d_157_0 rfl rfl) rfl rfl rfl
theorem q_157_0n : zRun 157 0 [some (.null), l1, l2, l3, l4, l5, l6, l7] S sh mi mj mr = zRun 157 1 [some (.null), l1, l2, l3, l4, l5, l6, l7] (.null :: S) sh mi mj mr := zr_l (zD_of zk_157 d_157_0 rfl rfl) rfl rfl rfl
theorem q_157_1 : zRun 157 1 [l0, some (.int x), l2, l3, l4, l5, l6, l7] S sh mi mj mr = zRun 157 2 [l0, some (.int x), l2, l3, l4, l5, l6, l7] (.int x :: S) sh mi mj mr := zr_l (zD_of zk_157 d_157_1 rfl rfl) rfl rfl rfl
theorem q_157_2  {x0 : Int32} (hS : zcat S ≤ 8) (h : zIs sh o 0 8) : zRun 157 2 L (.int x0 :: .ref o :: S) sh mi mj mr = (zCall 139 [.ref o, .int x0] sh mi mj mr).bind fun r => zRun 157 5 L (r.1.toList ++ S) r.2.1 r.2.2.1 r.2.2.2.1 r.2.2.2.2 := zr_V (zD_of zk_157 d_157_2 rfl rfl) rfl zk_139 rfl rfl rfl hS h
theorem q_157_5 : zRun 157 5 [l0, l1, l2, l3, l4, l5, l6, l7] (.long u :: S) sh mi mj mr = zRun 157 6 [l0, zk2 l1, some (.long u), none, l4, l5, l6, l7] S sh mi mj mr := zr_s2 (i := 2) (v := .long u) (L := [l0, l1, l2, l3, l4, l5, l6, l7]) (zD_of zk_157 d_157_5 rfl rfl) rfl rfl rfl rfl
theorem q_157_6r : zRun 157 6 [some (.ref o), l1, l2, l3, l4, l5, l6, l7] S sh mi mj mr = zRun 157 7 [some (.ref o), l1, l2, l3, l4, l5, l6, l7] (.ref o :: S) sh mi mj mr := zr_l (zD_of zk_157 d_157_6 rfl rfl) rfl rfl rfl
theorem q_157_6n : zRun 157 6 [some (.null), l1, l2, l3, l4, l5, l6, l7] S sh mi mj mr = zRun 157 7 [some (.null), l1, l2, l3, l4, l5, l6, l7] (.null :: S) sh mi mj mr := zr_l (zD_of zk_157 d_157_6 rfl rfl) rfl rfl rfl
theorem q_157_7 : zRun 157 7 [l0, some (.int x), l2, l3, l4, l5, l6, l7] S sh mi mj mr = zRun 157 8 [l0, some (.int x), l2, l3, l4, l5, l6, l7] (.int x :: S) sh mi mj mr := zr_l (zD_of zk_157 d_157_7 rfl rfl) rfl rfl rfl
theorem q_157_8  {x0 : Int32} (hS : zcat S ≤ 8) (h : zIs sh o 0 8) : zRun 157 8 L (.int x0 :: .ref o :: S) sh mi mj mr = (zCall 140 [.ref o, .int x0] sh mi mj mr).bind fun r => zRun 157 11 L (r.1.toList ++ S) r.2.1 r.2.2.1 r.2.2.2.1 r.2.2.2.2 := zr_V (zD_of zk_157 d_157_8 rfl rfl) rfl zk_140 rfl rfl rfl hS h
theorem q_157_11 : zRun 157 11 [l0, l1, l2, l3, l4, l5, l6, l7] (.long u :: S) sh mi mj mr = zRun 157 13 [l0, l1, l2, zk2 l3, some (.long u), none, l6, l7] S sh mi mj mr := zr_s2 (i := 4) (v := .long u) (L := [l0, l1, l2, l3, l4, l5, l6, l7]) (zD_of zk_157 d_157_11 rfl rfl) rfl rfl rfl rfl
theorem q_157_13 : zRun 157 13 [l0, l1, l2, l3, some (.long u), l5, l6, l7] S sh mi mj mr = zRun 157 15 [l0, l1, l2, l3, some (.long u), l5, l6, l7] (.long u :: S) sh mi mj mr := zr_l (zD_of zk_157 d_157_13 rfl rfl) rfl rfl rfl
theorem q_157_15  : zRun 157 15 L S sh mi mj mr = zRun 157 16 L (.long 0 :: S) sh mi mj mr := zr_p (zD_of zk_157 d_157_15 rfl rfl) rfl
theorem q_157_16  : zRun 157 16 L (.long v :: .long u :: S) sh mi mj mr = if v ≤ u then zRun 157 27 L S sh mi mj mr else zRun 157 20 L S sh mi mj mr := zr_cmp (off := 10) (zD_of zk_157 d_157_16 rfl rfl) (zD_of zk_157 d_157_17 rfl rfl) rfl rfl (by decide) (lg_cmp_ge u v)
theorem q_157_17  : zRun 157 17 L (.int x :: S) sh mi mj mr = if 0 ≤ x then zRun 157 27 L S sh mi mj mr else zRun 157 20 L S sh mi mj mr := zr_if (off := 10) (P := 0 ≤ x) (zD_of zk_157 d_157_17 rfl rfl) rfl rfl (by decide)
theorem q_157_20r : zRun 157 20 [some (.ref o), l1, l2, l3, l4, l5, l6, l7] S sh mi mj mr = zRun 157 21 [some (.ref o), l1, l2, l3, l4, l5, l6, l7] (.ref o :: S) sh mi mj mr := zr_l (zD_of zk_157 d_157_20 rfl rfl) rfl rfl rfl
theorem q_157_20n : zRun 157 20 [some (.null), l1, l2, l3, l4, l5, l6, l7] S sh mi mj mr = zRun 157 21 [some (.null), l1, l2, l3, l4, l5, l6, l7] (.null :: S) sh mi mj mr := zr_l (zD_of zk_157 d_157_20 rfl rfl) rfl rfl rfl
theorem q_157_21 : zRun 157 21 [l0, some (.int x), l2, l3, l4, l5, l6, l7] S sh mi mj mr = zRun 157 22 [l0, some (.int x), l2, l3, l4, l5, l6, l7] (.int x :: S) sh mi mj mr := zr_l (zD_of zk_157 d_157_21 rfl rfl) rfl rfl rfl
theorem q_157_22  : zRun 157 22 L S sh mi mj mr = zRun 157 23 L (.int 2 :: S) sh mi mj mr := zr_p (zD_of zk_157 d_157_22 rfl rfl) rfl
theorem q_157_23  {x0 x1 : Int32} (hS : zcat S ≤ 8) (h : zIs sh o 0 8) : zRun 157 23 L (.int x1 :: .int x0 :: .ref o :: S) sh mi mj mr = (zCall 144 [.ref o, .int x0, .int x1] sh mi mj mr).bind fun r => zRun 157 26 L (r.1.toList ++ S) r.2.1 r.2.2.1 r.2.2.2.1 r.2.2.2.2 := zr_V (zD_of zk_157 d_157_23 rfl rfl) rfl zk_144 rfl rfl rfl hS h
theorem q_157_26  : zRun 157 26 L [] sh mi mj mr = some (none, sh, mi, mj, mr) := zr_ret (zD_of zk_157 d_157_26 rfl rfl) rfl rfl rfl rfl rfl rfl
theorem q_157_27  : zRun 157 27 L S sh mi mj mr = zRun 157 30 L (.long 256 :: S) sh mi mj mr := zr_k64 (zD_of zk_157 d_157_27 rfl rfl) rfl
theorem q_157_30 : zRun 157 30 [l0, l1, l2, l3, some (.long u), l5, l6, l7] S sh mi mj mr = zRun 157 32 [l0, l1, l2, l3, some (.long u), l5, l6, l7] (.long u :: S) sh mi mj mr := zr_l (zD_of zk_157 d_157_30 rfl rfl) rfl rfl rfl
theorem q_157_32  : zRun 157 32 L (.long v :: .long u :: S) sh mi mj mr = zRun 157 33 L (.long (u * v) :: S) sh mi mj mr := zr_p (zD_of zk_157 d_157_32 rfl rfl) rfl
theorem q_157_33  {u0 : Int64} (hS : zcat S ≤ 8) : zRun 157 33 L (.long u0 :: S) sh mi mj mr = (zCall 154 [.long u0] sh mi mj mr).bind fun r => zRun 157 36 L (r.1.toList ++ S) r.2.1 r.2.2.1 r.2.2.2.1 r.2.2.2.2 := zr_S (zD_of zk_157 d_157_33 rfl rfl) rfl zk_154 rfl rfl rfl hS
theorem q_157_36 : zRun 157 36 [l0, l1, l2, l3, l4, l5, l6, l7] (.long u :: S) sh mi mj mr = zRun 157 38 [l0, l1, l2, l3, l4, zk2 l5, some (.long u), none] S sh mi mj mr := zr_s2 (i := 6) (v := .long u) (L := [l0, l1, l2, l3, l4, l5, l6, l7]) (zD_of zk_157 d_157_36 rfl rfl) rfl rfl rfl rfl
theorem q_157_38r : zRun 157 38 [some (.ref o), l1, l2, l3, l4, l5, l6, l7] S sh mi mj mr = zRun 157 39 [some (.ref o), l1, l2, l3, l4, l5, l6, l7] (.ref o :: S) sh mi mj mr := zr_l (zD_of zk_157 d_157_38 rfl rfl) rfl rfl rfl
theorem q_157_38n : zRun 157 38 [some (.null), l1, l2, l3, l4, l5, l6, l7] S sh mi mj mr = zRun 157 39 [some (.null), l1, l2, l3, l4, l5, l6, l7] (.null :: S) sh mi mj mr := zr_l (zD_of zk_157 d_157_38 rfl rfl) rfl rfl rfl
theorem q_157_39 : zRun 157 39 [l0, some (.int x), l2, l3, l4, l5, l6, l7] S sh mi mj mr = zRun 157 40 [l0, some (.int x), l2, l3, l4, l5, l6, l7] (.int x :: S) sh mi mj mr := zr_l (zD_of zk_157 d_157_39 rfl rfl) rfl rfl rfl
theorem q_157_40 : zRun 157 40 [l0, l1, some (.long u), l3, l4, l5, l6, l7] S sh mi mj mr = zRun 157 41 [l0, l1, some (.long u), l3, l4, l5, l6, l7] (.long u :: S) sh mi mj mr := zr_l (zD_of zk_157 d_157_40 rfl rfl) rfl rfl rfl
theorem q_157_41  : zRun 157 41 L S sh mi mj mr = zRun 157 42 L (.long 0 :: S) sh mi mj mr := zr_p (zD_of zk_157 d_157_41 rfl rfl) rfl
theorem q_157_42  : zRun 157 42 L (.long v :: .long u :: S) sh mi mj mr = if v ≤ u then zRun 157 50 L S sh mi mj mr else zRun 157 46 L S sh mi mj mr := zr_cmp (off := 7) (zD_of zk_157 d_157_42 rfl rfl) (zD_of zk_157 d_157_43 rfl rfl) rfl rfl (by decide) (lg_cmp_ge u v)
theorem q_157_43  : zRun 157 43 L (.int x :: S) sh mi mj mr = if 0 ≤ x then zRun 157 50 L S sh mi mj mr else zRun 157 46 L S sh mi mj mr := zr_if (off := 7) (P := 0 ≤ x) (zD_of zk_157 d_157_43 rfl rfl) rfl rfl (by decide)
theorem q_157_46  : zRun 157 46 L S sh mi mj mr = zRun 157 47 L (.long 0 :: S) sh mi mj mr := zr_p (zD_of zk_157 d_157_46 rfl rfl) rfl
theorem q_157_47  : zRun 157 47 L S sh mi mj mr = zRun 157 55 L S sh mi mj mr := zr_go (off := 8) (zD_of zk_157 d_157_47 rfl rfl) rfl rfl (by decide)
theorem q_157_50  : zRun 157 50 L S sh mi mj mr = zRun 157 53 L (.long 256 :: S) sh mi mj mr := zr_k64 (zD_of zk_157 d_157_50 rfl rfl) rfl
theorem q_157_53 : zRun 157 53 [l0, l1, some (.long u), l3, l4, l5, l6, l7] S sh mi mj mr = zRun 157 54 [l0, l1, some (.long u), l3, l4, l5, l6, l7] (.long u :: S) sh mi mj mr := zr_l (zD_of zk_157 d_157_53 rfl rfl) rfl rfl rfl
theorem q_157_54  : zRun 157 54 L (.long v :: .long u :: S) sh mi mj mr = zRun 157 55 L (.long (u * v) :: S) sh mi mj mr := zr_p (zD_of zk_157 d_157_54 rfl rfl) rfl
theorem q_157_55  {u0 : Int64} (hS : zcat S ≤ 8) : zRun 157 55 L (.long u0 :: S) sh mi mj mr = (zCall 154 [.long u0] sh mi mj mr).bind fun r => zRun 157 58 L (r.1.toList ++ S) r.2.1 r.2.2.1 r.2.2.2.1 r.2.2.2.2 := zr_S (zD_of zk_157 d_157_55 rfl rfl) rfl zk_154 rfl rfl rfl hS
theorem q_157_58 : zRun 157 58 [l0, l1, l2, l3, l4, l5, some (.long u), l7] S sh mi mj mr = zRun 157 60 [l0, l1, l2, l3, l4, l5, some (.long u), l7] (.long u :: S) sh mi mj mr := zr_l (zD_of zk_157 d_157_58 rfl rfl) rfl rfl rfl
theorem q_157_60 : zRun 157 60 [l0, l1, l2, l3, l4, l5, some (.long u), l7] S sh mi mj mr = zRun 157 62 [l0, l1, l2, l3, l4, l5, some (.long u), l7] (.long u :: S) sh mi mj mr := zr_l (zD_of zk_157 d_157_60 rfl rfl) rfl rfl rfl
theorem q_157_62  : zRun 157 62 L (.long v :: .long u :: S) sh mi mj mr = zRun 157 63 L (.long (u * v) :: S) sh mi mj mr := zr_p (zD_of zk_157 d_157_62 rfl rfl) rfl
theorem q_157_63  : zRun 157 63 L S sh mi mj mr = zRun 157 66 L (.long 256 :: S) sh mi mj mr := zr_k64 (zD_of zk_157 d_157_63 rfl rfl) rfl
theorem q_157_66 : zRun 157 66 [l0, l1, l2, l3, some (.long u), l5, l6, l7] S sh mi mj mr = zRun 157 68 [l0, l1, l2, l3, some (.long u), l5, l6, l7] (.long u :: S) sh mi mj mr := zr_l (zD_of zk_157 d_157_66 rfl rfl) rfl rfl rfl
theorem q_157_68  : zRun 157 68 L (.long v :: .long u :: S) sh mi mj mr = zRun 157 69 L (.long (u * v) :: S) sh mi mj mr := zr_p (zD_of zk_157 d_157_68 rfl rfl) rfl
theorem q_157_69  : zRun 157 69 L (.long v :: .long u :: S) sh mi mj mr = if v ≤ u then zRun 157 80 L S sh mi mj mr else zRun 157 73 L S sh mi mj mr := zr_cmp (off := 10) (zD_of zk_157 d_157_69 rfl rfl) (zD_of zk_157 d_157_70 rfl rfl) rfl rfl (by decide) (lg_cmp_ge u v)
theorem q_157_70  : zRun 157 70 L (.int x :: S) sh mi mj mr = if 0 ≤ x then zRun 157 80 L S sh mi mj mr else zRun 157 73 L S sh mi mj mr := zr_if (off := 10) (P := 0 ≤ x) (zD_of zk_157 d_157_70 rfl rfl) rfl rfl (by decide)
theorem q_157_73 : zRun 157 73 [l0, l1, l2, l3, l4, l5, some (.long u), l7] S sh mi mj mr = zRun 157 75 [l0, l1, l2, l3, l4, l5, some (.long u), l7] (.long u :: S) sh mi mj mr := zr_l (zD_of zk_157 d_157_73 rfl rfl) rfl rfl rfl
theorem q_157_75  : zRun 157 75 L S sh mi mj mr = zRun 157 76 L (.long 1 :: S) sh mi mj mr := zr_p (zD_of zk_157 d_157_75 rfl rfl) rfl
theorem q_157_76  : zRun 157 76 L (.long v :: .long u :: S) sh mi mj mr = zRun 157 77 L (.long (u + v) :: S) sh mi mj mr := zr_p (zD_of zk_157 d_157_76 rfl rfl) rfl
theorem q_157_77  : zRun 157 77 L S sh mi mj mr = zRun 157 82 L S sh mi mj mr := zr_go (off := 5) (zD_of zk_157 d_157_77 rfl rfl) rfl rfl (by decide)
theorem q_157_80 : zRun 157 80 [l0, l1, l2, l3, l4, l5, some (.long u), l7] S sh mi mj mr = zRun 157 82 [l0, l1, l2, l3, l4, l5, some (.long u), l7] (.long u :: S) sh mi mj mr := zr_l (zD_of zk_157 d_157_80 rfl rfl) rfl rfl rfl
theorem q_157_82  {x0 : Int32} {u0 u1 : Int64} (hS : zcat S ≤ 8) (h : zIs sh o 0 8) : zRun 157 82 L (.long u1 :: .long u0 :: .int x0 :: .ref o :: S) sh mi mj mr = (zCall 145 [.ref o, .int x0, .long u0, .long u1] sh mi mj mr).bind fun r => zRun 157 85 L (r.1.toList ++ S) r.2.1 r.2.2.1 r.2.2.2.1 r.2.2.2.2 := zr_V (zD_of zk_157 d_157_82 rfl rfl) rfl zk_145 rfl rfl rfl hS h
theorem q_157_85  : zRun 157 85 L [] sh mi mj mr = some (none, sh, mi, mj, mr) := zr_ret (zD_of zk_157 d_157_85 rfl rfl) rfl rfl rfl rfl rfl rfl
theorem e_157 {x0 : Int32} : zCall 157 [.ref o, .int x0] sh mi mj mr = zRun 157 0 [some (.ref o), some (.int x0), none, none, none, none, none, none] [] sh mi mj mr := rfl
theorem d_158_0 : decode cX8_extreme 0 = .ok (.aload_n 0, 1) := by decide +kernel
theorem d_158_1 : decode cX8_extreme 1 = .ok (.iload_n 1, 1) := by decide +kernel
theorem d_158_2 : decode cX8_extreme 2 = .ok (.invokevirtual 189, 3) := by decide +kernel
theorem d_158_5 : decode cX8_extreme 5 = .ok (.lstore 4, 2) := by decide +kernel
theorem d_158_7 : decode cX8_extreme 7 = .ok (.aload_n 0, 1) := by decide +kernel
theorem d_158_8 : decode cX8_extreme 8 = .ok (.iload_n 1, 1) := by decide +kernel
theorem d_158_9 : decode cX8_extreme 9 = .ok (.invokevirtual 192, 3) := by decide +kernel
theorem d_158_12 : decode cX8_extreme 12 = .ok (.lstore 6, 2) := by decide +kernel
theorem d_158_14 : decode cX8_extreme 14 = .ok (.aload_n 0, 1) := by decide +kernel
theorem d_158_15 : decode cX8_extreme 15 = .ok (.iload_n 2, 1) := by decide +kernel
theorem d_158_16 : decode cX8_extreme 16 = .ok (.invokevirtual 189, 3) := by decide +kernel
theorem d_158_19 : decode cX8_extreme 19 = .ok (.lstore 8, 2) := by decide +kernel
theorem d_158_21 : decode cX8_extreme 21 = .ok (.aload_n 0, 1) := by decide +kernel
theorem d_158_22 : decode cX8_extreme 22 = .ok (.iload_n 2, 1) := by decide +kernel
theorem d_158_23 : decode cX8_extreme 23 = .ok (.invokevirtual 192, 3) := by decide +kernel
theorem d_158_26 : decode cX8_extreme 26 = .ok (.lstore 10, 2) := by decide +kernel
theorem d_158_28 : decode cX8_extreme 28 = .ok (.iload_n 3, 1) := by decide +kernel
theorem d_158_29 : decode cX8_extreme 29 = .ok (.ifCond .eq 14, 3) := by decide +kernel
theorem d_158_32 : decode cX8_extreme 32 = .ok (.lload 6, 2) := by decide +kernel
theorem d_158_34 : decode cX8_extreme 34 = .ok (.lload 8, 2) := by decide +kernel
theorem d_158_36 : decode cX8_extreme 36 = .ok (.lcmp, 1) := by decide +kernel
theorem d_158_37 : decode cX8_extreme 37 = .ok (.ifCond .gt 15, 3) := by decide +kernel
theorem d_158_40 : decode cX8_extreme 40 = .ok (.goto 11, 3) := by decide +kernel
theorem d_158_43 : decode cX8_extreme 43 = .ok (.lload 4, 2) := by decide +kernel
theorem d_158_45 : decode cX8_extreme 45 = .ok (.lload 10, 2) := by decide +kernel
theorem d_158_47 : decode cX8_extreme 47 = .ok (.lcmp, 1) := by decide +kernel
theorem d_158_48 : decode cX8_extreme 48 = .ok (.ifCond .lt 4, 3) := by decide +kernel
theorem d_158_51 : decode cX8_extreme 51 = .ok (.return_, 1) := by decide +kernel
theorem d_158_52 : decode cX8_extreme 52 = .ok (.iload_n 3, 1) := by decide +kernel
theorem d_158_53 : decode cX8_extreme 53 = .ok (.ifCond .eq 14, 3) := by decide +kernel
theorem d_158_56 : decode cX8_extreme 56 = .ok (.lload 10, 2) := by decide +kernel
theorem d_158_58 : decode cX8_extreme 58 = .ok (.lload 4, 2) := by decide +kernel
theorem d_158_60 : decode cX8_extreme 60 = .ok (.lcmp, 1) := by decide +kernel
theorem d_158_61 : decode cX8_extreme 61 = .ok (.ifCond .gt 23, 3) := by decide +kernel
theorem d_158_64 : decode cX8_extreme 64 = .ok (.goto 11, 3) := by decide +kernel
theorem d_158_67 : decode cX8_extreme 67 = .ok (.lload 8, 2) := by decide +kernel
theorem d_158_69 : decode cX8_extreme 69 = .ok (.lload 6, 2) := by decide +kernel
theorem d_158_71 : decode cX8_extreme 71 = .ok (.lcmp, 1) := by decide +kernel
theorem d_158_72 : decode cX8_extreme 72 = .ok (.ifCond .lt 12, 3) := by decide +kernel
theorem d_158_75 : decode cX8_extreme 75 = .ok (.aload_n 0, 1) := by decide +kernel
theorem d_158_76 : decode cX8_extreme 76 = .ok (.iload_n 2, 1) := by decide +kernel
theorem d_158_77 : decode cX8_extreme 77 = .ok (.iload_n 1, 1) := by decide +kernel
theorem d_158_78 : decode cX8_extreme 78 = .ok (.invokevirtual 210, 3) := by decide +kernel
theorem d_158_81 : decode cX8_extreme 81 = .ok (.goto 48, 3) := by decide +kernel
theorem d_158_84 : decode cX8_extreme 84 = .ok (.iload_n 3, 1) := by decide +kernel
theorem d_158_85 : decode cX8_extreme 85 = .ok (.ifCond .eq 25, 3) := by decide +kernel
theorem d_158_88 : decode cX8_extreme 88 = .ok (.aload_n 0, 1) := by decide +kernel
theorem d_158_89 : decode cX8_extreme 89 = .ok (.iload_n 1, 1) := by decide +kernel
theorem d_158_90 : decode cX8_extreme 90 = .ok (.lload 4, 2) := by decide +kernel
theorem d_158_92 : decode cX8_extreme 92 = .ok (.lload 8, 2) := by decide +kernel
theorem d_158_94 : decode cX8_extreme 94 = .ok (.invokestatic 175, 3) := by decide +kernel
theorem d_158_97 : decode cX8_extreme 97 = .ok (.lload 6, 2) := by decide +kernel
theorem d_158_99 : decode cX8_extreme 99 = .ok (.lload 10, 2) := by decide +kernel
theorem d_158_101 : decode cX8_extreme 101 = .ok (.invokestatic 175, 3) := by decide +kernel
theorem d_158_104 : decode cX8_extreme 104 = .ok (.invokevirtual 200, 3) := by decide +kernel
theorem d_158_107 : decode cX8_extreme 107 = .ok (.goto 22, 3) := by decide +kernel
theorem d_158_110 : decode cX8_extreme 110 = .ok (.aload_n 0, 1) := by decide +kernel
theorem d_158_111 : decode cX8_extreme 111 = .ok (.iload_n 1, 1) := by decide +kernel
theorem d_158_112 : decode cX8_extreme 112 = .ok (.lload 4, 2) := by decide +kernel
theorem d_158_114 : decode cX8_extreme 114 = .ok (.lload 8, 2) := by decide +kernel
theorem d_158_116 : decode cX8_extreme 116 = .ok (.invokestatic 178, 3) := by decide +kernel
theorem d_158_119 : decode cX8_extreme 119 = .ok (.lload 6, 2) := by decide +kernel
theorem d_158_121 : decode cX8_extreme 121 = .ok (.lload 10, 2) := by decide +kernel
theorem d_158_123 : decode cX8_extreme 123 = .ok (.invokestatic 178, 3) := by decide +kernel
theorem d_158_126 : decode cX8_extreme 126 = .ok (.invokevirtual 200, 3) := by decide +kernel
theorem d_158_129 : decode cX8_extreme 129 = .ok (.return_, 1) := by decide +kernel
theorem q_158_0r : zRun 158 0 [some (.ref o), l1, l2, l3, l4, l5, l6, l7, l8, l9, l10, l11] S sh mi mj mr = zRun 158 1 [some (.ref o), l1, l2, l3, l4, l5, l6, l7, l8, l9, l10, l11] (.ref o :: S) sh mi mj mr := zr_l (zD_of zk_158 d_158_0 rfl rfl) rfl rfl rfl
theorem q_158_0n : zRun 158 0 [some (.null), l1, l2, l3, l4, l5, l6, l7, l8, l9, l10, l11] S sh mi mj mr = zRun 158 1 [some (.null), l1, l2, l3, l4, l5, l6, l7, l8, l9, l10, l11] (.null :: S) sh mi mj mr := zr_l (zD_of zk_158 d_158_0 rfl rfl) rfl rfl rfl
theorem q_158_1 : zRun 158 1 [l0, some (.int x), l2, l3, l4, l5, l6, l7, l8, l9, l10, l11] S sh mi mj mr = zRun 158 2 [l0, some (.int x), l2, l3, l4, l5, l6, l7, l8, l9, l10, l11] (.int x :: S) sh mi mj mr := zr_l (zD_of zk_158 d_158_1 rfl rfl) rfl rfl rfl
theorem q_158_2  {x0 : Int32} (hS : zcat S ≤ 8) (h : zIs sh o 0 8) : zRun 158 2 L (.int x0 :: .ref o :: S) sh mi mj mr = (zCall 139 [.ref o, .int x0] sh mi mj mr).bind fun r => zRun 158 5 L (r.1.toList ++ S) r.2.1 r.2.2.1 r.2.2.2.1 r.2.2.2.2 := zr_V (zD_of zk_158 d_158_2 rfl rfl) rfl zk_139 rfl rfl rfl hS h
theorem q_158_5 : zRun 158 5 [l0, l1, l2, l3, l4, l5, l6, l7, l8, l9, l10, l11] (.long u :: S) sh mi mj mr = zRun 158 7 [l0, l1, l2, zk2 l3, some (.long u), none, l6, l7, l8, l9, l10, l11] S sh mi mj mr := zr_s2 (i := 4) (v := .long u) (L := [l0, l1, l2, l3, l4, l5, l6, l7, l8, l9, l10, l11]) (zD_of zk_158 d_158_5 rfl rfl) rfl rfl rfl rfl
theorem q_158_7r : zRun 158 7 [some (.ref o), l1, l2, l3, l4, l5, l6, l7, l8, l9, l10, l11] S sh mi mj mr = zRun 158 8 [some (.ref o), l1, l2, l3, l4, l5, l6, l7, l8, l9, l10, l11] (.ref o :: S) sh mi mj mr := zr_l (zD_of zk_158 d_158_7 rfl rfl) rfl rfl rfl
theorem q_158_7n : zRun 158 7 [some (.null), l1, l2, l3, l4, l5, l6, l7, l8, l9, l10, l11] S sh mi mj mr = zRun 158 8 [some (.null), l1, l2, l3, l4, l5, l6, l7, l8, l9, l10, l11] (.null :: S) sh mi mj mr := zr_l (zD_of zk_158 d_158_7 rfl rfl) rfl rfl rfl
theorem q_158_8 : zRun 158 8 [l0, some (.int x), l2, l3, l4, l5, l6, l7, l8, l9, l10, l11] S sh mi mj mr = zRun 158 9 [l0, some (.int x), l2, l3, l4, l5, l6, l7, l8, l9, l10, l11] (.int x :: S) sh mi mj mr := zr_l (zD_of zk_158 d_158_8 rfl rfl) rfl rfl rfl
theorem q_158_9  {x0 : Int32} (hS : zcat S ≤ 8) (h : zIs sh o 0 8) : zRun 158 9 L (.int x0 :: .ref o :: S) sh mi mj mr = (zCall 140 [.ref o, .int x0] sh mi mj mr).bind fun r => zRun 158 12 L (r.1.toList ++ S) r.2.1 r.2.2.1 r.2.2.2.1 r.2.2.2.2 := zr_V (zD_of zk_158 d_158_9 rfl rfl) rfl zk_140 rfl rfl rfl hS h
theorem q_158_12 : zRun 158 12 [l0, l1, l2, l3, l4, l5, l6, l7, l8, l9, l10, l11] (.long u :: S) sh mi mj mr = zRun 158 14 [l0, l1, l2, l3, l4, zk2 l5, some (.long u), none, l8, l9, l10, l11] S sh mi mj mr := zr_s2 (i := 6) (v := .long u) (L := [l0, l1, l2, l3, l4, l5, l6, l7, l8, l9, l10, l11]) (zD_of zk_158 d_158_12 rfl rfl) rfl rfl rfl rfl
theorem q_158_14r : zRun 158 14 [some (.ref o), l1, l2, l3, l4, l5, l6, l7, l8, l9, l10, l11] S sh mi mj mr = zRun 158 15 [some (.ref o), l1, l2, l3, l4, l5, l6, l7, l8, l9, l10, l11] (.ref o :: S) sh mi mj mr := zr_l (zD_of zk_158 d_158_14 rfl rfl) rfl rfl rfl
theorem q_158_14n : zRun 158 14 [some (.null), l1, l2, l3, l4, l5, l6, l7, l8, l9, l10, l11] S sh mi mj mr = zRun 158 15 [some (.null), l1, l2, l3, l4, l5, l6, l7, l8, l9, l10, l11] (.null :: S) sh mi mj mr := zr_l (zD_of zk_158 d_158_14 rfl rfl) rfl rfl rfl
theorem q_158_15 : zRun 158 15 [l0, l1, some (.int x), l3, l4, l5, l6, l7, l8, l9, l10, l11] S sh mi mj mr = zRun 158 16 [l0, l1, some (.int x), l3, l4, l5, l6, l7, l8, l9, l10, l11] (.int x :: S) sh mi mj mr := zr_l (zD_of zk_158 d_158_15 rfl rfl) rfl rfl rfl
theorem q_158_16  {x0 : Int32} (hS : zcat S ≤ 8) (h : zIs sh o 0 8) : zRun 158 16 L (.int x0 :: .ref o :: S) sh mi mj mr = (zCall 139 [.ref o, .int x0] sh mi mj mr).bind fun r => zRun 158 19 L (r.1.toList ++ S) r.2.1 r.2.2.1 r.2.2.2.1 r.2.2.2.2 := zr_V (zD_of zk_158 d_158_16 rfl rfl) rfl zk_139 rfl rfl rfl hS h
theorem q_158_19 : zRun 158 19 [l0, l1, l2, l3, l4, l5, l6, l7, l8, l9, l10, l11] (.long u :: S) sh mi mj mr = zRun 158 21 [l0, l1, l2, l3, l4, l5, l6, zk2 l7, some (.long u), none, l10, l11] S sh mi mj mr := zr_s2 (i := 8) (v := .long u) (L := [l0, l1, l2, l3, l4, l5, l6, l7, l8, l9, l10, l11]) (zD_of zk_158 d_158_19 rfl rfl) rfl rfl rfl rfl
theorem q_158_21r : zRun 158 21 [some (.ref o), l1, l2, l3, l4, l5, l6, l7, l8, l9, l10, l11] S sh mi mj mr = zRun 158 22 [some (.ref o), l1, l2, l3, l4, l5, l6, l7, l8, l9, l10, l11] (.ref o :: S) sh mi mj mr := zr_l (zD_of zk_158 d_158_21 rfl rfl) rfl rfl rfl
theorem q_158_21n : zRun 158 21 [some (.null), l1, l2, l3, l4, l5, l6, l7, l8, l9, l10, l11] S sh mi mj mr = zRun 158 22 [some (.null), l1, l2, l3, l4, l5, l6, l7, l8, l9, l10, l11] (.null :: S) sh mi mj mr := zr_l (zD_of zk_158 d_158_21 rfl rfl) rfl rfl rfl
theorem q_158_22 : zRun 158 22 [l0, l1, some (.int x), l3, l4, l5, l6, l7, l8, l9, l10, l11] S sh mi mj mr = zRun 158 23 [l0, l1, some (.int x), l3, l4, l5, l6, l7, l8, l9, l10, l11] (.int x :: S) sh mi mj mr := zr_l (zD_of zk_158 d_158_22 rfl rfl) rfl rfl rfl
theorem q_158_23  {x0 : Int32} (hS : zcat S ≤ 8) (h : zIs sh o 0 8) : zRun 158 23 L (.int x0 :: .ref o :: S) sh mi mj mr = (zCall 140 [.ref o, .int x0] sh mi mj mr).bind fun r => zRun 158 26 L (r.1.toList ++ S) r.2.1 r.2.2.1 r.2.2.2.1 r.2.2.2.2 := zr_V (zD_of zk_158 d_158_23 rfl rfl) rfl zk_140 rfl rfl rfl hS h
theorem q_158_26 : zRun 158 26 [l0, l1, l2, l3, l4, l5, l6, l7, l8, l9, l10, l11] (.long u :: S) sh mi mj mr = zRun 158 28 [l0, l1, l2, l3, l4, l5, l6, l7, l8, zk2 l9, some (.long u), none] S sh mi mj mr := zr_s2 (i := 10) (v := .long u) (L := [l0, l1, l2, l3, l4, l5, l6, l7, l8, l9, l10, l11]) (zD_of zk_158 d_158_26 rfl rfl) rfl rfl rfl rfl
theorem q_158_28 : zRun 158 28 [l0, l1, l2, some (.int x), l4, l5, l6, l7, l8, l9, l10, l11] S sh mi mj mr = zRun 158 29 [l0, l1, l2, some (.int x), l4, l5, l6, l7, l8, l9, l10, l11] (.int x :: S) sh mi mj mr := zr_l (zD_of zk_158 d_158_28 rfl rfl) rfl rfl rfl
theorem q_158_29  : zRun 158 29 L (.int x :: S) sh mi mj mr = if x = 0 then zRun 158 43 L S sh mi mj mr else zRun 158 32 L S sh mi mj mr := zr_if (off := 14) (P := x = 0) (zD_of zk_158 d_158_29 rfl rfl) rfl rfl (by decide)
theorem q_158_32 : zRun 158 32 [l0, l1, l2, l3, l4, l5, some (.long u), l7, l8, l9, l10, l11] S sh mi mj mr = zRun 158 34 [l0, l1, l2, l3, l4, l5, some (.long u), l7, l8, l9, l10, l11] (.long u :: S) sh mi mj mr := zr_l (zD_of zk_158 d_158_32 rfl rfl) rfl rfl rfl
theorem q_158_34 : zRun 158 34 [l0, l1, l2, l3, l4, l5, l6, l7, some (.long u), l9, l10, l11] S sh mi mj mr = zRun 158 36 [l0, l1, l2, l3, l4, l5, l6, l7, some (.long u), l9, l10, l11] (.long u :: S) sh mi mj mr := zr_l (zD_of zk_158 d_158_34 rfl rfl) rfl rfl rfl
theorem q_158_36  : zRun 158 36 L (.long v :: .long u :: S) sh mi mj mr = if v < u then zRun 158 52 L S sh mi mj mr else zRun 158 40 L S sh mi mj mr := zr_cmp (off := 15) (zD_of zk_158 d_158_36 rfl rfl) (zD_of zk_158 d_158_37 rfl rfl) rfl rfl (by decide) (lg_cmp_gt u v)
theorem q_158_37  : zRun 158 37 L (.int x :: S) sh mi mj mr = if 0 < x then zRun 158 52 L S sh mi mj mr else zRun 158 40 L S sh mi mj mr := zr_if (off := 15) (P := 0 < x) (zD_of zk_158 d_158_37 rfl rfl) rfl rfl (by decide)
theorem q_158_40  : zRun 158 40 L S sh mi mj mr = zRun 158 51 L S sh mi mj mr := zr_go (off := 11) (zD_of zk_158 d_158_40 rfl rfl) rfl rfl (by decide)
theorem q_158_43 : zRun 158 43 [l0, l1, l2, l3, some (.long u), l5, l6, l7, l8, l9, l10, l11] S sh mi mj mr = zRun 158 45 [l0, l1, l2, l3, some (.long u), l5, l6, l7, l8, l9, l10, l11] (.long u :: S) sh mi mj mr := zr_l (zD_of zk_158 d_158_43 rfl rfl) rfl rfl rfl
theorem q_158_45 : zRun 158 45 [l0, l1, l2, l3, l4, l5, l6, l7, l8, l9, some (.long u), l11] S sh mi mj mr = zRun 158 47 [l0, l1, l2, l3, l4, l5, l6, l7, l8, l9, some (.long u), l11] (.long u :: S) sh mi mj mr := zr_l (zD_of zk_158 d_158_45 rfl rfl) rfl rfl rfl
theorem q_158_47  : zRun 158 47 L (.long v :: .long u :: S) sh mi mj mr = if u < v then zRun 158 52 L S sh mi mj mr else zRun 158 51 L S sh mi mj mr := zr_cmp (off := 4) (zD_of zk_158 d_158_47 rfl rfl) (zD_of zk_158 d_158_48 rfl rfl) rfl rfl (by decide) (lg_cmp_lt u v)
theorem q_158_48  : zRun 158 48 L (.int x :: S) sh mi mj mr = if x < 0 then zRun 158 52 L S sh mi mj mr else zRun 158 51 L S sh mi mj mr := zr_if (off := 4) (P := x < 0) (zD_of zk_158 d_158_48 rfl rfl) rfl rfl (by decide)
theorem q_158_51  : zRun 158 51 L [] sh mi mj mr = some (none, sh, mi, mj, mr) := zr_ret (zD_of zk_158 d_158_51 rfl rfl) rfl rfl rfl rfl rfl rfl
theorem q_158_52 : zRun 158 52 [l0, l1, l2, some (.int x), l4, l5, l6, l7, l8, l9, l10, l11] S sh mi mj mr = zRun 158 53 [l0, l1, l2, some (.int x), l4, l5, l6, l7, l8, l9, l10, l11] (.int x :: S) sh mi mj mr := zr_l (zD_of zk_158 d_158_52 rfl rfl) rfl rfl rfl
theorem q_158_53  : zRun 158 53 L (.int x :: S) sh mi mj mr = if x = 0 then zRun 158 67 L S sh mi mj mr else zRun 158 56 L S sh mi mj mr := zr_if (off := 14) (P := x = 0) (zD_of zk_158 d_158_53 rfl rfl) rfl rfl (by decide)
theorem q_158_56 : zRun 158 56 [l0, l1, l2, l3, l4, l5, l6, l7, l8, l9, some (.long u), l11] S sh mi mj mr = zRun 158 58 [l0, l1, l2, l3, l4, l5, l6, l7, l8, l9, some (.long u), l11] (.long u :: S) sh mi mj mr := zr_l (zD_of zk_158 d_158_56 rfl rfl) rfl rfl rfl
theorem q_158_58 : zRun 158 58 [l0, l1, l2, l3, some (.long u), l5, l6, l7, l8, l9, l10, l11] S sh mi mj mr = zRun 158 60 [l0, l1, l2, l3, some (.long u), l5, l6, l7, l8, l9, l10, l11] (.long u :: S) sh mi mj mr := zr_l (zD_of zk_158 d_158_58 rfl rfl) rfl rfl rfl
theorem q_158_60  : zRun 158 60 L (.long v :: .long u :: S) sh mi mj mr = if v < u then zRun 158 84 L S sh mi mj mr else zRun 158 64 L S sh mi mj mr := zr_cmp (off := 23) (zD_of zk_158 d_158_60 rfl rfl) (zD_of zk_158 d_158_61 rfl rfl) rfl rfl (by decide) (lg_cmp_gt u v)
theorem q_158_61  : zRun 158 61 L (.int x :: S) sh mi mj mr = if 0 < x then zRun 158 84 L S sh mi mj mr else zRun 158 64 L S sh mi mj mr := zr_if (off := 23) (P := 0 < x) (zD_of zk_158 d_158_61 rfl rfl) rfl rfl (by decide)
theorem q_158_64  : zRun 158 64 L S sh mi mj mr = zRun 158 75 L S sh mi mj mr := zr_go (off := 11) (zD_of zk_158 d_158_64 rfl rfl) rfl rfl (by decide)
theorem q_158_67 : zRun 158 67 [l0, l1, l2, l3, l4, l5, l6, l7, some (.long u), l9, l10, l11] S sh mi mj mr = zRun 158 69 [l0, l1, l2, l3, l4, l5, l6, l7, some (.long u), l9, l10, l11] (.long u :: S) sh mi mj mr := zr_l (zD_of zk_158 d_158_67 rfl rfl) rfl rfl rfl
theorem q_158_69 : zRun 158 69 [l0, l1, l2, l3, l4, l5, some (.long u), l7, l8, l9, l10, l11] S sh mi mj mr = zRun 158 71 [l0, l1, l2, l3, l4, l5, some (.long u), l7, l8, l9, l10, l11] (.long u :: S) sh mi mj mr := zr_l (zD_of zk_158 d_158_69 rfl rfl) rfl rfl rfl
theorem q_158_71  : zRun 158 71 L (.long v :: .long u :: S) sh mi mj mr = if u < v then zRun 158 84 L S sh mi mj mr else zRun 158 75 L S sh mi mj mr := zr_cmp (off := 12) (zD_of zk_158 d_158_71 rfl rfl) (zD_of zk_158 d_158_72 rfl rfl) rfl rfl (by decide) (lg_cmp_lt u v)
theorem q_158_72  : zRun 158 72 L (.int x :: S) sh mi mj mr = if x < 0 then zRun 158 84 L S sh mi mj mr else zRun 158 75 L S sh mi mj mr := zr_if (off := 12) (P := x < 0) (zD_of zk_158 d_158_72 rfl rfl) rfl rfl (by decide)
theorem q_158_75r : zRun 158 75 [some (.ref o), l1, l2, l3, l4, l5, l6, l7, l8, l9, l10, l11] S sh mi mj mr = zRun 158 76 [some (.ref o), l1, l2, l3, l4, l5, l6, l7, l8, l9, l10, l11] (.ref o :: S) sh mi mj mr := zr_l (zD_of zk_158 d_158_75 rfl rfl) rfl rfl rfl
theorem q_158_75n : zRun 158 75 [some (.null), l1, l2, l3, l4, l5, l6, l7, l8, l9, l10, l11] S sh mi mj mr = zRun 158 76 [some (.null), l1, l2, l3, l4, l5, l6, l7, l8, l9, l10, l11] (.null :: S) sh mi mj mr := zr_l (zD_of zk_158 d_158_75 rfl rfl) rfl rfl rfl
theorem q_158_76 : zRun 158 76 [l0, l1, some (.int x), l3, l4, l5, l6, l7, l8, l9, l10, l11] S sh mi mj mr = zRun 158 77 [l0, l1, some (.int x), l3, l4, l5, l6, l7, l8, l9, l10, l11] (.int x :: S) sh mi mj mr := zr_l (zD_of zk_158 d_158_76 rfl rfl) rfl rfl rfl
theorem q_158_77 : zRun 158 77 [l0, some (.int x), l2, l3, l4, l5, l6, l7, l8, l9, l10, l11] S sh mi mj mr = zRun 158 78 [l0, some (.int x), l2, l3, l4, l5, l6, l7, l8, l9, l10, l11] (.int x :: S) sh mi mj mr := zr_l (zD_of zk_158 d_158_77 rfl rfl) rfl rfl rfl
theorem q_158_78  {x0 x1 : Int32} (hS : zcat S ≤ 8) (h : zIs sh o 0 8) : zRun 158 78 L (.int x1 :: .int x0 :: .ref o :: S) sh mi mj mr = (zCall 143 [.ref o, .int x0, .int x1] sh mi mj mr).bind fun r => zRun 158 81 L (r.1.toList ++ S) r.2.1 r.2.2.1 r.2.2.2.1 r.2.2.2.2 := zr_V (zD_of zk_158 d_158_78 rfl rfl) rfl zk_143 rfl rfl rfl hS h
theorem q_158_81  : zRun 158 81 L S sh mi mj mr = zRun 158 129 L S sh mi mj mr := zr_go (off := 48) (zD_of zk_158 d_158_81 rfl rfl) rfl rfl (by decide)
theorem q_158_84 : zRun 158 84 [l0, l1, l2, some (.int x), l4, l5, l6, l7, l8, l9, l10, l11] S sh mi mj mr = zRun 158 85 [l0, l1, l2, some (.int x), l4, l5, l6, l7, l8, l9, l10, l11] (.int x :: S) sh mi mj mr := zr_l (zD_of zk_158 d_158_84 rfl rfl) rfl rfl rfl
theorem q_158_85  : zRun 158 85 L (.int x :: S) sh mi mj mr = if x = 0 then zRun 158 110 L S sh mi mj mr else zRun 158 88 L S sh mi mj mr := zr_if (off := 25) (P := x = 0) (zD_of zk_158 d_158_85 rfl rfl) rfl rfl (by decide)
theorem q_158_88r : zRun 158 88 [some (.ref o), l1, l2, l3, l4, l5, l6, l7, l8, l9, l10, l11] S sh mi mj mr = zRun 158 89 [some (.ref o), l1, l2, l3, l4, l5, l6, l7, l8, l9, l10, l11] (.ref o :: S) sh mi mj mr := zr_l (zD_of zk_158 d_158_88 rfl rfl) rfl rfl rfl
theorem q_158_88n : zRun 158 88 [some (.null), l1, l2, l3, l4, l5, l6, l7, l8, l9, l10, l11] S sh mi mj mr = zRun 158 89 [some (.null), l1, l2, l3, l4, l5, l6, l7, l8, l9, l10, l11] (.null :: S) sh mi mj mr := zr_l (zD_of zk_158 d_158_88 rfl rfl) rfl rfl rfl
theorem q_158_89 : zRun 158 89 [l0, some (.int x), l2, l3, l4, l5, l6, l7, l8, l9, l10, l11] S sh mi mj mr = zRun 158 90 [l0, some (.int x), l2, l3, l4, l5, l6, l7, l8, l9, l10, l11] (.int x :: S) sh mi mj mr := zr_l (zD_of zk_158 d_158_89 rfl rfl) rfl rfl rfl
theorem q_158_90 : zRun 158 90 [l0, l1, l2, l3, some (.long u), l5, l6, l7, l8, l9, l10, l11] S sh mi mj mr = zRun 158 92 [l0, l1, l2, l3, some (.long u), l5, l6, l7, l8, l9, l10, l11] (.long u :: S) sh mi mj mr := zr_l (zD_of zk_158 d_158_90 rfl rfl) rfl rfl rfl
theorem q_158_92 : zRun 158 92 [l0, l1, l2, l3, l4, l5, l6, l7, some (.long u), l9, l10, l11] S sh mi mj mr = zRun 158 94 [l0, l1, l2, l3, l4, l5, l6, l7, some (.long u), l9, l10, l11] (.long u :: S) sh mi mj mr := zr_l (zD_of zk_158 d_158_92 rfl rfl) rfl rfl rfl
theorem q_158_94  {u0 u1 : Int64} (hS : zcat S ≤ 8) : zRun 158 94 L (.long u1 :: .long u0 :: S) sh mi mj mr = (zCall 150 [.long u0, .long u1] sh mi mj mr).bind fun r => zRun 158 97 L (r.1.toList ++ S) r.2.1 r.2.2.1 r.2.2.2.1 r.2.2.2.2 := zr_S (zD_of zk_158 d_158_94 rfl rfl) rfl zk_150 rfl rfl rfl hS
theorem q_158_97 : zRun 158 97 [l0, l1, l2, l3, l4, l5, some (.long u), l7, l8, l9, l10, l11] S sh mi mj mr = zRun 158 99 [l0, l1, l2, l3, l4, l5, some (.long u), l7, l8, l9, l10, l11] (.long u :: S) sh mi mj mr := zr_l (zD_of zk_158 d_158_97 rfl rfl) rfl rfl rfl
theorem q_158_99 : zRun 158 99 [l0, l1, l2, l3, l4, l5, l6, l7, l8, l9, some (.long u), l11] S sh mi mj mr = zRun 158 101 [l0, l1, l2, l3, l4, l5, l6, l7, l8, l9, some (.long u), l11] (.long u :: S) sh mi mj mr := zr_l (zD_of zk_158 d_158_99 rfl rfl) rfl rfl rfl
theorem q_158_101  {u0 u1 : Int64} (hS : zcat S ≤ 8) : zRun 158 101 L (.long u1 :: .long u0 :: S) sh mi mj mr = (zCall 150 [.long u0, .long u1] sh mi mj mr).bind fun r => zRun 158 104 L (r.1.toList ++ S) r.2.1 r.2.2.1 r.2.2.2.1 r.2.2.2.2 := zr_S (zD_of zk_158 d_158_101 rfl rfl) rfl zk_150 rfl rfl rfl hS
theorem q_158_104  {x0 : Int32} {u0 u1 : Int64} (hS : zcat S ≤ 8) (h : zIs sh o 0 8) : zRun 158 104 L (.long u1 :: .long u0 :: .int x0 :: .ref o :: S) sh mi mj mr = (zCall 145 [.ref o, .int x0, .long u0, .long u1] sh mi mj mr).bind fun r => zRun 158 107 L (r.1.toList ++ S) r.2.1 r.2.2.1 r.2.2.2.1 r.2.2.2.2 := zr_V (zD_of zk_158 d_158_104 rfl rfl) rfl zk_145 rfl rfl rfl hS h
theorem q_158_107  : zRun 158 107 L S sh mi mj mr = zRun 158 129 L S sh mi mj mr := zr_go (off := 22) (zD_of zk_158 d_158_107 rfl rfl) rfl rfl (by decide)
theorem q_158_110r : zRun 158 110 [some (.ref o), l1, l2, l3, l4, l5, l6, l7, l8, l9, l10, l11] S sh mi mj mr = zRun 158 111 [some (.ref o), l1, l2, l3, l4, l5, l6, l7, l8, l9, l10, l11] (.ref o :: S) sh mi mj mr := zr_l (zD_of zk_158 d_158_110 rfl rfl) rfl rfl rfl
theorem q_158_110n : zRun 158 110 [some (.null), l1, l2, l3, l4, l5, l6, l7, l8, l9, l10, l11] S sh mi mj mr = zRun 158 111 [some (.null), l1, l2, l3, l4, l5, l6, l7, l8, l9, l10, l11] (.null :: S) sh mi mj mr := zr_l (zD_of zk_158 d_158_110 rfl rfl) rfl rfl rfl
theorem q_158_111 : zRun 158 111 [l0, some (.int x), l2, l3, l4, l5, l6, l7, l8, l9, l10, l11] S sh mi mj mr = zRun 158 112 [l0, some (.int x), l2, l3, l4, l5, l6, l7, l8, l9, l10, l11] (.int x :: S) sh mi mj mr := zr_l (zD_of zk_158 d_158_111 rfl rfl) rfl rfl rfl
theorem q_158_112 : zRun 158 112 [l0, l1, l2, l3, some (.long u), l5, l6, l7, l8, l9, l10, l11] S sh mi mj mr = zRun 158 114 [l0, l1, l2, l3, some (.long u), l5, l6, l7, l8, l9, l10, l11] (.long u :: S) sh mi mj mr := zr_l (zD_of zk_158 d_158_112 rfl rfl) rfl rfl rfl
theorem q_158_114 : zRun 158 114 [l0, l1, l2, l3, l4, l5, l6, l7, some (.long u), l9, l10, l11] S sh mi mj mr = zRun 158 116 [l0, l1, l2, l3, l4, l5, l6, l7, some (.long u), l9, l10, l11] (.long u :: S) sh mi mj mr := zr_l (zD_of zk_158 d_158_114 rfl rfl) rfl rfl rfl
theorem q_158_116  {u0 u1 : Int64} (hS : zcat S ≤ 8) : zRun 158 116 L (.long u1 :: .long u0 :: S) sh mi mj mr = (zCall 151 [.long u0, .long u1] sh mi mj mr).bind fun r => zRun 158 119 L (r.1.toList ++ S) r.2.1 r.2.2.1 r.2.2.2.1 r.2.2.2.2 := zr_S (zD_of zk_158 d_158_116 rfl rfl) rfl zk_151 rfl rfl rfl hS
theorem q_158_119 : zRun 158 119 [l0, l1, l2, l3, l4, l5, some (.long u), l7, l8, l9, l10, l11] S sh mi mj mr = zRun 158 121 [l0, l1, l2, l3, l4, l5, some (.long u), l7, l8, l9, l10, l11] (.long u :: S) sh mi mj mr := zr_l (zD_of zk_158 d_158_119 rfl rfl) rfl rfl rfl
theorem q_158_121 : zRun 158 121 [l0, l1, l2, l3, l4, l5, l6, l7, l8, l9, some (.long u), l11] S sh mi mj mr = zRun 158 123 [l0, l1, l2, l3, l4, l5, l6, l7, l8, l9, some (.long u), l11] (.long u :: S) sh mi mj mr := zr_l (zD_of zk_158 d_158_121 rfl rfl) rfl rfl rfl
theorem q_158_123  {u0 u1 : Int64} (hS : zcat S ≤ 8) : zRun 158 123 L (.long u1 :: .long u0 :: S) sh mi mj mr = (zCall 151 [.long u0, .long u1] sh mi mj mr).bind fun r => zRun 158 126 L (r.1.toList ++ S) r.2.1 r.2.2.1 r.2.2.2.1 r.2.2.2.2 := zr_S (zD_of zk_158 d_158_123 rfl rfl) rfl zk_151 rfl rfl rfl hS
theorem q_158_126  {x0 : Int32} {u0 u1 : Int64} (hS : zcat S ≤ 8) (h : zIs sh o 0 8) : zRun 158 126 L (.long u1 :: .long u0 :: .int x0 :: .ref o :: S) sh mi mj mr = (zCall 145 [.ref o, .int x0, .long u0, .long u1] sh mi mj mr).bind fun r => zRun 158 129 L (r.1.toList ++ S) r.2.1 r.2.2.1 r.2.2.2.1 r.2.2.2.2 := zr_V (zD_of zk_158 d_158_126 rfl rfl) rfl zk_145 rfl rfl rfl hS h
theorem q_158_129  : zRun 158 129 L [] sh mi mj mr = some (none, sh, mi, mj, mr) := zr_ret (zD_of zk_158 d_158_129 rfl rfl) rfl rfl rfl rfl rfl rfl
theorem e_158 {x0 x1 x2 : Int32} : zCall 158 [.ref o, .int x0, .int x1, .int x2] sh mi mj mr = zRun 158 0 [some (.ref o), some (.int x0), some (.int x1), some (.int x2), none, none, none, none, none, none, none, none] [] sh mi mj mr := rfl
theorem d_159_0 : decode cX8_name 0 = .ok (.aload_n 0, 1) := by decide +kernel
theorem d_159_1 : decode cX8_name 1 = .ok (.getfield 213, 3) := by decide +kernel
theorem d_159_4 : decode cX8_name 4 = .ok (.iconst 1, 1) := by decide +kernel
theorem d_159_5 : decode cX8_name 5 = .ok (.isub, 1) := by decide +kernel
theorem d_159_6 : decode cX8_name 6 = .ok (.istore_n 1, 1) := by decide +kernel
theorem d_159_7 : decode cX8_name 7 = .ok (.aload_n 0, 1) := by decide +kernel
theorem d_159_8 : decode cX8_name 8 = .ok (.getfield 7, 3) := by decide +kernel
theorem d_159_11 : decode cX8_name 11 = .ok (.bipush 8, 2) := by decide +kernel
theorem d_159_13 : decode cX8_name 13 = .ok (.iaload, 1) := by decide +kernel
theorem d_159_14 : decode cX8_name 14 = .ok (.ifCond .eq 20, 3) := by decide +kernel
theorem d_159_17 : decode cX8_name 17 = .ok (.aload_n 0, 1) := by decide +kernel
theorem d_159_18 : decode cX8_name 18 = .ok (.getfield 29, 3) := by decide +kernel
theorem d_159_21 : decode cX8_name 21 = .ok (.bipush 17, 2) := by decide +kernel
theorem d_159_23 : decode cX8_name 23 = .ok (.iload_n 1, 1) := by decide +kernel
theorem d_159_24 : decode cX8_name 24 = .ok (.imul, 1) := by decide +kernel
theorem d_159_25 : decode cX8_name 25 = .ok (.bipush 13, 2) := by decide +kernel
theorem d_159_27 : decode cX8_name 27 = .ok (.iadd, 1) := by decide +kernel
theorem d_159_28 : decode cX8_name 28 = .ok (.laload, 1) := by decide +kernel
theorem d_159_29 : decode cX8_name 29 = .ok (.lconst 0, 1) := by decide +kernel
theorem d_159_30 : decode cX8_name 30 = .ok (.lcmp, 1) := by decide +kernel
theorem d_159_31 : decode cX8_name 31 = .ok (.ifCond .ne 4, 3) := by decide +kernel
theorem d_159_34 : decode cX8_name 34 = .ok (.return_, 1) := by decide +kernel
theorem d_159_35 : decode cX8_name 35 = .ok (.bipush (-6), 2) := by decide +kernel
theorem d_159_37 : decode cX8_name 37 = .ok (.istore_n 2, 1) := by decide +kernel
theorem d_159_38 : decode cX8_name 38 = .ok (.lconst 0, 1) := by decide +kernel
theorem d_159_39 : decode cX8_name 39 = .ok (.lstore_n 3, 1) := by decide +kernel
theorem d_159_40 : decode cX8_name 40 = .ok (.iconst 4, 1) := by decide +kernel
theorem d_159_41 : decode cX8_name 41 = .ok (.istore 5, 2) := by decide +kernel
theorem d_159_43 : decode cX8_name 43 = .ok (.iload 5, 2) := by decide +kernel
theorem d_159_45 : decode cX8_name 45 = .ok (.iconst 4, 1) := by decide +kernel
theorem d_159_46 : decode cX8_name 46 = .ok (.aload_n 0, 1) := by decide +kernel
theorem d_159_47 : decode cX8_name 47 = .ok (.getfield 7, 3) := by decide +kernel
theorem d_159_50 : decode cX8_name 50 = .ok (.bipush 8, 2) := by decide +kernel
theorem d_159_52 : decode cX8_name 52 = .ok (.iaload, 1) := by decide +kernel
theorem d_159_53 : decode cX8_name 53 = .ok (.iadd, 1) := by decide +kernel
theorem d_159_54 : decode cX8_name 54 = .ok (.if_icmp .ge 70, 3) := by decide +kernel
theorem d_159_57 : decode cX8_name 57 = .ok (.lconst 0, 1) := by decide +kernel
theorem d_159_58 : decode cX8_name 58 = .ok (.lstore 6, 2) := by decide +kernel
theorem d_159_60 : decode cX8_name 60 = .ok (.iconst 0, 1) := by decide +kernel
theorem d_159_61 : decode cX8_name 61 = .ok (.istore 8, 2) := by decide +kernel
theorem d_159_63 : decode cX8_name 63 = .ok (.iload 8, 2) := by decide +kernel
theorem d_159_65 : decode cX8_name 65 = .ok (.aload_n 0, 1) := by decide +kernel
theorem d_159_66 : decode cX8_name 66 = .ok (.getfield 213, 3) := by decide +kernel
theorem d_159_69 : decode cX8_name 69 = .ok (.if_icmp .ge 32, 3) := by decide +kernel
theorem d_159_72 : decode cX8_name 72 = .ok (.lload 6, 2) := by decide +kernel
theorem d_159_74 : decode cX8_name 74 = .ok (.aload_n 0, 1) := by decide +kernel
theorem d_159_75 : decode cX8_name 75 = .ok (.getfield 29, 3) := by decide +kernel
theorem d_159_78 : decode cX8_name 78 = .ok (.bipush 17, 2) := by decide +kernel
theorem d_159_80 : decode cX8_name 80 = .ok (.iload 8, 2) := by decide +kernel
theorem d_159_82 : decode cX8_name 82 = .ok (.imul, 1) := by decide +kernel
theorem d_159_83 : decode cX8_name 83 = .ok (.iconst 1, 1) := by decide +kernel
theorem d_159_84 : decode cX8_name 84 = .ok (.iadd, 1) := by decide +kernel
theorem d_159_85 : decode cX8_name 85 = .ok (.iload 5, 2) := by decide +kernel
theorem d_159_87 : decode cX8_name 87 = .ok (.iadd, 1) := by decide +kernel
theorem d_159_88 : decode cX8_name 88 = .ok (.laload, 1) := by decide +kernel
theorem d_159_89 : decode cX8_name 89 = .ok (.invokestatic 149, 3) := by decide +kernel
theorem d_159_92 : decode cX8_name 92 = .ok (.ladd, 1) := by decide +kernel
theorem d_159_93 : decode cX8_name 93 = .ok (.lstore 6, 2) := by decide +kernel
theorem d_159_95 : decode cX8_name 95 = .ok (.iinc 8 1, 3) := by decide +kernel
theorem d_159_98 : decode cX8_name 98 = .ok (.goto (-35), 3) := by decide +kernel
theorem d_159_101 : decode cX8_name 101 = .ok (.iload_n 2, 1) := by decide +kernel
theorem d_159_102 : decode cX8_name 102 = .ok (.ifCond .lt 10, 3) := by decide +kernel
theorem d_159_105 : decode cX8_name 105 = .ok (.lload 6, 2) := by decide +kernel
theorem d_159_107 : decode cX8_name 107 = .ok (.lload_n 3, 1) := by decide +kernel
theorem d_159_108 : decode cX8_name 108 = .ok (.lcmp, 1) := by decide +kernel
theorem d_159_109 : decode cX8_name 109 = .ok (.ifCond .ge 9, 3) := by decide +kernel
theorem d_159_112 : decode cX8_name 112 = .ok (.iload 5, 2) := by decide +kernel
theorem d_159_114 : decode cX8_name 114 = .ok (.istore_n 2, 1) := by decide +kernel
theorem d_159_115 : decode cX8_name 115 = .ok (.lload 6, 2) := by decide +kernel
theorem d_159_117 : decode cX8_name 117 = .ok (.lstore_n 3, 1) := by decide +kernel
theorem d_159_118 : decode cX8_name 118 = .ok (.iinc 5 1, 3) := by decide +kernel
theorem d_159_121 : decode cX8_name 121 = .ok (.goto (-78), 3) := by decide +kernel
theorem d_159_124 : decode cX8_name 124 = .ok (.iconst 0, 1) := by decide +kernel
theorem d_159_125 : decode cX8_name 125 = .ok (.istore 5, 2) := by decide +kernel
theorem d_159_127 : decode cX8_name 127 = .ok (.iload 5, 2) := by decide +kernel
theorem d_159_129 : decode cX8_name 129 = .ok (.aload_n 0, 1) := by decide +kernel
theorem d_159_130 : decode cX8_name 130 = .ok (.getfield 213, 3) := by decide +kernel
theorem d_159_133 : decode cX8_name 133 = .ok (.if_icmp .ge 54, 3) := by decide +kernel
theorem d_159_136 : decode cX8_name 136 = .ok (.bipush 17, 2) := by decide +kernel
theorem d_159_138 : decode cX8_name 138 = .ok (.iload 5, 2) := by decide +kernel
theorem d_159_140 : decode cX8_name 140 = .ok (.imul, 1) := by decide +kernel
theorem d_159_141 : decode cX8_name 141 = .ok (.iconst 1, 1) := by decide +kernel
theorem d_159_142 : decode cX8_name 142 = .ok (.iadd, 1) := by decide +kernel
theorem d_159_143 : decode cX8_name 143 = .ok (.iload_n 2, 1) := by decide +kernel
theorem d_159_144 : decode cX8_name 144 = .ok (.iadd, 1) := by decide +kernel
theorem d_159_145 : decode cX8_name 145 = .ok (.istore 6, 2) := by decide +kernel
theorem d_159_147 : decode cX8_name 147 = .ok (.aload_n 0, 1) := by decide +kernel
theorem d_159_148 : decode cX8_name 148 = .ok (.getfield 29, 3) := by decide +kernel
theorem d_159_151 : decode cX8_name 151 = .ok (.bipush 17, 2) := by decide +kernel
theorem d_159_153 : decode cX8_name 153 = .ok (.iload 5, 2) := by decide +kernel
theorem d_159_155 : decode cX8_name 155 = .ok (.imul, 1) := by decide +kernel
theorem d_159_156 : decode cX8_name 156 = .ok (.bipush 13, 2) := by decide +kernel
theorem d_159_158 : decode cX8_name 158 = .ok (.iadd, 1) := by decide +kernel
theorem d_159_159 : decode cX8_name 159 = .ok (.dup2, 1) := by decide +kernel
theorem d_159_160 : decode cX8_name 160 = .ok (.laload, 1) := by decide +kernel
theorem d_159_161 : decode cX8_name 161 = .ok (.aload_n 0, 1) := by decide +kernel
theorem d_159_162 : decode cX8_name 162 = .ok (.getfield 29, 3) := by decide +kernel
theorem d_159_165 : decode cX8_name 165 = .ok (.iload 6, 2) := by decide +kernel
theorem d_159_167 : decode cX8_name 167 = .ok (.laload, 1) := by decide +kernel
theorem d_159_168 : decode cX8_name 168 = .ok (.invokestatic 149, 3) := by decide +kernel
theorem d_159_171 : decode cX8_name 171 = .ok (.ladd, 1) := by decide +kernel
theorem d_159_172 : decode cX8_name 172 = .ok (.lastore, 1) := by decide +kernel
theorem d_159_173 : decode cX8_name 173 = .ok (.aload_n 0, 1) := by decide +kernel
theorem d_159_174 : decode cX8_name 174 = .ok (.getfield 29, 3) := by decide +kernel
theorem d_159_177 : decode cX8_name 177 = .ok (.iload 6, 2) := by decide +kernel
theorem d_159_179 : decode cX8_name 179 = .ok (.lconst 0, 1) := by decide +kernel
theorem d_159_180 : decode cX8_name 180 = .ok (.lastore, 1) := by decide +kernel
theorem d_159_181 : decode cX8_name 181 = .ok (.iinc 5 1, 3) := by decide +kernel
theorem d_159_184 : decode cX8_name 184 = .ok (.goto (-57), 3) := by decide +kernel
theorem d_159_187 : decode cX8_name 187 = .ok (.aload_n 0, 1) := by decide +kernel
theorem d_159_188 : decode cX8_name 188 = .ok (.getfield 29, 3) := by decide +kernel
theorem d_159_191 : decode cX8_name 191 = .ok (.bipush 17, 2) := by decide +kernel
theorem d_159_193 : decode cX8_name 193 = .ok (.iload_n 1, 1) := by decide +kernel
theorem d_159_194 : decode cX8_name 194 = .ok (.imul, 1) := by decide +kernel
theorem d_159_195 : decode cX8_name 195 = .ok (.iconst 1, 1) := by decide +kernel
theorem d_159_196 : decode cX8_name 196 = .ok (.iadd, 1) := by decide +kernel
theorem d_159_197 : decode cX8_name 197 = .ok (.iload_n 2, 1) := by decide +kernel
theorem d_159_198 : decode cX8_name 198 = .ok (.iadd, 1) := by decide +kernel
theorem d_159_199 : decode cX8_name 199 = .ok (.aload_n 0, 1) := by decide +kernel
theorem d_159_200 : decode cX8_name 200 = .ok (.getfield 29, 3) := by decide +kernel
theorem d_159_203 : decode cX8_name 203 = .ok (.bipush 17, 2) := by decide +kernel
theorem d_159_205 : decode cX8_name 205 = .ok (.iload_n 1, 1) := by decide +kernel
theorem d_159_206 : decode cX8_name 206 = .ok (.imul, 1) := by decide +kernel
theorem d_159_207 : decode cX8_name 207 = .ok (.bipush 13, 2) := by decide +kernel
theorem d_159_209 : decode cX8_name 209 = .ok (.iadd, 1) := by decide +kernel
theorem d_159_210 : decode cX8_name 210 = .ok (.laload, 1) := by decide +kernel
theorem d_159_211 : decode cX8_name 211 = .ok (.lastore, 1) := by decide +kernel
theorem d_159_212 : decode cX8_name 212 = .ok (.aload_n 0, 1) := by decide +kernel
theorem d_159_213 : decode cX8_name 213 = .ok (.getfield 29, 3) := by decide +kernel
theorem d_159_216 : decode cX8_name 216 = .ok (.bipush 17, 2) := by decide +kernel
theorem d_159_218 : decode cX8_name 218 = .ok (.iload_n 1, 1) := by decide +kernel
theorem d_159_219 : decode cX8_name 219 = .ok (.imul, 1) := by decide +kernel
theorem d_159_220 : decode cX8_name 220 = .ok (.bipush 13, 2) := by decide +kernel
theorem d_159_222 : decode cX8_name 222 = .ok (.iadd, 1) := by decide +kernel
theorem d_159_223 : decode cX8_name 223 = .ok (.lconst 0, 1) := by decide +kernel
theorem d_159_224 : decode cX8_name 224 = .ok (.lastore, 1) := by decide +kernel
theorem d_159_225 : decode cX8_name 225 = .ok (.return_, 1) := by decide +kernel
theorem q_159_0r : zRun 159 0 [some (.ref o), l1, l2, l3, l4, l5, l6, l7, l8] S sh mi mj mr = zRun 159 1 [some (.ref o), l1, l2, l3, l4, l5, l6, l7, l8] (.ref o :: S) sh mi mj mr := zr_l (zD_of zk_159 d_159_0 rfl rfl) rfl rfl rfl
theorem q_159_0n : zRun 159 0 [some (.null), l1, l2, l3, l4, l5, l6, l7, l8] S sh mi mj mr = zRun 159 1 [some (.null), l1, l2, l3, l4, l5, l6, l7, l8] (.null :: S) sh mi mj mr := zr_l (zD_of zk_159 d_159_0 rfl rfl) rfl rfl rfl
theorem q_159_1 (h : zIs sh o 0 8) : zRun 159 1 L (.ref o :: S) sh mi mj mr = zRun 159 4 L (.int (mi o 11) :: S) sh mi mj mr := zr_getI (zD_of zk_159 d_159_1 rfl rfl) rfl rfl (Or.inl rfl) h
theorem q_159_4  : zRun 159 4 L S sh mi mj mr = zRun 159 5 L (.int 1 :: S) sh mi mj mr := zr_p (zD_of zk_159 d_159_4 rfl rfl) rfl
theorem q_159_5  : zRun 159 5 L (.int y :: .int x :: S) sh mi mj mr = zRun 159 6 L (.int (x - y) :: S) sh mi mj mr := zr_p (zD_of zk_159 d_159_5 rfl rfl) rfl
theorem q_159_6 : zRun 159 6 [l0, l1, l2, l3, l4, l5, l6, l7, l8] (.int x :: S) sh mi mj mr = zRun 159 7 [zk2 l0, some (.int x), l2, l3, l4, l5, l6, l7, l8] S sh mi mj mr := zr_s1 (i := 1) (v := .int x) (L := [l0, l1, l2, l3, l4, l5, l6, l7, l8]) (zD_of zk_159 d_159_6 rfl rfl) rfl rfl rfl rfl
theorem q_159_7r : zRun 159 7 [some (.ref o), l1, l2, l3, l4, l5, l6, l7, l8] S sh mi mj mr = zRun 159 8 [some (.ref o), l1, l2, l3, l4, l5, l6, l7, l8] (.ref o :: S) sh mi mj mr := zr_l (zD_of zk_159 d_159_7 rfl rfl) rfl rfl rfl
theorem q_159_7n : zRun 159 7 [some (.null), l1, l2, l3, l4, l5, l6, l7, l8] S sh mi mj mr = zRun 159 8 [some (.null), l1, l2, l3, l4, l5, l6, l7, l8] (.null :: S) sh mi mj mr := zr_l (zD_of zk_159 d_159_7 rfl rfl) rfl rfl rfl
theorem q_159_8 (h : zIs sh o 0 8) : zRun 159 8 L (.ref o :: S) sh mi mj mr = zRun 159 11 L (va_rf (mr o 0) :: S) sh mi mj mr := zr_getR (zD_of zk_159 d_159_8 rfl rfl) rfl rfl rfl h
theorem q_159_11  : zRun 159 11 L S sh mi mj mr = zRun 159 13 L (.int 8 :: S) sh mi mj mr := zr_p (zD_of zk_159 d_159_11 rfl rfl) rfl
theorem q_159_13 (h : zAt sh o 1 x) : zRun 159 13 L (.int x :: .ref o :: S) sh mi mj mr = zRun 159 14 L (.int (mi o x.toNatClampNeg) :: S) sh mi mj mr := zr_iald (zD_of zk_159 d_159_13 rfl rfl) h
theorem q_159_14  : zRun 159 14 L (.int x :: S) sh mi mj mr = if x = 0 then zRun 159 34 L S sh mi mj mr else zRun 159 17 L S sh mi mj mr := zr_if (off := 20) (P := x = 0) (zD_of zk_159 d_159_14 rfl rfl) rfl rfl (by decide)
theorem q_159_17r : zRun 159 17 [some (.ref o), l1, l2, l3, l4, l5, l6, l7, l8] S sh mi mj mr = zRun 159 18 [some (.ref o), l1, l2, l3, l4, l5, l6, l7, l8] (.ref o :: S) sh mi mj mr := zr_l (zD_of zk_159 d_159_17 rfl rfl) rfl rfl rfl
theorem q_159_17n : zRun 159 17 [some (.null), l1, l2, l3, l4, l5, l6, l7, l8] S sh mi mj mr = zRun 159 18 [some (.null), l1, l2, l3, l4, l5, l6, l7, l8] (.null :: S) sh mi mj mr := zr_l (zD_of zk_159 d_159_17 rfl rfl) rfl rfl rfl
theorem q_159_18 (h : zIs sh o 0 8) : zRun 159 18 L (.ref o :: S) sh mi mj mr = zRun 159 21 L (va_rf (mr o 10) :: S) sh mi mj mr := zr_getR (zD_of zk_159 d_159_18 rfl rfl) rfl rfl rfl h
theorem q_159_21  : zRun 159 21 L S sh mi mj mr = zRun 159 23 L (.int 17 :: S) sh mi mj mr := zr_p (zD_of zk_159 d_159_21 rfl rfl) rfl
theorem q_159_23 : zRun 159 23 [l0, some (.int x), l2, l3, l4, l5, l6, l7, l8] S sh mi mj mr = zRun 159 24 [l0, some (.int x), l2, l3, l4, l5, l6, l7, l8] (.int x :: S) sh mi mj mr := zr_l (zD_of zk_159 d_159_23 rfl rfl) rfl rfl rfl
theorem q_159_24  : zRun 159 24 L (.int y :: .int x :: S) sh mi mj mr = zRun 159 25 L (.int (x * y) :: S) sh mi mj mr := zr_p (zD_of zk_159 d_159_24 rfl rfl) rfl
theorem q_159_25  : zRun 159 25 L S sh mi mj mr = zRun 159 27 L (.int 13 :: S) sh mi mj mr := zr_p (zD_of zk_159 d_159_25 rfl rfl) rfl
theorem q_159_27  : zRun 159 27 L (.int y :: .int x :: S) sh mi mj mr = zRun 159 28 L (.int (x + y) :: S) sh mi mj mr := zr_p (zD_of zk_159 d_159_27 rfl rfl) rfl
theorem q_159_28 (h : zAt sh o 2 x) : zRun 159 28 L (.int x :: .ref o :: S) sh mi mj mr = zRun 159 29 L (.long (mj o x.toNatClampNeg) :: S) sh mi mj mr := zr_lald (zD_of zk_159 d_159_28 rfl rfl) h
theorem q_159_29  : zRun 159 29 L S sh mi mj mr = zRun 159 30 L (.long 0 :: S) sh mi mj mr := zr_p (zD_of zk_159 d_159_29 rfl rfl) rfl
theorem q_159_30  : zRun 159 30 L (.long v :: .long u :: S) sh mi mj mr = if ¬ u = v then zRun 159 35 L S sh mi mj mr else zRun 159 34 L S sh mi mj mr := zr_cmp (off := 4) (zD_of zk_159 d_159_30 rfl rfl) (zD_of zk_159 d_159_31 rfl rfl) rfl rfl (by decide) (not_congr (lg_cmp_eq u v))
theorem q_159_31  : zRun 159 31 L (.int x :: S) sh mi mj mr = if ¬ x = 0 then zRun 159 35 L S sh mi mj mr else zRun 159 34 L S sh mi mj mr := zr_if (off := 4) (P := ¬ x = 0) (zD_of zk_159 d_159_31 rfl rfl) rfl rfl (by decide)
theorem q_159_34  : zRun 159 34 L [] sh mi mj mr = some (none, sh, mi, mj, mr) := zr_ret (zD_of zk_159 d_159_34 rfl rfl) rfl rfl rfl rfl rfl rfl
theorem q_159_35  : zRun 159 35 L S sh mi mj mr = zRun 159 37 L (.int (-6) :: S) sh mi mj mr := zr_p (zD_of zk_159 d_159_35 rfl rfl) rfl
theorem q_159_37 : zRun 159 37 [l0, l1, l2, l3, l4, l5, l6, l7, l8] (.int x :: S) sh mi mj mr = zRun 159 38 [l0, zk2 l1, some (.int x), l3, l4, l5, l6, l7, l8] S sh mi mj mr := zr_s1 (i := 2) (v := .int x) (L := [l0, l1, l2, l3, l4, l5, l6, l7, l8]) (zD_of zk_159 d_159_37 rfl rfl) rfl rfl rfl rfl
theorem q_159_38  : zRun 159 38 L S sh mi mj mr = zRun 159 39 L (.long 0 :: S) sh mi mj mr := zr_p (zD_of zk_159 d_159_38 rfl rfl) rfl
theorem q_159_39 : zRun 159 39 [l0, l1, l2, l3, l4, l5, l6, l7, l8] (.long u :: S) sh mi mj mr = zRun 159 40 [l0, l1, zk2 l2, some (.long u), none, l5, l6, l7, l8] S sh mi mj mr := zr_s2 (i := 3) (v := .long u) (L := [l0, l1, l2, l3, l4, l5, l6, l7, l8]) (zD_of zk_159 d_159_39 rfl rfl) rfl rfl rfl rfl
theorem q_159_40  : zRun 159 40 L S sh mi mj mr = zRun 159 41 L (.int 4 :: S) sh mi mj mr := zr_p (zD_of zk_159 d_159_40 rfl rfl) rfl
theorem q_159_41 : zRun 159 41 [l0, l1, l2, l3, l4, l5, l6, l7, l8] (.int x :: S) sh mi mj mr = zRun 159 43 [l0, l1, l2, l3, zk2 l4, some (.int x), l6, l7, l8] S sh mi mj mr := zr_s1 (i := 5) (v := .int x) (L := [l0, l1, l2, l3, l4, l5, l6, l7, l8]) (zD_of zk_159 d_159_41 rfl rfl) rfl rfl rfl rfl
theorem q_159_43 : zRun 159 43 [l0, l1, l2, l3, l4, some (.int x), l6, l7, l8] S sh mi mj mr = zRun 159 45 [l0, l1, l2, l3, l4, some (.int x), l6, l7, l8] (.int x :: S) sh mi mj mr := zr_l (zD_of zk_159 d_159_43 rfl rfl) rfl rfl rfl
theorem q_159_45  : zRun 159 45 L S sh mi mj mr = zRun 159 46 L (.int 4 :: S) sh mi mj mr := zr_p (zD_of zk_159 d_159_45 rfl rfl) rfl
theorem q_159_46r : zRun 159 46 [some (.ref o), l1, l2, l3, l4, l5, l6, l7, l8] S sh mi mj mr = zRun 159 47 [some (.ref o), l1, l2, l3, l4, l5, l6, l7, l8] (.ref o :: S) sh mi mj mr := zr_l (zD_of zk_159 d_159_46 rfl rfl) rfl rfl rfl
theorem q_159_46n : zRun 159 46 [some (.null), l1, l2, l3, l4, l5, l6, l7, l8] S sh mi mj mr = zRun 159 47 [some (.null), l1, l2, l3, l4, l5, l6, l7, l8] (.null :: S) sh mi mj mr := zr_l (zD_of zk_159 d_159_46 rfl rfl) rfl rfl rfl
theorem q_159_47 (h : zIs sh o 0 8) : zRun 159 47 L (.ref o :: S) sh mi mj mr = zRun 159 50 L (va_rf (mr o 0) :: S) sh mi mj mr := zr_getR (zD_of zk_159 d_159_47 rfl rfl) rfl rfl rfl h
theorem q_159_50  : zRun 159 50 L S sh mi mj mr = zRun 159 52 L (.int 8 :: S) sh mi mj mr := zr_p (zD_of zk_159 d_159_50 rfl rfl) rfl
theorem q_159_52 (h : zAt sh o 1 x) : zRun 159 52 L (.int x :: .ref o :: S) sh mi mj mr = zRun 159 53 L (.int (mi o x.toNatClampNeg) :: S) sh mi mj mr := zr_iald (zD_of zk_159 d_159_52 rfl rfl) h
theorem q_159_53  : zRun 159 53 L (.int y :: .int x :: S) sh mi mj mr = zRun 159 54 L (.int (x + y) :: S) sh mi mj mr := zr_p (zD_of zk_159 d_159_53 rfl rfl) rfl
theorem q_159_54  : zRun 159 54 L (.int y :: .int x :: S) sh mi mj mr = if y ≤ x then zRun 159 124 L S sh mi mj mr else zRun 159 57 L S sh mi mj mr := zr_if (off := 70) (P := y ≤ x) (zD_of zk_159 d_159_54 rfl rfl) rfl rfl (by decide)
theorem q_159_57  : zRun 159 57 L S sh mi mj mr = zRun 159 58 L (.long 0 :: S) sh mi mj mr := zr_p (zD_of zk_159 d_159_57 rfl rfl) rfl
theorem q_159_58 : zRun 159 58 [l0, l1, l2, l3, l4, l5, l6, l7, l8] (.long u :: S) sh mi mj mr = zRun 159 60 [l0, l1, l2, l3, l4, zk2 l5, some (.long u), none, l8] S sh mi mj mr := zr_s2 (i := 6) (v := .long u) (L := [l0, l1, l2, l3, l4, l5, l6, l7, l8]) (zD_of zk_159 d_159_58 rfl rfl) rfl rfl rfl rfl
theorem q_159_60  : zRun 159 60 L S sh mi mj mr = zRun 159 61 L (.int 0 :: S) sh mi mj mr := zr_p (zD_of zk_159 d_159_60 rfl rfl) rfl
theorem q_159_61 : zRun 159 61 [l0, l1, l2, l3, l4, l5, l6, l7, l8] (.int x :: S) sh mi mj mr = zRun 159 63 [l0, l1, l2, l3, l4, l5, l6, zk2 l7, some (.int x)] S sh mi mj mr := zr_s1 (i := 8) (v := .int x) (L := [l0, l1, l2, l3, l4, l5, l6, l7, l8]) (zD_of zk_159 d_159_61 rfl rfl) rfl rfl rfl rfl
theorem q_159_63 : zRun 159 63 [l0, l1, l2, l3, l4, l5, l6, l7, some (.int x)] S sh mi mj mr = zRun 159 65 [l0, l1, l2, l3, l4, l5, l6, l7, some (.int x)] (.int x :: S) sh mi mj mr := zr_l (zD_of zk_159 d_159_63 rfl rfl) rfl rfl rfl
theorem q_159_65r : zRun 159 65 [some (.ref o), l1, l2, l3, l4, l5, l6, l7, l8] S sh mi mj mr = zRun 159 66 [some (.ref o), l1, l2, l3, l4, l5, l6, l7, l8] (.ref o :: S) sh mi mj mr := zr_l (zD_of zk_159 d_159_65 rfl rfl) rfl rfl rfl
theorem q_159_65n : zRun 159 65 [some (.null), l1, l2, l3, l4, l5, l6, l7, l8] S sh mi mj mr = zRun 159 66 [some (.null), l1, l2, l3, l4, l5, l6, l7, l8] (.null :: S) sh mi mj mr := zr_l (zD_of zk_159 d_159_65 rfl rfl) rfl rfl rfl
theorem q_159_66 (h : zIs sh o 0 8) : zRun 159 66 L (.ref o :: S) sh mi mj mr = zRun 159 69 L (.int (mi o 11) :: S) sh mi mj mr := zr_getI (zD_of zk_159 d_159_66 rfl rfl) rfl rfl (Or.inl rfl) h
theorem q_159_69  : zRun 159 69 L (.int y :: .int x :: S) sh mi mj mr = if y ≤ x then zRun 159 101 L S sh mi mj mr else zRun 159 72 L S sh mi mj mr := zr_if (off := 32) (P := y ≤ x) (zD_of zk_159 d_159_69 rfl rfl) rfl rfl (by decide)
theorem q_159_72 : zRun 159 72 [l0, l1, l2, l3, l4, l5, some (.long u), l7, l8] S sh mi mj mr = zRun 159 74 [l0, l1, l2, l3, l4, l5, some (.long u), l7, l8] (.long u :: S) sh mi mj mr := zr_l (zD_of zk_159 d_159_72 rfl rfl) rfl rfl rfl
theorem q_159_74r : zRun 159 74 [some (.ref o), l1, l2, l3, l4, l5, l6, l7, l8] S sh mi mj mr = zRun 159 75 [some (.ref o), l1, l2, l3, l4, l5, l6, l7, l8] (.ref o :: S) sh mi mj mr := zr_l (zD_of zk_159 d_159_74 rfl rfl) rfl rfl rfl
theorem q_159_74n : zRun 159 74 [some (.null), l1, l2, l3, l4, l5, l6, l7, l8] S sh mi mj mr = zRun 159 75 [some (.null), l1, l2, l3, l4, l5, l6, l7, l8] (.null :: S) sh mi mj mr := zr_l (zD_of zk_159 d_159_74 rfl rfl) rfl rfl rfl
theorem q_159_75 (h : zIs sh o 0 8) : zRun 159 75 L (.ref o :: S) sh mi mj mr = zRun 159 78 L (va_rf (mr o 10) :: S) sh mi mj mr := zr_getR (zD_of zk_159 d_159_75 rfl rfl) rfl rfl rfl h
theorem q_159_78  : zRun 159 78 L S sh mi mj mr = zRun 159 80 L (.int 17 :: S) sh mi mj mr := zr_p (zD_of zk_159 d_159_78 rfl rfl) rfl
theorem q_159_80 : zRun 159 80 [l0, l1, l2, l3, l4, l5, l6, l7, some (.int x)] S sh mi mj mr = zRun 159 82 [l0, l1, l2, l3, l4, l5, l6, l7, some (.int x)] (.int x :: S) sh mi mj mr := zr_l (zD_of zk_159 d_159_80 rfl rfl) rfl rfl rfl
theorem q_159_82  : zRun 159 82 L (.int y :: .int x :: S) sh mi mj mr = zRun 159 83 L (.int (x * y) :: S) sh mi mj mr := zr_p (zD_of zk_159 d_159_82 rfl rfl) rfl
theorem q_159_83  : zRun 159 83 L S sh mi mj mr = zRun 159 84 L (.int 1 :: S) sh mi mj mr := zr_p (zD_of zk_159 d_159_83 rfl rfl) rfl
theorem q_159_84  : zRun 159 84 L (.int y :: .int x :: S) sh mi mj mr = zRun 159 85 L (.int (x + y) :: S) sh mi mj mr := zr_p (zD_of zk_159 d_159_84 rfl rfl) rfl
theorem q_159_85 : zRun 159 85 [l0, l1, l2, l3, l4, some (.int x), l6, l7, l8] S sh mi mj mr = zRun 159 87 [l0, l1, l2, l3, l4, some (.int x), l6, l7, l8] (.int x :: S) sh mi mj mr := zr_l (zD_of zk_159 d_159_85 rfl rfl) rfl rfl rfl
theorem q_159_87  : zRun 159 87 L (.int y :: .int x :: S) sh mi mj mr = zRun 159 88 L (.int (x + y) :: S) sh mi mj mr := zr_p (zD_of zk_159 d_159_87 rfl rfl) rfl
theorem q_159_88 (h : zAt sh o 2 x) : zRun 159 88 L (.int x :: .ref o :: S) sh mi mj mr = zRun 159 89 L (.long (mj o x.toNatClampNeg) :: S) sh mi mj mr := zr_lald (zD_of zk_159 d_159_88 rfl rfl) h
theorem q_159_89  {u0 : Int64} (hS : zcat S ≤ 8) : zRun 159 89 L (.long u0 :: S) sh mi mj mr = (zCall 137 [.long u0] sh mi mj mr).bind fun r => zRun 159 92 L (r.1.toList ++ S) r.2.1 r.2.2.1 r.2.2.2.1 r.2.2.2.2 := zr_S (zD_of zk_159 d_159_89 rfl rfl) rfl zk_137 rfl rfl rfl hS
theorem q_159_92  : zRun 159 92 L (.long v :: .long u :: S) sh mi mj mr = zRun 159 93 L (.long (u + v) :: S) sh mi mj mr := zr_p (zD_of zk_159 d_159_92 rfl rfl) rfl
theorem q_159_93 : zRun 159 93 [l0, l1, l2, l3, l4, l5, l6, l7, l8] (.long u :: S) sh mi mj mr = zRun 159 95 [l0, l1, l2, l3, l4, zk2 l5, some (.long u), none, l8] S sh mi mj mr := zr_s2 (i := 6) (v := .long u) (L := [l0, l1, l2, l3, l4, l5, l6, l7, l8]) (zD_of zk_159 d_159_93 rfl rfl) rfl rfl rfl rfl
theorem q_159_95  : zRun 159 95 [l0, l1, l2, l3, l4, l5, l6, l7, some (.int x)] S sh mi mj mr = zRun 159 98 [l0, l1, l2, l3, l4, l5, l6, zk2 l7, some (.int (x + 1))] S sh mi mj mr := zr_s1 (i := 8) (v := .int (x + 1)) (L := [l0, l1, l2, l3, l4, l5, l6, l7, some (.int x)]) (zD_of zk_159 d_159_95 rfl rfl) rfl rfl rfl rfl
theorem q_159_98  : zRun 159 98 L S sh mi mj mr = zRun 159 63 L S sh mi mj mr := zr_go (off := (-35)) (zD_of zk_159 d_159_98 rfl rfl) rfl rfl (by decide)
theorem q_159_101 : zRun 159 101 [l0, l1, some (.int x), l3, l4, l5, l6, l7, l8] S sh mi mj mr = zRun 159 102 [l0, l1, some (.int x), l3, l4, l5, l6, l7, l8] (.int x :: S) sh mi mj mr := zr_l (zD_of zk_159 d_159_101 rfl rfl) rfl rfl rfl
theorem q_159_102  : zRun 159 102 L (.int x :: S) sh mi mj mr = if x < 0 then zRun 159 112 L S sh mi mj mr else zRun 159 105 L S sh mi mj mr := zr_if (off := 10) (P := x < 0) (zD_of zk_159 d_159_102 rfl rfl) rfl rfl (by decide)
theorem q_159_105 : zRun 159 105 [l0, l1, l2, l3, l4, l5, some (.long u), l7, l8] S sh mi mj mr = zRun 159 107 [l0, l1, l2, l3, l4, l5, some (.long u), l7, l8] (.long u :: S) sh mi mj mr := zr_l (zD_of zk_159 d_159_105 rfl rfl) rfl rfl rfl
theorem q_159_107 : zRun 159 107 [l0, l1, l2, some (.long u), l4, l5, l6, l7, l8] S sh mi mj mr = zRun 159 108 [l0, l1, l2, some (.long u), l4, l5, l6, l7, l8] (.long u :: S) sh mi mj mr := zr_l (zD_of zk_159 d_159_107 rfl rfl) rfl rfl rfl
theorem q_159_108  : zRun 159 108 L (.long v :: .long u :: S) sh mi mj mr = if v ≤ u then zRun 159 118 L S sh mi mj mr else zRun 159 112 L S sh mi mj mr := zr_cmp (off := 9) (zD_of zk_159 d_159_108 rfl rfl) (zD_of zk_159 d_159_109 rfl rfl) rfl rfl (by decide) (lg_cmp_ge u v)
theorem q_159_109  : zRun 159 109 L (.int x :: S) sh mi mj mr = if 0 ≤ x then zRun 159 118 L S sh mi mj mr else zRun 159 112 L S sh mi mj mr := zr_if (off := 9) (P := 0 ≤ x) (zD_of zk_159 d_159_109 rfl rfl) rfl rfl (by decide)
theorem q_159_112 : zRun 159 112 [l0, l1, l2, l3, l4, some (.int x), l6, l7, l8] S sh mi mj mr = zRun 159 114 [l0, l1, l2, l3, l4, some (.int x), l6, l7, l8] (.int x :: S) sh mi mj mr := zr_l (zD_of zk_159 d_159_112 rfl rfl) rfl rfl rfl
theorem q_159_114 : zRun 159 114 [l0, l1, l2, l3, l4, l5, l6, l7, l8] (.int x :: S) sh mi mj mr = zRun 159 115 [l0, zk2 l1, some (.int x), l3, l4, l5, l6, l7, l8] S sh mi mj mr := zr_s1 (i := 2) (v := .int x) (L := [l0, l1, l2, l3, l4, l5, l6, l7, l8]) (zD_of zk_159 d_159_114 rfl rfl) rfl rfl rfl rfl
theorem q_159_115 : zRun 159 115 [l0, l1, l2, l3, l4, l5, some (.long u), l7, l8] S sh mi mj mr = zRun 159 117 [l0, l1, l2, l3, l4, l5, some (.long u), l7, l8] (.long u :: S) sh mi mj mr := zr_l (zD_of zk_159 d_159_115 rfl rfl) rfl rfl rfl
theorem q_159_117 : zRun 159 117 [l0, l1, l2, l3, l4, l5, l6, l7, l8] (.long u :: S) sh mi mj mr = zRun 159 118 [l0, l1, zk2 l2, some (.long u), none, l5, l6, l7, l8] S sh mi mj mr := zr_s2 (i := 3) (v := .long u) (L := [l0, l1, l2, l3, l4, l5, l6, l7, l8]) (zD_of zk_159 d_159_117 rfl rfl) rfl rfl rfl rfl
theorem q_159_118  : zRun 159 118 [l0, l1, l2, l3, l4, some (.int x), l6, l7, l8] S sh mi mj mr = zRun 159 121 [l0, l1, l2, l3, zk2 l4, some (.int (x + 1)), l6, l7, l8] S sh mi mj mr := zr_s1 (i := 5) (v := .int (x + 1)) (L := [l0, l1, l2, l3, l4, some (.int x), l6, l7, l8]) (zD_of zk_159 d_159_118 rfl rfl) rfl rfl rfl rfl
theorem q_159_121  : zRun 159 121 L S sh mi mj mr = zRun 159 43 L S sh mi mj mr := zr_go (off := (-78)) (zD_of zk_159 d_159_121 rfl rfl) rfl rfl (by decide)
theorem q_159_124  : zRun 159 124 L S sh mi mj mr = zRun 159 125 L (.int 0 :: S) sh mi mj mr := zr_p (zD_of zk_159 d_159_124 rfl rfl) rfl
theorem q_159_125 : zRun 159 125 [l0, l1, l2, l3, l4, l5, l6, l7, l8] (.int x :: S) sh mi mj mr = zRun 159 127 [l0, l1, l2, l3, zk2 l4, some (.int x), l6, l7, l8] S sh mi mj mr := zr_s1 (i := 5) (v := .int x) (L := [l0, l1, l2, l3, l4, l5, l6, l7, l8]) (zD_of zk_159 d_159_125 rfl rfl) rfl rfl rfl rfl
theorem q_159_127 : zRun 159 127 [l0, l1, l2, l3, l4, some (.int x), l6, l7, l8] S sh mi mj mr = zRun 159 129 [l0, l1, l2, l3, l4, some (.int x), l6, l7, l8] (.int x :: S) sh mi mj mr := zr_l (zD_of zk_159 d_159_127 rfl rfl) rfl rfl rfl
theorem q_159_129r : zRun 159 129 [some (.ref o), l1, l2, l3, l4, l5, l6, l7, l8] S sh mi mj mr = zRun 159 130 [some (.ref o), l1, l2, l3, l4, l5, l6, l7, l8] (.ref o :: S) sh mi mj mr := zr_l (zD_of zk_159 d_159_129 rfl rfl) rfl rfl rfl
theorem q_159_129n : zRun 159 129 [some (.null), l1, l2, l3, l4, l5, l6, l7, l8] S sh mi mj mr = zRun 159 130 [some (.null), l1, l2, l3, l4, l5, l6, l7, l8] (.null :: S) sh mi mj mr := zr_l (zD_of zk_159 d_159_129 rfl rfl) rfl rfl rfl
theorem q_159_130 (h : zIs sh o 0 8) : zRun 159 130 L (.ref o :: S) sh mi mj mr = zRun 159 133 L (.int (mi o 11) :: S) sh mi mj mr := zr_getI (zD_of zk_159 d_159_130 rfl rfl) rfl rfl (Or.inl rfl) h
theorem q_159_133  : zRun 159 133 L (.int y :: .int x :: S) sh mi mj mr = if y ≤ x then zRun 159 187 L S sh mi mj mr else zRun 159 136 L S sh mi mj mr := zr_if (off := 54) (P := y ≤ x) (zD_of zk_159 d_159_133 rfl rfl) rfl rfl (by decide)
theorem q_159_136  : zRun 159 136 L S sh mi mj mr = zRun 159 138 L (.int 17 :: S) sh mi mj mr := zr_p (zD_of zk_159 d_159_136 rfl rfl) rfl
theorem q_159_138 : zRun 159 138 [l0, l1, l2, l3, l4, some (.int x), l6, l7, l8] S sh mi mj mr = zRun 159 140 [l0, l1, l2, l3, l4, some (.int x), l6, l7, l8] (.int x :: S) sh mi mj mr := zr_l (zD_of zk_159 d_159_138 rfl rfl) rfl rfl rfl
theorem q_159_140  : zRun 159 140 L (.int y :: .int x :: S) sh mi mj mr = zRun 159 141 L (.int (x * y) :: S) sh mi mj mr := zr_p (zD_of zk_159 d_159_140 rfl rfl) rfl
theorem q_159_141  : zRun 159 141 L S sh mi mj mr = zRun 159 142 L (.int 1 :: S) sh mi mj mr := zr_p (zD_of zk_159 d_159_141 rfl rfl) rfl
theorem q_159_142  : zRun 159 142 L (.int y :: .int x :: S) sh mi mj mr = zRun 159 143 L (.int (x + y) :: S) sh mi mj mr := zr_p (zD_of zk_159 d_159_142 rfl rfl) rfl
theorem q_159_143 : zRun 159 143 [l0, l1, some (.int x), l3, l4, l5, l6, l7, l8] S sh mi mj mr = zRun 159 144 [l0, l1, some (.int x), l3, l4, l5, l6, l7, l8] (.int x :: S) sh mi mj mr := zr_l (zD_of zk_159 d_159_143 rfl rfl) rfl rfl rfl
theorem q_159_144  : zRun 159 144 L (.int y :: .int x :: S) sh mi mj mr = zRun 159 145 L (.int (x + y) :: S) sh mi mj mr := zr_p (zD_of zk_159 d_159_144 rfl rfl) rfl
theorem q_159_145 : zRun 159 145 [l0, l1, l2, l3, l4, l5, l6, l7, l8] (.int x :: S) sh mi mj mr = zRun 159 147 [l0, l1, l2, l3, l4, zk2 l5, some (.int x), l7, l8] S sh mi mj mr := zr_s1 (i := 6) (v := .int x) (L := [l0, l1, l2, l3, l4, l5, l6, l7, l8]) (zD_of zk_159 d_159_145 rfl rfl) rfl rfl rfl rfl
theorem q_159_147r : zRun 159 147 [some (.ref o), l1, l2, l3, l4, l5, l6, l7, l8] S sh mi mj mr = zRun 159 148 [some (.ref o), l1, l2, l3, l4, l5, l6, l7, l8] (.ref o :: S) sh mi mj mr := zr_l (zD_of zk_159 d_159_147 rfl rfl) rfl rfl rfl
theorem q_159_147n : zRun 159 147 [some (.null), l1, l2, l3, l4, l5, l6, l7, l8] S sh mi mj mr = zRun 159 148 [some (.null), l1, l2, l3, l4, l5, l6, l7, l8] (.null :: S) sh mi mj mr := zr_l (zD_of zk_159 d_159_147 rfl rfl) rfl rfl rfl
theorem q_159_148 (h : zIs sh o 0 8) : zRun 159 148 L (.ref o :: S) sh mi mj mr = zRun 159 151 L (va_rf (mr o 10) :: S) sh mi mj mr := zr_getR (zD_of zk_159 d_159_148 rfl rfl) rfl rfl rfl h
theorem q_159_151  : zRun 159 151 L S sh mi mj mr = zRun 159 153 L (.int 17 :: S) sh mi mj mr := zr_p (zD_of zk_159 d_159_151 rfl rfl) rfl
theorem q_159_153 : zRun 159 153 [l0, l1, l2, l3, l4, some (.int x), l6, l7, l8] S sh mi mj mr = zRun 159 155 [l0, l1, l2, l3, l4, some (.int x), l6, l7, l8] (.int x :: S) sh mi mj mr := zr_l (zD_of zk_159 d_159_153 rfl rfl) rfl rfl rfl
theorem q_159_155  : zRun 159 155 L (.int y :: .int x :: S) sh mi mj mr = zRun 159 156 L (.int (x * y) :: S) sh mi mj mr := zr_p (zD_of zk_159 d_159_155 rfl rfl) rfl
theorem q_159_156  : zRun 159 156 L S sh mi mj mr = zRun 159 158 L (.int 13 :: S) sh mi mj mr := zr_p (zD_of zk_159 d_159_156 rfl rfl) rfl
theorem q_159_158  : zRun 159 158 L (.int y :: .int x :: S) sh mi mj mr = zRun 159 159 L (.int (x + y) :: S) sh mi mj mr := zr_p (zD_of zk_159 d_159_158 rfl rfl) rfl
theorem q_159_159  : zRun 159 159 L (.int x :: .ref o :: S) sh mi mj mr = zRun 159 160 L (.int x :: .ref o :: .int x :: .ref o :: S) sh mi mj mr := zr_p (zD_of zk_159 d_159_159 rfl rfl) rfl
theorem q_159_160 (h : zAt sh o 2 x) : zRun 159 160 L (.int x :: .ref o :: S) sh mi mj mr = zRun 159 161 L (.long (mj o x.toNatClampNeg) :: S) sh mi mj mr := zr_lald (zD_of zk_159 d_159_160 rfl rfl) h
theorem q_159_161r : zRun 159 161 [some (.ref o), l1, l2, l3, l4, l5, l6, l7, l8] S sh mi mj mr = zRun 159 162 [some (.ref o), l1, l2, l3, l4, l5, l6, l7, l8] (.ref o :: S) sh mi mj mr := zr_l (zD_of zk_159 d_159_161 rfl rfl) rfl rfl rfl
theorem q_159_161n : zRun 159 161 [some (.null), l1, l2, l3, l4, l5, l6, l7, l8] S sh mi mj mr = zRun 159 162 [some (.null), l1, l2, l3, l4, l5, l6, l7, l8] (.null :: S) sh mi mj mr := zr_l (zD_of zk_159 d_159_161 rfl rfl) rfl rfl rfl
theorem q_159_162 (h : zIs sh o 0 8) : zRun 159 162 L (.ref o :: S) sh mi mj mr = zRun 159 165 L (va_rf (mr o 10) :: S) sh mi mj mr := zr_getR (zD_of zk_159 d_159_162 rfl rfl) rfl rfl rfl h
theorem q_159_165 : zRun 159 165 [l0, l1, l2, l3, l4, l5, some (.int x), l7, l8] S sh mi mj mr = zRun 159 167 [l0, l1, l2, l3, l4, l5, some (.int x), l7, l8] (.int x :: S) sh mi mj mr := zr_l (zD_of zk_159 d_159_165 rfl rfl) rfl rfl rfl
theorem q_159_167 (h : zAt sh o 2 x) : zRun 159 167 L (.int x :: .ref o :: S) sh mi mj mr = zRun 159 168 L (.long (mj o x.toNatClampNeg) :: S) sh mi mj mr := zr_lald (zD_of zk_159 d_159_167 rfl rfl) h
theorem q_159_168  {u0 : Int64} (hS : zcat S ≤ 8) : zRun 159 168 L (.long u0 :: S) sh mi mj mr = (zCall 137 [.long u0] sh mi mj mr).bind fun r => zRun 159 171 L (r.1.toList ++ S) r.2.1 r.2.2.1 r.2.2.2.1 r.2.2.2.2 := zr_S (zD_of zk_159 d_159_168 rfl rfl) rfl zk_137 rfl rfl rfl hS
theorem q_159_171  : zRun 159 171 L (.long v :: .long u :: S) sh mi mj mr = zRun 159 172 L (.long (u + v) :: S) sh mi mj mr := zr_p (zD_of zk_159 d_159_171 rfl rfl) rfl
theorem q_159_172 (h : zAt sh o 2 x) : zRun 159 172 L (.long u :: .int x :: .ref o :: S) sh mi mj mr = zRun 159 173 L S sh mi (zup mj o x.toNatClampNeg u) mr := zr_last (zD_of zk_159 d_159_172 rfl rfl) h
theorem q_159_173r : zRun 159 173 [some (.ref o), l1, l2, l3, l4, l5, l6, l7, l8] S sh mi mj mr = zRun 159 174 [some (.ref o), l1, l2, l3, l4, l5, l6, l7, l8] (.ref o :: S) sh mi mj mr := zr_l (zD_of zk_159 d_159_173 rfl rfl) rfl rfl rfl
theorem q_159_173n : zRun 159 173 [some (.null), l1, l2, l3, l4, l5, l6, l7, l8] S sh mi mj mr = zRun 159 174 [some (.null), l1, l2, l3, l4, l5, l6, l7, l8] (.null :: S) sh mi mj mr := zr_l (zD_of zk_159 d_159_173 rfl rfl) rfl rfl rfl
theorem q_159_174 (h : zIs sh o 0 8) : zRun 159 174 L (.ref o :: S) sh mi mj mr = zRun 159 177 L (va_rf (mr o 10) :: S) sh mi mj mr := zr_getR (zD_of zk_159 d_159_174 rfl rfl) rfl rfl rfl h
theorem q_159_177 : zRun 159 177 [l0, l1, l2, l3, l4, l5, some (.int x), l7, l8] S sh mi mj mr = zRun 159 179 [l0, l1, l2, l3, l4, l5, some (.int x), l7, l8] (.int x :: S) sh mi mj mr := zr_l (zD_of zk_159 d_159_177 rfl rfl) rfl rfl rfl
theorem q_159_179  : zRun 159 179 L S sh mi mj mr = zRun 159 180 L (.long 0 :: S) sh mi mj mr := zr_p (zD_of zk_159 d_159_179 rfl rfl) rfl
theorem q_159_180 (h : zAt sh o 2 x) : zRun 159 180 L (.long u :: .int x :: .ref o :: S) sh mi mj mr = zRun 159 181 L S sh mi (zup mj o x.toNatClampNeg u) mr := zr_last (zD_of zk_159 d_159_180 rfl rfl) h
theorem q_159_181  : zRun 159 181 [l0, l1, l2, l3, l4, some (.int x), l6, l7, l8] S sh mi mj mr = zRun 159 184 [l0, l1, l2, l3, zk2 l4, some (.int (x + 1)), l6, l7, l8] S sh mi mj mr := zr_s1 (i := 5) (v := .int (x + 1)) (L := [l0, l1, l2, l3, l4, some (.int x), l6, l7, l8]) (zD_of zk_159 d_159_181 rfl rfl) rfl rfl rfl rfl
theorem q_159_184  : zRun 159 184 L S sh mi mj mr = zRun 159 127 L S sh mi mj mr := zr_go (off := (-57)) (zD_of zk_159 d_159_184 rfl rfl) rfl rfl (by decide)
theorem q_159_187r : zRun 159 187 [some (.ref o), l1, l2, l3, l4, l5, l6, l7, l8] S sh mi mj mr = zRun 159 188 [some (.ref o), l1, l2, l3, l4, l5, l6, l7, l8] (.ref o :: S) sh mi mj mr := zr_l (zD_of zk_159 d_159_187 rfl rfl) rfl rfl rfl
theorem q_159_187n : zRun 159 187 [some (.null), l1, l2, l3, l4, l5, l6, l7, l8] S sh mi mj mr = zRun 159 188 [some (.null), l1, l2, l3, l4, l5, l6, l7, l8] (.null :: S) sh mi mj mr := zr_l (zD_of zk_159 d_159_187 rfl rfl) rfl rfl rfl
theorem q_159_188 (h : zIs sh o 0 8) : zRun 159 188 L (.ref o :: S) sh mi mj mr = zRun 159 191 L (va_rf (mr o 10) :: S) sh mi mj mr := zr_getR (zD_of zk_159 d_159_188 rfl rfl) rfl rfl rfl h
theorem q_159_191  : zRun 159 191 L S sh mi mj mr = zRun 159 193 L (.int 17 :: S) sh mi mj mr := zr_p (zD_of zk_159 d_159_191 rfl rfl) rfl
theorem q_159_193 : zRun 159 193 [l0, some (.int x), l2, l3, l4, l5, l6, l7, l8] S sh mi mj mr = zRun 159 194 [l0, some (.int x), l2, l3, l4, l5, l6, l7, l8] (.int x :: S) sh mi mj mr := zr_l (zD_of zk_159 d_159_193 rfl rfl) rfl rfl rfl
theorem q_159_194  : zRun 159 194 L (.int y :: .int x :: S) sh mi mj mr = zRun 159 195 L (.int (x * y) :: S) sh mi mj mr := zr_p (zD_of zk_159 d_159_194 rfl rfl) rfl
theorem q_159_195  : zRun 159 195 L S sh mi mj mr = zRun 159 196 L (.int 1 :: S) sh mi mj mr := zr_p (zD_of zk_159 d_159_195 rfl rfl) rfl
theorem q_159_196  : zRun 159 196 L (.int y :: .int x :: S) sh mi mj mr = zRun 159 197 L (.int (x + y) :: S) sh mi mj mr := zr_p (zD_of zk_159 d_159_196 rfl rfl) rfl
theorem q_159_197 : zRun 159 197 [l0, l1, some (.int x), l3, l4, l5, l6, l7, l8] S sh mi mj mr = zRun 159 198 [l0, l1, some (.int x), l3, l4, l5, l6, l7, l8] (.int x :: S) sh mi mj mr := zr_l (zD_of zk_159 d_159_197 rfl rfl) rfl rfl rfl
theorem q_159_198  : zRun 159 198 L (.int y :: .int x :: S) sh mi mj mr = zRun 159 199 L (.int (x + y) :: S) sh mi mj mr := zr_p (zD_of zk_159 d_159_198 rfl rfl) rfl
theorem q_159_199r : zRun 159 199 [some (.ref o), l1, l2, l3, l4, l5, l6, l7, l8] S sh mi mj mr = zRun 159 200 [some (.ref o), l1, l2, l3, l4, l5, l6, l7, l8] (.ref o :: S) sh mi mj mr := zr_l (zD_of zk_159 d_159_199 rfl rfl) rfl rfl rfl
theorem q_159_199n : zRun 159 199 [some (.null), l1, l2, l3, l4, l5, l6, l7, l8] S sh mi mj mr = zRun 159 200 [some (.null), l1, l2, l3, l4, l5, l6, l7, l8] (.null :: S) sh mi mj mr := zr_l (zD_of zk_159 d_159_199 rfl rfl) rfl rfl rfl
theorem q_159_200 (h : zIs sh o 0 8) : zRun 159 200 L (.ref o :: S) sh mi mj mr = zRun 159 203 L (va_rf (mr o 10) :: S) sh mi mj mr := zr_getR (zD_of zk_159 d_159_200 rfl rfl) rfl rfl rfl h
theorem q_159_203  : zRun 159 203 L S sh mi mj mr = zRun 159 205 L (.int 17 :: S) sh mi mj mr := zr_p (zD_of zk_159 d_159_203 rfl rfl) rfl
theorem q_159_205 : zRun 159 205 [l0, some (.int x), l2, l3, l4, l5, l6, l7, l8] S sh mi mj mr = zRun 159 206 [l0, some (.int x), l2, l3, l4, l5, l6, l7, l8] (.int x :: S) sh mi mj mr := zr_l (zD_of zk_159 d_159_205 rfl rfl) rfl rfl rfl
theorem q_159_206  : zRun 159 206 L (.int y :: .int x :: S) sh mi mj mr = zRun 159 207 L (.int (x * y) :: S) sh mi mj mr := zr_p (zD_of zk_159 d_159_206 rfl rfl) rfl
theorem q_159_207  : zRun 159 207 L S sh mi mj mr = zRun 159 209 L (.int 13 :: S) sh mi mj mr := zr_p (zD_of zk_159 d_159_207 rfl rfl) rfl
theorem q_159_209  : zRun 159 209 L (.int y :: .int x :: S) sh mi mj mr = zRun 159 210 L (.int (x + y) :: S) sh mi mj mr := zr_p (zD_of zk_159 d_159_209 rfl rfl) rfl
theorem q_159_210 (h : zAt sh o 2 x) : zRun 159 210 L (.int x :: .ref o :: S) sh mi mj mr = zRun 159 211 L (.long (mj o x.toNatClampNeg) :: S) sh mi mj mr := zr_lald (zD_of zk_159 d_159_210 rfl rfl) h
theorem q_159_211 (h : zAt sh o 2 x) : zRun 159 211 L (.long u :: .int x :: .ref o :: S) sh mi mj mr = zRun 159 212 L S sh mi (zup mj o x.toNatClampNeg u) mr := zr_last (zD_of zk_159 d_159_211 rfl rfl) h
theorem q_159_212r : zRun 159 212 [some (.ref o), l1, l2, l3, l4, l5, l6, l7, l8] S sh mi mj mr = zRun 159 213 [some (.ref o), l1, l2, l3, l4, l5, l6, l7, l8] (.ref o :: S) sh mi mj mr := zr_l (zD_of zk_159 d_159_212 rfl rfl) rfl rfl rfl
theorem q_159_212n : zRun 159 212 [some (.null), l1, l2, l3, l4, l5, l6, l7, l8] S sh mi mj mr = zRun 159 213 [some (.null), l1, l2, l3, l4, l5, l6, l7, l8] (.null :: S) sh mi mj mr := zr_l (zD_of zk_159 d_159_212 rfl rfl) rfl rfl rfl
theorem q_159_213 (h : zIs sh o 0 8) : zRun 159 213 L (.ref o :: S) sh mi mj mr = zRun 159 216 L (va_rf (mr o 10) :: S) sh mi mj mr := zr_getR (zD_of zk_159 d_159_213 rfl rfl) rfl rfl rfl h
theorem q_159_216  : zRun 159 216 L S sh mi mj mr = zRun 159 218 L (.int 17 :: S) sh mi mj mr := zr_p (zD_of zk_159 d_159_216 rfl rfl) rfl
theorem q_159_218 : zRun 159 218 [l0, some (.int x), l2, l3, l4, l5, l6, l7, l8] S sh mi mj mr = zRun 159 219 [l0, some (.int x), l2, l3, l4, l5, l6, l7, l8] (.int x :: S) sh mi mj mr := zr_l (zD_of zk_159 d_159_218 rfl rfl) rfl rfl rfl
theorem q_159_219  : zRun 159 219 L (.int y :: .int x :: S) sh mi mj mr = zRun 159 220 L (.int (x * y) :: S) sh mi mj mr := zr_p (zD_of zk_159 d_159_219 rfl rfl) rfl
theorem q_159_220  : zRun 159 220 L S sh mi mj mr = zRun 159 222 L (.int 13 :: S) sh mi mj mr := zr_p (zD_of zk_159 d_159_220 rfl rfl) rfl
theorem q_159_222  : zRun 159 222 L (.int y :: .int x :: S) sh mi mj mr = zRun 159 223 L (.int (x + y) :: S) sh mi mj mr := zr_p (zD_of zk_159 d_159_222 rfl rfl) rfl
theorem q_159_223  : zRun 159 223 L S sh mi mj mr = zRun 159 224 L (.long 0 :: S) sh mi mj mr := zr_p (zD_of zk_159 d_159_223 rfl rfl) rfl
theorem q_159_224 (h : zAt sh o 2 x) : zRun 159 224 L (.long u :: .int x :: .ref o :: S) sh mi mj mr = zRun 159 225 L S sh mi (zup mj o x.toNatClampNeg u) mr := zr_last (zD_of zk_159 d_159_224 rfl rfl) h
theorem q_159_225  : zRun 159 225 L [] sh mi mj mr = some (none, sh, mi, mj, mr) := zr_ret (zD_of zk_159 d_159_225 rfl rfl) rfl rfl rfl rfl rfl rfl
theorem e_159 : zCall 159 [.ref o] sh mi mj mr = zRun 159 0 [some (.ref o), none, none, none, none, none, none, none, none] [] sh mi mj mr := rfl
theorem d_160_0 : decode cX8_isGreat 0 = .ok (.lload_n 0, 1) := by decide +kernel
theorem d_160_1 : decode cX8_isGreat 1 = .ok (.ldc2_w 216, 3) := by decide +kernel
theorem d_160_4 : decode cX8_isGreat 4 = .ok (.lcmp, 1) := by decide +kernel
theorem d_160_5 : decode cX8_isGreat 5 = .ok (.ifCond .gt 11, 3) := by decide +kernel
theorem d_160_8 : decode cX8_isGreat 8 = .ok (.lload_n 0, 1) := by decide +kernel
theorem d_160_9 : decode cX8_isGreat 9 = .ok (.ldc2_w 218, 3) := by decide +kernel
theorem d_160_12 : decode cX8_isGreat 12 = .ok (.lcmp, 1) := by decide +kernel
theorem d_160_13 : decode cX8_isGreat 13 = .ok (.ifCond .ge 7, 3) := by decide +kernel
theorem d_160_16 : decode cX8_isGreat 16 = .ok (.iconst 1, 1) := by decide +kernel
theorem d_160_17 : decode cX8_isGreat 17 = .ok (.goto 4, 3) := by decide +kernel
theorem d_160_20 : decode cX8_isGreat 20 = .ok (.iconst 0, 1) := by decide +kernel
theorem d_160_21 : decode cX8_isGreat 21 = .ok (.ireturn, 1) := by decide +kernel
theorem q_160_0 : zRun 160 0 [some (.long u), l1] S sh mi mj mr = zRun 160 1 [some (.long u), l1] (.long u :: S) sh mi mj mr := zr_l (zD_of zk_160 d_160_0 rfl rfl) rfl rfl rfl
theorem q_160_1  : zRun 160 1 L S sh mi mj mr = zRun 160 4 L (.long 1000000000 :: S) sh mi mj mr := zr_k64 (zD_of zk_160 d_160_1 rfl rfl) rfl
theorem q_160_4  : zRun 160 4 L (.long v :: .long u :: S) sh mi mj mr = if v < u then zRun 160 16 L S sh mi mj mr else zRun 160 8 L S sh mi mj mr := zr_cmp (off := 11) (zD_of zk_160 d_160_4 rfl rfl) (zD_of zk_160 d_160_5 rfl rfl) rfl rfl (by decide) (lg_cmp_gt u v)
theorem q_160_5  : zRun 160 5 L (.int x :: S) sh mi mj mr = if 0 < x then zRun 160 16 L S sh mi mj mr else zRun 160 8 L S sh mi mj mr := zr_if (off := 11) (P := 0 < x) (zD_of zk_160 d_160_5 rfl rfl) rfl rfl (by decide)
theorem q_160_8 : zRun 160 8 [some (.long u), l1] S sh mi mj mr = zRun 160 9 [some (.long u), l1] (.long u :: S) sh mi mj mr := zr_l (zD_of zk_160 d_160_8 rfl rfl) rfl rfl rfl
theorem q_160_9  : zRun 160 9 L S sh mi mj mr = zRun 160 12 L (.long (-1000000000) :: S) sh mi mj mr := zr_k64 (zD_of zk_160 d_160_9 rfl rfl) rfl
theorem q_160_12  : zRun 160 12 L (.long v :: .long u :: S) sh mi mj mr = if v ≤ u then zRun 160 20 L S sh mi mj mr else zRun 160 16 L S sh mi mj mr := zr_cmp (off := 7) (zD_of zk_160 d_160_12 rfl rfl) (zD_of zk_160 d_160_13 rfl rfl) rfl rfl (by decide) (lg_cmp_ge u v)
theorem q_160_13  : zRun 160 13 L (.int x :: S) sh mi mj mr = if 0 ≤ x then zRun 160 20 L S sh mi mj mr else zRun 160 16 L S sh mi mj mr := zr_if (off := 7) (P := 0 ≤ x) (zD_of zk_160 d_160_13 rfl rfl) rfl rfl (by decide)
theorem q_160_16  : zRun 160 16 L S sh mi mj mr = zRun 160 17 L (.int 1 :: S) sh mi mj mr := zr_p (zD_of zk_160 d_160_16 rfl rfl) rfl
theorem q_160_17  : zRun 160 17 L S sh mi mj mr = zRun 160 21 L S sh mi mj mr := zr_go (off := 4) (zD_of zk_160 d_160_17 rfl rfl) rfl rfl (by decide)
theorem q_160_20  : zRun 160 20 L S sh mi mj mr = zRun 160 21 L (.int 0 :: S) sh mi mj mr := zr_p (zD_of zk_160 d_160_20 rfl rfl) rfl
theorem q_160_21 (h : x = 0 ∨ x = 1) : zRun 160 21 L ([.int x]) sh mi mj mr = some (some (.int x), sh, mi, mj, mr) := zr_ret (zD_of zk_160 d_160_21 rfl rfl) rfl rfl rfl rfl rfl (if_pos (zna_b h))
theorem e_160 {u0 : Int64} : zCall 160 [.long u0] sh mi mj mr = zRun 160 0 [some (.long u0), none] [] sh mi mj mr := rfl
theorem d_161_0 : decode cX8_isTooLarge 0 = .ok (.aload_n 0, 1) := by decide +kernel
theorem d_161_1 : decode cX8_isTooLarge 1 = .ok (.getfield 29, 3) := by decide +kernel
theorem d_161_4 : decode cX8_isTooLarge 4 = .ok (.bipush 17, 2) := by decide +kernel
theorem d_161_6 : decode cX8_isTooLarge 6 = .ok (.iload_n 1, 1) := by decide +kernel
theorem d_161_7 : decode cX8_isTooLarge 7 = .ok (.imul, 1) := by decide +kernel
theorem d_161_8 : decode cX8_isTooLarge 8 = .ok (.laload, 1) := by decide +kernel
theorem d_161_9 : decode cX8_isTooLarge 9 = .ok (.invokestatic 220, 3) := by decide +kernel
theorem d_161_12 : decode cX8_isTooLarge 12 = .ok (.ifCond .ne 50, 3) := by decide +kernel
theorem d_161_15 : decode cX8_isTooLarge 15 = .ok (.aload_n 0, 1) := by decide +kernel
theorem d_161_16 : decode cX8_isTooLarge 16 = .ok (.iload_n 1, 1) := by decide +kernel
theorem d_161_17 : decode cX8_isTooLarge 17 = .ok (.invokevirtual 153, 3) := by decide +kernel
theorem d_161_20 : decode cX8_isTooLarge 20 = .ok (.invokestatic 220, 3) := by decide +kernel
theorem d_161_23 : decode cX8_isTooLarge 23 = .ok (.ifCond .ne 39, 3) := by decide +kernel
theorem d_161_26 : decode cX8_isTooLarge 26 = .ok (.aload_n 0, 1) := by decide +kernel
theorem d_161_27 : decode cX8_isTooLarge 27 = .ok (.getfield 29, 3) := by decide +kernel
theorem d_161_30 : decode cX8_isTooLarge 30 = .ok (.bipush 17, 2) := by decide +kernel
theorem d_161_32 : decode cX8_isTooLarge 32 = .ok (.iload_n 1, 1) := by decide +kernel
theorem d_161_33 : decode cX8_isTooLarge 33 = .ok (.imul, 1) := by decide +kernel
theorem d_161_34 : decode cX8_isTooLarge 34 = .ok (.bipush 14, 2) := by decide +kernel
theorem d_161_36 : decode cX8_isTooLarge 36 = .ok (.iadd, 1) := by decide +kernel
theorem d_161_37 : decode cX8_isTooLarge 37 = .ok (.laload, 1) := by decide +kernel
theorem d_161_38 : decode cX8_isTooLarge 38 = .ok (.invokestatic 220, 3) := by decide +kernel
theorem d_161_41 : decode cX8_isTooLarge 41 = .ok (.ifCond .ne 21, 3) := by decide +kernel
theorem d_161_44 : decode cX8_isTooLarge 44 = .ok (.aload_n 0, 1) := by decide +kernel
theorem d_161_45 : decode cX8_isTooLarge 45 = .ok (.getfield 29, 3) := by decide +kernel
theorem d_161_48 : decode cX8_isTooLarge 48 = .ok (.bipush 17, 2) := by decide +kernel
theorem d_161_50 : decode cX8_isTooLarge 50 = .ok (.iload_n 1, 1) := by decide +kernel
theorem d_161_51 : decode cX8_isTooLarge 51 = .ok (.imul, 1) := by decide +kernel
theorem d_161_52 : decode cX8_isTooLarge 52 = .ok (.bipush 15, 2) := by decide +kernel
theorem d_161_54 : decode cX8_isTooLarge 54 = .ok (.iadd, 1) := by decide +kernel
theorem d_161_55 : decode cX8_isTooLarge 55 = .ok (.laload, 1) := by decide +kernel
theorem d_161_56 : decode cX8_isTooLarge 56 = .ok (.invokestatic 220, 3) := by decide +kernel
theorem d_161_59 : decode cX8_isTooLarge 59 = .ok (.ifCond .eq 7, 3) := by decide +kernel
theorem d_161_62 : decode cX8_isTooLarge 62 = .ok (.iconst 1, 1) := by decide +kernel
theorem d_161_63 : decode cX8_isTooLarge 63 = .ok (.goto 4, 3) := by decide +kernel
theorem d_161_66 : decode cX8_isTooLarge 66 = .ok (.iconst 0, 1) := by decide +kernel
theorem d_161_67 : decode cX8_isTooLarge 67 = .ok (.ireturn, 1) := by decide +kernel
theorem q_161_0r : zRun 161 0 [some (.ref o), l1] S sh mi mj mr = zRun 161 1 [some (.ref o), l1] (.ref o :: S) sh mi mj mr := zr_l (zD_of zk_161 d_161_0 rfl rfl) rfl rfl rfl
theorem q_161_0n : zRun 161 0 [some (.null), l1] S sh mi mj mr = zRun 161 1 [some (.null), l1] (.null :: S) sh mi mj mr := zr_l (zD_of zk_161 d_161_0 rfl rfl) rfl rfl rfl
theorem q_161_1 (h : zIs sh o 0 8) : zRun 161 1 L (.ref o :: S) sh mi mj mr = zRun 161 4 L (va_rf (mr o 10) :: S) sh mi mj mr := zr_getR (zD_of zk_161 d_161_1 rfl rfl) rfl rfl rfl h
theorem q_161_4  : zRun 161 4 L S sh mi mj mr = zRun 161 6 L (.int 17 :: S) sh mi mj mr := zr_p (zD_of zk_161 d_161_4 rfl rfl) rfl
theorem q_161_6 : zRun 161 6 [l0, some (.int x)] S sh mi mj mr = zRun 161 7 [l0, some (.int x)] (.int x :: S) sh mi mj mr := zr_l (zD_of zk_161 d_161_6 rfl rfl) rfl rfl rfl
theorem q_161_7  : zRun 161 7 L (.int y :: .int x :: S) sh mi mj mr = zRun 161 8 L (.int (x * y) :: S) sh mi mj mr := zr_p (zD_of zk_161 d_161_7 rfl rfl) rfl
theorem q_161_8 (h : zAt sh o 2 x) : zRun 161 8 L (.int x :: .ref o :: S) sh mi mj mr = zRun 161 9 L (.long (mj o x.toNatClampNeg) :: S) sh mi mj mr := zr_lald (zD_of zk_161 d_161_8 rfl rfl) h
theorem q_161_9  {u0 : Int64} (hS : zcat S ≤ 8) : zRun 161 9 L (.long u0 :: S) sh mi mj mr = (zCall 160 [.long u0] sh mi mj mr).bind fun r => zRun 161 12 L (r.1.toList ++ S) r.2.1 r.2.2.1 r.2.2.2.1 r.2.2.2.2 := zr_S (zD_of zk_161 d_161_9 rfl rfl) rfl zk_160 rfl rfl rfl hS
theorem q_161_12  : zRun 161 12 L (.int x :: S) sh mi mj mr = if ¬ x = 0 then zRun 161 62 L S sh mi mj mr else zRun 161 15 L S sh mi mj mr := zr_if (off := 50) (P := ¬ x = 0) (zD_of zk_161 d_161_12 rfl rfl) rfl rfl (by decide)
theorem q_161_15r : zRun 161 15 [some (.ref o), l1] S sh mi mj mr = zRun 161 16 [some (.ref o), l1] (.ref o :: S) sh mi mj mr := zr_l (zD_of zk_161 d_161_15 rfl rfl) rfl rfl rfl
theorem q_161_15n : zRun 161 15 [some (.null), l1] S sh mi mj mr = zRun 161 16 [some (.null), l1] (.null :: S) sh mi mj mr := zr_l (zD_of zk_161 d_161_15 rfl rfl) rfl rfl rfl
theorem q_161_16 : zRun 161 16 [l0, some (.int x)] S sh mi mj mr = zRun 161 17 [l0, some (.int x)] (.int x :: S) sh mi mj mr := zr_l (zD_of zk_161 d_161_16 rfl rfl) rfl rfl rfl
theorem q_161_17  {x0 : Int32} (hS : zcat S ≤ 8) (h : zIs sh o 0 8) : zRun 161 17 L (.int x0 :: .ref o :: S) sh mi mj mr = (zCall 138 [.ref o, .int x0] sh mi mj mr).bind fun r => zRun 161 20 L (r.1.toList ++ S) r.2.1 r.2.2.1 r.2.2.2.1 r.2.2.2.2 := zr_V (zD_of zk_161 d_161_17 rfl rfl) rfl zk_138 rfl rfl rfl hS h
theorem q_161_20  {u0 : Int64} (hS : zcat S ≤ 8) : zRun 161 20 L (.long u0 :: S) sh mi mj mr = (zCall 160 [.long u0] sh mi mj mr).bind fun r => zRun 161 23 L (r.1.toList ++ S) r.2.1 r.2.2.1 r.2.2.2.1 r.2.2.2.2 := zr_S (zD_of zk_161 d_161_20 rfl rfl) rfl zk_160 rfl rfl rfl hS
theorem q_161_23  : zRun 161 23 L (.int x :: S) sh mi mj mr = if ¬ x = 0 then zRun 161 62 L S sh mi mj mr else zRun 161 26 L S sh mi mj mr := zr_if (off := 39) (P := ¬ x = 0) (zD_of zk_161 d_161_23 rfl rfl) rfl rfl (by decide)
theorem q_161_26r : zRun 161 26 [some (.ref o), l1] S sh mi mj mr = zRun 161 27 [some (.ref o), l1] (.ref o :: S) sh mi mj mr := zr_l (zD_of zk_161 d_161_26 rfl rfl) rfl rfl rfl
theorem q_161_26n : zRun 161 26 [some (.null), l1] S sh mi mj mr = zRun 161 27 [some (.null), l1] (.null :: S) sh mi mj mr := zr_l (zD_of zk_161 d_161_26 rfl rfl) rfl rfl rfl
theorem q_161_27 (h : zIs sh o 0 8) : zRun 161 27 L (.ref o :: S) sh mi mj mr = zRun 161 30 L (va_rf (mr o 10) :: S) sh mi mj mr := zr_getR (zD_of zk_161 d_161_27 rfl rfl) rfl rfl rfl h
theorem q_161_30  : zRun 161 30 L S sh mi mj mr = zRun 161 32 L (.int 17 :: S) sh mi mj mr := zr_p (zD_of zk_161 d_161_30 rfl rfl) rfl
theorem q_161_32 : zRun 161 32 [l0, some (.int x)] S sh mi mj mr = zRun 161 33 [l0, some (.int x)] (.int x :: S) sh mi mj mr := zr_l (zD_of zk_161 d_161_32 rfl rfl) rfl rfl rfl
theorem q_161_33  : zRun 161 33 L (.int y :: .int x :: S) sh mi mj mr = zRun 161 34 L (.int (x * y) :: S) sh mi mj mr := zr_p (zD_of zk_161 d_161_33 rfl rfl) rfl
theorem q_161_34  : zRun 161 34 L S sh mi mj mr = zRun 161 36 L (.int 14 :: S) sh mi mj mr := zr_p (zD_of zk_161 d_161_34 rfl rfl) rfl
theorem q_161_36  : zRun 161 36 L (.int y :: .int x :: S) sh mi mj mr = zRun 161 37 L (.int (x + y) :: S) sh mi mj mr := zr_p (zD_of zk_161 d_161_36 rfl rfl) rfl
theorem q_161_37 (h : zAt sh o 2 x) : zRun 161 37 L (.int x :: .ref o :: S) sh mi mj mr = zRun 161 38 L (.long (mj o x.toNatClampNeg) :: S) sh mi mj mr := zr_lald (zD_of zk_161 d_161_37 rfl rfl) h
theorem q_161_38  {u0 : Int64} (hS : zcat S ≤ 8) : zRun 161 38 L (.long u0 :: S) sh mi mj mr = (zCall 160 [.long u0] sh mi mj mr).bind fun r => zRun 161 41 L (r.1.toList ++ S) r.2.1 r.2.2.1 r.2.2.2.1 r.2.2.2.2 := zr_S (zD_of zk_161 d_161_38 rfl rfl) rfl zk_160 rfl rfl rfl hS
theorem q_161_41  : zRun 161 41 L (.int x :: S) sh mi mj mr = if ¬ x = 0 then zRun 161 62 L S sh mi mj mr else zRun 161 44 L S sh mi mj mr := zr_if (off := 21) (P := ¬ x = 0) (zD_of zk_161 d_161_41 rfl rfl) rfl rfl (by decide)
theorem q_161_44r : zRun 161 44 [some (.ref o), l1] S sh mi mj mr = zRun 161 45 [some (.ref o), l1] (.ref o :: S) sh mi mj mr := zr_l (zD_of zk_161 d_161_44 rfl rfl) rfl rfl rfl
theorem q_161_44n : zRun 161 44 [some (.null), l1] S sh mi mj mr = zRun 161 45 [some (.null), l1] (.null :: S) sh mi mj mr := zr_l (zD_of zk_161 d_161_44 rfl rfl) rfl rfl rfl
theorem q_161_45 (h : zIs sh o 0 8) : zRun 161 45 L (.ref o :: S) sh mi mj mr = zRun 161 48 L (va_rf (mr o 10) :: S) sh mi mj mr := zr_getR (zD_of zk_161 d_161_45 rfl rfl) rfl rfl rfl h
theorem q_161_48  : zRun 161 48 L S sh mi mj mr = zRun 161 50 L (.int 17 :: S) sh mi mj mr := zr_p (zD_of zk_161 d_161_48 rfl rfl) rfl
theorem q_161_50 : zRun 161 50 [l0, some (.int x)] S sh mi mj mr = zRun 161 51 [l0, some (.int x)] (.int x :: S) sh mi mj mr := zr_l (zD_of zk_161 d_161_50 rfl rfl) rfl rfl rfl
theorem q_161_51  : zRun 161 51 L (.int y :: .int x :: S) sh mi mj mr = zRun 161 52 L (.int (x * y) :: S) sh mi mj mr := zr_p (zD_of zk_161 d_161_51 rfl rfl) rfl
theorem q_161_52  : zRun 161 52 L S sh mi mj mr = zRun 161 54 L (.int 15 :: S) sh mi mj mr := zr_p (zD_of zk_161 d_161_52 rfl rfl) rfl
theorem q_161_54  : zRun 161 54 L (.int y :: .int x :: S) sh mi mj mr = zRun 161 55 L (.int (x + y) :: S) sh mi mj mr := zr_p (zD_of zk_161 d_161_54 rfl rfl) rfl
theorem q_161_55 (h : zAt sh o 2 x) : zRun 161 55 L (.int x :: .ref o :: S) sh mi mj mr = zRun 161 56 L (.long (mj o x.toNatClampNeg) :: S) sh mi mj mr := zr_lald (zD_of zk_161 d_161_55 rfl rfl) h
theorem q_161_56  {u0 : Int64} (hS : zcat S ≤ 8) : zRun 161 56 L (.long u0 :: S) sh mi mj mr = (zCall 160 [.long u0] sh mi mj mr).bind fun r => zRun 161 59 L (r.1.toList ++ S) r.2.1 r.2.2.1 r.2.2.2.1 r.2.2.2.2 := zr_S (zD_of zk_161 d_161_56 rfl rfl) rfl zk_160 rfl rfl rfl hS
theorem q_161_59  : zRun 161 59 L (.int x :: S) sh mi mj mr = if x = 0 then zRun 161 66 L S sh mi mj mr else zRun 161 62 L S sh mi mj mr := zr_if (off := 7) (P := x = 0) (zD_of zk_161 d_161_59 rfl rfl) rfl rfl (by decide)
theorem q_161_62  : zRun 161 62 L S sh mi mj mr = zRun 161 63 L (.int 1 :: S) sh mi mj mr := zr_p (zD_of zk_161 d_161_62 rfl rfl) rfl
theorem q_161_63  : zRun 161 63 L S sh mi mj mr = zRun 161 67 L S sh mi mj mr := zr_go (off := 4) (zD_of zk_161 d_161_63 rfl rfl) rfl rfl (by decide)
theorem q_161_66  : zRun 161 66 L S sh mi mj mr = zRun 161 67 L (.int 0 :: S) sh mi mj mr := zr_p (zD_of zk_161 d_161_66 rfl rfl) rfl
theorem q_161_67 (h : x = 0 ∨ x = 1) : zRun 161 67 L ([.int x]) sh mi mj mr = some (some (.int x), sh, mi, mj, mr) := zr_ret (zD_of zk_161 d_161_67 rfl rfl) rfl rfl rfl rfl rfl (if_pos (zna_b h))
theorem e_161 {x0 : Int32} : zCall 161 [.ref o, .int x0] sh mi mj mr = zRun 161 0 [some (.ref o), some (.int x0)] [] sh mi mj mr := rfl
end
