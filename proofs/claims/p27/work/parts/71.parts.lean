/-! ===== the law: the parts of a form make its ranges ===== -/
theorem G5_i : G5.toInt = -1000000000000000005 := by decide
theorem G5_l : G5 = -1000000000000000005 := rfl
theorem dm_sub (x : Int32) : zi 1000000 + x - zi 1000000 = x := by rw [Int32.add_comm, Int32.add_sub_cancel]
theorem dm_add (x : Int32) : zi 1000000 + x = x + zi 1000000 := Int32.add_comm _ _
section
variable {T : En} {a : Nat}
theorem pt_c (hz : T.1 = zi 0) (h : a < 12) : ptV T a = T.2 (a + 1) := by unfold ptV; rw [if_pos hz, if_pos h]
theorem pt_12 (hz : T.1 = zi 0) : ptV T 12 = T.2 0 := by unfold ptV; rw [if_pos hz]; rfl
theorem pt_13 (hz : T.1 = zi 0) : ptV T 13 = T.2 13 := by unfold ptV; rw [if_pos hz]; rfl
theorem pt_14 (hz : T.1 = zi 0) : ptV T 14 = frad T.2 12 := by unfold ptV; rw [if_pos hz]; rfl
theorem bd_00 (hz : T.1 = zi 0) : bdV T 0 0 = T.2 0 - frad T.2 12 := by unfold bdV; rw [if_pos hz]; rfl
theorem bd_01 (hz : T.1 = zi 0) : bdV T 0 1 = T.2 0 + frad T.2 12 := by unfold bdV; rw [if_pos hz]; rfl
theorem bd_10 (hz : T.1 = zi 0) : bdV T 1 0 = T.2 14 := by unfold bdV; rw [if_pos hz]; rfl
theorem bd_11 (hz : T.1 = zi 0) : bdV T 1 1 = T.2 15 := by unfold bdV; rw [if_pos hz]; rfl
theorem bd_20 (hz : T.1 = zi 0) : bdV T 2 0 = flow T.2 := by unfold bdV; rw [if_pos hz]; rfl
theorem bd_21 (hz : T.1 = zi 0) : bdV T 2 1 = fhigh T.2 := by unfold bdV; rw [if_pos hz]; rfl
theorem bd_w {b : Nat} (hz : ¬ T.1 = zi 0) : bdV T a b = -1000000000000000005 := by unfold bdV; rw [if_neg hz]; rfl
theorem tr_0 (hz : T.1 = zi 0) : trV T 0 = flow T.2 := by unfold trV; rw [if_pos hz]; rfl
theorem tr_1 (hz : T.1 = zi 0) : trV T 1 = fhigh T.2 := by unfold trV; rw [if_pos hz]; rfl
theorem tr_w {b : Nat} (hz : ¬ T.1 = zi 0) : trV T b = -1000000000000000005 := by unfold trV; rw [if_neg hz]; rfl
theorem gn_0 (hz : T.1 = zi 0) : gnV T = T.2 15 - T.2 14 - 2 * frad T.2 12 := by unfold gnV; rw [if_pos hz]
theorem dm_0 (hz : T.1 = zi 0) : dmV T = (dmF (fun k => zabs (T.2 (k + 1))) 4).1 := by unfold dmV; rw [if_pos hz]
theorem cp_w (hz : ¬ T.1 = zi 0) : cpV T = -zi 5 := by unfold cpV; rw [if_neg hz]
end
theorem j_ne5 {x : Int64} (h : -1000000000 ≤ x.toInt) : ¬ x = -1000000000000000005 := fun q => by
  rw [q] at h
  revert h
  decide
theorem i_ne6 {x : Int32} (h : 0 ≤ x.toInt) : ¬ x = -zi 6 := fun q => by
  rw [q] at h
  revert h
  decide
section
variable {Ls : Nat} {g : Nat → Nat} {mi mi' : zI} {mj mj' : zJ} {a b e n p q k c m u s : Nat} {v w x y : Int32} {lo hi : Nat → Int32} {NN : Nat → Nat} {KK : Nat → Nat → Nat} {VV : Nat → Nat → Int32} {T : En}
theorem pl_1 (he : e < 4) (hn : 0 < NN e) (j : Nat) : ∀ n, n + j = NN e → ∀ mi mj g l5 l6, ST mi g lo hi u NN KK VV → ∃ mi' mj' g' l5' l6', zRun 119 13 [some (.ref 1), some (.int (zi e)), some (.int (zi (NN e))), some (.int (inF (KK e) n)), some (.int (zi n)), l5, l6, none, none, none, none, none, none, none, none, none] [] (SH Ls) mi mj (RF g) = zRun 119 239 [some (.ref 1), some (.int (zi e)), some (.int (zi (NN e))), some (.int (inF (KK e) (NN e))), some (.int (zi (NN e))), l5', l6', none, none, none, none, none, none, none, none, none] [] (SH Ls) mi' mj' (RF g') ∧ Kp mi mi' ∧ gOk g' := by
  induction j with
  | zero =>
    intro n hj mi mj g l5 l6 h
    obtain rfl : n = NN e := by omega
    refine ⟨mi, mj, g, l5, l6, ?_, Kp.rf, h.1⟩
    have h60 := (h.2.2.2.2.2 e he).1
    rw [q_119_13]
    simp (disch := (first | ((with_reducible refine zct_le ?_) <;> exact Nat.le_of_ble_eq_true rfl) | with_reducible exact zh_0 | with_reducible exact zh_1 | with_reducible exact zh_b | omega)) only [q_119_15, q_119_16, q_119_19r, q_119_19n, q_119_20, q_119_21, q_119_23, q_119_24, q_119_27, q_119_29, q_119_31, q_119_34, q_119_36, q_119_37, q_119_40, q_119_41, q_119_42, q_119_44, q_119_45, q_119_46, q_119_47, q_119_48, q_119_49r, q_119_49n, q_119_50, q_119_51, q_119_53, q_119_54, q_119_57, q_119_59, q_119_62, q_119_63, q_119_66, q_119_67, q_119_69, q_119_72, q_119_73, q_119_76, q_119_77, q_119_80, q_119_81, q_119_82r, q_119_82n, q_119_83, q_119_84, q_119_86, q_119_87, q_119_90, q_119_92, q_119_94, q_119_97, q_119_99, q_119_100, q_119_103, q_119_105r, q_119_105n, q_119_106, q_119_108, q_119_109, q_119_110, q_119_111, q_119_114, q_119_116, q_119_117, q_119_118, q_119_119, q_119_122r, q_119_122n, q_119_123, q_119_124, q_119_126, q_119_127, q_119_130r, q_119_130n, q_119_131, q_119_133, q_119_134, q_119_135, q_119_136, q_119_139, q_119_141, q_119_142, q_119_143, q_119_144, q_119_147, q_119_148, q_119_149, q_119_151, q_119_154, q_119_156, q_119_159, q_119_160, q_119_163r, q_119_163n, q_119_164, q_119_165, q_119_167, q_119_168, q_119_171, q_119_172, q_119_173, q_119_174, q_119_177r, q_119_177n, q_119_178, q_119_179, q_119_181, q_119_182, q_119_185, q_119_188, q_119_189, q_119_192r, q_119_192n, q_119_193, q_119_194, q_119_196, q_119_197, q_119_200, q_119_201, q_119_202, q_119_203, q_119_206, q_119_207, q_119_208, q_119_210, q_119_213, q_119_214, q_119_217, q_119_219r, q_119_219n, q_119_220, q_119_221, q_119_223, q_119_224, q_119_227, q_119_228, q_119_231, q_119_232, q_119_233, q_119_236, vf_s, vf_n, zk2_none, zk2_int, zk2_ref, zk2_null, zk2_long, zct_nil, zct_i, zct_l, zct_r, zct_n, Option.bind_some, Option.toList_some, Option.toList_none, List.cons_append, List.nil_append, zor_l, zor_r, if_true, if_false, ↓reduceIte, zi_lit, zi_of, zi_add, zi_mul, zi_sub, zi_nat, zi_leT, zi_leF, zi_ltT, zi_ltF, zi_eqT, zi_eqF, zif_0z, zif_bz, zi_01l, zi_01r, not_true_eq_false, not_false_eq_true, Nat.reduceAdd, Nat.reduceMul, Nat.reduceSub]
  | succ j ih =>
    intro n hj mi mj g l5 l6 h
    obtain ⟨h60, b2, b4, b5⟩ := h.2.2.2.2.2 e he
    have hlt : n < NN e := by omega
    obtain ⟨x1, x2, x3⟩ := b5 hn
    have hk16 := (x1 n hlt).1
    have hb := h.2.1
    have hu := h.2.2.1
    have s0 := fun mi mj g (h : ST mi g lo hi u NN KK VV) => s_86k (Ls := Ls) (g := g) (mi := mi) (mj := mj) (a := n) h he hn hlt
    have sv := fun mi mj g (h : ST mi g lo hi u NN KK VV) => s_86v (Ls := Ls) (g := g) (mi := mi) (mj := mj) (a := n) h he hn hlt
    have hT := fun hz => top_fit (m := n) hb hu x1.wf x2 hlt hz
    by_cases c5 : KK e n < 5
    · have hlo := top_lo (lo := lo) (hi := hi) (u := u) (V := VV e) c5 hb (x2 n hlt)
      by_cases c0 : KK e n = 0
      · rw [if_pos c0] at hlo
        obtain ⟨v1, v2⟩ := x2 n hlt c0
        obtain ⟨f1, f2, f3, f4, f5, f6⟩ := num_rg v1 v2
        obtain ⟨mi1, mj1, g1, r1, k1, o1⟩ := s_91 (Ls := Ls) (mj := mj) (a := n) (b := 0) h he hn hlt (by omega)
        rw [hlo, tr_0 rfl] at r1
        have h1 := h.kp k1 o1
        obtain ⟨mi2, mj2, g2, r2, k2, o2⟩ := s_91 (Ls := Ls) (mj := mj1) (a := n) (b := 1) h1 he hn hlt (by omega)
        rw [hlo, tr_1 rfl] at r2
        have h2 := h1.kp k2 o2
        obtain ⟨mi3, mj3, g3, r3, k3, o3⟩ := s_91 (Ls := Ls) (mj := mj2) (a := n) (b := 1) h2 he hn hlt (by omega)
        rw [hlo, tr_1 rfl] at r3
        have h3 := h2.kp k3 o3
        have hT' := hT (by rw [hlo])
        rw [hlo] at hT'
        obtain ⟨t1, t2, t3⟩ := hT'
        obtain ⟨mi4, mj4, g4, l5', l6', q1, q2, q3⟩ := ih (n + 1) (by omega) mi3 mj3 g3 (some (.int (zi 0))) (some (.long (flow (fNum (VV e n))))) h3
        refine ⟨mi4, mj4, g4, l5', l6', ?_, ((k1.tr k2).tr k3).tr q2, q3⟩
        have z0 := s0 mi mj g h
        have z1 := sv mi mj g h
        have z2 := sv mi1 mj1 g1 h1
        have z3 := sv mi2 mj2 g2 h2
        rw [c0] at z0
        rw [if_pos c0] at z1 z2 z3
        have n6 := i_ne6 v1
        have n5 := j_ne5 (x := flow (fNum (VV e n))) (by have : (zi 0, fNum (VV e n)).2 = fNum (VV e n) := rfl; rw [this] at t2; exact t2)
        have k256 : (256 : Int64).toInt = 256 := by decide
        have k100 : (100 : Int64).toInt = 100 := by decide
        have ev := Kit.i64_of_i32 (VV e n)
        have m1 : (flow (fNum (VV e n)) * 100).toInt = (flow (fNum (VV e n))).toInt * 100 := by rw [zj_mul (by rw [k100]; omega) (by rw [k100]; omega), k100]
        have m2 : (fhigh (fNum (VV e n)) * 100).toInt = (fhigh (fNum (VV e n))).toInt * 100 := by rw [zj_mul (by rw [k100]; omega) (by rw [k100]; omega), k100]
        have m3 : (256 * (VV e n).toInt64).toInt = 256 * (VV e n).toInt := by rw [zj_mul (by rw [k256, ev]; omega) (by rw [k256, ev]; omega), k256, ev]
        have w1 : ¬ 256 * (VV e n).toInt64 < flow (fNum (VV e n)) * 100 := by rw [zj_lt, m1, m3]; omega
        have w2 : 256 * (VV e n).toInt64 ≤ fhigh (fNum (VV e n)) * 100 := by rw [zj_le, m2, m3]; omega
        have w3 : flow (fNum (VV e n)) ≤ fhigh (fNum (VV e n)) := by rw [zj_le]; exact t1
        have ei : inF (KK e) (n + 1) = inF (KK e) n := by rw [inF, if_neg (by omega)]
        rw [← q1, ei, q_119_13]
        simp (disch := (first | with_reducible exact is_1 | with_reducible exact zi_at is_1 (by omega) (by omega) | ((with_reducible refine zct_le ?_) <;> exact Nat.le_of_ble_eq_true rfl) | with_reducible exact zh_0 | with_reducible exact zh_1 | with_reducible exact zh_b | omega)) only [q_119_15, q_119_16, q_119_19r, q_119_19n, q_119_20, q_119_21, q_119_23, q_119_24, q_119_27, q_119_29, q_119_31, q_119_34, q_119_36, q_119_37, q_119_40, q_119_41, q_119_42, q_119_44, q_119_45, q_119_46, q_119_47, q_119_48, q_119_49r, q_119_49n, q_119_50, q_119_51, q_119_53, q_119_54, q_119_57, q_119_59, q_119_62, q_119_63, q_119_66, q_119_67, q_119_69, q_119_72, q_119_73, q_119_76, q_119_77, q_119_80, q_119_81, q_119_82r, q_119_82n, q_119_83, q_119_84, q_119_86, q_119_87, q_119_90, q_119_92, q_119_94, q_119_97, q_119_99, q_119_100, q_119_103, q_119_105r, q_119_105n, q_119_106, q_119_108, q_119_109, q_119_110, q_119_111, q_119_114, q_119_116, q_119_117, q_119_118, q_119_119, q_119_122r, q_119_122n, q_119_123, q_119_124, q_119_126, q_119_127, q_119_130r, q_119_130n, q_119_131, q_119_133, q_119_134, q_119_135, q_119_136, q_119_139, q_119_141, q_119_142, q_119_143, q_119_144, q_119_147, q_119_148, q_119_149, q_119_151, q_119_154, q_119_156, q_119_159, q_119_160, q_119_163r, q_119_163n, q_119_164, q_119_165, q_119_167, q_119_168, q_119_171, q_119_172, q_119_173, q_119_174, q_119_177r, q_119_177n, q_119_178, q_119_179, q_119_181, q_119_182, q_119_185, q_119_188, q_119_189, q_119_192r, q_119_192n, q_119_193, q_119_194, q_119_196, q_119_197, q_119_200, q_119_201, q_119_202, q_119_203, q_119_206, q_119_207, q_119_208, q_119_210, q_119_213, q_119_214, q_119_217, q_119_219r, q_119_219n, q_119_220, q_119_221, q_119_223, q_119_224, q_119_227, q_119_228, q_119_231, q_119_232, q_119_233, q_119_236, vf_s, vf_n, zk2_none, zk2_int, zk2_ref, zk2_null, zk2_long, zct_nil, zct_i, zct_l, zct_r, zct_n, Option.bind_some, Option.toList_some, Option.toList_none, List.cons_append, List.nil_append, zor_l, zor_r, if_true, if_false, ↓reduceIte, zi_lit, zi_of, zi_add, zi_mul, zi_sub, zi_nat, zi_leT, zi_leF, zi_ltT, zi_ltF, zi_eqT, zi_eqF, zif_0z, zif_bz, zi_01l, zi_01r, not_true_eq_false, not_false_eq_true, Nat.reduceAdd, Nat.reduceMul, Nat.reduceSub, z0, z1, z2, z3, r1, r2, r3, n6, n5, w1, w2, w3]
      · rw [if_neg c0] at hlo
        have hk4 : KK e n - 1 < 4 := by omega
        have hbk := hb _ hk4
        obtain ⟨i1, i2⟩ := inp_rg (k := KK e n - 1) hk4 hbk.1 hbk.2.1 hbk.2.2
        obtain ⟨mi1, mj1, g1, r1, k1, o1⟩ := s_91 (Ls := Ls) (mj := mj) (a := n) (b := 0) h he hn hlt (by omega)
        rw [hlo, tr_0 rfl, i1] at r1
        have h1 := h.kp k1 o1
        obtain ⟨mi2, mj2, g2, r2, k2, o2⟩ := s_91 (Ls := Ls) (mj := mj1) (a := n) (b := 1) h1 he hn hlt (by omega)
        rw [hlo, tr_1 rfl, i2] at r2
        have h2 := h1.kp k2 o2
        obtain ⟨mi3, mj3, g3, r3, k3, o3⟩ := s_91 (Ls := Ls) (mj := mj2) (a := n) (b := 1) h2 he hn hlt (by omega)
        rw [hlo, tr_1 rfl, i2] at r3
        have h3 := h2.kp k3 o3
        obtain ⟨mi4, mj4, g4, l5', l6', q1, q2, q3⟩ := ih (n + 1) (by omega) mi3 mj3 g3 (some (.int (zi (KK e n)))) (some (.long (lo (KK e n - 1)).toInt64)) h3
        refine ⟨mi4, mj4, g4, l5', l6', ?_, ((k1.tr k2).tr k3).tr q2, q3⟩
        have z0 := s0 mi mj g h
        have z1 := sv mi mj g h
        rw [if_neg c0] at z1
        have d0 := s_80l (Ls := Ls) (mj := mj1) (a := KK e n - 1) h1 hk4
        have d1 := s_80h (Ls := Ls) (mj := mj2) (a := KK e n - 1) h2 hk4
        have n5 := j_ne5 (x := (lo (KK e n - 1)).toInt64) (by rw [Kit.i64_of_i32]; omega)
        have w3 : (lo (KK e n - 1)).toInt64 ≤ (hi (KK e n - 1)).toInt64 := by rw [zj_le, Kit.i64_of_i32, Kit.i64_of_i32]; omega
        have ei : inF (KK e) (n + 1) = inF (KK e) n ||| (zi 1 <<< (zi (KK e n - 1) &&& zi 31)) := by rw [inF, if_pos (by omega)]
        rw [← q1, ei, q_119_13]
        simp (disch := (first | with_reducible exact is_1 | with_reducible exact zi_at is_1 (by omega) (by omega) | ((with_reducible refine zct_le ?_) <;> exact Nat.le_of_ble_eq_true rfl) | with_reducible exact zh_0 | with_reducible exact zh_1 | with_reducible exact zh_b | omega)) only [q_119_15, q_119_16, q_119_19r, q_119_19n, q_119_20, q_119_21, q_119_23, q_119_24, q_119_27, q_119_29, q_119_31, q_119_34, q_119_36, q_119_37, q_119_40, q_119_41, q_119_42, q_119_44, q_119_45, q_119_46, q_119_47, q_119_48, q_119_49r, q_119_49n, q_119_50, q_119_51, q_119_53, q_119_54, q_119_57, q_119_59, q_119_62, q_119_63, q_119_66, q_119_67, q_119_69, q_119_72, q_119_73, q_119_76, q_119_77, q_119_80, q_119_81, q_119_82r, q_119_82n, q_119_83, q_119_84, q_119_86, q_119_87, q_119_90, q_119_92, q_119_94, q_119_97, q_119_99, q_119_100, q_119_103, q_119_105r, q_119_105n, q_119_106, q_119_108, q_119_109, q_119_110, q_119_111, q_119_114, q_119_116, q_119_117, q_119_118, q_119_119, q_119_122r, q_119_122n, q_119_123, q_119_124, q_119_126, q_119_127, q_119_130r, q_119_130n, q_119_131, q_119_133, q_119_134, q_119_135, q_119_136, q_119_139, q_119_141, q_119_142, q_119_143, q_119_144, q_119_147, q_119_148, q_119_149, q_119_151, q_119_154, q_119_156, q_119_159, q_119_160, q_119_163r, q_119_163n, q_119_164, q_119_165, q_119_167, q_119_168, q_119_171, q_119_172, q_119_173, q_119_174, q_119_177r, q_119_177n, q_119_178, q_119_179, q_119_181, q_119_182, q_119_185, q_119_188, q_119_189, q_119_192r, q_119_192n, q_119_193, q_119_194, q_119_196, q_119_197, q_119_200, q_119_201, q_119_202, q_119_203, q_119_206, q_119_207, q_119_208, q_119_210, q_119_213, q_119_214, q_119_217, q_119_219r, q_119_219n, q_119_220, q_119_221, q_119_223, q_119_224, q_119_227, q_119_228, q_119_231, q_119_232, q_119_233, q_119_236, vf_s, vf_n, zk2_none, zk2_int, zk2_ref, zk2_null, zk2_long, zct_nil, zct_i, zct_l, zct_r, zct_n, Option.bind_some, Option.toList_some, Option.toList_none, List.cons_append, List.nil_append, zor_l, zor_r, if_true, if_false, ↓reduceIte, zi_lit, zi_of, zi_add, zi_mul, zi_sub, zi_nat, zi_leT, zi_leF, zi_ltT, zi_ltF, zi_eqT, zi_eqF, zif_0z, zif_bz, zi_01l, zi_01r, not_true_eq_false, not_false_eq_true, Nat.reduceAdd, Nat.reduceMul, Nat.reduceSub, z0, z1, d0, d1, r1, r2, r3, n5, w3, dm_sub]
    · have z0 := s0 mi mj g h
      have z1 := sv mi mj g h
      rw [if_neg (by omega)] at z1
      have ei : inF (KK e) (n + 1) = inF (KK e) n := by rw [inF, if_neg (by omega)]
      by_cases cw : (topE lo hi u (KK e) (VV e) (n + 1)).1 = zi 0
      · obtain ⟨t1, t2, t3⟩ := hT cw
        obtain ⟨mi1, mj1, g1, r1, k1, o1⟩ := s_91 (Ls := Ls) (mj := mj) (a := n) (b := 0) h he hn hlt (by omega)
        rw [tr_0 cw] at r1
        have h1 := h.kp k1 o1
        obtain ⟨mi2, mj2, g2, r2, k2, o2⟩ := s_91 (Ls := Ls) (mj := mj1) (a := n) (b := 1) h1 he hn hlt (by omega)
        rw [tr_1 cw] at r2
        have h2 := h1.kp k2 o2
        generalize flow (topE lo hi u (KK e) (VV e) (n + 1)).2 = fl at t1 t2 r1
        generalize fhigh (topE lo hi u (KK e) (VV e) (n + 1)).2 = fh at t1 t3 r2
        obtain ⟨mi3, mj3, g3, l5', l6', q1, q2, q3⟩ := ih (n + 1) (by omega) mi2 mj2 g2 (some (.int (zi (KK e n)))) (some (.long fl)) h2
        refine ⟨mi3, mj3, g3, l5', l6', ?_, (k1.tr k2).tr q2, q3⟩
        have n5 := j_ne5 (x := fl) t2
        have w3 : fl ≤ fh := by rw [zj_le]; exact t1
        rw [← q1, ei, q_119_13]
        simp (disch := (first | with_reducible exact is_1 | with_reducible exact zi_at is_1 (by omega) (by omega) | ((with_reducible refine zct_le ?_) <;> exact Nat.le_of_ble_eq_true rfl) | with_reducible exact zh_0 | with_reducible exact zh_1 | with_reducible exact zh_b | omega)) only [q_119_15, q_119_16, q_119_19r, q_119_19n, q_119_20, q_119_21, q_119_23, q_119_24, q_119_27, q_119_29, q_119_31, q_119_34, q_119_36, q_119_37, q_119_40, q_119_41, q_119_42, q_119_44, q_119_45, q_119_46, q_119_47, q_119_48, q_119_49r, q_119_49n, q_119_50, q_119_51, q_119_53, q_119_54, q_119_57, q_119_59, q_119_62, q_119_63, q_119_66, q_119_67, q_119_69, q_119_72, q_119_73, q_119_76, q_119_77, q_119_80, q_119_81, q_119_82r, q_119_82n, q_119_83, q_119_84, q_119_86, q_119_87, q_119_90, q_119_92, q_119_94, q_119_97, q_119_99, q_119_100, q_119_103, q_119_105r, q_119_105n, q_119_106, q_119_108, q_119_109, q_119_110, q_119_111, q_119_114, q_119_116, q_119_117, q_119_118, q_119_119, q_119_122r, q_119_122n, q_119_123, q_119_124, q_119_126, q_119_127, q_119_130r, q_119_130n, q_119_131, q_119_133, q_119_134, q_119_135, q_119_136, q_119_139, q_119_141, q_119_142, q_119_143, q_119_144, q_119_147, q_119_148, q_119_149, q_119_151, q_119_154, q_119_156, q_119_159, q_119_160, q_119_163r, q_119_163n, q_119_164, q_119_165, q_119_167, q_119_168, q_119_171, q_119_172, q_119_173, q_119_174, q_119_177r, q_119_177n, q_119_178, q_119_179, q_119_181, q_119_182, q_119_185, q_119_188, q_119_189, q_119_192r, q_119_192n, q_119_193, q_119_194, q_119_196, q_119_197, q_119_200, q_119_201, q_119_202, q_119_203, q_119_206, q_119_207, q_119_208, q_119_210, q_119_213, q_119_214, q_119_217, q_119_219r, q_119_219n, q_119_220, q_119_221, q_119_223, q_119_224, q_119_227, q_119_228, q_119_231, q_119_232, q_119_233, q_119_236, vf_s, vf_n, zk2_none, zk2_int, zk2_ref, zk2_null, zk2_long, zct_nil, zct_i, zct_l, zct_r, zct_n, Option.bind_some, Option.toList_some, Option.toList_none, List.cons_append, List.nil_append, zor_l, zor_r, if_true, if_false, ↓reduceIte, zi_lit, zi_of, zi_add, zi_mul, zi_sub, zi_nat, zi_leT, zi_leF, zi_ltT, zi_ltF, zi_eqT, zi_eqF, zif_0z, zif_bz, zi_01l, zi_01r, not_true_eq_false, not_false_eq_true, Nat.reduceAdd, Nat.reduceMul, Nat.reduceSub, z0, z1, r1, r2, n5, w3]
      · obtain ⟨mi1, mj1, g1, r1, k1, o1⟩ := s_91 (Ls := Ls) (mj := mj) (a := n) (b := 0) h he hn hlt (by omega)
        rw [tr_w cw] at r1
        have h1 := h.kp k1 o1
        obtain ⟨mi3, mj3, g3, l5', l6', q1, q2, q3⟩ := ih (n + 1) (by omega) mi1 mj1 g1 (some (.int (zi (KK e n)))) (some (.long (-1000000000000000005))) h1
        refine ⟨mi3, mj3, g3, l5', l6', ?_, k1.tr q2, q3⟩
        rw [← q1, ei, q_119_13]
        simp (disch := (first | with_reducible exact is_1 | with_reducible exact zi_at is_1 (by omega) (by omega) | ((with_reducible refine zct_le ?_) <;> exact Nat.le_of_ble_eq_true rfl) | with_reducible exact zh_0 | with_reducible exact zh_1 | with_reducible exact zh_b | omega)) only [q_119_15, q_119_16, q_119_19r, q_119_19n, q_119_20, q_119_21, q_119_23, q_119_24, q_119_27, q_119_29, q_119_31, q_119_34, q_119_36, q_119_37, q_119_40, q_119_41, q_119_42, q_119_44, q_119_45, q_119_46, q_119_47, q_119_48, q_119_49r, q_119_49n, q_119_50, q_119_51, q_119_53, q_119_54, q_119_57, q_119_59, q_119_62, q_119_63, q_119_66, q_119_67, q_119_69, q_119_72, q_119_73, q_119_76, q_119_77, q_119_80, q_119_81, q_119_82r, q_119_82n, q_119_83, q_119_84, q_119_86, q_119_87, q_119_90, q_119_92, q_119_94, q_119_97, q_119_99, q_119_100, q_119_103, q_119_105r, q_119_105n, q_119_106, q_119_108, q_119_109, q_119_110, q_119_111, q_119_114, q_119_116, q_119_117, q_119_118, q_119_119, q_119_122r, q_119_122n, q_119_123, q_119_124, q_119_126, q_119_127, q_119_130r, q_119_130n, q_119_131, q_119_133, q_119_134, q_119_135, q_119_136, q_119_139, q_119_141, q_119_142, q_119_143, q_119_144, q_119_147, q_119_148, q_119_149, q_119_151, q_119_154, q_119_156, q_119_159, q_119_160, q_119_163r, q_119_163n, q_119_164, q_119_165, q_119_167, q_119_168, q_119_171, q_119_172, q_119_173, q_119_174, q_119_177r, q_119_177n, q_119_178, q_119_179, q_119_181, q_119_182, q_119_185, q_119_188, q_119_189, q_119_192r, q_119_192n, q_119_193, q_119_194, q_119_196, q_119_197, q_119_200, q_119_201, q_119_202, q_119_203, q_119_206, q_119_207, q_119_208, q_119_210, q_119_213, q_119_214, q_119_217, q_119_219r, q_119_219n, q_119_220, q_119_221, q_119_223, q_119_224, q_119_227, q_119_228, q_119_231, q_119_232, q_119_233, q_119_236, vf_s, vf_n, zk2_none, zk2_int, zk2_ref, zk2_null, zk2_long, zct_nil, zct_i, zct_l, zct_r, zct_n, Option.bind_some, Option.toList_some, Option.toList_none, List.cons_append, List.nil_append, zor_l, zor_r, if_true, if_false, ↓reduceIte, zi_lit, zi_of, zi_add, zi_mul, zi_sub, zi_nat, zi_leT, zi_leF, zi_ltT, zi_ltF, zi_eqT, zi_eqF, zif_0z, zif_bz, zi_01l, zi_01r, not_true_eq_false, not_false_eq_true, Nat.reduceAdd, Nat.reduceMul, Nat.reduceSub, z0, z1, r1]
/-- the radius -/
theorem pl_2 (he : e < 4) (hn : 0 < NN e) (hT : topE lo hi u (KK e) (VV e) (NN e) = T) (hz : T.1 = zi 0) (j : Nat) : ∀ n, n + j = 12 → ∀ mi mj g, ST mi g lo hi u NN KK VV → ∃ mi' mj' g', zRun 119 317 [some (.ref 1), some (.int (zi e)), some (.int (zi (NN e))), some (.int (inF (KK e) (NN e))), some (.long (frad T.2 n)), none, some (.int (zi n)), none, none, none, none, none, none, none, none, none] [] (SH Ls) mi mj (RF g) = zRun 119 398 [some (.ref 1), some (.int (zi e)), some (.int (zi (NN e))), some (.int (inF (KK e) (NN e))), some (.long (frad T.2 12)), none, some (.int (zi 12)), none, none, none, none, none, none, none, none, none] [] (SH Ls) mi' mj' (RF g') ∧ Kp mi mi' ∧ gOk g' := by
  induction j with
  | zero =>
    intro n hj mi mj g h
    obtain rfl : n = 12 := by omega
    refine ⟨mi, mj, g, ?_, Kp.rf, h.1⟩
    rw [q_119_317]
    simp (disch := (first | ((with_reducible refine zct_le ?_) <;> exact Nat.le_of_ble_eq_true rfl) | with_reducible exact zh_0 | with_reducible exact zh_1 | with_reducible exact zh_b | omega)) only [q_119_319, q_119_321, q_119_324, q_119_326r, q_119_326n, q_119_327, q_119_328, q_119_330, q_119_333, q_119_336, q_119_337, q_119_339, q_119_341, q_119_342r, q_119_342n, q_119_343, q_119_344, q_119_347, q_119_348, q_119_351r, q_119_351n, q_119_352, q_119_353, q_119_355, q_119_358, q_119_359, q_119_360, q_119_363, q_119_365, q_119_366, q_119_369, q_119_370, q_119_372, q_119_373, q_119_374, q_119_375, q_119_378r, q_119_378n, q_119_379, q_119_380, q_119_382, q_119_385, q_119_386, q_119_387, q_119_390, q_119_391, q_119_392, q_119_395, vf_s, vf_n, zk2_none, zk2_int, zk2_ref, zk2_null, zk2_long, zct_nil, zct_i, zct_l, zct_r, zct_n, Option.bind_some, Option.toList_some, Option.toList_none, List.cons_append, List.nil_append, zor_l, zor_r, if_true, if_false, ↓reduceIte, zi_lit, zi_of, zi_add, zi_mul, zi_sub, zi_nat, zi_leT, zi_leF, zi_ltT, zi_ltF, zi_eqT, zi_eqF, zif_0z, zif_bz, zi_01l, zi_01r, not_true_eq_false, not_false_eq_true, Nat.reduceAdd, Nat.reduceMul, Nat.reduceSub]
  | succ j ih =>
    intro n hj mi mj g h
    have hu := h.2.2.1
    have P := fun mi mj g (h : ST mi g lo hi u NN KK VV) => (show Qr Ls 90 [.int (zi e), .int (zi n)] (.long (T.2 (n + 1))) mi mj g by
      have := s_90 (Ls := Ls) (g := g) (mi := mi) (mj := mj) (a := n) h he hn (by omega)
      rw [hT, pt_c hz (by omega)] at this
      exact this)
    have z : ∀ s, s = n → (s < 4 ∨ 4 + u ≤ s) → (∀ i, i < NN e → 1 ≤ KK e i → KK e i < 5 → ¬ KK e i - 1 = s) → T.2 (n + 1) = 0 := fun s hs h1 h2 => by
      subst hs
      have := cz_stk (lo := lo) (hi := hi) (V := VV e) (u := u) (s := s) (by omega) h1 (NN e) h2 (dep (KK e) (NN e) - 1)
      rw [← hT]
      exact this
    obtain ⟨eI, hI⟩ := inF_N (K := KK e) (NN e)
    obtain ⟨mi1, mj1, g1, r1, k1, o1⟩ := P mi mj g h
    have h1 := h.kp k1 o1
    have hc := s_100u (Ls := Ls) (mj := mj1) h1
    have m118 := m_118 (Ls := Ls) (g := g1) (mi := mi1) (mj := mj1) (u1 := T.2 (n + 1))
    have ef : frad T.2 (n + 1) = frad T.2 n + zabs (T.2 (n + 1)) := rfl
    rw [eI] at ih ⊢
    by_cases c1 : 3 + u < n
    · have z0 := z n rfl (Or.inr (by omega)) (fun i _ _ _ => by omega)
      obtain ⟨mi2, mj2, g2, r2, k2, o2⟩ := P mi1 mj1 g1 h1
      have h2 := h1.kp k2 o2
      obtain ⟨mi3, mj3, g3, q1, q2, q3⟩ := ih (n + 1) (by omega) mi2 mj2 g2 h2
      refine ⟨mi3, mj3, g3, ?_, (k1.tr k2).tr q2, q3⟩
      rw [← q1, ef, q_119_317]
      have c4 : 4 ≤ n := by omega
      rw [z0] at r1 r2 m118
      simp (disch := (first | with_reducible exact is_1 | with_reducible exact zi_at is_1 (by omega) (by omega) | ((with_reducible refine zct_le ?_) <;> exact Nat.le_of_ble_eq_true rfl) | with_reducible exact zh_0 | with_reducible exact zh_1 | with_reducible exact zh_b | omega)) only [q_119_319, q_119_321, q_119_324, q_119_326r, q_119_326n, q_119_327, q_119_328, q_119_330, q_119_333, q_119_336, q_119_337, q_119_339, q_119_341, q_119_342r, q_119_342n, q_119_343, q_119_344, q_119_347, q_119_348, q_119_351r, q_119_351n, q_119_352, q_119_353, q_119_355, q_119_358, q_119_359, q_119_360, q_119_363, q_119_365, q_119_366, q_119_369, q_119_370, q_119_372, q_119_373, q_119_374, q_119_375, q_119_378r, q_119_378n, q_119_379, q_119_380, q_119_382, q_119_385, q_119_386, q_119_387, q_119_390, q_119_391, q_119_392, q_119_395, vf_s, vf_n, zk2_none, zk2_int, zk2_ref, zk2_null, zk2_long, zct_nil, zct_i, zct_l, zct_r, zct_n, Option.bind_some, Option.toList_some, Option.toList_none, List.cons_append, List.nil_append, zor_l, zor_r, if_true, if_false, ↓reduceIte, zi_lit, zi_of, zi_add, zi_mul, zi_sub, zi_nat, zi_leT, zi_leF, zi_ltT, zi_ltF, zi_eqT, zi_eqF, zif_0z, zif_bz, zi_01l, zi_01r, not_true_eq_false, not_false_eq_true, Nat.reduceAdd, Nat.reduceMul, Nat.reduceSub, r1, r2, hc, m118, z0]
    · by_cases c4 : 4 ≤ n
      · obtain ⟨mi3, mj3, g3, q1, q2, q3⟩ := ih (n + 1) (by omega) mi1 mj1 g1 h1
        refine ⟨mi3, mj3, g3, ?_, k1.tr q2, q3⟩
        rw [← q1, ef, q_119_317]
        simp (disch := (first | with_reducible exact is_1 | with_reducible exact zi_at is_1 (by omega) (by omega) | ((with_reducible refine zct_le ?_) <;> exact Nat.le_of_ble_eq_true rfl) | with_reducible exact zh_0 | with_reducible exact zh_1 | with_reducible exact zh_b | omega)) only [q_119_319, q_119_321, q_119_324, q_119_326r, q_119_326n, q_119_327, q_119_328, q_119_330, q_119_333, q_119_336, q_119_337, q_119_339, q_119_341, q_119_342r, q_119_342n, q_119_343, q_119_344, q_119_347, q_119_348, q_119_351r, q_119_351n, q_119_352, q_119_353, q_119_355, q_119_358, q_119_359, q_119_360, q_119_363, q_119_365, q_119_366, q_119_369, q_119_370, q_119_372, q_119_373, q_119_374, q_119_375, q_119_378r, q_119_378n, q_119_379, q_119_380, q_119_382, q_119_385, q_119_386, q_119_387, q_119_390, q_119_391, q_119_392, q_119_395, vf_s, vf_n, zk2_none, zk2_int, zk2_ref, zk2_null, zk2_long, zct_nil, zct_i, zct_l, zct_r, zct_n, Option.bind_some, Option.toList_some, Option.toList_none, List.cons_append, List.nil_append, zor_l, zor_r, if_true, if_false, ↓reduceIte, zi_lit, zi_of, zi_add, zi_mul, zi_sub, zi_nat, zi_leT, zi_leF, zi_ltT, zi_ltF, zi_eqT, zi_eqF, zif_0z, zif_bz, zi_01l, zi_01r, not_true_eq_false, not_false_eq_true, Nat.reduceAdd, Nat.reduceMul, Nat.reduceSub, r1, hc, m118]
      · have hb := in_bit (inN (KK e) (NN e)) hI n (by omega)
        cases hbit : (inN (KK e) (NN e)).testBit n with
        | true =>
          rw [hbit] at hb
          rw [if_pos rfl] at hb
          obtain ⟨mi3, mj3, g3, q1, q2, q3⟩ := ih (n + 1) (by omega) mi1 mj1 g1 h1
          refine ⟨mi3, mj3, g3, ?_, k1.tr q2, q3⟩
          rw [← q1, ef, q_119_317]
          simp (disch := (first | with_reducible exact is_1 | with_reducible exact zi_at is_1 (by omega) (by omega) | ((with_reducible refine zct_le ?_) <;> exact Nat.le_of_ble_eq_true rfl) | with_reducible exact zh_0 | with_reducible exact zh_1 | with_reducible exact zh_b | omega)) only [q_119_319, q_119_321, q_119_324, q_119_326r, q_119_326n, q_119_327, q_119_328, q_119_330, q_119_333, q_119_336, q_119_337, q_119_339, q_119_341, q_119_342r, q_119_342n, q_119_343, q_119_344, q_119_347, q_119_348, q_119_351r, q_119_351n, q_119_352, q_119_353, q_119_355, q_119_358, q_119_359, q_119_360, q_119_363, q_119_365, q_119_366, q_119_369, q_119_370, q_119_372, q_119_373, q_119_374, q_119_375, q_119_378r, q_119_378n, q_119_379, q_119_380, q_119_382, q_119_385, q_119_386, q_119_387, q_119_390, q_119_391, q_119_392, q_119_395, vf_s, vf_n, zk2_none, zk2_int, zk2_ref, zk2_null, zk2_long, zct_nil, zct_i, zct_l, zct_r, zct_n, Option.bind_some, Option.toList_some, Option.toList_none, List.cons_append, List.nil_append, zor_l, zor_r, if_true, if_false, ↓reduceIte, zi_lit, zi_of, zi_add, zi_mul, zi_sub, zi_nat, zi_leT, zi_leF, zi_ltT, zi_ltF, zi_eqT, zi_eqF, zif_0z, zif_bz, zi_01l, zi_01r, not_true_eq_false, not_false_eq_true, Nat.reduceAdd, Nat.reduceMul, Nat.reduceSub, r1, hc, m118, hb]
        | false =>
          rw [hbit] at hb
          rw [if_neg (by decide)] at hb
          have z0 := z n rfl (Or.inl (by omega)) (inN_bit (NN e) hbit)
          obtain ⟨mi2, mj2, g2, r2, k2, o2⟩ := P mi1 mj1 g1 h1
          have h2 := h1.kp k2 o2
          obtain ⟨mi3, mj3, g3, q1, q2, q3⟩ := ih (n + 1) (by omega) mi2 mj2 g2 h2
          refine ⟨mi3, mj3, g3, ?_, (k1.tr k2).tr q2, q3⟩
          rw [← q1, ef, q_119_317]
          rw [z0] at r1 r2 m118
          simp (disch := (first | with_reducible exact is_1 | with_reducible exact zi_at is_1 (by omega) (by omega) | ((with_reducible refine zct_le ?_) <;> exact Nat.le_of_ble_eq_true rfl) | with_reducible exact zh_0 | with_reducible exact zh_1 | with_reducible exact zh_b | omega)) only [q_119_319, q_119_321, q_119_324, q_119_326r, q_119_326n, q_119_327, q_119_328, q_119_330, q_119_333, q_119_336, q_119_337, q_119_339, q_119_341, q_119_342r, q_119_342n, q_119_343, q_119_344, q_119_347, q_119_348, q_119_351r, q_119_351n, q_119_352, q_119_353, q_119_355, q_119_358, q_119_359, q_119_360, q_119_363, q_119_365, q_119_366, q_119_369, q_119_370, q_119_372, q_119_373, q_119_374, q_119_375, q_119_378r, q_119_378n, q_119_379, q_119_380, q_119_382, q_119_385, q_119_386, q_119_387, q_119_390, q_119_391, q_119_392, q_119_395, vf_s, vf_n, zk2_none, zk2_int, zk2_ref, zk2_null, zk2_long, zct_nil, zct_i, zct_l, zct_r, zct_n, Option.bind_some, Option.toList_some, Option.toList_none, List.cons_append, List.nil_append, zor_l, zor_r, if_true, if_false, ↓reduceIte, zi_lit, zi_of, zi_add, zi_mul, zi_sub, zi_nat, zi_leT, zi_leF, zi_ltT, zi_ltF, zi_eqT, zi_eqF, zif_0z, zif_bz, zi_01l, zi_01r, not_true_eq_false, not_false_eq_true, Nat.reduceAdd, Nat.reduceMul, Nat.reduceSub, r1, r2, hc, m118, z0, hb]
/-- no input's symbol is greater than the dominant one's -/
theorem pl_3 (he : e < 4) (hn : 0 < NN e) (hT : topE lo hi u (KK e) (VV e) (NN e) = T) (hz : T.1 = zi 0) (hO : fOk T.2) {l3 l4 l5 l6 l7 l8 l9 l10 l11 l12 l13 : Option Value} (j : Nat) : ∀ n, n + j = 4 → ∀ mi mj g, ST mi g lo hi u NN KK VV → ∃ mi' mj' g', zRun 119 581 [some (.ref 1), some (.int (zi e)), some (.int (zi (NN e))), l3, l4, l5, l6, l7, l8, l9, l10, l11, l12, l13, some (.int (dmF (fun k => zabs (T.2 (k + 1))) 4).1), some (.int (zi n))] [] (SH Ls) mi mj (RF g) = zRun 119 639 [some (.ref 1), some (.int (zi e)), some (.int (zi (NN e))), l3, l4, l5, l6, l7, l8, l9, l10, l11, l12, l13, some (.int (dmF (fun k => zabs (T.2 (k + 1))) 4).1), some (.int (zi 4))] [] (SH Ls) mi' mj' (RF g') ∧ Kp mi mi' ∧ gOk g' := by
  induction j with
  | zero =>
    intro n hj mi mj g h
    obtain rfl : n = 4 := by omega
    refine ⟨mi, mj, g, ?_, Kp.rf, h.1⟩
    rw [q_119_581]
    simp (disch := (first | ((with_reducible refine zct_le ?_) <;> exact Nat.le_of_ble_eq_true rfl) | with_reducible exact zh_0 | with_reducible exact zh_1 | with_reducible exact zh_b | omega)) only [q_119_583, q_119_584, q_119_587, q_119_589, q_119_592r, q_119_592n, q_119_593, q_119_594, q_119_596, q_119_599, q_119_600, q_119_601, q_119_604, q_119_607r, q_119_607n, q_119_608, q_119_609, q_119_611, q_119_614, q_119_617r, q_119_617n, q_119_618, q_119_619, q_119_621, q_119_624, q_119_627, q_119_628, q_119_631, q_119_632, q_119_633, q_119_636, vf_s, vf_n, zk2_none, zk2_int, zk2_ref, zk2_null, zk2_long, zct_nil, zct_i, zct_l, zct_r, zct_n, Option.bind_some, Option.toList_some, Option.toList_none, List.cons_append, List.nil_append, zor_l, zor_r, if_true, if_false, ↓reduceIte, zi_lit, zi_of, zi_add, zi_mul, zi_sub, zi_nat, zi_leT, zi_leF, zi_ltT, zi_ltF, zi_eqT, zi_eqF, zif_0z, zif_bz, zi_01l, zi_01r, not_true_eq_false, not_false_eq_true, Nat.reduceAdd, Nat.reduceMul, Nat.reduceSub]
  | succ j ih =>
    intro n hj mi mj g h
    have P := fun a (ha : a < 12) mi mj g (h : ST mi g lo hi u NN KK VV) => (show Qr Ls 90 [.int (zi e), .int (zi a)] (.long (T.2 (a + 1))) mi mj g by
      have := s_90 (Ls := Ls) (g := g) (mi := mi) (mj := mj) (a := a) h he hn (by omega)
      rw [hT, pt_c hz ha] at this
      exact this)
    have hc := fun s (hs : s < 12) => hO.1 (s + 1) (by omega)
    rcases dmF_sp (fun k => zabs (T.2 (k + 1))) 4 with ⟨d1, d2⟩ | ⟨i, d0, d1, d2, d3⟩
    · have e0 : T.2 (n + 1) = 0 := by
        have h1 : (zabs (T.2 (n + 1))).toInt ≤ 0 := d2 n (by omega)
        have h2 := hc n (by omega)
        rw [zabs_n (by omega)] at h1
        refine zj_inj ?_
        rw [kj0]
        omega
      rw [d1] at ih ⊢
      obtain ⟨mi1, mj1, g1, r1, k1, o1⟩ := P n (by omega) mi mj g h
      have h1 := h.kp k1 o1
      rw [e0] at r1
      obtain ⟨mi3, mj3, g3, q1, q2, q3⟩ := ih (n + 1) (by omega) mi1 mj1 g1 h1
      refine ⟨mi3, mj3, g3, ?_, k1.tr q2, q3⟩
      rw [← q1, q_119_581]
      simp (disch := (first | with_reducible exact is_1 | with_reducible exact zi_at is_1 (by omega) (by omega) | ((with_reducible refine zct_le ?_) <;> exact Nat.le_of_ble_eq_true rfl) | with_reducible exact zh_0 | with_reducible exact zh_1 | with_reducible exact zh_b | omega)) only [q_119_583, q_119_584, q_119_587, q_119_589, q_119_592r, q_119_592n, q_119_593, q_119_594, q_119_596, q_119_599, q_119_600, q_119_601, q_119_604, q_119_607r, q_119_607n, q_119_608, q_119_609, q_119_611, q_119_614, q_119_617r, q_119_617n, q_119_618, q_119_619, q_119_621, q_119_624, q_119_627, q_119_628, q_119_631, q_119_632, q_119_633, q_119_636, vf_s, vf_n, zk2_none, zk2_int, zk2_ref, zk2_null, zk2_long, zct_nil, zct_i, zct_l, zct_r, zct_n, Option.bind_some, Option.toList_some, Option.toList_none, List.cons_append, List.nil_append, zor_l, zor_r, if_true, if_false, ↓reduceIte, zi_lit, zi_of, zi_add, zi_mul, zi_sub, zi_nat, zi_leT, zi_leF, zi_ltT, zi_ltF, zi_eqT, zi_eqF, zif_0z, zif_bz, zi_01l, zi_01r, not_true_eq_false, not_false_eq_true, Nat.reduceAdd, Nat.reduceMul, Nat.reduceSub, r1, zm_le6]
    · rw [d1] at ih ⊢
      obtain ⟨mi1, mj1, g1, r1, k1, o1⟩ := P n (by omega) mi mj g h
      have h1 := h.kp k1 o1
      obtain ⟨mi2, mj2, g2, r2, k2, o2⟩ := P i (by omega) mi1 mj1 g1 h1
      have h2 := h1.kp k2 o2
      have m1 := m_118 (Ls := Ls) (g := g1) (mi := mi1) (mj := mj1) (u1 := T.2 (n + 1))
      have m2 := m_118 (Ls := Ls) (g := g2) (mi := mi2) (mj := mj2) (u1 := T.2 (i + 1))
      have hle : zabs (T.2 (n + 1)) ≤ zabs (T.2 (i + 1)) := by rw [zj_le]; exact d3 n (by omega)
      obtain ⟨mi3, mj3, g3, q1, q2, q3⟩ := ih (n + 1) (by omega) mi2 mj2 g2 h2
      refine ⟨mi3, mj3, g3, ?_, (k1.tr k2).tr q2, q3⟩
      rw [← q1, q_119_581]
      simp (disch := (first | with_reducible exact is_1 | with_reducible exact zi_at is_1 (by omega) (by omega) | ((with_reducible refine zct_le ?_) <;> exact Nat.le_of_ble_eq_true rfl) | with_reducible exact zh_0 | with_reducible exact zh_1 | with_reducible exact zh_b | omega)) only [q_119_583, q_119_584, q_119_587, q_119_589, q_119_592r, q_119_592n, q_119_593, q_119_594, q_119_596, q_119_599, q_119_600, q_119_601, q_119_604, q_119_607r, q_119_607n, q_119_608, q_119_609, q_119_611, q_119_614, q_119_617r, q_119_617n, q_119_618, q_119_619, q_119_621, q_119_624, q_119_627, q_119_628, q_119_631, q_119_632, q_119_633, q_119_636, vf_s, vf_n, zk2_none, zk2_int, zk2_ref, zk2_null, zk2_long, zct_nil, zct_i, zct_l, zct_r, zct_n, Option.bind_some, Option.toList_some, Option.toList_none, List.cons_append, List.nil_append, zor_l, zor_r, if_true, if_false, ↓reduceIte, zi_lit, zi_of, zi_add, zi_mul, zi_sub, zi_nat, zi_leT, zi_leF, zi_ltT, zi_ltF, zi_eqT, zi_eqF, zif_0z, zif_bz, zi_01l, zi_01r, not_true_eq_false, not_false_eq_true, Nat.reduceAdd, Nat.reduceMul, Nat.reduceSub, r1, r2, m1, m2, hle]
theorem gn_ring (a b c r : Int64) : b - a - (c + r) + (c - r) = b - a - 2 * r := by grind
theorem mx_eq (a b : Int64) : (if b < a then a else b) = zmax a b := by
  unfold zmax
  by_cases c : b < a
  · rw [if_pos c, if_neg (fun q => by rw [zj_lt] at c q; omega)]
  · by_cases d : a < b
    · rw [if_neg c, if_pos d]
    · rw [if_neg c, if_neg d]
      exact zj_inj (by rw [zj_lt] at c d; omega)
theorem mn_eq (a b : Int64) : (if a < b then a else b) = zmin a b := by
  unfold zmin
  by_cases c : a < b
  · rw [if_pos c, if_neg (fun q => by rw [zj_lt] at c q; omega)]
  · by_cases d : b < a
    · rw [if_neg c, if_pos d]
    · rw [if_neg c, if_neg d]
      exact zj_inj (by rw [zj_lt] at c d; omega)
theorem v_parts (h : ST mi g lo hi u NN KK VV) (he : e < 4) (hn : 0 < NN e) : Qr Ls 119 [.int (zi e)] (.int (zi 1)) mi mj g := by
  obtain ⟨h60, b2, b4, b5⟩ := h.2.2.2.2.2 e he
  obtain ⟨x1, x2, x3⟩ := b5 hn
  have hb := h.2.1
  have hu := h.2.2.1
  have z0 := s_86n (Ls := Ls) (mj := mj) h he hn
  obtain ⟨mi0, mj0, g0, l5, l6, a1, a2, a3⟩ := pl_1 (Ls := Ls) he hn (NN e) 0 (by omega) mi mj g none none h
  have h0 := h.kp a2 a3
  have zi0 := s_87 (Ls := Ls) (mj := mj0) h0 he hn
  have e1 : zi (NN e) - zi 1 = zi (NN e - 1) := zi_sub (by omega)
  have et : topE lo hi u (KK e) (VV e) (NN e - 1 + 1) = topE lo hi u (KK e) (VV e) (NN e) := by rw [Nat.sub_add_cancel (by omega)]
  have i0 : inF (KK e) 0 = zi 0 := rfl
  rw [i0] at a1
  generalize hT : topE lo hi u (KK e) (VV e) (NN e) = T at et
  have hwy : whyOk T.1 := by rw [← hT]; exact wy_top
  by_cases cw : T.1 = zi 0
  · have hO : fOk T.2 := by
      have := top_ok hb hu ⟨x1, x2, x3⟩ (by rw [hT]; exact cw)
      rw [hT] at this
      exact this
    obtain ⟨mi1, mj1, g1, r1, k1, o1⟩ := s_88 (Ls := Ls) (mj := mj0) h0 he hn
    rw [hT, cw] at r1
    have h1 := h0.kp k1 o1
    obtain ⟨mi2, mj2, g2, r2, k2, o2⟩ := s_90 (Ls := Ls) (mj := mj1) (a := 13) h1 he hn (by omega)
    rw [hT, pt_13 cw] at r2
    have h2 := h1.kp k2 o2
    obtain ⟨mi3, mj3, g3, p1, k3, o3⟩ := pl_2 (Ls := Ls) he hn hT cw 12 0 (by omega) mi2 mj2 g2 h2
    have h3 := h2.kp k3 o3
    obtain ⟨mi4, mj4, g4, r4, k4, o4⟩ := s_90 (Ls := Ls) (mj := mj3) (a := 12) h3 he hn (by omega)
    rw [hT, pt_12 cw] at r4
    have h4 := h3.kp k4 o4
    obtain ⟨mi5, mj5, g5, r5, k5, o5⟩ := s_90 (Ls := Ls) (mj := mj4) (a := 12) h4 he hn (by omega)
    rw [hT, pt_12 cw] at r5
    have h5 := h4.kp k5 o5
    obtain ⟨mi6, mj6, g6, r6, k6, o6⟩ := s_89 (Ls := Ls) (mj := mj5) (a := 1) (b := 0) h5 he hn (by omega) (by omega)
    rw [hT, bd_10 cw] at r6
    have h6 := h5.kp k6 o6
    obtain ⟨mi7, mj7, g7, r7, k7, o7⟩ := s_89 (Ls := Ls) (mj := mj6) (a := 1) (b := 1) h6 he hn (by omega) (by omega)
    rw [hT, bd_11 cw] at r7
    have h7 := h6.kp k7 o7
    obtain ⟨mi8, mj8, g8, r8, k8, o8⟩ := s_90 (Ls := Ls) (mj := mj7) (a := 14) h7 he hn (by omega)
    rw [hT, pt_14 cw] at r8
    have h8 := h7.kp k8 o8
    obtain ⟨mi9, mj9, g9, r9, k9, o9⟩ := s_89 (Ls := Ls) (mj := mj8) (a := 0) (b := 0) h8 he hn (by omega) (by omega)
    rw [hT, bd_00 cw] at r9
    have h9 := h8.kp k9 o9
    obtain ⟨mi10, mj10, g10, r10, k10, o10⟩ := s_89 (Ls := Ls) (mj := mj9) (a := 0) (b := 1) h9 he hn (by omega) (by omega)
    rw [hT, bd_01 cw] at r10
    have h10 := h9.kp k10 o10
    obtain ⟨mi11, mj11, g11, r11, k11, o11⟩ := s_89 (Ls := Ls) (mj := mj10) (a := 2) (b := 0) h10 he hn (by omega) (by omega)
    rw [hT, bd_20 cw] at r11
    have h11 := h10.kp k11 o11
    obtain ⟨mi12, mj12, g12, r12, k12, o12⟩ := s_89 (Ls := Ls) (mj := mj11) (a := 2) (b := 1) h11 he hn (by omega) (by omega)
    rw [hT, bd_21 cw] at r12
    have h12 := h11.kp k12 o12
    obtain ⟨mi13, mj13, g13, r13, k13, o13⟩ := s_93 (Ls := Ls) (mj := mj12) h12 he hn
    rw [hT, gn_0 cw] at r13
    have h13 := h12.kp k13 o13
    obtain ⟨mi14, mj14, g14, r14, k14, o14⟩ := s_89 (Ls := Ls) (mj := mj13) (a := 2) (b := 0) h13 he hn (by omega) (by omega)
    rw [hT, bd_20 cw] at r14
    have h14 := h13.kp k14 o14
    obtain ⟨mi15, mj15, g15, r15, k15, o15⟩ := s_89 (Ls := Ls) (mj := mj14) (a := 2) (b := 1) h14 he hn (by omega) (by omega)
    rw [hT, bd_21 cw] at r15
    have h15 := h14.kp k15 o15
    obtain ⟨mi16, mj16, g16, r16, k16, o16⟩ := s_92 (Ls := Ls) (mj := mj15) h15 he hn
    rw [hT, dm_0 cw] at r16
    have h16 := h15.kp k16 o16
    obtain ⟨mi17, mj17, g17, p2, k17, o17⟩ := pl_3 (Ls := Ls) he hn hT cw hO (l3 := some (.int (inF (KK e) (NN e)))) (l4 := some (.long (frad T.2 12))) (l5 := none) (l6 := some (.long (T.2 0 - frad T.2 12))) (l7 := none) (l8 := some (.long (T.2 0 + frad T.2 12))) (l9 := none) (l10 := some (.long (T.2 14))) (l11 := none) (l12 := some (.long (T.2 15))) (l13 := none) 4 0 (by omega) mi16 mj16 g16 h16
    have h17 := h16.kp k17 o17
    obtain ⟨mi18, mj18, g18, r18, k18, o18⟩ := s_91 (Ls := Ls) (mj := mj17) (a := NN e - 1) (b := 0) h17 he hn (by omega) (by omega)
    rw [et, tr_0 cw] at r18
    have h18 := h17.kp k18 o18
    obtain ⟨mi19, mj19, g19, r19, k19, o19⟩ := s_89 (Ls := Ls) (mj := mj18) (a := 2) (b := 0) h18 he hn (by omega) (by omega)
    rw [hT, bd_20 cw] at r19
    have h19 := h18.kp k19 o19
    refine ⟨mi19, mj19, g19, ?_, ((((((((((((((((((a2.tr k1).tr k2).tr k3).tr k4).tr k5).tr k6).tr k7).tr k8).tr k9).tr k10).tr k11).tr k12).tr k13).tr k14).tr k15).tr k16).tr k17).tr k18).tr k19, o19⟩
    have w1 : T.2 0 - frad T.2 12 ≤ T.2 14 ∨ ¬ T.2 0 - frad T.2 12 ≤ T.2 14 := Decidable.em _
    have hle : flow T.2 ≤ fhigh T.2 := hO.le
    have hle2 : ¬ fhigh T.2 < flow T.2 := fun q => by rw [zj_lt] at q; rw [zj_le] at hle; omega
    have f1 : frad T.2 0 = T.2 13 := rfl
    rw [f1] at p1
    simp (disch := (first | with_reducible exact is_1 | with_reducible exact zi_at is_1 (by omega) (by omega) | ((with_reducible refine zct_le ?_) <;> exact Nat.le_of_ble_eq_true rfl) | with_reducible exact zh_0 | with_reducible exact zh_1 | with_reducible exact zh_b | omega)) only [e_119, q_119_0r, q_119_0n, q_119_1, q_119_2, q_119_3, q_119_4, q_119_7, q_119_8, q_119_9, q_119_10, q_119_11, vf_s, vf_n, zk2_none, zk2_int, zk2_ref, zk2_null, zk2_long, zct_nil, zct_i, zct_l, zct_r, zct_n, Option.bind_some, Option.toList_some, Option.toList_none, List.cons_append, List.nil_append, zor_l, zor_r, if_true, if_false, ↓reduceIte, zi_lit, zi_of, zi_add, zi_mul, zi_sub, zi_nat, zi_leT, zi_leF, zi_ltT, zi_ltF, zi_eqT, zi_eqF, zif_0z, zif_bz, zi_01l, zi_01r, not_true_eq_false, not_false_eq_true, Nat.reduceAdd, Nat.reduceMul, Nat.reduceSub, z0]
    rw [a1]
    simp (disch := (first | with_reducible exact is_1 | with_reducible exact zi_at is_1 (by omega) (by omega) | ((with_reducible refine zct_le ?_) <;> exact Nat.le_of_ble_eq_true rfl) | with_reducible exact zh_0 | with_reducible exact zh_1 | with_reducible exact zh_b | omega)) only [q_119_239, q_119_240r, q_119_240n, q_119_241, q_119_242, q_119_245, q_119_248, q_119_249, q_119_250r, q_119_250n, q_119_251, q_119_252, q_119_255, q_119_258r, q_119_258n, q_119_259, q_119_260, q_119_261, q_119_262, q_119_265, q_119_268, q_119_269, q_119_272r, q_119_272n, q_119_273, q_119_274, q_119_275, q_119_276, q_119_277, q_119_278, q_119_281, q_119_284, q_119_285, q_119_288r, q_119_288n, q_119_289, q_119_290, q_119_291, q_119_294, q_119_296, q_119_299, q_119_300, q_119_303, q_119_304, q_119_305r, q_119_305n, q_119_306, q_119_307, q_119_309, q_119_312, q_119_314, q_119_315, vf_s, vf_n, zk2_none, zk2_int, zk2_ref, zk2_null, zk2_long, zct_nil, zct_i, zct_l, zct_r, zct_n, Option.bind_some, Option.toList_some, Option.toList_none, List.cons_append, List.nil_append, zor_l, zor_r, if_true, if_false, ↓reduceIte, zi_lit, zi_of, zi_add, zi_mul, zi_sub, zi_nat, zi_leT, zi_leF, zi_ltT, zi_ltF, zi_eqT, zi_eqF, zif_0z, zif_bz, zi_01l, zi_01r, not_true_eq_false, not_false_eq_true, Nat.reduceAdd, Nat.reduceMul, Nat.reduceSub, zi0, r1, r2]
    rw [p1]
    have c1 : flow T.2 = if T.2 0 - frad T.2 12 ≤ T.2 14 then T.2 14 else T.2 0 - frad T.2 12 := by
      show zmax _ _ = _
      rw [← mx_eq]
      by_cases c : T.2 14 < T.2 0 - frad T.2 12
      · rw [if_pos c, if_neg (fun q => by rw [zj_lt] at c; rw [zj_le] at q; omega)]
      · rw [if_neg c, if_pos (by rw [zj_le]; rw [zj_lt] at c; omega)]
    have c2 : fhigh T.2 = if T.2 15 ≤ T.2 0 + frad T.2 12 then T.2 15 else T.2 0 + frad T.2 12 := by
      show zmin _ _ = _
      rw [← mn_eq]
      by_cases c : T.2 0 + frad T.2 12 < T.2 15
      · rw [if_pos c, if_neg (fun q => by rw [zj_lt] at c; rw [zj_le] at q; omega)]
      · rw [if_neg c, if_pos (by rw [zj_le]; rw [zj_lt] at c; omega)]
    have step : zRun 119 398 [some (.ref 1), some (.int (zi e)), some (.int (zi (NN e))), some (.int (inF (KK e) (NN e))), some (.long (frad T.2 12)), none, some (.int (zi 12)), none, none, none, none, none, none, none, none, none] [] (SH Ls) mi3 mj3 (RF g3) = zRun 119 581 [some (.ref 1), some (.int (zi e)), some (.int (zi (NN e))), some (.int (inF (KK e) (NN e))), some (.long (frad T.2 12)), none, some (.long (T.2 0 - frad T.2 12)), none, some (.long (T.2 0 + frad T.2 12)), none, some (.long (T.2 14)), none, some (.long (T.2 15)), none, some (.int (dmF (fun k => zabs (T.2 (k + 1))) 4).1), some (.int (zi 0))] [] (SH Ls) mi16 mj16 (RF g16) := by
      by_cases d1 : T.2 0 - frad T.2 12 ≤ T.2 14
      · rw [if_pos d1] at c1
        by_cases d2 : T.2 15 ≤ T.2 0 + frad T.2 12
        · rw [if_pos d2] at c2
          have hq := hO.le
          rw [c1, c2] at hq
          simp (disch := (first | with_reducible exact is_1 | with_reducible exact zi_at is_1 (by omega) (by omega) | ((with_reducible refine zct_le ?_) <;> exact Nat.le_of_ble_eq_true rfl) | with_reducible exact zh_0 | with_reducible exact zh_1 | with_reducible exact zh_b | omega)) only [q_119_398r, q_119_398n, q_119_399, q_119_400, q_119_402, q_119_405, q_119_407, q_119_408, q_119_410r, q_119_410n, q_119_411, q_119_412, q_119_414, q_119_417, q_119_419, q_119_420, q_119_422r, q_119_422n, q_119_423, q_119_424, q_119_425, q_119_426, q_119_429, q_119_431r, q_119_431n, q_119_432, q_119_433, q_119_434, q_119_435, q_119_438, q_119_440r, q_119_440n, q_119_441, q_119_442, q_119_444, q_119_447, q_119_449, q_119_450, q_119_453r, q_119_453n, q_119_454, q_119_455, q_119_456, q_119_457, q_119_460, q_119_462, q_119_463, q_119_466r, q_119_466n, q_119_467, q_119_468, q_119_469, q_119_470, q_119_473, q_119_475, q_119_476, q_119_479r, q_119_479n, q_119_480, q_119_481, q_119_482, q_119_483, q_119_486, q_119_488, q_119_490, q_119_491, q_119_494, q_119_496, q_119_499, q_119_501, q_119_502, q_119_505r, q_119_505n, q_119_506, q_119_507, q_119_508, q_119_509, q_119_512, q_119_514, q_119_516, q_119_517, q_119_520, q_119_522, q_119_525, q_119_527, q_119_528, q_119_531r, q_119_531n, q_119_532, q_119_533, q_119_536, q_119_538, q_119_540, q_119_541, q_119_543, q_119_544, q_119_546, q_119_547, q_119_548, q_119_551r, q_119_551n, q_119_552, q_119_553, q_119_554, q_119_555, q_119_558r, q_119_558n, q_119_559, q_119_560, q_119_561, q_119_562, q_119_565, q_119_566, q_119_569, q_119_570, q_119_571r, q_119_571n, q_119_572, q_119_573, q_119_576, q_119_578, q_119_579, vf_s, vf_n, zk2_none, zk2_int, zk2_ref, zk2_null, zk2_long, zct_nil, zct_i, zct_l, zct_r, zct_n, Option.bind_some, Option.toList_some, Option.toList_none, List.cons_append, List.nil_append, zor_l, zor_r, if_true, if_false, ↓reduceIte, zi_lit, zi_of, zi_add, zi_mul, zi_sub, zi_nat, zi_leT, zi_leF, zi_ltT, zi_ltF, zi_eqT, zi_eqF, zif_0z, zif_bz, zi_01l, zi_01r, not_true_eq_false, not_false_eq_true, Nat.reduceAdd, Nat.reduceMul, Nat.reduceSub, r4, r5, r6, r7, r8, r9, r10, r11, r12, r13, r14, r15, r16, gn_ring, hle, hle2, hq, c1, c2, d1, d2]
        · rw [if_neg d2] at c2
          have hq := hO.le
          rw [c1, c2] at hq
          simp (disch := (first | with_reducible exact is_1 | with_reducible exact zi_at is_1 (by omega) (by omega) | ((with_reducible refine zct_le ?_) <;> exact Nat.le_of_ble_eq_true rfl) | with_reducible exact zh_0 | with_reducible exact zh_1 | with_reducible exact zh_b | omega)) only [q_119_398r, q_119_398n, q_119_399, q_119_400, q_119_402, q_119_405, q_119_407, q_119_408, q_119_410r, q_119_410n, q_119_411, q_119_412, q_119_414, q_119_417, q_119_419, q_119_420, q_119_422r, q_119_422n, q_119_423, q_119_424, q_119_425, q_119_426, q_119_429, q_119_431r, q_119_431n, q_119_432, q_119_433, q_119_434, q_119_435, q_119_438, q_119_440r, q_119_440n, q_119_441, q_119_442, q_119_444, q_119_447, q_119_449, q_119_450, q_119_453r, q_119_453n, q_119_454, q_119_455, q_119_456, q_119_457, q_119_460, q_119_462, q_119_463, q_119_466r, q_119_466n, q_119_467, q_119_468, q_119_469, q_119_470, q_119_473, q_119_475, q_119_476, q_119_479r, q_119_479n, q_119_480, q_119_481, q_119_482, q_119_483, q_119_486, q_119_488, q_119_490, q_119_491, q_119_494, q_119_496, q_119_499, q_119_501, q_119_502, q_119_505r, q_119_505n, q_119_506, q_119_507, q_119_508, q_119_509, q_119_512, q_119_514, q_119_516, q_119_517, q_119_520, q_119_522, q_119_525, q_119_527, q_119_528, q_119_531r, q_119_531n, q_119_532, q_119_533, q_119_536, q_119_538, q_119_540, q_119_541, q_119_543, q_119_544, q_119_546, q_119_547, q_119_548, q_119_551r, q_119_551n, q_119_552, q_119_553, q_119_554, q_119_555, q_119_558r, q_119_558n, q_119_559, q_119_560, q_119_561, q_119_562, q_119_565, q_119_566, q_119_569, q_119_570, q_119_571r, q_119_571n, q_119_572, q_119_573, q_119_576, q_119_578, q_119_579, vf_s, vf_n, zk2_none, zk2_int, zk2_ref, zk2_null, zk2_long, zct_nil, zct_i, zct_l, zct_r, zct_n, Option.bind_some, Option.toList_some, Option.toList_none, List.cons_append, List.nil_append, zor_l, zor_r, if_true, if_false, ↓reduceIte, zi_lit, zi_of, zi_add, zi_mul, zi_sub, zi_nat, zi_leT, zi_leF, zi_ltT, zi_ltF, zi_eqT, zi_eqF, zif_0z, zif_bz, zi_01l, zi_01r, not_true_eq_false, not_false_eq_true, Nat.reduceAdd, Nat.reduceMul, Nat.reduceSub, r4, r5, r6, r7, r8, r9, r10, r11, r12, r13, r14, r15, r16, gn_ring, hle, hle2, hq, c1, c2, d1, d2]
      · rw [if_neg d1] at c1
        by_cases d2 : T.2 15 ≤ T.2 0 + frad T.2 12
        · rw [if_pos d2] at c2
          have hq := hO.le
          rw [c1, c2] at hq
          simp (disch := (first | with_reducible exact is_1 | with_reducible exact zi_at is_1 (by omega) (by omega) | ((with_reducible refine zct_le ?_) <;> exact Nat.le_of_ble_eq_true rfl) | with_reducible exact zh_0 | with_reducible exact zh_1 | with_reducible exact zh_b | omega)) only [q_119_398r, q_119_398n, q_119_399, q_119_400, q_119_402, q_119_405, q_119_407, q_119_408, q_119_410r, q_119_410n, q_119_411, q_119_412, q_119_414, q_119_417, q_119_419, q_119_420, q_119_422r, q_119_422n, q_119_423, q_119_424, q_119_425, q_119_426, q_119_429, q_119_431r, q_119_431n, q_119_432, q_119_433, q_119_434, q_119_435, q_119_438, q_119_440r, q_119_440n, q_119_441, q_119_442, q_119_444, q_119_447, q_119_449, q_119_450, q_119_453r, q_119_453n, q_119_454, q_119_455, q_119_456, q_119_457, q_119_460, q_119_462, q_119_463, q_119_466r, q_119_466n, q_119_467, q_119_468, q_119_469, q_119_470, q_119_473, q_119_475, q_119_476, q_119_479r, q_119_479n, q_119_480, q_119_481, q_119_482, q_119_483, q_119_486, q_119_488, q_119_490, q_119_491, q_119_494, q_119_496, q_119_499, q_119_501, q_119_502, q_119_505r, q_119_505n, q_119_506, q_119_507, q_119_508, q_119_509, q_119_512, q_119_514, q_119_516, q_119_517, q_119_520, q_119_522, q_119_525, q_119_527, q_119_528, q_119_531r, q_119_531n, q_119_532, q_119_533, q_119_536, q_119_538, q_119_540, q_119_541, q_119_543, q_119_544, q_119_546, q_119_547, q_119_548, q_119_551r, q_119_551n, q_119_552, q_119_553, q_119_554, q_119_555, q_119_558r, q_119_558n, q_119_559, q_119_560, q_119_561, q_119_562, q_119_565, q_119_566, q_119_569, q_119_570, q_119_571r, q_119_571n, q_119_572, q_119_573, q_119_576, q_119_578, q_119_579, vf_s, vf_n, zk2_none, zk2_int, zk2_ref, zk2_null, zk2_long, zct_nil, zct_i, zct_l, zct_r, zct_n, Option.bind_some, Option.toList_some, Option.toList_none, List.cons_append, List.nil_append, zor_l, zor_r, if_true, if_false, ↓reduceIte, zi_lit, zi_of, zi_add, zi_mul, zi_sub, zi_nat, zi_leT, zi_leF, zi_ltT, zi_ltF, zi_eqT, zi_eqF, zif_0z, zif_bz, zi_01l, zi_01r, not_true_eq_false, not_false_eq_true, Nat.reduceAdd, Nat.reduceMul, Nat.reduceSub, r4, r5, r6, r7, r8, r9, r10, r11, r12, r13, r14, r15, r16, gn_ring, hle, hle2, hq, c1, c2, d1, d2]
        · rw [if_neg d2] at c2
          have hq := hO.le
          rw [c1, c2] at hq
          simp (disch := (first | with_reducible exact is_1 | with_reducible exact zi_at is_1 (by omega) (by omega) | ((with_reducible refine zct_le ?_) <;> exact Nat.le_of_ble_eq_true rfl) | with_reducible exact zh_0 | with_reducible exact zh_1 | with_reducible exact zh_b | omega)) only [q_119_398r, q_119_398n, q_119_399, q_119_400, q_119_402, q_119_405, q_119_407, q_119_408, q_119_410r, q_119_410n, q_119_411, q_119_412, q_119_414, q_119_417, q_119_419, q_119_420, q_119_422r, q_119_422n, q_119_423, q_119_424, q_119_425, q_119_426, q_119_429, q_119_431r, q_119_431n, q_119_432, q_119_433, q_119_434, q_119_435, q_119_438, q_119_440r, q_119_440n, q_119_441, q_119_442, q_119_444, q_119_447, q_119_449, q_119_450, q_119_453r, q_119_453n, q_119_454, q_119_455, q_119_456, q_119_457, q_119_460, q_119_462, q_119_463, q_119_466r, q_119_466n, q_119_467, q_119_468, q_119_469, q_119_470, q_119_473, q_119_475, q_119_476, q_119_479r, q_119_479n, q_119_480, q_119_481, q_119_482, q_119_483, q_119_486, q_119_488, q_119_490, q_119_491, q_119_494, q_119_496, q_119_499, q_119_501, q_119_502, q_119_505r, q_119_505n, q_119_506, q_119_507, q_119_508, q_119_509, q_119_512, q_119_514, q_119_516, q_119_517, q_119_520, q_119_522, q_119_525, q_119_527, q_119_528, q_119_531r, q_119_531n, q_119_532, q_119_533, q_119_536, q_119_538, q_119_540, q_119_541, q_119_543, q_119_544, q_119_546, q_119_547, q_119_548, q_119_551r, q_119_551n, q_119_552, q_119_553, q_119_554, q_119_555, q_119_558r, q_119_558n, q_119_559, q_119_560, q_119_561, q_119_562, q_119_565, q_119_566, q_119_569, q_119_570, q_119_571r, q_119_571n, q_119_572, q_119_573, q_119_576, q_119_578, q_119_579, vf_s, vf_n, zk2_none, zk2_int, zk2_ref, zk2_null, zk2_long, zct_nil, zct_i, zct_l, zct_r, zct_n, Option.bind_some, Option.toList_some, Option.toList_none, List.cons_append, List.nil_append, zor_l, zor_r, if_true, if_false, ↓reduceIte, zi_lit, zi_of, zi_add, zi_mul, zi_sub, zi_nat, zi_leT, zi_leF, zi_ltT, zi_ltF, zi_eqT, zi_eqF, zif_0z, zif_bz, zi_01l, zi_01r, not_true_eq_false, not_false_eq_true, Nat.reduceAdd, Nat.reduceMul, Nat.reduceSub, r4, r5, r6, r7, r8, r9, r10, r11, r12, r13, r14, r15, r16, gn_ring, hle, hle2, hq, c1, c2, d1, d2]
    rw [step, p2]
    simp (disch := (first | with_reducible exact is_1 | with_reducible exact zi_at is_1 (by omega) (by omega) | ((with_reducible refine zct_le ?_) <;> exact Nat.le_of_ble_eq_true rfl) | with_reducible exact zh_0 | with_reducible exact zh_1 | with_reducible exact zh_b | omega)) only [q_119_639r, q_119_639n, q_119_640, q_119_641, q_119_642, q_119_643, q_119_644, q_119_645, q_119_648r, q_119_648n, q_119_649, q_119_650, q_119_651, q_119_652, q_119_655, q_119_656, q_119_659, q_119_660, q_119_663, q_119_664, vf_s, vf_n, zk2_none, zk2_int, zk2_ref, zk2_null, zk2_long, zct_nil, zct_i, zct_l, zct_r, zct_n, Option.bind_some, Option.toList_some, Option.toList_none, List.cons_append, List.nil_append, zor_l, zor_r, if_true, if_false, ↓reduceIte, zi_lit, zi_of, zi_add, zi_mul, zi_sub, zi_nat, zi_leT, zi_leF, zi_ltT, zi_ltF, zi_eqT, zi_eqF, zif_0z, zif_bz, zi_01l, zi_01r, not_true_eq_false, not_false_eq_true, Nat.reduceAdd, Nat.reduceMul, Nat.reduceSub, e1, r18, r19]
  · have hp : ¬ T.1 ≤ zi 0 := by rw [wy_pos hwy]; exact cw
    have hcw : ¬ (topE lo hi u (catK (KK e) (KK e) (NN e) (NN e)) (catV (VV e) (VV e) (NN e) (NN e)) (NN e + NN e + 1)).1 = zi 0 := cmp_wild x1 x3 x3 (by rw [hT]; exact cw)
    obtain ⟨mi1, mj1, g1, r1, k1, o1⟩ := s_88 (Ls := Ls) (mj := mj0) h0 he hn
    rw [hT] at r1
    have h1 := h0.kp k1 o1
    obtain ⟨mi2, mj2, g2, r2, k2, o2⟩ := s_89 (Ls := Ls) (mj := mj1) (a := 0) (b := 0) h1 he hn (by omega) (by omega)
    rw [hT, bd_w cw] at r2
    have h2 := h1.kp k2 o2
    obtain ⟨mi3, mj3, g3, r3, k3, o3⟩ := s_91 (Ls := Ls) (mj := mj2) (a := NN e - 1) (b := 0) h2 he hn (by omega) (by omega)
    rw [et, tr_w cw] at r3
    have h3 := h2.kp k3 o3
    obtain ⟨mi4, mj4, g4, r4, k4, o4⟩ := s_95 (Ls := Ls) (mj := mj3) h3 he hn he hn
    rw [cp_w hcw] at r4
    have h4 := h3.kp k4 o4
    refine ⟨mi4, mj4, g4, ?_, a2.tr (((k1.tr k2).tr k3).tr k4), o4⟩
    simp (disch := (first | with_reducible exact is_1 | with_reducible exact zi_at is_1 (by omega) (by omega) | ((with_reducible refine zct_le ?_) <;> exact Nat.le_of_ble_eq_true rfl) | with_reducible exact zh_0 | with_reducible exact zh_1 | with_reducible exact zh_b | omega)) only [e_119, q_119_0r, q_119_0n, q_119_1, q_119_2, q_119_3, q_119_4, q_119_7, q_119_8, q_119_9, q_119_10, q_119_11, vf_s, vf_n, zk2_none, zk2_int, zk2_ref, zk2_null, zk2_long, zct_nil, zct_i, zct_l, zct_r, zct_n, Option.bind_some, Option.toList_some, Option.toList_none, List.cons_append, List.nil_append, zor_l, zor_r, if_true, if_false, ↓reduceIte, zi_lit, zi_of, zi_add, zi_mul, zi_sub, zi_nat, zi_leT, zi_leF, zi_ltT, zi_ltF, zi_eqT, zi_eqF, zif_0z, zif_bz, zi_01l, zi_01r, not_true_eq_false, not_false_eq_true, Nat.reduceAdd, Nat.reduceMul, Nat.reduceSub, z0]
    rw [a1]
    simp (disch := (first | with_reducible exact is_1 | with_reducible exact zi_at is_1 (by omega) (by omega) | ((with_reducible refine zct_le ?_) <;> exact Nat.le_of_ble_eq_true rfl) | with_reducible exact zh_0 | with_reducible exact zh_1 | with_reducible exact zh_b | omega)) only [q_119_239, q_119_240r, q_119_240n, q_119_241, q_119_242, q_119_245, q_119_248, q_119_249, q_119_250r, q_119_250n, q_119_251, q_119_252, q_119_255, q_119_258r, q_119_258n, q_119_259, q_119_260, q_119_261, q_119_262, q_119_265, q_119_268, q_119_269, q_119_272r, q_119_272n, q_119_273, q_119_274, q_119_275, q_119_276, q_119_277, q_119_278, q_119_281, q_119_284, q_119_285, q_119_288r, q_119_288n, q_119_289, q_119_290, q_119_291, q_119_294, q_119_296, q_119_299, q_119_300, q_119_303, q_119_304, q_119_305r, q_119_305n, q_119_306, q_119_307, q_119_309, q_119_312, q_119_314, q_119_315, vf_s, vf_n, zk2_none, zk2_int, zk2_ref, zk2_null, zk2_long, zct_nil, zct_i, zct_l, zct_r, zct_n, Option.bind_some, Option.toList_some, Option.toList_none, List.cons_append, List.nil_append, zor_l, zor_r, if_true, if_false, ↓reduceIte, zi_lit, zi_of, zi_add, zi_mul, zi_sub, zi_nat, zi_leT, zi_leF, zi_ltT, zi_ltF, zi_eqT, zi_eqF, zif_0z, zif_bz, zi_01l, zi_01r, not_true_eq_false, not_false_eq_true, Nat.reduceAdd, Nat.reduceMul, Nat.reduceSub, zi0, r1, r2, r3, r4, hp, e1]
end
