/-! ===== the law: ends that are tightened lie beyond no sample; comparisons don't contradict samples ===== -/
section
variable {Ls : Nat} {g : Nat → Nat} {mi mi' : zI} {mj mj' : zJ} {a b e e' n p q k c m u s t : Nat} {v w x y r : Int32} {lo hi : Nat → Int32} {NN : Nat → Nat} {KK : Nat → Nat → Nat} {VV : Nat → Nat → Int32} {T D : En} {A B : Int64}
theorem tl_1 (he : e < 4) (hn : 0 < NN e) {l2 : Option Value} (hA : tgO u (KK e) (VV e) (NN e) (zi 0) 1 (fun _ => (lo, hi)) A) (hB : tgO u (KK e) (VV e) (NN e) (zi 1) 1 (fun _ => (lo, hi)) B) (j : Nat) : ∀ n, n + j = 7 → ∀ mi mj g l8 l10, ST mi g lo hi u NN KK VV → ∃ mi' mj' g', zRun 123 58 [some (.ref 1), some (.int (zi e)), l2, some (.long A), none, some (.long B), none, some (.int (zi (37 * n))), l8, none, l10, none] [] (SH Ls) mi mj (RF g) = some (some (.int (zi 1)), SH Ls, mi', mj', RF g') ∧ Kp mi mi' ∧ gOk g' := by
  induction j with
  | zero =>
    intro n hj mi mj g l8 l10 h
    obtain rfl : n = 7 := by omega
    refine ⟨mi, mj, g, ?_, Kp.rf, h.1⟩
    rw [q_123_58]
    simp (disch := (first | ((with_reducible refine zct_le ?_) <;> exact Nat.le_of_ble_eq_true rfl) | with_reducible exact zh_0 | with_reducible exact zh_1 | with_reducible exact zh_b | omega)) only [q_123_60, q_123_63, q_123_66r, q_123_66n, q_123_67, q_123_68, q_123_70, q_123_71, q_123_74, q_123_76r, q_123_76n, q_123_77, q_123_78, q_123_80, q_123_81, q_123_84, q_123_86, q_123_88, q_123_91, q_123_92, q_123_95, q_123_98, q_123_99, q_123_102, q_123_103, q_123_106, q_123_108, q_123_109, q_123_110, q_123_113, q_123_115, q_123_118, q_123_119, q_123_122, q_123_124, q_123_126, q_123_127, q_123_130, q_123_131, q_123_132, q_123_135, q_123_138, q_123_139, vf_s, vf_n, zk2_none, zk2_int, zk2_ref, zk2_null, zk2_long, zct_nil, zct_i, zct_l, zct_r, zct_n, Option.bind_some, Option.toList_some, Option.toList_none, List.cons_append, List.nil_append, zor_l, zor_r, if_true, if_false, ↓reduceIte, zi_lit, zi_of, zi_add, zi_mul, zi_sub, zi_nat, zi_leT, zi_leF, zi_ltT, zi_ltF, zi_eqT, zi_eqF, zif_0z, zif_bz, zi_01l, zi_01r, not_true_eq_false, not_false_eq_true, Nat.reduceAdd, Nat.reduceMul, Nat.reduceSub]
  | succ j ih =>
    intro n hj mi mj g l8 l10 h
    have hb := h.2.1
    have hu := h.2.2.1
    have hx := (h.2.2.2.2.2 e he).2.2.2 hn
    obtain ⟨mi1, mj1, g1, r1, k1, o1⟩ := s_94 (Ls := Ls) (mj := mj) (a := 37 * n) (b := 0) h he hn (by omega) (by omega)
    have h1 := h.kp k1 o1
    obtain ⟨mi2, mj2, g2, r2, k2, o2⟩ := s_94 (Ls := Ls) (mj := mj1) (a := 37 * n) (b := 1) h1 he hn (by omega) (by omega)
    have h2 := h1.kp k2 o2
    have en : 37 * n + 37 = 37 * (n + 1) := by omega
    by_cases cs : (topE (spv lo hi (zi (37 * n))) (spv lo hi (zi (37 * n))) u (KK e) (VV e) (NN e)).1 = zi 0
    · have wA : A = -1000000000000000005 ∨ (¬ A = -1000000000000000005 ∧ ¬ fhigh (topE (spv lo hi (zi (37 * n))) (spv lo hi (zi (37 * n))) u (KK e) (VV e) (NN e)).2 < A) := by
        by_cases c : A = G5
        · exact Or.inl c
        · refine Or.inr ⟨c, fun q => ?_⟩
          obtain ⟨b, b1, b2, b3, b4⟩ := hA.resolve_left c _ 0 (by omega) (spv_at (y := zi (37 * n)) hb)
          rw [if_pos rfl] at b4
          obtain ⟨-, f2, -⟩ := smp (y := zi (37 * n)) hb hu hx b1 b2 cs b3
          rw [zj_lt] at q
          omega
      have wB : B = -1000000000000000005 ∨ (¬ B = -1000000000000000005 ∧ flow (topE (spv lo hi (zi (37 * n))) (spv lo hi (zi (37 * n))) u (KK e) (VV e) (NN e)).2 ≤ B) := by
        by_cases c : B = G5
        · exact Or.inl c
        · refine Or.inr ⟨c, ?_⟩
          obtain ⟨b, b1, b2, b3, b4⟩ := hB.resolve_left c _ 0 (by omega) (spv_at (y := zi (37 * n)) hb)
          rw [if_neg (by decide)] at b4
          obtain ⟨f1, -⟩ := smp (y := zi (37 * n)) hb hu hx b1 b2 cs b3
          rw [zj_le]
          omega
      obtain ⟨f6, -⟩ := smp_ok (y := zi (37 * n)) hb hu hx cs
      rw [tr_0 cs] at r1
      rw [tr_1 cs] at r2
      generalize flow (topE (spv lo hi (zi (37 * n))) (spv lo hi (zi (37 * n))) u (KK e) (VV e) (NN e)).2 = fl at *
      generalize fhigh (topE (spv lo hi (zi (37 * n))) (spv lo hi (zi (37 * n))) u (KK e) (VV e) (NN e)).2 = fh at *
      obtain ⟨mi7, mj7, g7, q1, q2, q3⟩ := ih (n + 1) (by omega) mi2 mj2 g2 (some (.long fl)) (some (.long fh)) h2
      refine ⟨mi7, mj7, g7, ?_, (k1.tr k2).tr q2, q3⟩
      have n5 := j_ne5 (x := fl) f6
      rw [← q1, q_123_58]
      rcases wA with rfl | ⟨a1, a2⟩
      · rcases wB with rfl | ⟨b1, b2⟩
        · simp (disch := (first | with_reducible exact is_1 | with_reducible exact zi_at is_1 (by omega) (by omega) | ((with_reducible refine zct_le ?_) <;> exact Nat.le_of_ble_eq_true rfl) | with_reducible exact zh_0 | with_reducible exact zh_1 | with_reducible exact zh_b | omega)) only [q_123_60, q_123_63, q_123_66r, q_123_66n, q_123_67, q_123_68, q_123_70, q_123_71, q_123_74, q_123_76r, q_123_76n, q_123_77, q_123_78, q_123_80, q_123_81, q_123_84, q_123_86, q_123_88, q_123_91, q_123_92, q_123_95, q_123_98, q_123_99, q_123_102, q_123_103, q_123_106, q_123_108, q_123_109, q_123_110, q_123_113, q_123_115, q_123_118, q_123_119, q_123_122, q_123_124, q_123_126, q_123_127, q_123_130, q_123_131, q_123_132, q_123_135, q_123_138, q_123_139, vf_s, vf_n, zk2_none, zk2_int, zk2_ref, zk2_null, zk2_long, zct_nil, zct_i, zct_l, zct_r, zct_n, Option.bind_some, Option.toList_some, Option.toList_none, List.cons_append, List.nil_append, zor_l, zor_r, if_true, if_false, ↓reduceIte, zi_lit, zi_of, zi_add, zi_mul, zi_sub, zi_nat, zi_leT, zi_leF, zi_ltT, zi_ltF, zi_eqT, zi_eqF, zif_0z, zif_bz, zi_01l, zi_01r, not_true_eq_false, not_false_eq_true, Nat.reduceAdd, Nat.reduceMul, Nat.reduceSub, r1, r2, n5, en]
        · simp (disch := (first | with_reducible exact is_1 | with_reducible exact zi_at is_1 (by omega) (by omega) | ((with_reducible refine zct_le ?_) <;> exact Nat.le_of_ble_eq_true rfl) | with_reducible exact zh_0 | with_reducible exact zh_1 | with_reducible exact zh_b | omega)) only [q_123_60, q_123_63, q_123_66r, q_123_66n, q_123_67, q_123_68, q_123_70, q_123_71, q_123_74, q_123_76r, q_123_76n, q_123_77, q_123_78, q_123_80, q_123_81, q_123_84, q_123_86, q_123_88, q_123_91, q_123_92, q_123_95, q_123_98, q_123_99, q_123_102, q_123_103, q_123_106, q_123_108, q_123_109, q_123_110, q_123_113, q_123_115, q_123_118, q_123_119, q_123_122, q_123_124, q_123_126, q_123_127, q_123_130, q_123_131, q_123_132, q_123_135, q_123_138, q_123_139, vf_s, vf_n, zk2_none, zk2_int, zk2_ref, zk2_null, zk2_long, zct_nil, zct_i, zct_l, zct_r, zct_n, Option.bind_some, Option.toList_some, Option.toList_none, List.cons_append, List.nil_append, zor_l, zor_r, if_true, if_false, ↓reduceIte, zi_lit, zi_of, zi_add, zi_mul, zi_sub, zi_nat, zi_leT, zi_leF, zi_ltT, zi_ltF, zi_eqT, zi_eqF, zif_0z, zif_bz, zi_01l, zi_01r, not_true_eq_false, not_false_eq_true, Nat.reduceAdd, Nat.reduceMul, Nat.reduceSub, r1, r2, n5, en, b1, b2]
      · rcases wB with rfl | ⟨b1, b2⟩
        · simp (disch := (first | with_reducible exact is_1 | with_reducible exact zi_at is_1 (by omega) (by omega) | ((with_reducible refine zct_le ?_) <;> exact Nat.le_of_ble_eq_true rfl) | with_reducible exact zh_0 | with_reducible exact zh_1 | with_reducible exact zh_b | omega)) only [q_123_60, q_123_63, q_123_66r, q_123_66n, q_123_67, q_123_68, q_123_70, q_123_71, q_123_74, q_123_76r, q_123_76n, q_123_77, q_123_78, q_123_80, q_123_81, q_123_84, q_123_86, q_123_88, q_123_91, q_123_92, q_123_95, q_123_98, q_123_99, q_123_102, q_123_103, q_123_106, q_123_108, q_123_109, q_123_110, q_123_113, q_123_115, q_123_118, q_123_119, q_123_122, q_123_124, q_123_126, q_123_127, q_123_130, q_123_131, q_123_132, q_123_135, q_123_138, q_123_139, vf_s, vf_n, zk2_none, zk2_int, zk2_ref, zk2_null, zk2_long, zct_nil, zct_i, zct_l, zct_r, zct_n, Option.bind_some, Option.toList_some, Option.toList_none, List.cons_append, List.nil_append, zor_l, zor_r, if_true, if_false, ↓reduceIte, zi_lit, zi_of, zi_add, zi_mul, zi_sub, zi_nat, zi_leT, zi_leF, zi_ltT, zi_ltF, zi_eqT, zi_eqF, zif_0z, zif_bz, zi_01l, zi_01r, not_true_eq_false, not_false_eq_true, Nat.reduceAdd, Nat.reduceMul, Nat.reduceSub, r1, r2, n5, en, a1, a2]
        · simp (disch := (first | with_reducible exact is_1 | with_reducible exact zi_at is_1 (by omega) (by omega) | ((with_reducible refine zct_le ?_) <;> exact Nat.le_of_ble_eq_true rfl) | with_reducible exact zh_0 | with_reducible exact zh_1 | with_reducible exact zh_b | omega)) only [q_123_60, q_123_63, q_123_66r, q_123_66n, q_123_67, q_123_68, q_123_70, q_123_71, q_123_74, q_123_76r, q_123_76n, q_123_77, q_123_78, q_123_80, q_123_81, q_123_84, q_123_86, q_123_88, q_123_91, q_123_92, q_123_95, q_123_98, q_123_99, q_123_102, q_123_103, q_123_106, q_123_108, q_123_109, q_123_110, q_123_113, q_123_115, q_123_118, q_123_119, q_123_122, q_123_124, q_123_126, q_123_127, q_123_130, q_123_131, q_123_132, q_123_135, q_123_138, q_123_139, vf_s, vf_n, zk2_none, zk2_int, zk2_ref, zk2_null, zk2_long, zct_nil, zct_i, zct_l, zct_r, zct_n, Option.bind_some, Option.toList_some, Option.toList_none, List.cons_append, List.nil_append, zor_l, zor_r, if_true, if_false, ↓reduceIte, zi_lit, zi_of, zi_add, zi_mul, zi_sub, zi_nat, zi_leT, zi_leF, zi_ltT, zi_ltF, zi_eqT, zi_eqF, zif_0z, zif_bz, zi_01l, zi_01r, not_true_eq_false, not_false_eq_true, Nat.reduceAdd, Nat.reduceMul, Nat.reduceSub, r1, r2, n5, en, a1, a2, b1, b2]
    · rw [tr_w cs] at r1 r2
      obtain ⟨mi7, mj7, g7, q1, q2, q3⟩ := ih (n + 1) (by omega) mi2 mj2 g2 (some (.long (-1000000000000000005))) (some (.long (-1000000000000000005))) h2
      refine ⟨mi7, mj7, g7, ?_, (k1.tr k2).tr q2, q3⟩
      rw [← q1, q_123_58]
      simp (disch := (first | with_reducible exact is_1 | with_reducible exact zi_at is_1 (by omega) (by omega) | ((with_reducible refine zct_le ?_) <;> exact Nat.le_of_ble_eq_true rfl) | with_reducible exact zh_0 | with_reducible exact zh_1 | with_reducible exact zh_b | omega)) only [q_123_60, q_123_63, q_123_66r, q_123_66n, q_123_67, q_123_68, q_123_70, q_123_71, q_123_74, q_123_76r, q_123_76n, q_123_77, q_123_78, q_123_80, q_123_81, q_123_84, q_123_86, q_123_88, q_123_91, q_123_92, q_123_95, q_123_98, q_123_99, q_123_102, q_123_103, q_123_106, q_123_108, q_123_109, q_123_110, q_123_113, q_123_115, q_123_118, q_123_119, q_123_122, q_123_124, q_123_126, q_123_127, q_123_130, q_123_131, q_123_132, q_123_135, q_123_138, q_123_139, vf_s, vf_n, zk2_none, zk2_int, zk2_ref, zk2_null, zk2_long, zct_nil, zct_i, zct_l, zct_r, zct_n, Option.bind_some, Option.toList_some, Option.toList_none, List.cons_append, List.nil_append, zor_l, zor_r, if_true, if_false, ↓reduceIte, zi_lit, zi_of, zi_add, zi_mul, zi_sub, zi_nat, zi_leT, zi_leF, zi_ltT, zi_ltF, zi_eqT, zi_eqF, zif_0z, zif_bz, zi_01l, zi_01r, not_true_eq_false, not_false_eq_true, Nat.reduceAdd, Nat.reduceMul, Nat.reduceSub, r1, r2, en]
theorem v_tightens (h : ST mi g lo hi u NN KK VV) (he : e < 4) (hn : 0 < NN e) (ht : t ≤ 100) : Qr Ls 123 [.int (zi e), .int (zi t)] (.int (zi 1)) mi mj g := by
  obtain ⟨A, a1, a2⟩ := s_98 (Ls := Ls) (b := 0) h he hn ht (by omega)
  obtain ⟨B, b1, b2⟩ := s_98 (Ls := Ls) (b := 1) h he hn ht (by omega)
  obtain ⟨mi1, mj1, g1, r1, k1, o1⟩ := a2 mi mj g h
  have h1 := h.kp k1 o1
  obtain ⟨mi2, mj2, g2, r2, k2, o2⟩ := b2 mi1 mj1 g1 h1
  have h2 := h1.kp k2 o2
  obtain ⟨mi3, mj3, g3, r3, k3, o3⟩ := s_98z (Ls := Ls) (mj := mj2) (b := 0) h2 he hn (by omega)
  have h3 := h2.kp k3 o3
  obtain ⟨mi4, mj4, g4, r4, k4, o4⟩ := s_89 (Ls := Ls) (mj := mj3) (a := 2) (b := 0) h3 he hn (by omega) (by omega)
  have h4 := h3.kp k4 o4
  obtain ⟨mi5, mj5, g5, r5, k5, o5⟩ := s_98z (Ls := Ls) (mj := mj4) (b := 1) h4 he hn (by omega)
  have h5 := h4.kp k5 o5
  obtain ⟨mi6, mj6, g6, r6, k6, o6⟩ := s_89 (Ls := Ls) (mj := mj5) (a := 2) (b := 1) h5 he hn (by omega) (by omega)
  have h6 := h5.kp k6 o6
  obtain ⟨mi7, mj7, g7, q1, q2, q3⟩ := tl_1 (Ls := Ls) (l2 := some (.int (zi t))) he hn a1 b1 7 0 (by omega) mi6 mj6 g6 none none h6
  refine ⟨mi7, mj7, g7, ?_, (((((k1.tr k2).tr k3).tr k4).tr k5).tr k6).tr q2, q3⟩
  rw [Nat.mul_zero] at q1
  simp (disch := (first | with_reducible exact is_1 | with_reducible exact zi_at is_1 (by omega) (by omega) | ((with_reducible refine zct_le ?_) <;> exact Nat.le_of_ble_eq_true rfl) | with_reducible exact zh_0 | with_reducible exact zh_1 | with_reducible exact zh_b | omega)) only [e_123, q_123_0r, q_123_0n, q_123_1, q_123_2, q_123_3, q_123_4, q_123_7, q_123_8r, q_123_8n, q_123_9, q_123_10, q_123_11, q_123_12, q_123_15, q_123_17r, q_123_17n, q_123_18, q_123_19, q_123_20, q_123_21, q_123_24r, q_123_24n, q_123_25, q_123_26, q_123_27, q_123_28, q_123_31, q_123_32, q_123_35r, q_123_35n, q_123_36, q_123_37, q_123_38, q_123_39, q_123_42r, q_123_42n, q_123_43, q_123_44, q_123_45, q_123_46, q_123_49, q_123_50, q_123_53, q_123_54, q_123_55, q_123_56, vf_s, vf_n, zk2_none, zk2_int, zk2_ref, zk2_null, zk2_long, zct_nil, zct_i, zct_l, zct_r, zct_n, Option.bind_some, Option.toList_some, Option.toList_none, List.cons_append, List.nil_append, zor_l, zor_r, if_true, if_false, ↓reduceIte, zi_lit, zi_of, zi_add, zi_mul, zi_sub, zi_nat, zi_leT, zi_leF, zi_ltT, zi_ltF, zi_eqT, zi_eqF, zif_0z, zif_bz, zi_01l, zi_01r, not_true_eq_false, not_false_eq_true, Nat.reduceAdd, Nat.reduceMul, Nat.reduceSub, r1, r2, r3, r4, r5, r6]
  exact q1
/-! comparisons -/
theorem cp_val (hz : D.1 = zi 0) : (cpV D = zi 1 ∧ 0 < (flow D.2).toInt) ∨ (cpV D = zi 2 ∧ (fhigh D.2).toInt < 0) ∨ (cpV D = zi 3 ∧ (flow D.2).toInt = 0 ∧ (fhigh D.2).toInt = 0) ∨ cpV D = zi 0 := by
  unfold cpV
  rw [if_pos hz]
  by_cases c1 : flow D.2 ≤ 0
  · rw [if_pos c1]
    by_cases c2 : 0 ≤ fhigh D.2
    · rw [if_pos c2]
      by_cases c3 : flow D.2 = 0
      · rw [if_pos c3]
        by_cases c4 : fhigh D.2 = 0
        · rw [if_pos c4]
          exact Or.inr (Or.inr (Or.inl ⟨rfl, by rw [c3]; rfl, by rw [c4]; rfl⟩))
        · rw [if_neg c4]
          exact Or.inr (Or.inr (Or.inr rfl))
      · rw [if_neg c3]
        exact Or.inr (Or.inr (Or.inr rfl))
    · rw [if_neg c2]
      rw [Kit.i64_nonneg] at c2
      exact Or.inr (Or.inl ⟨rfl, by omega⟩)
  · rw [if_neg c1]
    rw [zj_le, kj0] at c1
    exact Or.inl ⟨rfl, by omega⟩
theorem cl_1 (he : e < 4) (hn : 0 < NN e) (he' : e' < 4) (hn' : 0 < NN e') (hr : r = zi 0 ∨ r = zi 1 ∨ r = zi 2 ∨ r = zi 3)
    (hH : ∀ y, (topE (spv lo hi y) (spv lo hi y) u (KK e) (VV e) (NN e)).1 = zi 0 → (topE (spv lo hi y) (spv lo hi y) u (KK e') (VV e') (NN e')).1 = zi 0 → (r = zi 1 → (flow (topE (spv lo hi y) (spv lo hi y) u (KK e') (VV e') (NN e')).2).toInt < (fhigh (topE (spv lo hi y) (spv lo hi y) u (KK e) (VV e) (NN e)).2).toInt) ∧ (r = zi 2 → (flow (topE (spv lo hi y) (spv lo hi y) u (KK e) (VV e) (NN e)).2).toInt < (fhigh (topE (spv lo hi y) (spv lo hi y) u (KK e') (VV e') (NN e')).2).toInt) ∧ (r = zi 3 → (flow (topE (spv lo hi y) (spv lo hi y) u (KK e) (VV e) (NN e)).2).toInt ≤ (fhigh (topE (spv lo hi y) (spv lo hi y) u (KK e') (VV e') (NN e')).2).toInt ∧ (flow (topE (spv lo hi y) (spv lo hi y) u (KK e') (VV e') (NN e')).2).toInt ≤ (fhigh (topE (spv lo hi y) (spv lo hi y) u (KK e) (VV e) (NN e)).2).toInt)) (j : Nat) : ∀ n, n + j = 6 → ∀ mi mj g l5 l7 l9 l11, ST mi g lo hi u NN KK VV → ∃ mi' mj' g', zRun 125 26 [some (.ref 1), some (.int (zi e)), some (.int (zi e')), some (.int r), some (.int (zi (5 + 50 * n))), l5, none, l7, none, l9, none, l11, none] [] (SH Ls) mi mj (RF g) = some (some (.int (zi 1)), SH Ls, mi', mj', RF g') ∧ Kp mi mi' ∧ gOk g' := by
  induction j with
  | zero =>
    intro n hj mi mj g l5 l7 l9 l11 h
    obtain rfl : n = 6 := by omega
    have hn60 := (h.2.2.2.2.2 e he).1
    rcases hr with rfl | rfl | rfl | rfl
    · obtain ⟨mi1, mj1, g1, r1, k1, o1⟩ := s_95 (Ls := Ls) (mj := mj) h he' hn' he hn
      refine ⟨mi1, mj1, g1, ?_, k1, o1⟩
      have hv : ∀ D : En, ¬ cpV D < -zi 5 := fun D => by
        by_cases cz : D.1 = zi 0
        · rcases cp_val cz with ⟨q, -⟩ | ⟨q, -⟩ | ⟨q, -⟩ | q <;> rw [q] <;> decide
        · rw [cp_w cz]; decide
      have hv := hv (topE lo hi u (catK (KK e') (KK e) (NN e') (NN e)) (catV (VV e') (VV e) (NN e') (NN e)) (NN e' + NN e + 1))
      rw [q_125_26]
      simp (disch := (first | with_reducible exact is_1 | with_reducible exact zi_at is_1 (by omega) (by omega) | ((with_reducible refine zct_le ?_) <;> exact Nat.le_of_ble_eq_true rfl) | with_reducible exact zh_0 | with_reducible exact zh_1 | with_reducible exact zh_b | omega)) only [q_125_28, q_125_31, q_125_34r, q_125_34n, q_125_35, q_125_36, q_125_38, q_125_39, q_125_42, q_125_44r, q_125_44n, q_125_45, q_125_46, q_125_48, q_125_49, q_125_52, q_125_54r, q_125_54n, q_125_55, q_125_56, q_125_58, q_125_59, q_125_62, q_125_64r, q_125_64n, q_125_65, q_125_66, q_125_68, q_125_69, q_125_72, q_125_74, q_125_76, q_125_79, q_125_80, q_125_83, q_125_85, q_125_88, q_125_89, q_125_92, q_125_95, q_125_96, q_125_97, q_125_100, q_125_102, q_125_104, q_125_105, q_125_108, q_125_109, q_125_110, q_125_113, q_125_115, q_125_117, q_125_118, q_125_121, q_125_122, q_125_123, q_125_126, q_125_128, q_125_130, q_125_131, q_125_134, q_125_136, q_125_138, q_125_139, q_125_142, q_125_143, q_125_144, q_125_147, q_125_150, q_125_151, q_125_154r, q_125_154n, q_125_155, q_125_156, q_125_157, q_125_160, q_125_162, q_125_165, q_125_166, q_125_169, q_125_170, vf_s, vf_n, zk2_none, zk2_int, zk2_ref, zk2_null, zk2_long, zct_nil, zct_i, zct_l, zct_r, zct_n, Option.bind_some, Option.toList_some, Option.toList_none, List.cons_append, List.nil_append, zor_l, zor_r, if_true, if_false, ↓reduceIte, zi_lit, zi_of, zi_add, zi_mul, zi_sub, zi_nat, zi_leT, zi_leF, zi_ltT, zi_ltF, zi_eqT, zi_eqF, zif_0z, zif_bz, zi_01l, zi_01r, not_true_eq_false, not_false_eq_true, Nat.reduceAdd, Nat.reduceMul, Nat.reduceSub, r1, hv]
    · refine ⟨mi, mj, g, ?_, Kp.rf, h.1⟩
      rw [q_125_26]
      simp (disch := (first | ((with_reducible refine zct_le ?_) <;> exact Nat.le_of_ble_eq_true rfl) | with_reducible exact zh_0 | with_reducible exact zh_1 | with_reducible exact zh_b | omega)) only [q_125_28, q_125_31, q_125_34r, q_125_34n, q_125_35, q_125_36, q_125_38, q_125_39, q_125_42, q_125_44r, q_125_44n, q_125_45, q_125_46, q_125_48, q_125_49, q_125_52, q_125_54r, q_125_54n, q_125_55, q_125_56, q_125_58, q_125_59, q_125_62, q_125_64r, q_125_64n, q_125_65, q_125_66, q_125_68, q_125_69, q_125_72, q_125_74, q_125_76, q_125_79, q_125_80, q_125_83, q_125_85, q_125_88, q_125_89, q_125_92, q_125_95, q_125_96, q_125_97, q_125_100, q_125_102, q_125_104, q_125_105, q_125_108, q_125_109, q_125_110, q_125_113, q_125_115, q_125_117, q_125_118, q_125_121, q_125_122, q_125_123, q_125_126, q_125_128, q_125_130, q_125_131, q_125_134, q_125_136, q_125_138, q_125_139, q_125_142, q_125_143, q_125_144, q_125_147, q_125_150, q_125_151, q_125_154r, q_125_154n, q_125_155, q_125_156, q_125_157, q_125_160, q_125_162, q_125_165, q_125_166, q_125_169, q_125_170, vf_s, vf_n, zk2_none, zk2_int, zk2_ref, zk2_null, zk2_long, zct_nil, zct_i, zct_l, zct_r, zct_n, Option.bind_some, Option.toList_some, Option.toList_none, List.cons_append, List.nil_append, zor_l, zor_r, if_true, if_false, ↓reduceIte, zi_lit, zi_of, zi_add, zi_mul, zi_sub, zi_nat, zi_leT, zi_leF, zi_ltT, zi_ltF, zi_eqT, zi_eqF, zif_0z, zif_bz, zi_01l, zi_01r, not_true_eq_false, not_false_eq_true, Nat.reduceAdd, Nat.reduceMul, Nat.reduceSub]
    · refine ⟨mi, mj, g, ?_, Kp.rf, h.1⟩
      rw [q_125_26]
      simp (disch := (first | ((with_reducible refine zct_le ?_) <;> exact Nat.le_of_ble_eq_true rfl) | with_reducible exact zh_0 | with_reducible exact zh_1 | with_reducible exact zh_b | omega)) only [q_125_28, q_125_31, q_125_34r, q_125_34n, q_125_35, q_125_36, q_125_38, q_125_39, q_125_42, q_125_44r, q_125_44n, q_125_45, q_125_46, q_125_48, q_125_49, q_125_52, q_125_54r, q_125_54n, q_125_55, q_125_56, q_125_58, q_125_59, q_125_62, q_125_64r, q_125_64n, q_125_65, q_125_66, q_125_68, q_125_69, q_125_72, q_125_74, q_125_76, q_125_79, q_125_80, q_125_83, q_125_85, q_125_88, q_125_89, q_125_92, q_125_95, q_125_96, q_125_97, q_125_100, q_125_102, q_125_104, q_125_105, q_125_108, q_125_109, q_125_110, q_125_113, q_125_115, q_125_117, q_125_118, q_125_121, q_125_122, q_125_123, q_125_126, q_125_128, q_125_130, q_125_131, q_125_134, q_125_136, q_125_138, q_125_139, q_125_142, q_125_143, q_125_144, q_125_147, q_125_150, q_125_151, q_125_154r, q_125_154n, q_125_155, q_125_156, q_125_157, q_125_160, q_125_162, q_125_165, q_125_166, q_125_169, q_125_170, vf_s, vf_n, zk2_none, zk2_int, zk2_ref, zk2_null, zk2_long, zct_nil, zct_i, zct_l, zct_r, zct_n, Option.bind_some, Option.toList_some, Option.toList_none, List.cons_append, List.nil_append, zor_l, zor_r, if_true, if_false, ↓reduceIte, zi_lit, zi_of, zi_add, zi_mul, zi_sub, zi_nat, zi_leT, zi_leF, zi_ltT, zi_ltF, zi_eqT, zi_eqF, zif_0z, zif_bz, zi_01l, zi_01r, not_true_eq_false, not_false_eq_true, Nat.reduceAdd, Nat.reduceMul, Nat.reduceSub]
    · refine ⟨mi, mj, g, ?_, Kp.rf, h.1⟩
      rw [q_125_26]
      simp (disch := (first | ((with_reducible refine zct_le ?_) <;> exact Nat.le_of_ble_eq_true rfl) | with_reducible exact zh_0 | with_reducible exact zh_1 | with_reducible exact zh_b | omega)) only [q_125_28, q_125_31, q_125_34r, q_125_34n, q_125_35, q_125_36, q_125_38, q_125_39, q_125_42, q_125_44r, q_125_44n, q_125_45, q_125_46, q_125_48, q_125_49, q_125_52, q_125_54r, q_125_54n, q_125_55, q_125_56, q_125_58, q_125_59, q_125_62, q_125_64r, q_125_64n, q_125_65, q_125_66, q_125_68, q_125_69, q_125_72, q_125_74, q_125_76, q_125_79, q_125_80, q_125_83, q_125_85, q_125_88, q_125_89, q_125_92, q_125_95, q_125_96, q_125_97, q_125_100, q_125_102, q_125_104, q_125_105, q_125_108, q_125_109, q_125_110, q_125_113, q_125_115, q_125_117, q_125_118, q_125_121, q_125_122, q_125_123, q_125_126, q_125_128, q_125_130, q_125_131, q_125_134, q_125_136, q_125_138, q_125_139, q_125_142, q_125_143, q_125_144, q_125_147, q_125_150, q_125_151, q_125_154r, q_125_154n, q_125_155, q_125_156, q_125_157, q_125_160, q_125_162, q_125_165, q_125_166, q_125_169, q_125_170, vf_s, vf_n, zk2_none, zk2_int, zk2_ref, zk2_null, zk2_long, zct_nil, zct_i, zct_l, zct_r, zct_n, Option.bind_some, Option.toList_some, Option.toList_none, List.cons_append, List.nil_append, zor_l, zor_r, if_true, if_false, ↓reduceIte, zi_lit, zi_of, zi_add, zi_mul, zi_sub, zi_nat, zi_leT, zi_leF, zi_ltT, zi_ltF, zi_eqT, zi_eqF, zif_0z, zif_bz, zi_01l, zi_01r, not_true_eq_false, not_false_eq_true, Nat.reduceAdd, Nat.reduceMul, Nat.reduceSub]
  | succ j ih =>
    intro n hj mi mj g l5 l7 l9 l11 h
    have hb := h.2.1
    have hu := h.2.2.1
    have hx := (h.2.2.2.2.2 e he).2.2.2 hn
    have hx' := (h.2.2.2.2.2 e' he').2.2.2 hn'
    obtain ⟨mi1, mj1, g1, r1, k1, o1⟩ := s_94 (Ls := Ls) (mj := mj) (a := 5 + 50 * n) (b := 0) h he hn (by omega) (by omega)
    have h1 := h.kp k1 o1
    obtain ⟨mi2, mj2, g2, r2, k2, o2⟩ := s_94 (Ls := Ls) (mj := mj1) (a := 5 + 50 * n) (b := 1) h1 he hn (by omega) (by omega)
    have h2 := h1.kp k2 o2
    obtain ⟨mi3, mj3, g3, r3, k3, o3⟩ := s_94 (Ls := Ls) (mj := mj2) (a := 5 + 50 * n) (b := 0) h2 he' hn' (by omega) (by omega)
    have h3 := h2.kp k3 o3
    obtain ⟨mi4, mj4, g4, r4, k4, o4⟩ := s_94 (Ls := Ls) (mj := mj3) (a := 5 + 50 * n) (b := 1) h3 he' hn' (by omega) (by omega)
    have h4 := h3.kp k4 o4
    have en : 5 + 50 * n + 50 = 5 + 50 * (n + 1) := by omega
    have hh := hH (zi (5 + 50 * n))
    have ok1 := smp_ok (y := zi (5 + 50 * n)) hb hu hx
    have ok2 := smp_ok (y := zi (5 + 50 * n)) hb hu hx'
    generalize topE (spv lo hi (zi (5 + 50 * n))) (spv lo hi (zi (5 + 50 * n))) u (KK e) (VV e) (NN e) = S1 at r1 r2 hh ok1
    generalize topE (spv lo hi (zi (5 + 50 * n))) (spv lo hi (zi (5 + 50 * n))) u (KK e') (VV e') (NN e') = S2 at r3 r4 hh ok2
    obtain ⟨mi7, mj7, g7, q1, q2, q3⟩ := ih (n + 1) (by omega) mi4 mj4 g4 (some (.long (trV S1 0))) (some (.long (trV S1 1))) (some (.long (trV S2 0))) (some (.long (trV S2 1))) h4
    refine ⟨mi7, mj7, g7, ?_, (((k1.tr k2).tr k3).tr k4).tr q2, q3⟩
    rw [← q1, q_125_26]
    by_cases c1 : S1.1 = zi 0
    · have n1 := j_ne5 (x := flow S1.2) (ok1 c1).1
      rw [tr_0 c1] at r1 ⊢
      rw [tr_1 c1] at r2 ⊢
      by_cases c2 : S2.1 = zi 0
      · have n2 := j_ne5 (x := flow S2.2) (ok2 c2).1
        rw [tr_0 c2] at r3 ⊢
        rw [tr_1 c2] at r4 ⊢
        obtain ⟨f1, f2, f3⟩ := hh c1 c2
        rcases hr with rfl | rfl | rfl | rfl
        · simp (disch := (first | with_reducible exact is_1 | with_reducible exact zi_at is_1 (by omega) (by omega) | ((with_reducible refine zct_le ?_) <;> exact Nat.le_of_ble_eq_true rfl) | with_reducible exact zh_0 | with_reducible exact zh_1 | with_reducible exact zh_b | omega)) only [q_125_28, q_125_31, q_125_34r, q_125_34n, q_125_35, q_125_36, q_125_38, q_125_39, q_125_42, q_125_44r, q_125_44n, q_125_45, q_125_46, q_125_48, q_125_49, q_125_52, q_125_54r, q_125_54n, q_125_55, q_125_56, q_125_58, q_125_59, q_125_62, q_125_64r, q_125_64n, q_125_65, q_125_66, q_125_68, q_125_69, q_125_72, q_125_74, q_125_76, q_125_79, q_125_80, q_125_83, q_125_85, q_125_88, q_125_89, q_125_92, q_125_95, q_125_96, q_125_97, q_125_100, q_125_102, q_125_104, q_125_105, q_125_108, q_125_109, q_125_110, q_125_113, q_125_115, q_125_117, q_125_118, q_125_121, q_125_122, q_125_123, q_125_126, q_125_128, q_125_130, q_125_131, q_125_134, q_125_136, q_125_138, q_125_139, q_125_142, q_125_143, q_125_144, q_125_147, q_125_150, q_125_151, q_125_154r, q_125_154n, q_125_155, q_125_156, q_125_157, q_125_160, q_125_162, q_125_165, q_125_166, q_125_169, q_125_170, vf_s, vf_n, zk2_none, zk2_int, zk2_ref, zk2_null, zk2_long, zct_nil, zct_i, zct_l, zct_r, zct_n, Option.bind_some, Option.toList_some, Option.toList_none, List.cons_append, List.nil_append, zor_l, zor_r, if_true, if_false, ↓reduceIte, zi_lit, zi_of, zi_add, zi_mul, zi_sub, zi_nat, zi_leT, zi_leF, zi_ltT, zi_ltF, zi_eqT, zi_eqF, zif_0z, zif_bz, zi_01l, zi_01r, not_true_eq_false, not_false_eq_true, Nat.reduceAdd, Nat.reduceMul, Nat.reduceSub, r1, r2, r3, r4, en, n1, n2]
        · have w1 : ¬ fhigh S1.2 ≤ flow S2.2 := by rw [zj_le]; have := f1 rfl; omega
          simp (disch := (first | with_reducible exact is_1 | with_reducible exact zi_at is_1 (by omega) (by omega) | ((with_reducible refine zct_le ?_) <;> exact Nat.le_of_ble_eq_true rfl) | with_reducible exact zh_0 | with_reducible exact zh_1 | with_reducible exact zh_b | omega)) only [q_125_28, q_125_31, q_125_34r, q_125_34n, q_125_35, q_125_36, q_125_38, q_125_39, q_125_42, q_125_44r, q_125_44n, q_125_45, q_125_46, q_125_48, q_125_49, q_125_52, q_125_54r, q_125_54n, q_125_55, q_125_56, q_125_58, q_125_59, q_125_62, q_125_64r, q_125_64n, q_125_65, q_125_66, q_125_68, q_125_69, q_125_72, q_125_74, q_125_76, q_125_79, q_125_80, q_125_83, q_125_85, q_125_88, q_125_89, q_125_92, q_125_95, q_125_96, q_125_97, q_125_100, q_125_102, q_125_104, q_125_105, q_125_108, q_125_109, q_125_110, q_125_113, q_125_115, q_125_117, q_125_118, q_125_121, q_125_122, q_125_123, q_125_126, q_125_128, q_125_130, q_125_131, q_125_134, q_125_136, q_125_138, q_125_139, q_125_142, q_125_143, q_125_144, q_125_147, q_125_150, q_125_151, q_125_154r, q_125_154n, q_125_155, q_125_156, q_125_157, q_125_160, q_125_162, q_125_165, q_125_166, q_125_169, q_125_170, vf_s, vf_n, zk2_none, zk2_int, zk2_ref, zk2_null, zk2_long, zct_nil, zct_i, zct_l, zct_r, zct_n, Option.bind_some, Option.toList_some, Option.toList_none, List.cons_append, List.nil_append, zor_l, zor_r, if_true, if_false, ↓reduceIte, zi_lit, zi_of, zi_add, zi_mul, zi_sub, zi_nat, zi_leT, zi_leF, zi_ltT, zi_ltF, zi_eqT, zi_eqF, zif_0z, zif_bz, zi_01l, zi_01r, not_true_eq_false, not_false_eq_true, Nat.reduceAdd, Nat.reduceMul, Nat.reduceSub, r1, r2, r3, r4, en, n1, n2, w1]
        · have w1 : flow S1.2 < fhigh S2.2 := by rw [zj_lt]; exact f2 rfl
          have w0 : ¬ fhigh S2.2 ≤ flow S1.2 := by rw [zj_le]; have := f2 rfl; omega
          simp (disch := (first | with_reducible exact is_1 | with_reducible exact zi_at is_1 (by omega) (by omega) | ((with_reducible refine zct_le ?_) <;> exact Nat.le_of_ble_eq_true rfl) | with_reducible exact zh_0 | with_reducible exact zh_1 | with_reducible exact zh_b | omega)) only [q_125_28, q_125_31, q_125_34r, q_125_34n, q_125_35, q_125_36, q_125_38, q_125_39, q_125_42, q_125_44r, q_125_44n, q_125_45, q_125_46, q_125_48, q_125_49, q_125_52, q_125_54r, q_125_54n, q_125_55, q_125_56, q_125_58, q_125_59, q_125_62, q_125_64r, q_125_64n, q_125_65, q_125_66, q_125_68, q_125_69, q_125_72, q_125_74, q_125_76, q_125_79, q_125_80, q_125_83, q_125_85, q_125_88, q_125_89, q_125_92, q_125_95, q_125_96, q_125_97, q_125_100, q_125_102, q_125_104, q_125_105, q_125_108, q_125_109, q_125_110, q_125_113, q_125_115, q_125_117, q_125_118, q_125_121, q_125_122, q_125_123, q_125_126, q_125_128, q_125_130, q_125_131, q_125_134, q_125_136, q_125_138, q_125_139, q_125_142, q_125_143, q_125_144, q_125_147, q_125_150, q_125_151, q_125_154r, q_125_154n, q_125_155, q_125_156, q_125_157, q_125_160, q_125_162, q_125_165, q_125_166, q_125_169, q_125_170, vf_s, vf_n, zk2_none, zk2_int, zk2_ref, zk2_null, zk2_long, zct_nil, zct_i, zct_l, zct_r, zct_n, Option.bind_some, Option.toList_some, Option.toList_none, List.cons_append, List.nil_append, zor_l, zor_r, if_true, if_false, ↓reduceIte, zi_lit, zi_of, zi_add, zi_mul, zi_sub, zi_nat, zi_leT, zi_leF, zi_ltT, zi_ltF, zi_eqT, zi_eqF, zif_0z, zif_bz, zi_01l, zi_01r, not_true_eq_false, not_false_eq_true, Nat.reduceAdd, Nat.reduceMul, Nat.reduceSub, r1, r2, r3, r4, en, n1, n2, w1, w0]
        · have w1 : ¬ fhigh S2.2 < flow S1.2 := by rw [zj_lt]; have := (f3 rfl).1; omega
          have w2 : flow S2.2 ≤ fhigh S1.2 := by rw [zj_le]; exact (f3 rfl).2
          simp (disch := (first | with_reducible exact is_1 | with_reducible exact zi_at is_1 (by omega) (by omega) | ((with_reducible refine zct_le ?_) <;> exact Nat.le_of_ble_eq_true rfl) | with_reducible exact zh_0 | with_reducible exact zh_1 | with_reducible exact zh_b | omega)) only [q_125_28, q_125_31, q_125_34r, q_125_34n, q_125_35, q_125_36, q_125_38, q_125_39, q_125_42, q_125_44r, q_125_44n, q_125_45, q_125_46, q_125_48, q_125_49, q_125_52, q_125_54r, q_125_54n, q_125_55, q_125_56, q_125_58, q_125_59, q_125_62, q_125_64r, q_125_64n, q_125_65, q_125_66, q_125_68, q_125_69, q_125_72, q_125_74, q_125_76, q_125_79, q_125_80, q_125_83, q_125_85, q_125_88, q_125_89, q_125_92, q_125_95, q_125_96, q_125_97, q_125_100, q_125_102, q_125_104, q_125_105, q_125_108, q_125_109, q_125_110, q_125_113, q_125_115, q_125_117, q_125_118, q_125_121, q_125_122, q_125_123, q_125_126, q_125_128, q_125_130, q_125_131, q_125_134, q_125_136, q_125_138, q_125_139, q_125_142, q_125_143, q_125_144, q_125_147, q_125_150, q_125_151, q_125_154r, q_125_154n, q_125_155, q_125_156, q_125_157, q_125_160, q_125_162, q_125_165, q_125_166, q_125_169, q_125_170, vf_s, vf_n, zk2_none, zk2_int, zk2_ref, zk2_null, zk2_long, zct_nil, zct_i, zct_l, zct_r, zct_n, Option.bind_some, Option.toList_some, Option.toList_none, List.cons_append, List.nil_append, zor_l, zor_r, if_true, if_false, ↓reduceIte, zi_lit, zi_of, zi_add, zi_mul, zi_sub, zi_nat, zi_leT, zi_leF, zi_ltT, zi_ltF, zi_eqT, zi_eqF, zif_0z, zif_bz, zi_01l, zi_01r, not_true_eq_false, not_false_eq_true, Nat.reduceAdd, Nat.reduceMul, Nat.reduceSub, r1, r2, r3, r4, en, n1, n2, w1, w2]
      · rw [tr_w c2] at r3 r4 ⊢
        rw [tr_w c2]
        simp (disch := (first | with_reducible exact is_1 | with_reducible exact zi_at is_1 (by omega) (by omega) | ((with_reducible refine zct_le ?_) <;> exact Nat.le_of_ble_eq_true rfl) | with_reducible exact zh_0 | with_reducible exact zh_1 | with_reducible exact zh_b | omega)) only [q_125_28, q_125_31, q_125_34r, q_125_34n, q_125_35, q_125_36, q_125_38, q_125_39, q_125_42, q_125_44r, q_125_44n, q_125_45, q_125_46, q_125_48, q_125_49, q_125_52, q_125_54r, q_125_54n, q_125_55, q_125_56, q_125_58, q_125_59, q_125_62, q_125_64r, q_125_64n, q_125_65, q_125_66, q_125_68, q_125_69, q_125_72, q_125_74, q_125_76, q_125_79, q_125_80, q_125_83, q_125_85, q_125_88, q_125_89, q_125_92, q_125_95, q_125_96, q_125_97, q_125_100, q_125_102, q_125_104, q_125_105, q_125_108, q_125_109, q_125_110, q_125_113, q_125_115, q_125_117, q_125_118, q_125_121, q_125_122, q_125_123, q_125_126, q_125_128, q_125_130, q_125_131, q_125_134, q_125_136, q_125_138, q_125_139, q_125_142, q_125_143, q_125_144, q_125_147, q_125_150, q_125_151, q_125_154r, q_125_154n, q_125_155, q_125_156, q_125_157, q_125_160, q_125_162, q_125_165, q_125_166, q_125_169, q_125_170, vf_s, vf_n, zk2_none, zk2_int, zk2_ref, zk2_null, zk2_long, zct_nil, zct_i, zct_l, zct_r, zct_n, Option.bind_some, Option.toList_some, Option.toList_none, List.cons_append, List.nil_append, zor_l, zor_r, if_true, if_false, ↓reduceIte, zi_lit, zi_of, zi_add, zi_mul, zi_sub, zi_nat, zi_leT, zi_leF, zi_ltT, zi_ltF, zi_eqT, zi_eqF, zif_0z, zif_bz, zi_01l, zi_01r, not_true_eq_false, not_false_eq_true, Nat.reduceAdd, Nat.reduceMul, Nat.reduceSub, r1, r2, r3, r4, en, n1]
    · rw [tr_w c1] at r1 r2 ⊢
      rw [tr_w c1]
      simp (disch := (first | with_reducible exact is_1 | with_reducible exact zi_at is_1 (by omega) (by omega) | ((with_reducible refine zct_le ?_) <;> exact Nat.le_of_ble_eq_true rfl) | with_reducible exact zh_0 | with_reducible exact zh_1 | with_reducible exact zh_b | omega)) only [q_125_28, q_125_31, q_125_34r, q_125_34n, q_125_35, q_125_36, q_125_38, q_125_39, q_125_42, q_125_44r, q_125_44n, q_125_45, q_125_46, q_125_48, q_125_49, q_125_52, q_125_54r, q_125_54n, q_125_55, q_125_56, q_125_58, q_125_59, q_125_62, q_125_64r, q_125_64n, q_125_65, q_125_66, q_125_68, q_125_69, q_125_72, q_125_74, q_125_76, q_125_79, q_125_80, q_125_83, q_125_85, q_125_88, q_125_89, q_125_92, q_125_95, q_125_96, q_125_97, q_125_100, q_125_102, q_125_104, q_125_105, q_125_108, q_125_109, q_125_110, q_125_113, q_125_115, q_125_117, q_125_118, q_125_121, q_125_122, q_125_123, q_125_126, q_125_128, q_125_130, q_125_131, q_125_134, q_125_136, q_125_138, q_125_139, q_125_142, q_125_143, q_125_144, q_125_147, q_125_150, q_125_151, q_125_154r, q_125_154n, q_125_155, q_125_156, q_125_157, q_125_160, q_125_162, q_125_165, q_125_166, q_125_169, q_125_170, vf_s, vf_n, zk2_none, zk2_int, zk2_ref, zk2_null, zk2_long, zct_nil, zct_i, zct_l, zct_r, zct_n, Option.bind_some, Option.toList_some, Option.toList_none, List.cons_append, List.nil_append, zor_l, zor_r, if_true, if_false, ↓reduceIte, zi_lit, zi_of, zi_add, zi_mul, zi_sub, zi_nat, zi_leT, zi_leF, zi_ltT, zi_ltF, zi_eqT, zi_eqF, zif_0z, zif_bz, zi_01l, zi_01r, not_true_eq_false, not_false_eq_true, Nat.reduceAdd, Nat.reduceMul, Nat.reduceSub, r1, r2, r3, r4, en]
theorem v_compares (h : ST mi g lo hi u NN KK VV) (he : e < 4) (hn : 0 < NN e) (he' : e' < 4) (hn' : 0 < NN e') : Qr Ls 125 [.int (zi e), .int (zi e')] (.int (zi 1)) mi mj g := by
  have hb := h.2.1
  have hu := h.2.2.1
  have hx := (h.2.2.2.2.2 e he).2.2.2 hn
  have hx' := (h.2.2.2.2.2 e' he').2.2.2 hn'
  obtain ⟨mi1, mj1, g1, r1, k1, o1⟩ := s_95 (Ls := Ls) (mj := mj) h he hn he' hn'
  have h1 := h.kp k1 o1
  generalize hD : topE lo hi u (catK (KK e) (KK e') (NN e) (NN e')) (catV (VV e) (VV e') (NN e) (NN e')) (NN e + NN e' + 1) = D at r1
  by_cases cz : D.1 = zi 0
  · have key : ∀ r, cpV D = r → (r = zi 0 ∨ r = zi 1 ∨ r = zi 2 ∨ r = zi 3) → Qr Ls 125 [.int (zi e), .int (zi e')] (.int (zi 1)) mi mj g := by
      intro r hr hr4
      obtain ⟨mi2, mj2, g2, q1, q2, q3⟩ := cl_1 (Ls := Ls) (lo := lo) (hi := hi) (u := u) (KK := KK) (VV := VV) (r := r) he hn he' hn' hr4 (fun y s1 s2 => by
        have hpt := spv_in (y := y) hb
        obtain ⟨M, Z1, Z2, hM, t1, t2, t3⟩ := cp3 (pt := spv lo hi y) hb hpt (spv_at (y := y) hb) hu hx hx'
        rw [hD] at t1
        obtain ⟨-, -, ⟨a1, a2⟩, -⟩ := t1 cz
        obtain ⟨-, -, ⟨b1, b2⟩, -⟩ := t2 s1
        obtain ⟨-, -, ⟨d1, d2⟩, -⟩ := t3 s2
        have lt : ∀ {x y : Int}, M * x < M * y → x < y := fun {x y} hxy => by
          apply Int.not_le.mp
          intro hle
          have := nn_mul (N := M) (by omega) hle
          omega
        rcases cp_val cz with ⟨c, c1⟩ | ⟨c, c1⟩ | ⟨c, c1, c2⟩ | c
        · have hp := Int.mul_pos hM c1
          refine ⟨fun _ => lt (by omega), fun q => ?_, fun q => ?_⟩
          · rw [← hr, c] at q; exact absurd q (by decide)
          · rw [← hr, c] at q; exact absurd q (by decide)
        · have hp := Int.mul_pos hM (show 0 < -(fhigh D.2).toInt by omega)
          rw [Int.mul_neg] at hp
          refine ⟨fun q => ?_, fun _ => lt (by omega), fun q => ?_⟩
          · rw [← hr, c] at q; exact absurd q (by decide)
          · rw [← hr, c] at q; exact absurd q (by decide)
        · rw [c1, Int.mul_zero] at a1
          rw [c2, Int.mul_zero] at a2
          refine ⟨fun q => ?_, fun q => ?_, fun _ => ⟨le_of_mulN hM (by omega), le_of_mulN hM (by omega)⟩⟩
          · rw [← hr, c] at q; exact absurd q (by decide)
          · rw [← hr, c] at q; exact absurd q (by decide)
        · refine ⟨fun q => ?_, fun q => ?_, fun q => ?_⟩
          all_goals rw [← hr, c] at q; exact absurd q (by decide)) 6 0 (by omega) mi1 mj1 g1 none none none none h1
      refine ⟨mi2, mj2, g2, ?_, k1.tr q2, q3⟩
      rw [hr] at r1
      rw [Nat.mul_zero, Nat.add_zero] at q1
      rcases hr4 with rfl | rfl | rfl | rfl
      all_goals
        simp (disch := (first | with_reducible exact is_1 | with_reducible exact zi_at is_1 (by omega) (by omega) | ((with_reducible refine zct_le ?_) <;> exact Nat.le_of_ble_eq_true rfl) | with_reducible exact zh_0 | with_reducible exact zh_1 | with_reducible exact zh_b | omega)) only [e_125, q_125_0r, q_125_0n, q_125_1, q_125_2, q_125_3, q_125_6, q_125_7, q_125_8, q_125_11, q_125_12, q_125_14, q_125_17, q_125_18, q_125_21, q_125_22, q_125_23, q_125_24, vf_s, vf_n, zk2_none, zk2_int, zk2_ref, zk2_null, zk2_long, zct_nil, zct_i, zct_l, zct_r, zct_n, Option.bind_some, Option.toList_some, Option.toList_none, List.cons_append, List.nil_append, zor_l, zor_r, if_true, if_false, ↓reduceIte, zi_lit, zi_of, zi_add, zi_mul, zi_sub, zi_nat, zi_leT, zi_leF, zi_ltT, zi_ltF, zi_eqT, zi_eqF, zif_0z, zif_bz, zi_01l, zi_01r, not_true_eq_false, not_false_eq_true, Nat.reduceAdd, Nat.reduceMul, Nat.reduceSub, r1]
        exact q1
    rcases cp_val cz with ⟨c, -⟩ | ⟨c, -⟩ | ⟨c, -⟩ | c
    · exact key _ c (Or.inr (Or.inl rfl))
    · exact key _ c (Or.inr (Or.inr (Or.inl rfl)))
    · exact key _ c (Or.inr (Or.inr (Or.inr rfl)))
    · exact key _ c (Or.inl rfl)
  · rw [cp_w cz] at r1
    refine ⟨mi1, mj1, g1, ?_, k1, o1⟩
    have w5 : ¬ zi 0 ≤ -zi 5 := by decide
    simp (disch := (first | with_reducible exact is_1 | with_reducible exact zi_at is_1 (by omega) (by omega) | ((with_reducible refine zct_le ?_) <;> exact Nat.le_of_ble_eq_true rfl) | with_reducible exact zh_0 | with_reducible exact zh_1 | with_reducible exact zh_b | omega)) only [e_125, q_125_0r, q_125_0n, q_125_1, q_125_2, q_125_3, q_125_6, q_125_7, q_125_8, q_125_11, q_125_12, q_125_14, q_125_17, q_125_18, q_125_21, q_125_22, q_125_23, q_125_24, vf_s, vf_n, zk2_none, zk2_int, zk2_ref, zk2_null, zk2_long, zct_nil, zct_i, zct_l, zct_r, zct_n, Option.bind_some, Option.toList_some, Option.toList_none, List.cons_append, List.nil_append, zor_l, zor_r, if_true, if_false, ↓reduceIte, zi_lit, zi_of, zi_add, zi_mul, zi_sub, zi_nat, zi_leT, zi_leF, zi_ltT, zi_ltF, zi_eqT, zi_eqF, zif_0z, zif_bz, zi_01l, zi_01r, not_true_eq_false, not_false_eq_true, Nat.reduceAdd, Nat.reduceMul, Nat.reduceSub, r1, w5]
end
