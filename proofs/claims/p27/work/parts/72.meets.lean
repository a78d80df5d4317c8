/-! ===== the law: what is sampled meets what is told of the box ===== -/
theorem and3' (y : Int32) : y &&& zi 3 = zi 0 ∨ y &&& zi 3 = zi 1 ∨ y &&& zi 3 = zi 2 ∨ y &&& zi 3 = zi 3 := by
  obtain ⟨p, hp, e⟩ := and3 y
  rw [e]
  rcases (show p = 0 ∨ p = 1 ∨ p = 2 ∨ p = 3 by omega) with rfl | rfl | rfl | rfl
  · exact Or.inl rfl
  · exact Or.inr (Or.inl rfl)
  · exact Or.inr (Or.inr (Or.inl rfl))
  · exact Or.inr (Or.inr (Or.inr rfl))
section
variable {lo hi V : Nat → Int32} {K : Nat → Nat} {u N : Nat} {y : Int32} {S T : En} {b : Bx}
theorem spv_at (h : boxIn lo hi) : inB lo hi (fun k => (spv lo hi y k).toInt) := by
  intro k hk
  obtain ⟨h1, h2, h3⟩ := h k hk
  exact plc_in h1 h2 h3
/-- a sample and a form over a box around the point -/
theorem smp (h : boxIn lo hi) (hu : u ≤ 8) (hx : exOne K V N) (hb : boxIn b.1 b.2) (hp : inB b.1 b.2 (fun k => (spv lo hi y k).toInt)) (hS : (topE (spv lo hi y) (spv lo hi y) u K V N).1 = zi 0) (hT : (topE b.1 b.2 u K V N).1 = zi 0) : (flow (topE (spv lo hi y) (spv lo hi y) u K V N).2).toInt ≤ (fhigh (topE b.1 b.2 u K V N).2).toInt ∧ (flow (topE b.1 b.2 u K V N).2).toInt ≤ (fhigh (topE (spv lo hi y) (spv lo hi y) u K V N).2).toInt ∧ (flow (topE (spv lo hi y) (spv lo hi y) u K V N).2).toInt ≤ ((topE b.1 b.2 u K V N).2 15).toInt ∧ ((topE b.1 b.2 u K V N).2 0 - frad (topE b.1 b.2 u K V N).2 12).toInt ≤ (fhigh (topE (spv lo hi y) (spv lo hi y) u K V N).2).toInt ∧ (flow (topE (spv lo hi y) (spv lo hi y) u K V N).2).toInt ≤ (fhigh (topE (spv lo hi y) (spv lo hi y) u K V N).2).toInt := by
  have hpt := spv_in (y := y) h
  have hq : inB (spv lo hi y) (spv lo hi y) (fun k => (spv lo hi y k).toInt) := fun k _ => ⟨Int.le_refl _, Int.le_refl _⟩
  obtain ⟨M, Z, hM, s1, s2⟩ := tw hb hpt hp hq hu hx
  obtain ⟨o1, ⟨a1, a2⟩, ⟨a3, a4⟩, a5, a6⟩ := s1 hT
  obtain ⟨o2, ⟨b1, b2⟩, ⟨b3, b4⟩, b5, b6⟩ := s2 hS
  have h0 := o1.1 0 (by omega)
  have hr0 := o1.2.2.1
  have hr1 := o1.2.2.2.1
  have d1 : ((topE b.1 b.2 u K V N).2 0 - frad (topE b.1 b.2 u K V N).2 12).toInt = ((topE b.1 b.2 u K V N).2 0).toInt - (frad (topE b.1 b.2 u K V N).2 12).toInt := zj_sub (by omega) (by omega)
  rw [d1]
  exact ⟨le_of_mulN hM (Int.le_trans b3 a4), le_of_mulN hM (Int.le_trans a3 b4), le_of_mulN hM (Int.le_trans b3 a2), le_of_mulN hM (Int.le_trans a5 b4), o2.2.2.2.2⟩
/-- two forms over boxes with a point in common -/
theorem two_fit {c : Bx} {p : Nat → Int} (hu : u ≤ 8) (hx : exOne K V N) (hb : boxIn b.1 b.2) (hc : boxIn c.1 c.2) (pb : inB b.1 b.2 p) (pc : inB c.1 c.2 p) (hB : (topE b.1 b.2 u K V N).1 = zi 0) (hC : (topE c.1 c.2 u K V N).1 = zi 0) : (flow (topE b.1 b.2 u K V N).2).toInt ≤ (fhigh (topE c.1 c.2 u K V N).2).toInt := by
  obtain ⟨M, Z, hM, s1, s2⟩ := tw hb hc pb pc hu hx
  obtain ⟨-, -, ⟨a3, -⟩, -⟩ := s1 hB
  obtain ⟨-, -, ⟨-, b4⟩, -⟩ := s2 hC
  exact le_of_mulN hM (Int.le_trans a3 b4)
theorem smp_ok (h : boxIn lo hi) (hu : u ≤ 8) (hx : exOne K V N) (hS : (topE (spv lo hi y) (spv lo hi y) u K V N).1 = zi 0) : -1000000000 ≤ (flow (topE (spv lo hi y) (spv lo hi y) u K V N).2).toInt ∧ -1000000000 ≤ (fhigh (topE (spv lo hi y) (spv lo hi y) u K V N).2).toInt := by
  have := fOk_rg (top_ok (spv_in (y := y) h) hu hx hS)
  omega
end
section
variable {Ls : Nat} {g : Nat → Nat} {mi mi' : zI} {mj mj' : zJ} {a b e n p q k c m u s : Nat} {v w x y : Int32} {lo hi : Nat → Int32} {NN : Nat → Nat} {KK : Nat → Nat → Nat} {VV : Nat → Nat → Int32} {T : En}
theorem ml_1 (he : e < 4) (hn : 0 < NN e) (hw : (topE lo hi u (KK e) (VV e) (NN e)).1 = zi 0) (j : Nat) : ∀ n, n + j = 6 → ∀ mi mj g l4 l5 l7, ST mi g lo hi u NN KK VV → ∃ mi' mj' g', zRun 120 12 [some (.ref 1), some (.int (zi e)), some (.int v), some (.int (zi n)), l4, l5, none, l7, none] [] (SH Ls) mi mj (RF g) = some (some (.int (zi 1)), SH Ls, mi', mj', RF g') ∧ Kp mi mi' ∧ gOk g' := by
  induction j with
  | zero =>
    intro n hj mi mj g l4 l5 l7 h
    obtain rfl : n = 6 := by omega
    refine ⟨mi, mj, g, ?_, Kp.rf, h.1⟩
    rw [q_120_12]
    simp (disch := (first | ((with_reducible refine zct_le ?_) <;> exact Nat.le_of_ble_eq_true rfl) | with_reducible exact zh_0 | with_reducible exact zh_1 | with_reducible exact zh_b | omega)) only [q_120_13, q_120_15, q_120_18, q_120_19, q_120_20, q_120_21, q_120_22, q_120_23, q_120_26, q_120_29, q_120_31r, q_120_31n, q_120_32, q_120_33, q_120_35, q_120_36, q_120_39, q_120_41r, q_120_41n, q_120_42, q_120_43, q_120_45, q_120_46, q_120_49, q_120_51, q_120_53, q_120_56, q_120_57, q_120_60, q_120_63, q_120_65, q_120_67, q_120_68, q_120_71, q_120_73r, q_120_73n, q_120_74, q_120_75, q_120_76, q_120_77, q_120_80, q_120_81, q_120_84, q_120_86r, q_120_86n, q_120_87, q_120_88, q_120_89, q_120_90, q_120_93, q_120_94, q_120_97, q_120_99r, q_120_99n, q_120_100, q_120_101, q_120_102, q_120_103, q_120_106, q_120_107, q_120_110, q_120_112r, q_120_112n, q_120_113, q_120_114, q_120_115, q_120_116, q_120_119, q_120_120, q_120_123, q_120_124, q_120_125, q_120_128, q_120_131, q_120_132, vf_s, vf_n, zk2_none, zk2_int, zk2_ref, zk2_null, zk2_long, zct_nil, zct_i, zct_l, zct_r, zct_n, Option.bind_some, Option.toList_some, Option.toList_none, List.cons_append, List.nil_append, zor_l, zor_r, if_true, if_false, ↓reduceIte, zi_lit, zi_of, zi_add, zi_mul, zi_sub, zi_nat, zi_leT, zi_leF, zi_ltT, zi_ltF, zi_eqT, zi_eqF, zif_0z, zif_bz, zi_01l, zi_01r, not_true_eq_false, not_false_eq_true, Nat.reduceAdd, Nat.reduceMul, Nat.reduceSub]
  | succ j ih =>
    intro n hj mi mj g l4 l5 l7 h
    have hb := h.2.1
    have hu := h.2.2.1
    have hx := (h.2.2.2.2.2 e he).2.2.2 hn
    have m1 := m_116 (Ls := Ls) (g := g) (mi := mi) (mj := mj) (v := v >>> (zi (4 * n) &&& zi 31)) (m := 256) (by omega) (by omega)
    have hl := upF_lt (v := v >>> (zi (4 * n) &&& zi 31)) (m := 256) (by omega)
    generalize upF (v >>> (zi (4 * n) &&& zi 31)) 256 = r at m1 hl
    obtain ⟨mi1, mj1, g1, r1, k1, o1⟩ := s_94 (Ls := Ls) (mj := mj) (a := r) (b := 0) h he hn (by omega) (by omega)
    have h1 := h.kp k1 o1
    obtain ⟨mi2, mj2, g2, r2, k2, o2⟩ := s_94 (Ls := Ls) (mj := mj1) (a := r) (b := 1) h1 he hn (by omega) (by omega)
    have h2 := h1.kp k2 o2
    have hsm := smp (y := zi r) (b := (lo, hi)) hb hu hx hb (spv_at hb)
    have hok := smp_ok (y := zi r) hb hu hx
    by_cases cs : (topE (spv lo hi (zi r)) (spv lo hi (zi r)) u (KK e) (VV e) (NN e)).1 = zi 0
    · rw [tr_0 cs] at r1
      rw [tr_1 cs] at r2
      obtain ⟨f1, f2, f3, f4, f5⟩ := hsm cs hw
      obtain ⟨f6, -⟩ := hok cs
      obtain ⟨mi3, mj3, g3, r3, k3, o3⟩ := s_89 (Ls := Ls) (mj := mj2) (a := 2) (b := 1) h2 he hn (by omega) (by omega)
      have h3 := h2.kp k3 o3
      rw [bd_21 hw] at r3
      obtain ⟨mi4, mj4, g4, r4, k4, o4⟩ := s_89 (Ls := Ls) (mj := mj3) (a := 2) (b := 0) h3 he hn (by omega) (by omega)
      have h4 := h3.kp k4 o4
      rw [bd_20 hw] at r4
      obtain ⟨mi5, mj5, g5, r5, k5, o5⟩ := s_89 (Ls := Ls) (mj := mj4) (a := 1) (b := 1) h4 he hn (by omega) (by omega)
      have h5 := h4.kp k5 o5
      rw [bd_11 hw] at r5
      obtain ⟨mi6, mj6, g6, r6, k6, o6⟩ := s_89 (Ls := Ls) (mj := mj5) (a := 0) (b := 0) h5 he hn (by omega) (by omega)
      have h6 := h5.kp k6 o6
      rw [bd_00 hw] at r6
      generalize flow (topE (spv lo hi (zi r)) (spv lo hi (zi r)) u (KK e) (VV e) (NN e)).2 = fl at *
      generalize fhigh (topE (spv lo hi (zi r)) (spv lo hi (zi r)) u (KK e) (VV e) (NN e)).2 = fh at *
      obtain ⟨mi7, mj7, g7, q1, q2, q3⟩ := ih (n + 1) (by omega) mi6 mj6 g6 (some (.int (zi r))) (some (.long fl)) (some (.long fh)) h6
      refine ⟨mi7, mj7, g7, ?_, (((((k1.tr k2).tr k3).tr k4).tr k5).tr k6).tr q2, q3⟩
      have n5 := j_ne5 (x := fl) f6
      have w1 : fl ≤ fh := by rw [zj_le]; exact f5
      have w2 : fl ≤ fhigh (topE lo hi u (KK e) (VV e) (NN e)).2 := by rw [zj_le]; exact f1
      have w3 : ¬ fh < flow (topE lo hi u (KK e) (VV e) (NN e)).2 := by rw [zj_lt]; have f2 : (flow (topE lo hi u (KK e) (VV e) (NN e)).2).toInt ≤ fh.toInt := f2; omega
      have w4 : fl ≤ (topE lo hi u (KK e) (VV e) (NN e)).2 15 := by rw [zj_le]; exact f3
      have w5 : (topE lo hi u (KK e) (VV e) (NN e)).2 0 - frad (topE lo hi u (KK e) (VV e) (NN e)).2 12 ≤ fh := by rw [zj_le]; exact f4
      have jn : ∀ {a b : Int64}, a ≤ b → ¬ b < a := fun {a b} h => by rw [zj_le] at h; rw [zj_lt]; omega
      rw [← q1, q_120_12]
      simp (disch := (first | with_reducible exact is_1 | with_reducible exact zi_at is_1 (by omega) (by omega) | ((with_reducible refine zct_le ?_) <;> exact Nat.le_of_ble_eq_true rfl) | with_reducible exact zh_0 | with_reducible exact zh_1 | with_reducible exact zh_b | omega)) only [q_120_13, q_120_15, q_120_18, q_120_19, q_120_20, q_120_21, q_120_22, q_120_23, q_120_26, q_120_29, q_120_31r, q_120_31n, q_120_32, q_120_33, q_120_35, q_120_36, q_120_39, q_120_41r, q_120_41n, q_120_42, q_120_43, q_120_45, q_120_46, q_120_49, q_120_51, q_120_53, q_120_56, q_120_57, q_120_60, q_120_63, q_120_65, q_120_67, q_120_68, q_120_71, q_120_73r, q_120_73n, q_120_74, q_120_75, q_120_76, q_120_77, q_120_80, q_120_81, q_120_84, q_120_86r, q_120_86n, q_120_87, q_120_88, q_120_89, q_120_90, q_120_93, q_120_94, q_120_97, q_120_99r, q_120_99n, q_120_100, q_120_101, q_120_102, q_120_103, q_120_106, q_120_107, q_120_110, q_120_112r, q_120_112n, q_120_113, q_120_114, q_120_115, q_120_116, q_120_119, q_120_120, q_120_123, q_120_124, q_120_125, q_120_128, q_120_131, q_120_132, vf_s, vf_n, zk2_none, zk2_int, zk2_ref, zk2_null, zk2_long, zct_nil, zct_i, zct_l, zct_r, zct_n, Option.bind_some, Option.toList_some, Option.toList_none, List.cons_append, List.nil_append, zor_l, zor_r, if_true, if_false, ↓reduceIte, zi_lit, zi_of, zi_add, zi_mul, zi_sub, zi_nat, zi_leT, zi_leF, zi_ltT, zi_ltF, zi_eqT, zi_eqF, zif_0z, zif_bz, zi_01l, zi_01r, not_true_eq_false, not_false_eq_true, Nat.reduceAdd, Nat.reduceMul, Nat.reduceSub, m1, r1, r2, r3, r4, r5, r6, n5, w1, w2, w3, w4, w5, jn w1, jn w2, jn w4]
    · rw [tr_w cs] at r1 r2
      obtain ⟨mi7, mj7, g7, q1, q2, q3⟩ := ih (n + 1) (by omega) mi2 mj2 g2 (some (.int (zi r))) (some (.long (-1000000000000000005))) (some (.long (-1000000000000000005))) h2
      refine ⟨mi7, mj7, g7, ?_, (k1.tr k2).tr q2, q3⟩
      have jn : ∀ {a b : Int64}, a ≤ b → ¬ b < a := fun {a b} h => by rw [zj_le] at h; rw [zj_lt]; omega
      rw [← q1, q_120_12]
      simp (disch := (first | with_reducible exact is_1 | with_reducible exact zi_at is_1 (by omega) (by omega) | ((with_reducible refine zct_le ?_) <;> exact Nat.le_of_ble_eq_true rfl) | with_reducible exact zh_0 | with_reducible exact zh_1 | with_reducible exact zh_b | omega)) only [q_120_13, q_120_15, q_120_18, q_120_19, q_120_20, q_120_21, q_120_22, q_120_23, q_120_26, q_120_29, q_120_31r, q_120_31n, q_120_32, q_120_33, q_120_35, q_120_36, q_120_39, q_120_41r, q_120_41n, q_120_42, q_120_43, q_120_45, q_120_46, q_120_49, q_120_51, q_120_53, q_120_56, q_120_57, q_120_60, q_120_63, q_120_65, q_120_67, q_120_68, q_120_71, q_120_73r, q_120_73n, q_120_74, q_120_75, q_120_76, q_120_77, q_120_80, q_120_81, q_120_84, q_120_86r, q_120_86n, q_120_87, q_120_88, q_120_89, q_120_90, q_120_93, q_120_94, q_120_97, q_120_99r, q_120_99n, q_120_100, q_120_101, q_120_102, q_120_103, q_120_106, q_120_107, q_120_110, q_120_112r, q_120_112n, q_120_113, q_120_114, q_120_115, q_120_116, q_120_119, q_120_120, q_120_123, q_120_124, q_120_125, q_120_128, q_120_131, q_120_132, vf_s, vf_n, zk2_none, zk2_int, zk2_ref, zk2_null, zk2_long, zct_nil, zct_i, zct_l, zct_r, zct_n, Option.bind_some, Option.toList_some, Option.toList_none, List.cons_append, List.nil_append, zor_l, zor_r, if_true, if_false, ↓reduceIte, zi_lit, zi_of, zi_add, zi_mul, zi_sub, zi_nat, zi_leT, zi_leF, zi_ltT, zi_ltF, zi_eqT, zi_eqF, zif_0z, zif_bz, zi_01l, zi_01r, not_true_eq_false, not_false_eq_true, Nat.reduceAdd, Nat.reduceMul, Nat.reduceSub, m1, r1, r2]
theorem v_meets (h : ST mi g lo hi u NN KK VV) (he : e < 4) (hn : 0 < NN e) : Qr Ls 120 [.int (zi e), .int v] (.int (zi 1)) mi mj g := by
  obtain ⟨mi1, mj1, g1, r1, k1, o1⟩ := s_88 (Ls := Ls) (mj := mj) h he hn
  have h1 := h.kp k1 o1
  have hwy : whyOk (topE lo hi u (KK e) (VV e) (NN e)).1 := wy_top
  by_cases cw : (topE lo hi u (KK e) (VV e) (NN e)).1 = zi 0
  · obtain ⟨mi2, mj2, g2, r2, k2, o2⟩ := ml_1 (Ls := Ls) (v := v) he hn cw 6 0 (by omega) mi1 mj1 g1 none none none h1
    refine ⟨mi2, mj2, g2, ?_, k1.tr k2, o2⟩
    rw [cw] at r1
    simp (disch := (first | with_reducible exact is_1 | with_reducible exact zi_at is_1 (by omega) (by omega) | ((with_reducible refine zct_le ?_) <;> exact Nat.le_of_ble_eq_true rfl) | with_reducible exact zh_0 | with_reducible exact zh_1 | with_reducible exact zh_b | omega)) only [e_120, q_120_0r, q_120_0n, q_120_1, q_120_2, q_120_5, q_120_8, q_120_9, q_120_10, q_120_11, vf_s, vf_n, zk2_none, zk2_int, zk2_ref, zk2_null, zk2_long, zct_nil, zct_i, zct_l, zct_r, zct_n, Option.bind_some, Option.toList_some, Option.toList_none, List.cons_append, List.nil_append, zor_l, zor_r, if_true, if_false, ↓reduceIte, zi_lit, zi_of, zi_add, zi_mul, zi_sub, zi_nat, zi_leT, zi_leF, zi_ltT, zi_ltF, zi_eqT, zi_eqF, zif_0z, zif_bz, zi_01l, zi_01r, not_true_eq_false, not_false_eq_true, Nat.reduceAdd, Nat.reduceMul, Nat.reduceSub, r1]
    exact r2
  · refine ⟨mi1, mj1, g1, ?_, k1, o1⟩
    have hp : ¬ (topE lo hi u (KK e) (VV e) (NN e)).1 ≤ zi 0 := by rw [wy_pos hwy]; exact cw
    simp (disch := (first | with_reducible exact is_1 | with_reducible exact zi_at is_1 (by omega) (by omega) | ((with_reducible refine zct_le ?_) <;> exact Nat.le_of_ble_eq_true rfl) | with_reducible exact zh_0 | with_reducible exact zh_1 | with_reducible exact zh_b | omega)) only [e_120, q_120_0r, q_120_0n, q_120_1, q_120_2, q_120_5, q_120_8, q_120_9, q_120_10, q_120_11, vf_s, vf_n, zk2_none, zk2_int, zk2_ref, zk2_null, zk2_long, zct_nil, zct_i, zct_l, zct_r, zct_n, Option.bind_some, Option.toList_some, Option.toList_none, List.cons_append, List.nil_append, zor_l, zor_r, if_true, if_false, ↓reduceIte, zi_lit, zi_of, zi_add, zi_mul, zi_sub, zi_nat, zi_leT, zi_leF, zi_ltT, zi_ltF, zi_eqT, zi_eqF, zif_0z, zif_bz, zi_01l, zi_01r, not_true_eq_false, not_false_eq_true, Nat.reduceAdd, Nat.reduceMul, Nat.reduceSub, r1, hp]
end
