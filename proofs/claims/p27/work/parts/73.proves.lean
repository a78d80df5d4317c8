/-! ===== the law: what is proved holds at samples, what is refuted fails in the middle of the last box ===== -/
theorem i64_32 (x : Int32) : x.toInt64.toInt32 = x := Int32.toInt32_toInt64 x
def Kl (mi mi' : zI) : Prop := mi' 0 = mi 0 ∧ mi' 1 1 = mi 1 1
theorem Kl.rf {mi : zI} : Kl mi mi := ⟨rfl, rfl⟩
theorem Kl.tr {mi mi1 mi2 : zI} (h : Kl mi mi1) (h2 : Kl mi1 mi2) : Kl mi mi2 := ⟨h2.1.trans h.1, h2.2.trans h.2⟩
theorem Kp.l {mi mi' : zI} (h : Kp mi mi') : Kl mi mi' := ⟨h 0 (by omega), by rw [h 1 (by omega)]⟩
theorem FrC.l {mi mi' : zI} (h : FrC mi mi') : Kl mi mi' := ⟨h.1 0 (by omega), h.2 1 (by omega)⟩
section
variable {lo hi lo' hi' V : Nat → Int32} {K : Nat → Nat} {u n d : Nat} {v : Int32} {E : Nat → En} {mi : zI} {c : Nat} {NN : Nat → Nat} {KK : Nat → Nat → Nat} {VV : Nat → Nat → Int32}
theorem mkE_ext (h : ∀ k, k < 4 → lo k = lo' k ∧ hi k = hi' k) : mkE lo hi n v d E = mkE lo' hi' n v d E := by
  unfold mkE
  by_cases c0 : n = 0
  · rw [if_pos c0, if_pos c0]
  · rw [if_neg c0, if_neg c0]
    by_cases c5 : n < 5
    · obtain ⟨h1, h2⟩ := h (n - 1) (by omega)
      rw [if_pos c5, if_pos c5, h1, h2]
    · rw [if_neg c5, if_neg c5]
theorem stk_box (h : ∀ k, k < 4 → lo k = lo' k ∧ hi k = hi' k) (n : Nat) : stk lo hi u K V n = stk lo' hi' u K V n := by
  induction n with
  | zero => rfl
  | succ n ih =>
    rw [stk, stk, ih]
    unfold stE
    rw [mkE_ext h]
theorem top_box (h : ∀ k, k < 4 → lo k = lo' k ∧ hi k = hi' k) : topE lo hi u K V n = topE lo' hi' u K V n := by
  unfold topE
  rw [stk_box h]
theorem stC.box (hs : stC mi c lo hi u NN KK VV) (h : ∀ k, k < 4 → lo k = lo' k ∧ hi k = hi' k) : stC mi c lo' hi' u NN KK VV := by
  obtain ⟨a1, a2, a3, a4⟩ := hs
  refine ⟨fun k hk => ?_, a2, fun k hk => ?_, a4⟩
  · obtain ⟨h1, h2⟩ := h k hk
    rw [← h1, ← h2]; exact a1 k hk
  · obtain ⟨h1, h2⟩ := h k hk
    rw [← h1, ← h2]; exact a3 k hk
theorem spv_mid {b : Bx} : ∀ k, k < 4 → spv b.1 b.2 (zi 170) k = mdB b k := by
  intro k hk
  have e : (zi 170 >>> (zi (2 * k) &&& zi 31)) &&& zi 3 = zi 2 := by
    rcases (show k = 0 ∨ k = 1 ∨ k = 2 ∨ k = 3 by omega) with rfl | rfl | rfl | rfl <;> decide
  show plc (b.1 k) (b.2 k) ((zi 170 >>> (zi (2 * k) &&& zi 31)) &&& zi 3) = _
  rw [e]
  rfl
end
section
variable {Ls : Nat} {g : Nat → Nat} {mi mi' : zI} {mj mj' : zJ} {a e n p q k c m u s z : Nat} {v w x y r : Int32} {lo hi : Nat → Int32} {NN : Nat → Nat} {KK : Nat → Nat → Nat} {VV : Nat → Nat → Int32} {T : En} {b : Bx}
theorem pt_l (h1 : mi 1 9 = zi p) (p1 : 1 ≤ p) (p2 : p ≤ 400) (hE : ∀ k, k < 4 → mi 103 k = mi 104 k) (j : Nat) : ∀ n, n + j = 4 → zRun 122 4 [some (.ref 1), some (.int (zi 1)), some (.int (zi n))] [] (SH Ls) mi mj (RF g) = some (some (.int (zi 1)), SH Ls, mi, mj, RF g) := by
  induction j with
  | zero =>
    intro n hj
    obtain rfl : n = 4 := by omega
    rw [q_122_4]
    simp (disch := (first | ((with_reducible refine zct_le ?_) <;> exact Nat.le_of_ble_eq_true rfl) | with_reducible exact zh_0 | with_reducible exact zh_1 | with_reducible exact zh_b | omega)) only [q_122_5, q_122_6, q_122_9, q_122_10, q_122_13r, q_122_13n, q_122_14, q_122_15, q_122_16, q_122_17, q_122_20r, q_122_20n, q_122_21, q_122_22, q_122_23, q_122_24, q_122_27, q_122_28, q_122_31, q_122_32, q_122_35, q_122_36, q_122_37, q_122_40, q_122_43, q_122_44, vf_s, vf_n, zk2_none, zk2_int, zk2_ref, zk2_null, zk2_long, zct_nil, zct_i, zct_l, zct_r, zct_n, Option.bind_some, Option.toList_some, Option.toList_none, List.cons_append, List.nil_append, zor_l, zor_r, if_true, if_false, ↓reduceIte, zi_lit, zi_of, zi_add, zi_mul, zi_sub, zi_nat, zi_leT, zi_leF, zi_ltT, zi_ltF, zi_eqT, zi_eqF, zif_0z, zif_bz, zi_01l, zi_01r, not_true_eq_false, not_false_eq_true, Nat.reduceAdd, Nat.reduceMul, Nat.reduceSub]
  | succ j ih =>
    intro n hj
    have s1 := s_97l (Ls := Ls) (g := g) (mj := mj) (a := n) h1 p1 p2 (by omega)
    have s2 := s_97h (Ls := Ls) (g := g) (mj := mj) (a := n) h1 p1 p2 (by omega)
    rw [← hE n (by omega)] at s2
    rw [← ih (n + 1) (by omega), q_122_4]
    simp (disch := (first | with_reducible exact is_1 | with_reducible exact zi_at is_1 (by omega) (by omega) | ((with_reducible refine zct_le ?_) <;> exact Nat.le_of_ble_eq_true rfl) | with_reducible exact zh_0 | with_reducible exact zh_1 | with_reducible exact zh_b | omega)) only [q_122_5, q_122_6, q_122_9, q_122_10, q_122_13r, q_122_13n, q_122_14, q_122_15, q_122_16, q_122_17, q_122_20r, q_122_20n, q_122_21, q_122_22, q_122_23, q_122_24, q_122_27, q_122_28, q_122_31, q_122_32, q_122_35, q_122_36, q_122_37, q_122_40, q_122_43, q_122_44, vf_s, vf_n, zk2_none, zk2_int, zk2_ref, zk2_null, zk2_long, zct_nil, zct_i, zct_l, zct_r, zct_n, Option.bind_some, Option.toList_some, Option.toList_none, List.cons_append, List.nil_append, zor_l, zor_r, if_true, if_false, ↓reduceIte, zi_lit, zi_of, zi_add, zi_mul, zi_sub, zi_nat, zi_leT, zi_leF, zi_ltT, zi_ltF, zi_eqT, zi_eqF, zif_0z, zif_bz, zi_01l, zi_01r, not_true_eq_false, not_false_eq_true, Nat.reduceAdd, Nat.reduceMul, Nat.reduceSub, s1, s2]
theorem m_122 (h1 : mi 1 9 = zi p) (p1 : 1 ≤ p) (p2 : p ≤ 400) (hE : ∀ k, k < 4 → mi 103 k = mi 104 k) : zCall 122 [.ref 1] (SH Ls) mi mj (RF g) = some (some (.int (zi 1)), SH Ls, mi, mj, RF g) := by
  simp (disch := (first | ((with_reducible refine zct_le ?_) <;> exact Nat.le_of_ble_eq_true rfl) | with_reducible exact zh_0 | with_reducible exact zh_1 | with_reducible exact zh_b | omega)) only [e_122, q_122_0, q_122_1, q_122_2, q_122_3, vf_s, vf_n, zk2_none, zk2_int, zk2_ref, zk2_null, zk2_long, zct_nil, zct_i, zct_l, zct_r, zct_n, Option.bind_some, Option.toList_some, Option.toList_none, List.cons_append, List.nil_append, zor_l, zor_r, if_true, if_false, ↓reduceIte, zi_lit, zi_of, zi_add, zi_mul, zi_sub, zi_nat, zi_leT, zi_leF, zi_ltT, zi_ltF, zi_eqT, zi_eqF, zif_0z, zif_bz, zi_01l, zi_01r, not_true_eq_false, not_false_eq_true, Nat.reduceAdd, Nat.reduceMul, Nat.reduceSub]
  exact pt_l h1 p1 p2 hE 4 0 (by omega)
theorem pv_lim : ∃ y : Int32, -1000000 ≤ y.toInt ∧ y.toInt ≤ 1000000 ∧ ∀ l3 l4 l5 l6 l7 l8 l9 l10 l11, zk2 l3 = l3 → zRun 121 0 [some (.ref 1), some (.int (zi e)), some (.int v), l3, l4, l5, l6, l7, l8, l9, l10, l11] [] (SH Ls) mi mj (RF g) = zRun 121 37 [some (.ref 1), some (.int (zi e)), some (.int v), l3, some (.int y), l5, l6, l7, l8, l9, l10, l11] [] (SH Ls) mi mj (RF g) := by
  have m1 := m_116 (Ls := Ls) (g := g) (mi := mi) (mj := mj) (v := v) (m := 2) (by omega) (by omega)
  have hl := upF_lt (v := v) (m := 2) (by omega)
  generalize upF v 2 = r at m1 hl
  have m2 := m_116 (Ls := Ls) (g := g) (mi := mi) (mj := mj) (v := v >>> (zi 1 &&& zi 31)) (m := 2000) (by omega) (by omega)
  have hl2 := upF_lt (v := v >>> (zi 1 &&& zi 31)) (m := 2000) (by omega)
  generalize upF (v >>> (zi 1 &&& zi 31)) 2000 = r2 at m2 hl2
  have m3 := m_116 (Ls := Ls) (g := g) (mi := mi) (mj := mj) (v := v >>> (zi 1 &&& zi 31)) (m := 200000) (by omega) (by omega)
  have hl3 := upF_lt (v := v >>> (zi 1 &&& zi 31)) (m := 200000) (by omega)
  generalize upF (v >>> (zi 1 &&& zi 31)) 200000 = r3 at m3 hl3
  have e2 := zi_toInt (a := r2) (by omega)
  have e3 := zi_toInt (a := r3) (by omega)
  have k1 : (zi 1000).toInt = 1000 := by decide
  have k2 : (zi 100000).toInt = 100000 := by decide
  rcases (show r = 0 ∨ r = 1 by omega) with rfl | rfl
  · have es : (zi r2 - zi 1000).toInt = (r2 : Int) - 1000 := by rw [Kit.i32_sub (by omega) (by omega), e2, k1]
    refine ⟨zi r2 - zi 1000, by omega, by omega, fun l3 l4 l5 l6 l7 l8 l9 l10 l11 h3 => ?_⟩
    simp (disch := (first | ((with_reducible refine zct_le ?_) <;> exact Nat.le_of_ble_eq_true rfl) | with_reducible exact zh_0 | with_reducible exact zh_1 | with_reducible exact zh_b | omega)) only [e_121, q_121_0, q_121_1, q_121_2, q_121_5, q_121_8, q_121_9, q_121_10, q_121_11, q_121_14, q_121_17, q_121_20, q_121_21, q_121_24, q_121_25, q_121_26, q_121_27, q_121_29, q_121_32, q_121_34, q_121_35, vf_s, vf_n, zk2_none, zk2_int, zk2_ref, zk2_null, zk2_long, zct_nil, zct_i, zct_l, zct_r, zct_n, Option.bind_some, Option.toList_some, Option.toList_none, List.cons_append, List.nil_append, zor_l, zor_r, if_true, if_false, ↓reduceIte, zi_lit, zi_of, zi_add, zi_mul, zi_sub, zi_nat, zi_leT, zi_leF, zi_ltT, zi_ltF, zi_eqT, zi_eqF, zif_0z, zif_bz, zi_01l, zi_01r, not_true_eq_false, not_false_eq_true, Nat.reduceAdd, Nat.reduceMul, Nat.reduceSub, m1, m2, h3]
  · have es : (zi r3 - zi 100000).toInt = (r3 : Int) - 100000 := by rw [Kit.i32_sub (by omega) (by omega), e3, k2]
    refine ⟨zi r3 - zi 100000, by omega, by omega, fun l3 l4 l5 l6 l7 l8 l9 l10 l11 h3 => ?_⟩
    simp (disch := (first | ((with_reducible refine zct_le ?_) <;> exact Nat.le_of_ble_eq_true rfl) | with_reducible exact zh_0 | with_reducible exact zh_1 | with_reducible exact zh_b | omega)) only [e_121, q_121_0, q_121_1, q_121_2, q_121_5, q_121_8, q_121_9, q_121_10, q_121_11, q_121_14, q_121_17, q_121_20, q_121_21, q_121_24, q_121_25, q_121_26, q_121_27, q_121_29, q_121_32, q_121_34, q_121_35, vf_s, vf_n, zk2_none, zk2_int, zk2_ref, zk2_null, zk2_long, zct_nil, zct_i, zct_l, zct_r, zct_n, Option.bind_some, Option.toList_some, Option.toList_none, List.cons_append, List.nil_append, zor_l, zor_r, if_true, if_false, ↓reduceIte, zi_lit, zi_of, zi_add, zi_mul, zi_sub, zi_nat, zi_leT, zi_leF, zi_ltT, zi_ltF, zi_eqT, zi_eqF, zif_0z, zif_bz, zi_01l, zi_01r, not_true_eq_false, not_false_eq_true, Nat.reduceAdd, Nat.reduceMul, Nat.reduceSub, m1, m3, h3]
/-- what is proved holds at samples -/
theorem pv_1 (he : e < 4) (hn : 0 < NN e) (hG : ∀ q, inB lo hi q → prG u (KK e) (VV e) (NN e) y q) {l5 l7 : Option Value} (j : Nat) : ∀ n, n + j = 6 → ∀ mi mj g l10, ST mi g lo hi u NN KK VV → ∃ mi' mj' g', zRun 121 117 [some (.ref 1), some (.int (zi e)), some (.int v), some (.int w), some (.int y), l5, some (.int (zi 1)), l7, none, some (.int (zi n)), l10, none] [] (SH Ls) mi mj (RF g) = some (some (.int (zi 1)), SH Ls, mi', mj', RF g') ∧ Kp mi mi' ∧ gOk g' := by
  induction j with
  | zero =>
    intro n hj mi mj g l10 h
    obtain rfl : n = 6 := by omega
    have hb := h.2.1
    have hu := h.2.2.1
    have hx := (h.2.2.2.2.2 e he).2.2.2 hn
    obtain ⟨mi1, mj1, g1, r1, k1, o1⟩ := s_88 (Ls := Ls) (mj := mj) h he hn
    have h1 := h.kp k1 o1
    have hwy : whyOk (topE lo hi u (KK e) (VV e) (NN e)).1 := wy_top
    by_cases cw : (topE lo hi u (KK e) (VV e) (NN e)).1 = zi 0
    · obtain ⟨mi2, mj2, g2, r2, k2, o2⟩ := s_89 (Ls := Ls) (mj := mj1) (a := 2) (b := 1) h1 he hn (by omega) (by omega)
      rw [bd_21 cw] at r2
      rw [cw] at r1
      refine ⟨mi2, mj2, g2, ?_, k1.tr k2, o2⟩
      have hp : inB lo hi (fun k => (lo k).toInt) := fun k hk => ⟨Int.le_refl _, (hb k hk).2.1⟩
      obtain ⟨b, b1, b2, b3, b4⟩ := hG _ hp
      have f := two_fit (c := (lo, hi)) hu hx b1 hb b2 hp b3 cw
      have w1 : ¬ fhigh (topE lo hi u (KK e) (VV e) (NN e)).2 ≤ y.toInt64 := by
        rw [zj_le]
        rw [zj_lt] at b4
        have f : (flow (topE b.1 b.2 u (KK e) (VV e) (NN e)).2).toInt ≤ (fhigh (topE lo hi u (KK e) (VV e) (NN e)).2).toInt := f
        omega
      rw [q_121_117]
      simp (disch := (first | with_reducible exact is_1 | with_reducible exact zi_at is_1 (by omega) (by omega) | ((with_reducible refine zct_le ?_) <;> exact Nat.le_of_ble_eq_true rfl) | with_reducible exact zh_0 | with_reducible exact zh_1 | with_reducible exact zh_b | omega)) only [q_121_119, q_121_121, q_121_124r, q_121_124n, q_121_125, q_121_126, q_121_127, q_121_128, q_121_130, q_121_131, q_121_132, q_121_135, q_121_138, q_121_139, q_121_142, q_121_144, q_121_146, q_121_149, q_121_150, q_121_153, q_121_155, q_121_157, q_121_158, q_121_159, q_121_162, q_121_163, q_121_164, q_121_167, q_121_170r, q_121_170n, q_121_171, q_121_172, q_121_175, q_121_178r, q_121_178n, q_121_179, q_121_180, q_121_181, q_121_182, q_121_185, q_121_187, q_121_188, q_121_189, q_121_192, q_121_193, q_121_196, q_121_197, vf_s, vf_n, zk2_none, zk2_int, zk2_ref, zk2_null, zk2_long, zct_nil, zct_i, zct_l, zct_r, zct_n, Option.bind_some, Option.toList_some, Option.toList_none, List.cons_append, List.nil_append, zor_l, zor_r, if_true, if_false, ↓reduceIte, zi_lit, zi_of, zi_add, zi_mul, zi_sub, zi_nat, zi_leT, zi_leF, zi_ltT, zi_ltF, zi_eqT, zi_eqF, zif_0z, zif_bz, zi_01l, zi_01r, not_true_eq_false, not_false_eq_true, Nat.reduceAdd, Nat.reduceMul, Nat.reduceSub, r1, r2, w1]
    · refine ⟨mi1, mj1, g1, ?_, k1, o1⟩
      have hp : ¬ (topE lo hi u (KK e) (VV e) (NN e)).1 ≤ zi 0 := by rw [wy_pos hwy]; exact cw
      have hp2 : zi 0 < (topE lo hi u (KK e) (VV e) (NN e)).1 := by rw [Int32.lt_iff_toInt_lt]; rw [Int32.le_iff_toInt_le] at hp; omega
      rw [q_121_117]
      simp (disch := (first | with_reducible exact is_1 | with_reducible exact zi_at is_1 (by omega) (by omega) | ((with_reducible refine zct_le ?_) <;> exact Nat.le_of_ble_eq_true rfl) | with_reducible exact zh_0 | with_reducible exact zh_1 | with_reducible exact zh_b | omega)) only [q_121_119, q_121_121, q_121_124r, q_121_124n, q_121_125, q_121_126, q_121_127, q_121_128, q_121_130, q_121_131, q_121_132, q_121_135, q_121_138, q_121_139, q_121_142, q_121_144, q_121_146, q_121_149, q_121_150, q_121_153, q_121_155, q_121_157, q_121_158, q_121_159, q_121_162, q_121_163, q_121_164, q_121_167, q_121_170r, q_121_170n, q_121_171, q_121_172, q_121_175, q_121_178r, q_121_178n, q_121_179, q_121_180, q_121_181, q_121_182, q_121_185, q_121_187, q_121_188, q_121_189, q_121_192, q_121_193, q_121_196, q_121_197, vf_s, vf_n, zk2_none, zk2_int, zk2_ref, zk2_null, zk2_long, zct_nil, zct_i, zct_l, zct_r, zct_n, Option.bind_some, Option.toList_some, Option.toList_none, List.cons_append, List.nil_append, zor_l, zor_r, if_true, if_false, ↓reduceIte, zi_lit, zi_of, zi_add, zi_mul, zi_sub, zi_nat, zi_leT, zi_leF, zi_ltT, zi_ltF, zi_eqT, zi_eqF, zif_0z, zif_bz, zi_01l, zi_01r, not_true_eq_false, not_false_eq_true, Nat.reduceAdd, Nat.reduceMul, Nat.reduceSub, r1, hp2]
  | succ j ih =>
    intro n hj mi mj g l10 h
    have hb := h.2.1
    have hu := h.2.2.1
    have hx := (h.2.2.2.2.2 e he).2.2.2 hn
    have m1 := m_116 (Ls := Ls) (g := g) (mi := mi) (mj := mj) (v := w >>> (zi (4 * n) &&& zi 31)) (m := 256) (by omega) (by omega)
    have hl := upF_lt (v := w >>> (zi (4 * n) &&& zi 31)) (m := 256) (by omega)
    generalize upF (w >>> (zi (4 * n) &&& zi 31)) 256 = r at m1 hl
    obtain ⟨mi2, mj2, g2, r2, k2, o2⟩ := s_94 (Ls := Ls) (mj := mj) (a := r) (b := 1) h he hn (by omega) (by omega)
    have h2 := h.kp k2 o2
    by_cases cs : (topE (spv lo hi (zi r)) (spv lo hi (zi r)) u (KK e) (VV e) (NN e)).1 = zi 0
    · rw [tr_1 cs] at r2
      obtain ⟨b, b1, b2, b3, b4⟩ := hG _ (spv_at (y := zi r) hb)
      obtain ⟨-, f2, -⟩ := smp (y := zi r) hb hu hx b1 b2 cs b3
      obtain ⟨-, f6⟩ := smp_ok (y := zi r) hb hu hx cs
      generalize fhigh (topE (spv lo hi (zi r)) (spv lo hi (zi r)) u (KK e) (VV e) (NN e)).2 = fh at *
      obtain ⟨mi3, mj3, g3, q1, q2, q3⟩ := ih (n + 1) (by omega) mi2 mj2 g2 (some (.long fh)) h2
      refine ⟨mi3, mj3, g3, ?_, k2.tr q2, q3⟩
      have n5 := j_ne5 (x := fh) f6
      have w1 : y.toInt64 < fh := by rw [zj_lt] at b4 ⊢; omega
      rw [← q1, q_121_117]
      simp (disch := (first | with_reducible exact is_1 | with_reducible exact zi_at is_1 (by omega) (by omega) | ((with_reducible refine zct_le ?_) <;> exact Nat.le_of_ble_eq_true rfl) | with_reducible exact zh_0 | with_reducible exact zh_1 | with_reducible exact zh_b | omega)) only [q_121_119, q_121_121, q_121_124r, q_121_124n, q_121_125, q_121_126, q_121_127, q_121_128, q_121_130, q_121_131, q_121_132, q_121_135, q_121_138, q_121_139, q_121_142, q_121_144, q_121_146, q_121_149, q_121_150, q_121_153, q_121_155, q_121_157, q_121_158, q_121_159, q_121_162, q_121_163, q_121_164, q_121_167, q_121_170r, q_121_170n, q_121_171, q_121_172, q_121_175, q_121_178r, q_121_178n, q_121_179, q_121_180, q_121_181, q_121_182, q_121_185, q_121_187, q_121_188, q_121_189, q_121_192, q_121_193, q_121_196, q_121_197, vf_s, vf_n, zk2_none, zk2_int, zk2_ref, zk2_null, zk2_long, zct_nil, zct_i, zct_l, zct_r, zct_n, Option.bind_some, Option.toList_some, Option.toList_none, List.cons_append, List.nil_append, zor_l, zor_r, if_true, if_false, ↓reduceIte, zi_lit, zi_of, zi_add, zi_mul, zi_sub, zi_nat, zi_leT, zi_leF, zi_ltT, zi_ltF, zi_eqT, zi_eqF, zif_0z, zif_bz, zi_01l, zi_01r, not_true_eq_false, not_false_eq_true, Nat.reduceAdd, Nat.reduceMul, Nat.reduceSub, m1, r2, n5, w1]
    · rw [tr_w cs] at r2
      obtain ⟨mi3, mj3, g3, q1, q2, q3⟩ := ih (n + 1) (by omega) mi2 mj2 g2 (some (.long (-1000000000000000005))) h2
      refine ⟨mi3, mj3, g3, ?_, k2.tr q2, q3⟩
      rw [← q1, q_121_117]
      simp (disch := (first | with_reducible exact is_1 | with_reducible exact zi_at is_1 (by omega) (by omega) | ((with_reducible refine zct_le ?_) <;> exact Nat.le_of_ble_eq_true rfl) | with_reducible exact zh_0 | with_reducible exact zh_1 | with_reducible exact zh_b | omega)) only [q_121_119, q_121_121, q_121_124r, q_121_124n, q_121_125, q_121_126, q_121_127, q_121_128, q_121_130, q_121_131, q_121_132, q_121_135, q_121_138, q_121_139, q_121_142, q_121_144, q_121_146, q_121_149, q_121_150, q_121_153, q_121_155, q_121_157, q_121_158, q_121_159, q_121_162, q_121_163, q_121_164, q_121_167, q_121_170r, q_121_170n, q_121_171, q_121_172, q_121_175, q_121_178r, q_121_178n, q_121_179, q_121_180, q_121_181, q_121_182, q_121_185, q_121_187, q_121_188, q_121_189, q_121_192, q_121_193, q_121_196, q_121_197, vf_s, vf_n, zk2_none, zk2_int, zk2_ref, zk2_null, zk2_long, zct_nil, zct_i, zct_l, zct_r, zct_n, Option.bind_some, Option.toList_some, Option.toList_none, List.cons_append, List.nil_append, zor_l, zor_r, if_true, if_false, ↓reduceIte, zi_lit, zi_of, zi_add, zi_mul, zi_sub, zi_nat, zi_leT, zi_leF, zi_ltT, zi_ltF, zi_eqT, zi_eqF, zif_0z, zif_bz, zi_01l, zi_01r, not_true_eq_false, not_false_eq_true, Nat.reduceAdd, Nat.reduceMul, Nat.reduceSub, m1, r2]
/-- the last box lies in the box -/
theorem pv_2 (h : ST mi g lo hi u NN KK VV) (h1 : mi 1 9 = zi p) (p1 : 1 ≤ p) (p2 : p ≤ 400) (hB : bxA mi 102 b) (hb : boxIn b.1 b.2) (hs : subBx b (lo, hi)) {l1 l2 l3 l4 l5 l6 l7 l10 : Option Value} (j : Nat) : ∀ n, n + j = 4 → zRun 121 201 [some (.ref 1), l1, l2, l3, l4, l5, l6, l7, none, some (.int (zi n)), l10, none] [] (SH Ls) mi mj (RF g) = zRun 121 281 [some (.ref 1), l1, l2, l3, l4, l5, l6, l7, none, some (.int (zi 4)), l10, none] [] (SH Ls) mi mj (RF g) := by
  induction j with
  | zero =>
    intro n hj
    obtain rfl : n = 4 := by omega
    rw [q_121_201]
    simp (disch := (first | ((with_reducible refine zct_le ?_) <;> exact Nat.le_of_ble_eq_true rfl) | with_reducible exact zh_0 | with_reducible exact zh_1 | with_reducible exact zh_b | omega)) only [q_121_203, q_121_204, q_121_207r, q_121_207n, q_121_208, q_121_209, q_121_211, q_121_212, q_121_215r, q_121_215n, q_121_216, q_121_218, q_121_219, q_121_222, q_121_224, q_121_225, q_121_226, q_121_227, q_121_230r, q_121_230n, q_121_231, q_121_232, q_121_234, q_121_235, q_121_238r, q_121_238n, q_121_239, q_121_241, q_121_242, q_121_245, q_121_247, q_121_248, q_121_249, q_121_250, q_121_253r, q_121_253n, q_121_254, q_121_255, q_121_257, q_121_258, q_121_261r, q_121_261n, q_121_262, q_121_263, q_121_265, q_121_266, q_121_269, q_121_270, q_121_273, q_121_274, q_121_275, q_121_278, vf_s, vf_n, zk2_none, zk2_int, zk2_ref, zk2_null, zk2_long, zct_nil, zct_i, zct_l, zct_r, zct_n, Option.bind_some, Option.toList_some, Option.toList_none, List.cons_append, List.nil_append, zor_l, zor_r, if_true, if_false, ↓reduceIte, zi_lit, zi_of, zi_add, zi_mul, zi_sub, zi_nat, zi_leT, zi_leF, zi_ltT, zi_ltF, zi_eqT, zi_eqF, zif_0z, zif_bz, zi_01l, zi_01r, not_true_eq_false, not_false_eq_true, Nat.reduceAdd, Nat.reduceMul, Nat.reduceSub]
  | succ j ih =>
    intro n hj
    have s1 := s_97l (Ls := Ls) (g := g) (mj := mj) (a := n) h1 p1 p2 (by omega)
    have s2 := s_97h (Ls := Ls) (g := g) (mj := mj) (a := n) h1 p1 p2 (by omega)
    rw [(hB n (by omega)).1] at s1
    rw [(hB n (by omega)).2] at s2
    have d0 := s_80l (Ls := Ls) (mj := mj) (a := n) h (by omega)
    have d1 := s_80h (Ls := Ls) (mj := mj) (a := n) h (by omega)
    obtain ⟨g1, g2⟩ := hs n (by omega)
    obtain ⟨-, g3, -⟩ := hb n (by omega)
    have g1 : (lo n).toInt ≤ (b.1 n).toInt := g1
    have g2 : (b.2 n).toInt ≤ (hi n).toInt := g2
    have w1 : ¬ (b.1 n).toInt64 < (lo n).toInt64 := by rw [zj_lt, Kit.i64_of_i32, Kit.i64_of_i32]; omega
    have w2 : ¬ (hi n).toInt64 < (b.2 n).toInt64 := by rw [zj_lt, Kit.i64_of_i32, Kit.i64_of_i32]; omega
    have w3 : (b.1 n).toInt64 ≤ (b.2 n).toInt64 := by rw [zj_le, Kit.i64_of_i32, Kit.i64_of_i32]; omega
    rw [← ih (n + 1) (by omega), q_121_201]
    simp (disch := (first | with_reducible exact is_1 | with_reducible exact zi_at is_1 (by omega) (by omega) | ((with_reducible refine zct_le ?_) <;> exact Nat.le_of_ble_eq_true rfl) | with_reducible exact zh_0 | with_reducible exact zh_1 | with_reducible exact zh_b | omega)) only [q_121_203, q_121_204, q_121_207r, q_121_207n, q_121_208, q_121_209, q_121_211, q_121_212, q_121_215r, q_121_215n, q_121_216, q_121_218, q_121_219, q_121_222, q_121_224, q_121_225, q_121_226, q_121_227, q_121_230r, q_121_230n, q_121_231, q_121_232, q_121_234, q_121_235, q_121_238r, q_121_238n, q_121_239, q_121_241, q_121_242, q_121_245, q_121_247, q_121_248, q_121_249, q_121_250, q_121_253r, q_121_253n, q_121_254, q_121_255, q_121_257, q_121_258, q_121_261r, q_121_261n, q_121_262, q_121_263, q_121_265, q_121_266, q_121_269, q_121_270, q_121_273, q_121_274, q_121_275, q_121_278, vf_s, vf_n, zk2_none, zk2_int, zk2_ref, zk2_null, zk2_long, zct_nil, zct_i, zct_l, zct_r, zct_n, Option.bind_some, Option.toList_some, Option.toList_none, List.cons_append, List.nil_append, zor_l, zor_r, if_true, if_false, ↓reduceIte, zi_lit, zi_of, zi_add, zi_mul, zi_sub, zi_nat, zi_leT, zi_leF, zi_ltT, zi_ltF, zi_eqT, zi_eqF, zif_0z, zif_bz, zi_01l, zi_01r, not_true_eq_false, not_false_eq_true, Nat.reduceAdd, Nat.reduceMul, Nat.reduceSub, s1, s2, d0, d1, dm_sub, w1, w2, w3]
/-- the domains become the last box -/
theorem pv_3 (p1 : 1 ≤ p) (p2 : p ≤ 400) (hb : boxIn b.1 b.2) {l1 l2 l3 l4 l5 l6 l7 l10 : Option Value} (j : Nat) : ∀ n, n + j = 4 → ∀ mi lo hi, ST mi g lo hi u NN KK VV → (∀ k, k < n → lo k = b.1 k ∧ hi k = b.2 k) → mi 1 9 = zi p → bxA mi 102 b → ∃ mi', zRun 121 290 [some (.ref 1), l1, l2, l3, l4, l5, l6, l7, none, some (.int (zi n)), l10, none] [] (SH Ls) mi mj (RF g) = zRun 121 327 [some (.ref 1), l1, l2, l3, l4, l5, l6, l7, none, some (.int (zi 4)), l10, none] [] (SH Ls) mi' mj (RF g) ∧ ST mi' g b.1 b.2 u NN KK VV ∧ ∀ a, ¬ a = 5 → ¬ a = 6 → mi' a = mi a := by
  induction j with
  | zero =>
    intro n hj mi lo hi h hk h1 hB
    obtain rfl : n = 4 := by omega
    refine ⟨mi, ?_, ⟨h.1, h.2.box hk⟩, fun _ _ _ => rfl⟩
    rw [q_121_290]
    simp (disch := (first | ((with_reducible refine zct_le ?_) <;> exact Nat.le_of_ble_eq_true rfl) | with_reducible exact zh_0 | with_reducible exact zh_1 | with_reducible exact zh_b | omega)) only [q_121_292, q_121_293, q_121_296r, q_121_296n, q_121_297, q_121_299r, q_121_299n, q_121_300, q_121_301, q_121_303, q_121_304, q_121_307, q_121_308r, q_121_308n, q_121_309, q_121_310, q_121_312, q_121_313, q_121_316, q_121_317, q_121_320, q_121_321, q_121_324, vf_s, vf_n, zk2_none, zk2_int, zk2_ref, zk2_null, zk2_long, zct_nil, zct_i, zct_l, zct_r, zct_n, Option.bind_some, Option.toList_some, Option.toList_none, List.cons_append, List.nil_append, zor_l, zor_r, if_true, if_false, ↓reduceIte, zi_lit, zi_of, zi_add, zi_mul, zi_sub, zi_nat, zi_leT, zi_leF, zi_ltT, zi_ltF, zi_eqT, zi_eqF, zif_0z, zif_bz, zi_01l, zi_01r, not_true_eq_false, not_false_eq_true, Nat.reduceAdd, Nat.reduceMul, Nat.reduceSub]
  | succ j ih =>
    intro n hj mi lo hi h hk h1 hB
    have s1 := s_97l (Ls := Ls) (g := g) (mj := mj) (a := n) h1 p1 p2 (by omega)
    have s2 := s_97h (Ls := Ls) (g := g) (mj := mj) (a := n) h1 p1 p2 (by omega)
    rw [(hB n (by omega)).1] at s1
    rw [(hB n (by omega)).2] at s2
    obtain ⟨g1, g2, g3⟩ := hb n (by omega)
    obtain ⟨d1, d2⟩ := s_79 (Ls := Ls) (mj := mj) (a := n) (y := b.1 n) (z := b.2 n) h (by omega) g1 g2 g3
    obtain ⟨mi', q1, q2, q3⟩ := ih (n + 1) (by omega) _ _ _ d2 (fun k hk2 => by
      by_cases c : k = n
      · subst c; exact ⟨if_pos rfl, if_pos rfl⟩
      · rw [if_neg c, if_neg c]; exact hk k (by omega)) (by rw [zup_ne (by omega), zup_ne (by omega)]; exact h1) (fun k hk2 => by rw [zup_ne (by omega), zup_ne (by omega), zup_ne (by omega), zup_ne (by omega)]; exact hB k hk2)
    refine ⟨mi', ?_, q2, fun a a5 a6 => by rw [q3 a a5 a6, zup_ne a6, zup_ne a5]⟩
    rw [← q1, q_121_290]
    simp (disch := (first | with_reducible exact is_1 | with_reducible exact zi_at is_1 (by omega) (by omega) | ((with_reducible refine zct_le ?_) <;> exact Nat.le_of_ble_eq_true rfl) | with_reducible exact zh_0 | with_reducible exact zh_1 | with_reducible exact zh_b | omega)) only [q_121_292, q_121_293, q_121_296r, q_121_296n, q_121_297, q_121_299r, q_121_299n, q_121_300, q_121_301, q_121_303, q_121_304, q_121_307, q_121_308r, q_121_308n, q_121_309, q_121_310, q_121_312, q_121_313, q_121_316, q_121_317, q_121_320, q_121_321, q_121_324, vf_s, vf_n, zk2_none, zk2_int, zk2_ref, zk2_null, zk2_long, zct_nil, zct_i, zct_l, zct_r, zct_n, Option.bind_some, Option.toList_some, Option.toList_none, List.cons_append, List.nil_append, zor_l, zor_r, if_true, if_false, ↓reduceIte, zi_lit, zi_of, zi_add, zi_mul, zi_sub, zi_nat, zi_leT, zi_leF, zi_ltT, zi_ltF, zi_eqT, zi_eqF, zif_0z, zif_bz, zi_01l, zi_01r, not_true_eq_false, not_false_eq_true, Nat.reduceAdd, Nat.reduceMul, Nat.reduceSub, s1, s2, i64_32, d1]
theorem v_proves (h : ST mi g lo hi u NN KK VV) (he : e < 4) (hn : 0 < NN e) : ∃ mi' mj' g', zCall 121 [.ref 1, .int (zi e), .int v, .int w] (SH Ls) mi mj (RF g) = some (some (.int (zi 1)), SH Ls, mi', mj', RF g') ∧ ST mi' g' lo hi u NN KK VV ∧ Kl mi mi' := by
  have hb := h.2.1
  have hu := h.2.2.1
  have hx := (h.2.2.2.2.2 e he).2.2.2 hn
  obtain ⟨y, y1, y2, hy⟩ := pv_lim (Ls := Ls) (g := g) (mi := mi) (mj := mj) (e := e) (v := v)
  have hy := hy (some (.int w)) none none none none none none none none rfl
  have m1 := m_116 (Ls := Ls) (g := g) (mi := mi) (mj := mj) (v := w) (m := 30) (by omega) (by omega)
  have hl := upF_lt (v := w) (m := 30) (by omega)
  generalize upF w 30 = z at m1 hl
  obtain ⟨r, p, b, mi1, mj1, g1, ⟨p1, p2, hO⟩, r1, o1, n1, B1, f1⟩ := s_96 (Ls := Ls) (mj := mj) (a := 1 + z) h he hn y1 y2 (by omega) (by omega)
  have h1 : ST mi1 g1 lo hi u NN KK VV := ⟨o1, h.2.cc f1⟩
  have c0 := s_97n (Ls := Ls) (g := g1) (mj := mj1) n1 p1 p2
  have ep := zi_toInt (a := p) (by omega)
  have w1 : ¬ (zi p).toInt64 < 1 := by rw [zj_lt, Kit.i64_of_i32, ep, kj1]; omega
  rcases hO with ⟨rfl, hG⟩ | ⟨hbb, hsb, hnT, hr, hc⟩
  · obtain ⟨mi2, mj2, g2, q1, q2, q3⟩ := pv_1 (Ls := Ls) (v := v) (w := w) (l5 := some (.int (zi (1 + z)))) (l7 := some (.long (zi p).toInt64)) he hn (fun q hq => hG q 0 (by omega) hq) 6 0 (by omega) mi1 mj1 g1 none h1
    refine ⟨mi2, mj2, g2, ?_, h1.kp q2 q3, f1.l.tr q2.l⟩
    rw [show zCall 121 [.ref 1, .int (zi e), .int v, .int w] (SH Ls) mi mj (RF g) = zRun 121 0 [some (.ref 1), some (.int (zi e)), some (.int v), some (.int w), none, none, none, none, none, none, none, none] [] (SH Ls) mi mj (RF g) from rfl, hy]
    simp (disch := (first | with_reducible exact is_1 | with_reducible exact zi_at is_1 (by omega) (by omega) | ((with_reducible refine zct_le ?_) <;> exact Nat.le_of_ble_eq_true rfl) | with_reducible exact zh_0 | with_reducible exact zh_1 | with_reducible exact zh_b | omega)) only [q_121_37, q_121_38, q_121_39, q_121_41, q_121_44, q_121_45, q_121_47r, q_121_47n, q_121_48, q_121_49, q_121_51, q_121_53, q_121_56, q_121_58r, q_121_58n, q_121_59, q_121_60, q_121_63, q_121_65, q_121_67, q_121_68, q_121_71, q_121_73, q_121_74, q_121_77, q_121_79, q_121_80, q_121_81, q_121_84, q_121_86, q_121_87, q_121_90, q_121_92, q_121_94, q_121_95, q_121_96, q_121_99r, q_121_99n, q_121_100, q_121_103, q_121_106, q_121_107, q_121_108, q_121_110, q_121_111, q_121_114, q_121_115, vf_s, vf_n, zk2_none, zk2_int, zk2_ref, zk2_null, zk2_long, zct_nil, zct_i, zct_l, zct_r, zct_n, Option.bind_some, Option.toList_some, Option.toList_none, List.cons_append, List.nil_append, zor_l, zor_r, if_true, if_false, ↓reduceIte, zi_lit, zi_of, zi_add, zi_mul, zi_sub, zi_nat, zi_leT, zi_leF, zi_ltT, zi_ltF, zi_eqT, zi_eqF, zif_0z, zif_bz, zi_01l, zi_01r, not_true_eq_false, not_false_eq_true, Nat.reduceAdd, Nat.reduceMul, Nat.reduceSub, m1, r1, c0, w1]
    exact q1
  · obtain ⟨mi2, a1, a2, a3, a4, a5⟩ := s_101 (Ls := Ls) (mj := mj1) (s := 0) h1 (by omega)
    have h2 : ST mi2 g1 lo hi u NN KK VV := ⟨o1, h1.2.fr fun a _ _ => a4 a (by omega) (by omega)⟩
    obtain ⟨mi3, b1, b2, b3⟩ := pv_3 (Ls := Ls) (mj := mj1) (b := b) (l1 := some (.int (zi e))) (l2 := some (.int v)) (l3 := some (.int w)) (l4 := some (.int y)) (l5 := some (.int (zi (1 + z)))) (l6 := some (.int r)) (l7 := some (.long (zi p).toInt64)) (l10 := none) p1 p2 hbb 4 0 (by omega) mi2 lo hi h2 (fun k hk => absurd hk (by omega)) (by rw [a4 1 (by omega) (by omega)]; exact n1) (fun k hk => by rw [a4 (102 + 1) (by omega) (by omega), a4 (102 + 2) (by omega) (by omega)]; exact B1 k hk)
    obtain ⟨mi4, mj4, g4, r4, k4, o4⟩ := s_94 (Ls := Ls) (mj := mj1) (a := 170) (b := 1) b2 he hn (by omega) (by omega)
    have h4 := b2.kp k4 o4
    have eM : topE (spv b.1 b.2 (zi 170)) (spv b.1 b.2 (zi 170)) u (KK e) (VV e) (NN e) = topE (mdB b) (mdB b) u (KK e) (VV e) (NN e) := top_box fun k hk => ⟨spv_mid k hk, spv_mid k hk⟩
    rw [eM] at r4
    have hMok := fun hz => fOk_rg (top_ok (mid_in hbb) hu hx hz)
    generalize topE (mdB b) (mdB b) u (KK e) (VV e) (NN e) = M at r4 hr hc hMok
    obtain ⟨mi5, mj5, g5, r5, k5, o5⟩ := s_88 (Ls := Ls) (mj := mj4) h4 he hn
    have h5 := h4.kp k5 o5
    have hwy : whyOk (topE b.1 b.2 u (KK e) (VV e) (NN e)).1 := wy_top
    have t1 : zRun 121 327 [some (.ref 1), some (.int (zi e)), some (.int v), some (.int w), some (.int y), some (.int (zi (1 + z))), some (.int r), some (.long (zi p).toInt64), none, some (.int (zi 4)), none, none] [] (SH Ls) mi3 mj1 (RF g1) = zRun 121 338 [some (.ref 1), some (.int (zi e)), some (.int v), some (.int w), some (.int y), some (.int (zi (1 + z))), some (.int r), some (.long (zi p).toInt64), none, some (.long (trV M 1)), none, none] [] (SH Ls) mi4 mj4 (RF g4) := by
      simp (disch := (first | with_reducible exact is_1 | with_reducible exact zi_at is_1 (by omega) (by omega) | ((with_reducible refine zct_le ?_) <;> exact Nat.le_of_ble_eq_true rfl) | with_reducible exact zh_0 | with_reducible exact zh_1 | with_reducible exact zh_b | omega)) only [q_121_327r, q_121_327n, q_121_328, q_121_329, q_121_332, q_121_333, q_121_336, vf_s, vf_n, zk2_none, zk2_int, zk2_ref, zk2_null, zk2_long, zct_nil, zct_i, zct_l, zct_r, zct_n, Option.bind_some, Option.toList_some, Option.toList_none, List.cons_append, List.nil_append, zor_l, zor_r, if_true, if_false, ↓reduceIte, zi_lit, zi_of, zi_add, zi_mul, zi_sub, zi_nat, zi_leT, zi_leF, zi_ltT, zi_ltF, zi_eqT, zi_eqF, zif_0z, zif_bz, zi_01l, zi_01r, not_true_eq_false, not_false_eq_true, Nat.reduceAdd, Nat.reduceMul, Nat.reduceSub, r4]
    have t2 : ∃ mi6 mj6 g6, zRun 121 338 [some (.ref 1), some (.int (zi e)), some (.int v), some (.int w), some (.int y), some (.int (zi (1 + z))), some (.int r), some (.long (zi p).toInt64), none, some (.long (trV M 1)), none, none] [] (SH Ls) mi4 mj4 (RF g4) = zRun 121 367 [some (.ref 1), some (.int (zi e)), some (.int v), some (.int w), some (.int y), some (.int (zi (1 + z))), some (.int r), some (.long (zi p).toInt64), none, some (.long (trV M 1)), none, some (.int (zi 0))] [] (SH Ls) mi6 mj6 (RF g6) ∧ Kp mi4 mi6 ∧ gOk g6 := by
      by_cases cw : (topE b.1 b.2 u (KK e) (VV e) (NN e)).1 = zi 0
      · obtain ⟨mi6, mj6, g6, r6, k6, o6⟩ := s_89 (Ls := Ls) (mj := mj5) (a := 2) (b := 0) h5 he hn (by omega) (by omega)
        rw [bd_20 cw] at r6
        rw [cw] at r5
        refine ⟨mi6, mj6, g6, ?_, k5.tr k6, o6⟩
        have w2 : flow (topE b.1 b.2 u (KK e) (VV e) (NN e)).2 ≤ y.toInt64 := by
          rw [zj_le]
          have : ¬ y.toInt64 < flow (topE b.1 b.2 u (KK e) (VV e) (NN e)).2 := fun q => hnT ⟨cw, q⟩
          rw [zj_lt] at this
          omega
        simp (disch := (first | with_reducible exact is_1 | with_reducible exact zi_at is_1 (by omega) (by omega) | ((with_reducible refine zct_le ?_) <;> exact Nat.le_of_ble_eq_true rfl) | with_reducible exact zh_0 | with_reducible exact zh_1 | with_reducible exact zh_b | omega)) only [q_121_338r, q_121_338n, q_121_339, q_121_340, q_121_343, q_121_346r, q_121_346n, q_121_347, q_121_348, q_121_349, q_121_350, q_121_353, q_121_355, q_121_356, q_121_357, q_121_360, q_121_361, q_121_364, q_121_365, vf_s, vf_n, zk2_none, zk2_int, zk2_ref, zk2_null, zk2_long, zct_nil, zct_i, zct_l, zct_r, zct_n, Option.bind_some, Option.toList_some, Option.toList_none, List.cons_append, List.nil_append, zor_l, zor_r, if_true, if_false, ↓reduceIte, zi_lit, zi_of, zi_add, zi_mul, zi_sub, zi_nat, zi_leT, zi_leF, zi_ltT, zi_ltF, zi_eqT, zi_eqF, zif_0z, zif_bz, zi_01l, zi_01r, not_true_eq_false, not_false_eq_true, Nat.reduceAdd, Nat.reduceMul, Nat.reduceSub, r5, r6, w2]
      · refine ⟨mi5, mj5, g5, ?_, k5, o5⟩
        simp (disch := (first | with_reducible exact is_1 | with_reducible exact zi_at is_1 (by omega) (by omega) | ((with_reducible refine zct_le ?_) <;> exact Nat.le_of_ble_eq_true rfl) | with_reducible exact zh_0 | with_reducible exact zh_1 | with_reducible exact zh_b | omega)) only [q_121_338r, q_121_338n, q_121_339, q_121_340, q_121_343, q_121_346r, q_121_346n, q_121_347, q_121_348, q_121_349, q_121_350, q_121_353, q_121_355, q_121_356, q_121_357, q_121_360, q_121_361, q_121_364, q_121_365, vf_s, vf_n, zk2_none, zk2_int, zk2_ref, zk2_null, zk2_long, zct_nil, zct_i, zct_l, zct_r, zct_n, Option.bind_some, Option.toList_some, Option.toList_none, List.cons_append, List.nil_append, zor_l, zor_r, if_true, if_false, ↓reduceIte, zi_lit, zi_of, zi_add, zi_mul, zi_sub, zi_nat, zi_leT, zi_leF, zi_ltT, zi_ltF, zi_eqT, zi_eqF, zif_0z, zif_bz, zi_01l, zi_01r, not_true_eq_false, not_false_eq_true, Nat.reduceAdd, Nat.reduceMul, Nat.reduceSub, r5, cw]
    obtain ⟨mi6, mj6, g6, t2, k6, o6⟩ := t2
    have k46 := k4.tr k6
    obtain ⟨mi7, c1, c2, c3⟩ := s_102 (Ls := Ls) (g := g6) (mj := mj6) (s := 0) (mi := mi6) (lo := lo) (hi := hi) (u := u) (NN := NN) (KK := KK) (VV := VV) (by omega) (by rw [k46 21 (by omega), b3 21 (by omega) (by omega)]; exact a2) (a3.fr fun a _ _ => by rw [k46 a (by omega), b3 a (by omega) (by omega)])
    refine ⟨mi7, mj6, g6, ?_, ⟨o6, c2⟩, ?_⟩
    · have hp3 := pv_2 (Ls := Ls) (mj := mj1) (b := b) (l1 := some (.int (zi e))) (l2 := some (.int v)) (l3 := some (.int w)) (l4 := some (.int y)) (l5 := some (.int (zi (1 + z)))) (l6 := some (.int r)) (l7 := some (.long (zi p).toInt64)) (l10 := none) h1 n1 p1 p2 B1 hbb hsb 4 0 (by omega)
      have a1 : zCall 101 [.ref 1, .int (zi 0)] (SH Ls) mi1 mj1 (RF g1) = some (some (.int (exF NN 4)), SH Ls, mi2, mj1, RF g1) := a1
      have b1 : zRun 121 290 [some (.ref 1), some (.int (zi e)), some (.int v), some (.int w), some (.int y), some (.int (zi (1 + z))), some (.int r), some (.long (zi p).toInt64), none, some (.int (zi 0)), none, none] [] (SH Ls) mi2 mj1 (RF g1) = _ := b1
      have t3 : zRun 121 201 [some (.ref 1), some (.int (zi e)), some (.int v), some (.int w), some (.int y), some (.int (zi (1 + z))), some (.int r), some (.long (zi p).toInt64), none, some (.int (zi 0)), none, none] [] (SH Ls) mi1 mj1 (RF g1) = zRun 121 367 [some (.ref 1), some (.int (zi e)), some (.int v), some (.int w), some (.int y), some (.int (zi (1 + z))), some (.int r), some (.long (zi p).toInt64), none, some (.long (trV M 1)), none, some (.int (zi 0))] [] (SH Ls) mi6 mj6 (RF g6) := by
        rw [hp3]
        simp (disch := (first | with_reducible exact is_1 | with_reducible exact zi_at is_1 (by omega) (by omega) | ((with_reducible refine zct_le ?_) <;> exact Nat.le_of_ble_eq_true rfl) | with_reducible exact zh_0 | with_reducible exact zh_1 | with_reducible exact zh_b | omega)) only [q_121_281r, q_121_281n, q_121_282, q_121_283, q_121_286, q_121_287, q_121_288, vf_s, vf_n, zk2_none, zk2_int, zk2_ref, zk2_null, zk2_long, zct_nil, zct_i, zct_l, zct_r, zct_n, Option.bind_some, Option.toList_some, Option.toList_none, List.cons_append, List.nil_append, zor_l, zor_r, if_true, if_false, ↓reduceIte, zi_lit, zi_of, zi_add, zi_mul, zi_sub, zi_nat, zi_leT, zi_leF, zi_ltT, zi_ltF, zi_eqT, zi_eqF, zif_0z, zif_bz, zi_01l, zi_01r, not_true_eq_false, not_false_eq_true, Nat.reduceAdd, Nat.reduceMul, Nat.reduceSub, a1]
        rw [b1, t1, t2]
      have pre : zCall 121 [.ref 1, .int (zi e), .int v, .int w] (SH Ls) mi mj (RF g) = zRun 121 367 [some (.ref 1), some (.int (zi e)), some (.int v), some (.int w), some (.int y), some (.int (zi (1 + z))), some (.int r), some (.long (zi p).toInt64), none, some (.long (trV M 1)), none, some (.int (zi 0))] [] (SH Ls) mi6 mj6 (RF g6) := by
        rw [show zCall 121 [.ref 1, .int (zi e), .int v, .int w] (SH Ls) mi mj (RF g) = zRun 121 0 [some (.ref 1), some (.int (zi e)), some (.int v), some (.int w), none, none, none, none, none, none, none, none] [] (SH Ls) mi mj (RF g) from rfl, hy, ← t3]
        by_cases cM : M.1 = zi 0 ∧ fhigh M.2 ≤ y.toInt64
        · rw [if_pos cM] at hr
          subst hr
          simp (disch := (first | with_reducible exact is_1 | with_reducible exact zi_at is_1 (by omega) (by omega) | ((with_reducible refine zct_le ?_) <;> exact Nat.le_of_ble_eq_true rfl) | with_reducible exact zh_0 | with_reducible exact zh_1 | with_reducible exact zh_b | omega)) only [q_121_37, q_121_38, q_121_39, q_121_41, q_121_44, q_121_45, q_121_47r, q_121_47n, q_121_48, q_121_49, q_121_51, q_121_53, q_121_56, q_121_58r, q_121_58n, q_121_59, q_121_60, q_121_63, q_121_65, q_121_67, q_121_68, q_121_71, q_121_73, q_121_74, q_121_77, q_121_79, q_121_80, q_121_81, q_121_84, q_121_86, q_121_87, q_121_90, q_121_92, q_121_94, q_121_95, q_121_96, q_121_99r, q_121_99n, q_121_100, q_121_103, q_121_106, q_121_107, q_121_108, q_121_110, q_121_111, q_121_114, q_121_115, q_121_198, q_121_199, vf_s, vf_n, zk2_none, zk2_int, zk2_ref, zk2_null, zk2_long, zct_nil, zct_i, zct_l, zct_r, zct_n, Option.bind_some, Option.toList_some, Option.toList_none, List.cons_append, List.nil_append, zor_l, zor_r, if_true, if_false, ↓reduceIte, zi_lit, zi_of, zi_add, zi_mul, zi_sub, zi_nat, zi_leT, zi_leF, zi_ltT, zi_ltF, zi_eqT, zi_eqF, zif_0z, zif_bz, zi_01l, zi_01r, not_true_eq_false, not_false_eq_true, Nat.reduceAdd, Nat.reduceMul, Nat.reduceSub, m1, r1, c0, w1]
        · rw [if_neg cM] at hr
          subst hr
          by_cases cz : 1 + z ≤ p
          · have e1z := zi_toInt (a := 1 + z) (by omega)
            have w3 : (zi (1 + z)).toInt64 ≤ (zi p).toInt64 := by rw [zj_le, Kit.i64_of_i32, Kit.i64_of_i32, ep, e1z]; omega
            simp (disch := (first | with_reducible exact is_1 | with_reducible exact zi_at is_1 (by omega) (by omega) | ((with_reducible refine zct_le ?_) <;> exact Nat.le_of_ble_eq_true rfl) | with_reducible exact zh_0 | with_reducible exact zh_1 | with_reducible exact zh_b | omega)) only [q_121_37, q_121_38, q_121_39, q_121_41, q_121_44, q_121_45, q_121_47r, q_121_47n, q_121_48, q_121_49, q_121_51, q_121_53, q_121_56, q_121_58r, q_121_58n, q_121_59, q_121_60, q_121_63, q_121_65, q_121_67, q_121_68, q_121_71, q_121_73, q_121_74, q_121_77, q_121_79, q_121_80, q_121_81, q_121_84, q_121_86, q_121_87, q_121_90, q_121_92, q_121_94, q_121_95, q_121_96, q_121_99r, q_121_99n, q_121_100, q_121_103, q_121_106, q_121_107, q_121_108, q_121_110, q_121_111, q_121_114, q_121_115, q_121_198, q_121_199, vf_s, vf_n, zk2_none, zk2_int, zk2_ref, zk2_null, zk2_long, zct_nil, zct_i, zct_l, zct_r, zct_n, Option.bind_some, Option.toList_some, Option.toList_none, List.cons_append, List.nil_append, zor_l, zor_r, if_true, if_false, ↓reduceIte, zi_lit, zi_of, zi_add, zi_mul, zi_sub, zi_nat, zi_leT, zi_leF, zi_ltT, zi_ltF, zi_eqT, zi_eqF, zif_0z, zif_bz, zi_01l, zi_01r, not_true_eq_false, not_false_eq_true, Nat.reduceAdd, Nat.reduceMul, Nat.reduceSub, m1, r1, c0, w1, w3]
          · have e1z := zi_toInt (a := 1 + z) (by omega)
            have w3 : ¬ (zi (1 + z)).toInt64 ≤ (zi p).toInt64 := by rw [zj_le, Kit.i64_of_i32, Kit.i64_of_i32, ep, e1z]; omega
            have hpt : ∀ k, k < 4 → b.1 k = b.2 k := by
              rcases hc with hc | hc | hc
              · exact absurd hc cM
              · exact absurd hc cz
              · exact hc
            have m122 := m_122 (Ls := Ls) (g := g1) (mj := mj1) n1 p1 p2 (fun k hk => by
              have := B1 k hk
              rw [show (103 : Nat) = 102 + 1 by rfl, show (104 : Nat) = 102 + 2 by rfl, this.1, this.2]
              exact hpt k hk)
            simp (disch := (first | with_reducible exact is_1 | with_reducible exact zi_at is_1 (by omega) (by omega) | ((with_reducible refine zct_le ?_) <;> exact Nat.le_of_ble_eq_true rfl) | with_reducible exact zh_0 | with_reducible exact zh_1 | with_reducible exact zh_b | omega)) only [q_121_37, q_121_38, q_121_39, q_121_41, q_121_44, q_121_45, q_121_47r, q_121_47n, q_121_48, q_121_49, q_121_51, q_121_53, q_121_56, q_121_58r, q_121_58n, q_121_59, q_121_60, q_121_63, q_121_65, q_121_67, q_121_68, q_121_71, q_121_73, q_121_74, q_121_77, q_121_79, q_121_80, q_121_81, q_121_84, q_121_86, q_121_87, q_121_90, q_121_92, q_121_94, q_121_95, q_121_96, q_121_99r, q_121_99n, q_121_100, q_121_103, q_121_106, q_121_107, q_121_108, q_121_110, q_121_111, q_121_114, q_121_115, q_121_198, q_121_199, vf_s, vf_n, zk2_none, zk2_int, zk2_ref, zk2_null, zk2_long, zct_nil, zct_i, zct_l, zct_r, zct_n, Option.bind_some, Option.toList_some, Option.toList_none, List.cons_append, List.nil_append, zor_l, zor_r, if_true, if_false, ↓reduceIte, zi_lit, zi_of, zi_add, zi_mul, zi_sub, zi_nat, zi_leT, zi_leF, zi_ltT, zi_ltF, zi_eqT, zi_eqF, zif_0z, zif_bz, zi_01l, zi_01r, not_true_eq_false, not_false_eq_true, Nat.reduceAdd, Nat.reduceMul, Nat.reduceSub, m1, r1, c0, w1, w3, m122]
      rw [pre]
      by_cases cM : M.1 = zi 0 ∧ fhigh M.2 ≤ y.toInt64
      · rw [if_pos cM] at hr
        subst hr
        have n5 := j_ne5 (x := fhigh M.2) (hMok cM.1).2.2.1
        rw [tr_1 cM.1]
        have cM3 : ¬ y.toInt64 < fhigh M.2 := fun q => by have q2 := cM.2; rw [zj_le] at q2; rw [zj_lt] at q; omega
        simp (disch := (first | with_reducible exact is_1 | with_reducible exact zi_at is_1 (by omega) (by omega) | ((with_reducible refine zct_le ?_) <;> exact Nat.le_of_ble_eq_true rfl) | with_reducible exact zh_0 | with_reducible exact zh_1 | with_reducible exact zh_b | omega)) only [q_121_367r, q_121_367n, q_121_368, q_121_369, q_121_372, q_121_373, q_121_375, q_121_378, q_121_380, q_121_381, q_121_384, q_121_386, q_121_389, q_121_390, q_121_393, q_121_395, q_121_397, q_121_398, q_121_399, q_121_402, q_121_405, q_121_407, q_121_410, q_121_411, q_121_414, q_121_416, q_121_418, q_121_419, q_121_420, q_121_423, q_121_424, q_121_427, q_121_428, vf_s, vf_n, zk2_none, zk2_int, zk2_ref, zk2_null, zk2_long, zct_nil, zct_i, zct_l, zct_r, zct_n, Option.bind_some, Option.toList_some, Option.toList_none, List.cons_append, List.nil_append, zor_l, zor_r, if_true, if_false, ↓reduceIte, zi_lit, zi_of, zi_add, zi_mul, zi_sub, zi_nat, zi_leT, zi_leF, zi_ltT, zi_ltF, zi_eqT, zi_eqF, zif_0z, zif_bz, zi_01l, zi_01r, not_true_eq_false, not_false_eq_true, Nat.reduceAdd, Nat.reduceMul, Nat.reduceSub, c1, n5, cM.2, cM3]
      · rw [if_neg cM] at hr
        subst hr
        by_cases cw : M.1 = zi 0
        · have n5 := j_ne5 (x := fhigh M.2) (hMok cw).2.2.1
          have w3 : ¬ fhigh M.2 ≤ y.toInt64 := fun q => cM ⟨cw, q⟩
          rw [tr_1 cw]
          simp (disch := (first | with_reducible exact is_1 | with_reducible exact zi_at is_1 (by omega) (by omega) | ((with_reducible refine zct_le ?_) <;> exact Nat.le_of_ble_eq_true rfl) | with_reducible exact zh_0 | with_reducible exact zh_1 | with_reducible exact zh_b | omega)) only [q_121_367r, q_121_367n, q_121_368, q_121_369, q_121_372, q_121_373, q_121_375, q_121_378, q_121_380, q_121_381, q_121_384, q_121_386, q_121_389, q_121_390, q_121_393, q_121_395, q_121_397, q_121_398, q_121_399, q_121_402, q_121_405, q_121_407, q_121_410, q_121_411, q_121_414, q_121_416, q_121_418, q_121_419, q_121_420, q_121_423, q_121_424, q_121_427, q_121_428, vf_s, vf_n, zk2_none, zk2_int, zk2_ref, zk2_null, zk2_long, zct_nil, zct_i, zct_l, zct_r, zct_n, Option.bind_some, Option.toList_some, Option.toList_none, List.cons_append, List.nil_append, zor_l, zor_r, if_true, if_false, ↓reduceIte, zi_lit, zi_of, zi_add, zi_mul, zi_sub, zi_nat, zi_leT, zi_leF, zi_ltT, zi_ltF, zi_eqT, zi_eqF, zif_0z, zif_bz, zi_01l, zi_01r, not_true_eq_false, not_false_eq_true, Nat.reduceAdd, Nat.reduceMul, Nat.reduceSub, c1, n5, w3]
        · rw [tr_w cw]
          simp (disch := (first | with_reducible exact is_1 | with_reducible exact zi_at is_1 (by omega) (by omega) | ((with_reducible refine zct_le ?_) <;> exact Nat.le_of_ble_eq_true rfl) | with_reducible exact zh_0 | with_reducible exact zh_1 | with_reducible exact zh_b | omega)) only [q_121_367r, q_121_367n, q_121_368, q_121_369, q_121_372, q_121_373, q_121_375, q_121_378, q_121_380, q_121_381, q_121_384, q_121_386, q_121_389, q_121_390, q_121_393, q_121_395, q_121_397, q_121_398, q_121_399, q_121_402, q_121_405, q_121_407, q_121_410, q_121_411, q_121_414, q_121_416, q_121_418, q_121_419, q_121_420, q_121_423, q_121_424, q_121_427, q_121_428, vf_s, vf_n, zk2_none, zk2_int, zk2_ref, zk2_null, zk2_long, zct_nil, zct_i, zct_l, zct_r, zct_n, Option.bind_some, Option.toList_some, Option.toList_none, List.cons_append, List.nil_append, zor_l, zor_r, if_true, if_false, ↓reduceIte, zi_lit, zi_of, zi_add, zi_mul, zi_sub, zi_nat, zi_leT, zi_leF, zi_ltT, zi_ltF, zi_eqT, zi_eqF, zif_0z, zif_bz, zi_01l, zi_01r, not_true_eq_false, not_false_eq_true, Nat.reduceAdd, Nat.reduceMul, Nat.reduceSub, c1]
    · have l1 := f1.l
      refine l1.tr ⟨?_, ?_⟩
      · rw [c3 0 (by omega), k46 0 (by omega), b3 0 (by omega) (by omega), a4 0 (by omega) (by omega)]
      · rw [c3 1 (by omega), k46 1 (by omega), b3 1 (by omega) (by omega), a4 1 (by omega) (by omega)]
end
