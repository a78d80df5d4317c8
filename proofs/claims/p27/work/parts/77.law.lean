/-! ===== the law ===== -/
section
variable {Ls : Nat} {g : Nat → Nat} {mi mi' : zI} {mj mj' : zJ} {a b e n p q k c m u s t : Nat} {v w x y r : Int32} {lo hi : Nat → Int32} {NN : Nat → Nat} {KK : Nat → Nat → Nat} {VV : Nat → Nat → Int32} {T : En}
theorem k20000 : (zi 20000).toInt = 20000 := by decide
theorem k600 : (zi 600).toInt = 600 := by decide
/-- the domains are set -/
theorem lw_1 (hL : Ls ≤ 260) (j : Nat) : ∀ n, n + j = 4 → ∀ mi lo hi l4 l5, ST mi g lo hi u NN KK VV → (∀ k, n ≤ k → k < 4 → lo k = zi 0 ∧ hi k = zi 256) → ∃ mi' lo' hi' l4' l5', zRun 0 47 [some (.ref 0), some (.ref 1), some (.int (zi (2 + n))), some (.int (zi n)), l4, l5, none] [] (SH Ls) mi mj (RF g) = zRun 0 154 [some (.ref 0), some (.ref 1), some (.int (zi 6)), some (.int (zi 4)), l4', l5', none] [] (SH Ls) mi' mj (RF g) ∧ ST mi' g lo' hi' u NN KK VV ∧ ∀ a, ¬ a = 5 → ¬ a = 6 → mi' a = mi a := by
  induction j with
  | zero =>
    intro n hj mi lo hi l4 l5 h hk
    obtain rfl : n = 4 := by omega
    refine ⟨mi, lo, hi, l4, l5, ?_, h, fun _ _ _ => rfl⟩
    rw [q_0_47]
    simp (disch := (first | ((with_reducible refine zct_le ?_) <;> exact Nat.le_of_ble_eq_true rfl) | with_reducible exact zh_0 | with_reducible exact zh_1 | with_reducible exact zh_b | omega)) only [q_0_48, q_0_49, q_0_52r, q_0_52n, q_0_53, q_0_54, q_0_57, q_0_60, q_0_62, q_0_64, q_0_65, q_0_68, q_0_71, q_0_73, q_0_74, q_0_75, q_0_77, q_0_80, q_0_83, q_0_84, q_0_87, q_0_89, q_0_90, q_0_91, q_0_94, q_0_97, q_0_100, q_0_101, q_0_103r, q_0_103n, q_0_104, q_0_105, q_0_107, q_0_109, q_0_111, q_0_113, q_0_114, q_0_115, q_0_118, q_0_121, q_0_122, q_0_125, q_0_127, q_0_129, q_0_130, q_0_133, q_0_136, q_0_137, q_0_140, q_0_143, q_0_146, q_0_147, q_0_148, q_0_151, vf_s, vf_n, zk2_none, zk2_int, zk2_ref, zk2_null, zk2_long, zct_nil, zct_i, zct_l, zct_r, zct_n, Option.bind_some, Option.toList_some, Option.toList_none, List.cons_append, List.nil_append, zor_l, zor_r, if_true, if_false, ↓reduceIte, zi_lit, zi_of, zi_add, zi_mul, zi_sub, zi_nat, zi_leT, zi_leF, zi_ltT, zi_ltF, zi_eqT, zi_eqF, zif_0z, zif_bz, zi_01l, zi_01r, not_true_eq_false, not_false_eq_true, Nat.reduceAdd, Nat.reduceMul, Nat.reduceSub]
  | succ j ih =>
    intro n hj mi lo hi l4 l5 h hk
    obtain ⟨v, hv⟩ := m_83 (g := g) (mi := mi) (mj := mj) (k := 2 + n) (by omega) hL
    have m1 := m_116 (Ls := Ls) (g := g) (mi := mi) (mj := mj) (v := v) (m := 5) (by omega) (by omega)
    have hl := upF_lt (v := v) (m := 5) (by omega)
    generalize upF v 5 = r1 at m1 hl
    have m2 := m_116 (Ls := Ls) (g := g) (mi := mi) (mj := mj) (v := v >>> (zi 3 &&& zi 31)) (m := 40000) (by omega) (by omega)
    have hl2 := upF_lt (v := v >>> (zi 3 &&& zi 31)) (m := 40000) (by omega)
    generalize upF (v >>> (zi 3 &&& zi 31)) 40000 = r2 at m2 hl2
    have m3 := m_116 (Ls := Ls) (g := g) (mi := mi) (mj := mj) (v := v >>> (zi 3 &&& zi 31)) (m := 1200) (by omega) (by omega)
    have hl3 := upF_lt (v := v >>> (zi 3 &&& zi 31)) (m := 1200) (by omega)
    generalize upF (v >>> (zi 3 &&& zi 31)) 1200 = r3 at m3 hl3
    have m4 := m_116 (Ls := Ls) (g := g) (mi := mi) (mj := mj) (v := v >>> (zi 14 &&& zi 31)) (m := 5) (by omega) (by omega)
    have hl4 := upF_lt (v := v >>> (zi 14 &&& zi 31)) (m := 5) (by omega)
    generalize upF (v >>> (zi 14 &&& zi 31)) 5 = r4 at m4 hl4
    have m5 := m_116 (Ls := Ls) (g := g) (mi := mi) (mj := mj) (v := v >>> (zi 16 &&& zi 31)) (m := 900) (by omega) (by omega)
    have hl5 := upF_lt (v := v >>> (zi 16 &&& zi 31)) (m := 900) (by omega)
    generalize upF (v >>> (zi 16 &&& zi 31)) 900 = r5 at m5 hl5
    have e2 := zi_toInt (a := r2) (by omega)
    have e3 := zi_toInt (a := r3) (by omega)
    have hlo : ∃ y : Int32, -20000 ≤ y.toInt ∧ y.toInt ≤ 20000 ∧ zRun 0 47 [some (.ref 0), some (.ref 1), some (.int (zi (2 + n))), some (.int (zi n)), l4, l5, none] [] (SH Ls) mi mj (RF g) = zRun 0 103 [some (.ref 0), some (.ref 1), some (.int (zi (2 + n + 1))), some (.int (zi n)), some (.int v), some (.int y), none] [] (SH Ls) mi mj (RF g) := by
      by_cases c : r1 = 0
      · subst c
        have es : (zi r2 - zi 20000).toInt = (r2 : Int) - 20000 := by rw [Kit.i32_sub (by rw [e2, k20000]; omega) (by rw [e2, k20000]; omega), e2, k20000]
        refine ⟨zi r2 - zi 20000, by omega, by omega, ?_⟩
        rw [q_0_47]
        simp (disch := (first | ((with_reducible refine zct_le ?_) <;> exact Nat.le_of_ble_eq_true rfl) | with_reducible exact zh_0 | with_reducible exact zh_1 | with_reducible exact zh_b | omega)) only [q_0_48, q_0_49, q_0_52r, q_0_52n, q_0_53, q_0_54, q_0_57, q_0_60, q_0_62, q_0_64, q_0_65, q_0_68, q_0_71, q_0_73, q_0_74, q_0_75, q_0_77, q_0_80, q_0_83, q_0_84, q_0_87, q_0_89, q_0_90, q_0_91, q_0_94, q_0_97, q_0_100, q_0_101, vf_s, vf_n, zk2_none, zk2_int, zk2_ref, zk2_null, zk2_long, zct_nil, zct_i, zct_l, zct_r, zct_n, Option.bind_some, Option.toList_some, Option.toList_none, List.cons_append, List.nil_append, zor_l, zor_r, if_true, if_false, ↓reduceIte, zi_lit, zi_of, zi_add, zi_mul, zi_sub, zi_nat, zi_leT, zi_leF, zi_ltT, zi_ltF, zi_eqT, zi_eqF, zif_0z, zif_bz, zi_01l, zi_01r, not_true_eq_false, not_false_eq_true, Nat.reduceAdd, Nat.reduceMul, Nat.reduceSub, hv, m1, m2]
      · have es : (zi r3 - zi 600).toInt = (r3 : Int) - 600 := by rw [Kit.i32_sub (by rw [e3, k600]; omega) (by rw [e3, k600]; omega), e3, k600]
        refine ⟨zi r3 - zi 600, by omega, by omega, ?_⟩
        rw [q_0_47]
        simp (disch := (first | ((with_reducible refine zct_le ?_) <;> exact Nat.le_of_ble_eq_true rfl) | with_reducible exact zh_0 | with_reducible exact zh_1 | with_reducible exact zh_b | omega)) only [q_0_48, q_0_49, q_0_52r, q_0_52n, q_0_53, q_0_54, q_0_57, q_0_60, q_0_62, q_0_64, q_0_65, q_0_68, q_0_71, q_0_73, q_0_74, q_0_75, q_0_77, q_0_80, q_0_83, q_0_84, q_0_87, q_0_89, q_0_90, q_0_91, q_0_94, q_0_97, q_0_100, q_0_101, vf_s, vf_n, zk2_none, zk2_int, zk2_ref, zk2_null, zk2_long, zct_nil, zct_i, zct_l, zct_r, zct_n, Option.bind_some, Option.toList_some, Option.toList_none, List.cons_append, List.nil_append, zor_l, zor_r, if_true, if_false, ↓reduceIte, zi_lit, zi_of, zi_add, zi_mul, zi_sub, zi_nat, zi_leT, zi_leF, zi_ltT, zi_ltF, zi_eqT, zi_eqF, zif_0z, zif_bz, zi_01l, zi_01r, not_true_eq_false, not_false_eq_true, Nat.reduceAdd, Nat.reduceMul, Nat.reduceSub, hv, m1, m3]
    obtain ⟨y, y1, y2, hr1⟩ := hlo
    have hw : ∃ t, t < 900 ∧ ((r4 = 0 ∧ t = 0) ∨ (¬ r4 = 0 ∧ t = r5)) := by
      by_cases c : r4 = 0
      · exact ⟨0, by omega, Or.inl ⟨c, rfl⟩⟩
      · exact ⟨r5, hl5, Or.inr ⟨c, rfl⟩⟩
    obtain ⟨t, ht, hc⟩ := hw
    have et := zi_toInt (a := t) (by omega)
    have ez : (y + zi t).toInt = y.toInt + t := by rw [Kit.i32_add (by omega) (by omega), et]
    obtain ⟨d1, d2⟩ := s_79 (Ls := Ls) (mj := mj) (a := n) (y := y) (z := y + zi t) h (by omega) (by omega) (by omega) (by omega)
    obtain ⟨k1, k2⟩ := hk n (Nat.le_refl _) (by omega)
    rw [k1, k2] at d1
    have e256 : zi 256 - zi 0 = zi 256 := by decide
    rw [e256] at d1
    obtain ⟨mi', lo', hi', l4', l5', q1, q2, q3⟩ := ih (n + 1) (by omega) _ _ _ (some (.int v)) (some (.int y)) d2 (fun k hk1 hk2 => by
      rw [if_neg (by omega), if_neg (by omega)]
      exact hk k (by omega) hk2)
    refine ⟨mi', lo', hi', l4', l5', ?_, q2, fun a a5 a6 => by rw [q3 a a5 a6, zup_ne a6, zup_ne a5]⟩
    rw [hr1, ← q1]
    have ea : 2 + n + 1 = 2 + (n + 1) := by omega
    rcases hc with ⟨rfl, rfl⟩ | ⟨c4, rfl⟩
    · simp (disch := (first | with_reducible exact is_1 | with_reducible exact zi_at is_1 (by omega) (by omega) | ((with_reducible refine zct_le ?_) <;> exact Nat.le_of_ble_eq_true rfl) | with_reducible exact zh_0 | with_reducible exact zh_1 | with_reducible exact zh_b | omega)) only [q_0_103r, q_0_103n, q_0_104, q_0_105, q_0_107, q_0_109, q_0_111, q_0_113, q_0_114, q_0_115, q_0_118, q_0_121, q_0_122, q_0_125, q_0_127, q_0_129, q_0_130, q_0_133, q_0_136, q_0_137, q_0_140, q_0_143, q_0_146, q_0_147, q_0_148, q_0_151, vf_s, vf_n, zk2_none, zk2_int, zk2_ref, zk2_null, zk2_long, zct_nil, zct_i, zct_l, zct_r, zct_n, Option.bind_some, Option.toList_some, Option.toList_none, List.cons_append, List.nil_append, zor_l, zor_r, if_true, if_false, ↓reduceIte, zi_lit, zi_of, zi_add, zi_mul, zi_sub, zi_nat, zi_leT, zi_leF, zi_ltT, zi_ltF, zi_eqT, zi_eqF, zif_0z, zif_bz, zi_01l, zi_01r, not_true_eq_false, not_false_eq_true, Nat.reduceAdd, Nat.reduceMul, Nat.reduceSub, m4, d1, ea]
    · simp (disch := (first | with_reducible exact is_1 | with_reducible exact zi_at is_1 (by omega) (by omega) | ((with_reducible refine zct_le ?_) <;> exact Nat.le_of_ble_eq_true rfl) | with_reducible exact zh_0 | with_reducible exact zh_1 | with_reducible exact zh_b | omega)) only [q_0_103r, q_0_103n, q_0_104, q_0_105, q_0_107, q_0_109, q_0_111, q_0_113, q_0_114, q_0_115, q_0_118, q_0_121, q_0_122, q_0_125, q_0_127, q_0_129, q_0_130, q_0_133, q_0_136, q_0_137, q_0_140, q_0_143, q_0_146, q_0_147, q_0_148, q_0_151, vf_s, vf_n, zk2_none, zk2_int, zk2_ref, zk2_null, zk2_long, zct_nil, zct_i, zct_l, zct_r, zct_n, Option.bind_some, Option.toList_some, Option.toList_none, List.cons_append, List.nil_append, zor_l, zor_r, if_true, if_false, ↓reduceIte, zi_lit, zi_of, zi_add, zi_mul, zi_sub, zi_nat, zi_leT, zi_leF, zi_ltT, zi_ltF, zi_eqT, zi_eqF, zif_0z, zif_bz, zi_01l, zi_01r, not_true_eq_false, not_false_eq_true, Nat.reduceAdd, Nat.reduceMul, Nat.reduceSub, m4, m5, d1, ea]
/-- the expressions are typed and read -/
theorem lw_2 (hL : Ls ≤ 260) (h1 : 1 ≤ m) (h3 : m ≤ 3) (j : Nat) : ∀ n, n + j = m → ∀ mi NN KK VV l5 l6, ST mi g lo hi u NN KK VV → mi 1 1 = zi 0 → (∀ k, k < 4 → (0 < NN k ↔ k < n)) → ∃ mi' N' K' V' l5' l6', zRun 0 172 [some (.ref 0), some (.ref 1), some (.int (zi (7 + 2 * n))), some (.int (zi m)), some (.int (zi n)), l5, l6] [] (SH Ls) mi mj (RF g) = zRun 0 247 [some (.ref 0), some (.ref 1), some (.int (zi (7 + 2 * m))), some (.int (zi m)), some (.int (zi m)), l5', l6'] [] (SH Ls) mi' mj (RF g) ∧ ST mi' g lo hi u N' K' V' ∧ mi' 1 1 = zi 0 ∧ (∀ k, k < 4 → (0 < N' k ↔ k < m)) := by
  induction j with
  | zero =>
    intro n hj mi NN KK VV l5 l6 h hp hN
    obtain rfl : n = m := by omega
    refine ⟨mi, NN, KK, VV, l5, l6, ?_, h, hp, hN⟩
    rw [q_0_172]
    simp (disch := (first | ((with_reducible refine zct_le ?_) <;> exact Nat.le_of_ble_eq_true rfl) | with_reducible exact zh_0 | with_reducible exact zh_1 | with_reducible exact zh_b | omega)) only [q_0_174, q_0_175, q_0_178r, q_0_178n, q_0_179r, q_0_179n, q_0_180, q_0_181, q_0_184r, q_0_184n, q_0_185, q_0_186, q_0_187, q_0_188, q_0_191, q_0_194, q_0_196, q_0_199r, q_0_199n, q_0_200, q_0_201, q_0_204, q_0_206, q_0_208, q_0_211r, q_0_211n, q_0_212, q_0_215, q_0_217, q_0_220r, q_0_220n, q_0_221, q_0_223, q_0_226, q_0_228, q_0_231r, q_0_231n, q_0_232, q_0_233, q_0_236, q_0_239, q_0_240, q_0_241, q_0_244, vf_s, vf_n, zk2_none, zk2_int, zk2_ref, zk2_null, zk2_long, zct_nil, zct_i, zct_l, zct_r, zct_n, Option.bind_some, Option.toList_some, Option.toList_none, List.cons_append, List.nil_append, zor_l, zor_r, if_true, if_false, ↓reduceIte, zi_lit, zi_of, zi_add, zi_mul, zi_sub, zi_nat, zi_leT, zi_leF, zi_ltT, zi_ltF, zi_eqT, zi_eqF, zif_0z, zif_bz, zi_01l, zi_01r, not_true_eq_false, not_false_eq_true, Nat.reduceAdd, Nat.reduceMul, Nat.reduceSub]
  | succ j ih =>
    intro n hj mi NN KK VV l5 l6 h hp hN
    obtain ⟨v, hv⟩ := m_83 (g := g) (mi := mi) (mj := mj) (k := 7 + 2 * n) (by omega) hL
    obtain ⟨w, hw⟩ := m_83 (g := g) (mi := mi) (mj := mj) (k := 7 + 2 * n + 1) (by omega) hL
    obtain ⟨mi1, p, P, t, a1, a2, a3, a4, a5⟩ := v_text (Ls := Ls) (g := g) (mj := mj) (v := v) (w := w) hp
    have hs1 : ST mi1 g lo hi u NN KK VV := ⟨h.1, h.2.fr fun a _ _ => a2.1 a (by omega) (by omega)⟩
    have b1 := s_100p (Ls := Ls) (g := g) (mj := mj) a4.2.1
    obtain ⟨q0, hq0⟩ := zi_all (mi1 22 4)
    obtain ⟨s1, a6, a7, a8, a9⟩ := a5 q0
    obtain ⟨mi2, c1, c2, q1, c3⟩ := s_84 (Ls := Ls) (g := g) (mj := mj) a4 hq0 a6 a7 a8
    have hs2 := hs1.kp c2.k hs1.1
    have a4' : pdC mi2 p P := a4.fr (by rw [c2 1 (by omega)]) (c2 2 (by omega))
    obtain ⟨s2, b6, b7, b8, b9⟩ := a5 q1
    obtain ⟨mi3, d1, d2, d3, d4, d5, d6⟩ := s_85 (Ls := Ls) (mj := mj) (e := n) hs2 (by omega) a4' c3 b6 b7 b8
    rw [b9] at d1
    have b2 := s_100p (Ls := Ls) (g := g) (mj := mj) d4
    obtain ⟨mi4, N', K', V', l5', l6', r1, r2, r3, r4⟩ := ih (n + 1) (by omega) mi3 _ _ _ (some (.int (zi t))) (some (.int (zi p))) d3 d4 (fun k hk => by
      by_cases e1 : k = n
      · subst e1; rw [if_pos rfl]; exact ⟨fun _ => by omega, fun _ => d2⟩
      · rw [if_neg e1]
        have := hN k hk
        exact ⟨fun q => by have := this.mp q; omega, fun q => this.mpr (by omega)⟩)
    refine ⟨mi4, N', K', V', l5', l6', ?_, r2, r3, r4⟩
    have hp48 := a4.1
    have ea : 7 + 2 * n + 2 = 7 + 2 * (n + 1) := by omega
    rw [← r1, q_0_172]
    simp (disch := (first | with_reducible exact is_1 | with_reducible exact zi_at is_1 (by omega) (by omega) | ((with_reducible refine zct_le ?_) <;> exact Nat.le_of_ble_eq_true rfl) | with_reducible exact zh_0 | with_reducible exact zh_1 | with_reducible exact zh_b | omega)) only [q_0_174, q_0_175, q_0_178r, q_0_178n, q_0_179r, q_0_179n, q_0_180, q_0_181, q_0_184r, q_0_184n, q_0_185, q_0_186, q_0_187, q_0_188, q_0_191, q_0_194, q_0_196, q_0_199r, q_0_199n, q_0_200, q_0_201, q_0_204, q_0_206, q_0_208, q_0_211r, q_0_211n, q_0_212, q_0_215, q_0_217, q_0_220r, q_0_220n, q_0_221, q_0_223, q_0_226, q_0_228, q_0_231r, q_0_231n, q_0_232, q_0_233, q_0_236, q_0_239, q_0_240, q_0_241, q_0_244, vf_s, vf_n, zk2_none, zk2_int, zk2_ref, zk2_null, zk2_long, zct_nil, zct_i, zct_l, zct_r, zct_n, Option.bind_some, Option.toList_some, Option.toList_none, List.cons_append, List.nil_append, zor_l, zor_r, if_true, if_false, ↓reduceIte, zi_lit, zi_of, zi_add, zi_mul, zi_sub, zi_nat, zi_leT, zi_leF, zi_ltT, zi_ltF, zi_eqT, zi_eqF, zif_0z, zif_bz, zi_01l, zi_01r, not_true_eq_false, not_false_eq_true, Nat.reduceAdd, Nat.reduceMul, Nat.reduceSub, hv, hw, a1, b1, c1, d1, b2, ea]
/-- the checks of an expression -/
theorem lw_3 (hL : Ls ≤ 260) (h1 : 1 ≤ m) (h3 : m ≤ 3) (hN : ∀ k, k < 4 → (0 < NN k ↔ k < m)) (j : Nat) : ∀ n, n + j = m → ∀ mi mj g l5 l6, ST mi g lo hi u NN KK VV → mi 1 1 = zi 0 → ∃ mi' mj' g' l5' l6', zRun 0 250 [some (.ref 0), some (.ref 1), some (.int (zi (7 + 2 * m + 2 * n))), some (.int (zi m)), some (.int (zi n)), l5, l6] [] (SH Ls) mi mj (RF g) = zRun 0 369 [some (.ref 0), some (.ref 1), some (.int (zi (7 + 2 * m + 2 * m))), some (.int (zi m)), some (.int (zi m)), l5', l6'] [] (SH Ls) mi' mj' (RF g') ∧ ST mi' g' lo hi u NN KK VV ∧ mi' 1 1 = zi 0 := by
  induction j with
  | zero =>
    intro n hj mi mj g l5 l6 h hp
    obtain rfl : n = m := by omega
    refine ⟨mi, mj, g, l5, l6, ?_, h, hp⟩
    rw [q_0_250]
    simp (disch := (first | ((with_reducible refine zct_le ?_) <;> exact Nat.le_of_ble_eq_true rfl) | with_reducible exact zh_0 | with_reducible exact zh_1 | with_reducible exact zh_b | omega)) only [q_0_252, q_0_253, q_0_256r, q_0_256n, q_0_257, q_0_258, q_0_261, q_0_264, q_0_266r, q_0_266n, q_0_267, q_0_269, q_0_272, q_0_275r, q_0_275n, q_0_276, q_0_278, q_0_280, q_0_283, q_0_286r, q_0_286n, q_0_287, q_0_289, q_0_291r, q_0_291n, q_0_292, q_0_293, q_0_296, q_0_299, q_0_302, q_0_305r, q_0_305n, q_0_306, q_0_308, q_0_310, q_0_312, q_0_313, q_0_315, q_0_318, q_0_321, q_0_324r, q_0_324n, q_0_325, q_0_327, q_0_329, q_0_330, q_0_331, q_0_332, q_0_335, q_0_338, q_0_341, q_0_342, q_0_343r, q_0_343n, q_0_344, q_0_346, q_0_348, q_0_350, q_0_351, q_0_352, q_0_355, q_0_358, q_0_361, q_0_362, q_0_363, q_0_366, vf_s, vf_n, zk2_none, zk2_int, zk2_ref, zk2_null, zk2_long, zct_nil, zct_i, zct_l, zct_r, zct_n, Option.bind_some, Option.toList_some, Option.toList_none, List.cons_append, List.nil_append, zor_l, zor_r, if_true, if_false, ↓reduceIte, zi_lit, zi_of, zi_add, zi_mul, zi_sub, zi_nat, zi_leT, zi_leF, zi_ltT, zi_ltF, zi_eqT, zi_eqF, zif_0z, zif_bz, zi_01l, zi_01r, not_true_eq_false, not_false_eq_true, Nat.reduceAdd, Nat.reduceMul, Nat.reduceSub]
  | succ j ih =>
    intro n hj mi mj g l5 l6 h hp
    have he : n < 4 := by omega
    have hn : 0 < NN n := (hN n he).mpr (by omega)
    obtain ⟨v, hv⟩ := m_83 (g := g) (mi := mi) (mj := mj) (k := 7 + 2 * m + 2 * n) (by omega) hL
    obtain ⟨mi1, mj1, g1, r1, k1, o1⟩ := v_parts (Ls := Ls) (mj := mj) h he hn
    have h1' := h.kp k1 o1
    obtain ⟨mi2, mj2, g2, r2, k2, o2⟩ := v_meets (Ls := Ls) (mj := mj1) (v := v) h1' he hn
    have h2 := h1'.kp k2 o2
    obtain ⟨w, hw⟩ := m_83 (g := g2) (mi := mi2) (mj := mj2) (k := 7 + 2 * m + 2 * n + 1) (by omega) hL
    obtain ⟨mi3, mj3, g3, r3, h3', l3⟩ := v_proves (Ls := Ls) (mj := mj2) (v := v) (w := w) h2 he hn
    have m1 := m_116 (Ls := Ls) (g := g3) (mi := mi3) (mj := mj3) (v := v >>> (zi 7 &&& zi 31)) (m := 25) (by omega) (by omega)
    have hl1 := upF_lt (v := v >>> (zi 7 &&& zi 31)) (m := 25) (by omega)
    generalize upF (v >>> (zi 7 &&& zi 31)) 25 = t1 at m1 hl1
    obtain ⟨mi4, mj4, g4, r4, k4, o4⟩ := v_tightens (Ls := Ls) (mj := mj3) (t := t1) h3' he hn (by omega)
    have h4 := h3'.kp k4 o4
    have m2 := m_116 (Ls := Ls) (g := g4) (mi := mi4) (mj := mj4) (v := v >>> (zi 3 &&& zi 31)) (m := 4) (by omega) (by omega)
    have hl2 := upF_lt (v := v >>> (zi 3 &&& zi 31)) (m := 4) (by omega)
    generalize upF (v >>> (zi 3 &&& zi 31)) 4 = t2 at m2 hl2
    obtain ⟨mi5, mj5, g5, r5, h5, l5'⟩ := v_zeros (Ls := Ls) (mj := mj4) (s := t2) h4 he hn hl2
    have m3 := m_116 (Ls := Ls) (g := g5) (mi := mi5) (mj := mj5) (v := v >>> (zi 11 &&& zi 31)) (m := m) (by omega) (by omega)
    have hl3 := upF_lt (v := v >>> (zi 11 &&& zi 31)) (m := m) (by omega)
    generalize upF (v >>> (zi 11 &&& zi 31)) m = t3 at m3 hl3
    obtain ⟨mi6, mj6, g6, r6, k6, o6⟩ := v_compares (Ls := Ls) (mj := mj5) (e' := t3) h5 he hn (by omega) ((hN t3 (by omega)).mpr hl3)
    have h6 := h5.kp k6 o6
    have hp6 : mi6 1 1 = zi 0 := by
      rw [k6 1 (by omega), l5'.2, k4 1 (by omega), l3.2, k2 1 (by omega), k1 1 (by omega)]
      exact hp
    obtain ⟨mi7, mj7, g7, l5f, l6f, q1, q2, q3⟩ := ih (n + 1) (by omega) mi6 mj6 g6 (some (.int v)) l6 h6 hp6
    refine ⟨mi7, mj7, g7, l5f, l6f, ?_, q2, q3⟩
    have ea : 7 + 2 * m + 2 * n + 1 + 1 = 7 + 2 * m + 2 * (n + 1) := by omega
    rw [← q1, q_0_250]
    simp (disch := (first | with_reducible exact is_1 | with_reducible exact zi_at is_1 (by omega) (by omega) | ((with_reducible refine zct_le ?_) <;> exact Nat.le_of_ble_eq_true rfl) | with_reducible exact zh_0 | with_reducible exact zh_1 | with_reducible exact zh_b | omega)) only [q_0_252, q_0_253, q_0_256r, q_0_256n, q_0_257, q_0_258, q_0_261, q_0_264, q_0_266r, q_0_266n, q_0_267, q_0_269, q_0_272, q_0_275r, q_0_275n, q_0_276, q_0_278, q_0_280, q_0_283, q_0_286r, q_0_286n, q_0_287, q_0_289, q_0_291r, q_0_291n, q_0_292, q_0_293, q_0_296, q_0_299, q_0_302, q_0_305r, q_0_305n, q_0_306, q_0_308, q_0_310, q_0_312, q_0_313, q_0_315, q_0_318, q_0_321, q_0_324r, q_0_324n, q_0_325, q_0_327, q_0_329, q_0_330, q_0_331, q_0_332, q_0_335, q_0_338, q_0_341, q_0_342, q_0_343r, q_0_343n, q_0_344, q_0_346, q_0_348, q_0_350, q_0_351, q_0_352, q_0_355, q_0_358, q_0_361, q_0_362, q_0_363, q_0_366, vf_s, vf_n, zk2_none, zk2_int, zk2_ref, zk2_null, zk2_long, zct_nil, zct_i, zct_l, zct_r, zct_n, Option.bind_some, Option.toList_some, Option.toList_none, List.cons_append, List.nil_append, zor_l, zor_r, if_true, if_false, ↓reduceIte, zi_lit, zi_of, zi_add, zi_mul, zi_sub, zi_nat, zi_leT, zi_leF, zi_ltT, zi_ltF, zi_eqT, zi_eqF, zif_0z, zif_bz, zi_01l, zi_01r, not_true_eq_false, not_false_eq_true, Nat.reduceAdd, Nat.reduceMul, Nat.reduceSub, hv, hw, r1, r2, r3, r4, r5, r6, m1, m2, m3, ea]
theorem law_go (hL : Ls ≤ 260) (h : ST mi g lo hi u (fun _ => 0) KK VV) (hp : mi 1 1 = zi 0) (hd : ∀ k, k < 4 → lo k = zi 0 ∧ hi k = zi 256) : ∃ mi' mj' g', zRun 0 10 [some (.ref 0), some (.ref 1), some (.int (zi 0)), none, none, none, none] [] (SH Ls) mi mj (RF g) = some (some (.int (zi 1)), SH Ls, mi', mj', RF g') := by
  obtain ⟨v, hv⟩ := m_83 (g := g) (mi := mi) (mj := mj) (k := 0) (by omega) hL
  obtain ⟨mi1, r1, f1⟩ := v_refused (Ls := Ls) (mj := mj) (v := v) h hp
  have h1 := h.kp f1.k h.1
  have hp1 : mi1 1 1 = zi 0 := by rw [f1 1 (by omega)]; exact hp
  obtain ⟨w, hw⟩ := m_83 (g := g) (mi := mi1) (mj := mj) (k := 1) (by omega) hL
  have m1 := m_116 (Ls := Ls) (g := g) (mi := mi1) (mj := mj) (v := w) (m := 9) (by omega) (by omega)
  have hl1 := upF_lt (v := w) (m := 9) (by omega)
  generalize upF w 9 = t1 at m1 hl1
  obtain ⟨a1, a2⟩ := s_81 (Ls := Ls) (mj := mj) (a := t1) h1 (by omega)
  obtain ⟨mi2, lo2, hi2, l4, l5, b1, b2, b3⟩ := lw_1 (Ls := Ls) (mj := mj) hL 4 0 (by omega) _ lo hi none none a2 (fun k _ hk => hd k hk)
  have hp2 : mi2 1 1 = zi 0 := by rw [b3 1 (by omega) (by omega), zup_ne (by omega)]; exact hp1
  obtain ⟨x, hx⟩ := m_83 (g := g) (mi := mi2) (mj := mj) (k := 6) (by omega) hL
  have m2 := m_116 (Ls := Ls) (g := g) (mi := mi2) (mj := mj) (v := x) (m := 3) (by omega) (by omega)
  have hl2 := upF_lt (v := x) (m := 3) (by omega)
  generalize upF x 3 = t2 at m2 hl2
  obtain ⟨mi3, N', K', V', l5', l6', c1, c2, c3, c4⟩ := lw_2 (Ls := Ls) (mj := mj) (m := 1 + t2) hL (by omega) (by omega) (1 + t2) 0 (by omega) mi2 _ _ _ l5 none b2 hp2 (fun k _ => ⟨fun q => absurd q (by omega), fun q => by omega⟩)
  obtain ⟨mi4, mj4, g4, k5, k6, d1, d2, d3⟩ := lw_3 (Ls := Ls) (m := 1 + t2) hL (by omega) (by omega) c4 (1 + t2) 0 (by omega) mi3 mj g l5' l6' c2 c3
  obtain ⟨mi5, mj5, g5, e1⟩ := v_saved (Ls := Ls) (mj := mj4) (m := 1 + t2) d2 d3 (by omega) (by omega) c4
  refine ⟨mi5, mj5, g5, ?_⟩
  rw [Nat.mul_zero, Nat.add_zero] at c1 d1
  rw [Nat.add_zero] at b1
  have t0 : zRun 0 10 [some (.ref 0), some (.ref 1), some (.int (zi 0)), none, none, none, none] [] (SH Ls) mi mj (RF g) = zRun 0 47 [some (.ref 0), some (.ref 1), some (.int (zi 2)), some (.int (zi 0)), none, none, none] [] (SH Ls) (zup mi1 3 2 (zi t1)) mj (RF g) := by
    simp (disch := (first | with_reducible exact is_1 | with_reducible exact zi_at is_1 (by omega) (by omega) | ((with_reducible refine zct_le ?_) <;> exact Nat.le_of_ble_eq_true rfl) | with_reducible exact zh_0 | with_reducible exact zh_1 | with_reducible exact zh_b | omega)) only [q_0_10r, q_0_10n, q_0_11r, q_0_11n, q_0_12, q_0_13, q_0_16, q_0_19, q_0_22, q_0_25, q_0_26, q_0_27r, q_0_27n, q_0_28r, q_0_28n, q_0_29, q_0_30, q_0_33, q_0_36, q_0_38, q_0_41, q_0_44, q_0_45, q_0_46, vf_s, vf_n, zk2_none, zk2_int, zk2_ref, zk2_null, zk2_long, zct_nil, zct_i, zct_l, zct_r, zct_n, Option.bind_some, Option.toList_some, Option.toList_none, List.cons_append, List.nil_append, zor_l, zor_r, if_true, if_false, ↓reduceIte, zi_lit, zi_of, zi_add, zi_mul, zi_sub, zi_nat, zi_leT, zi_leF, zi_ltT, zi_ltF, zi_eqT, zi_eqF, zif_0z, zif_bz, zi_01l, zi_01r, not_true_eq_false, not_false_eq_true, Nat.reduceAdd, Nat.reduceMul, Nat.reduceSub, hv, r1, hw, m1, a1]
  have t1' : zRun 0 154 [some (.ref 0), some (.ref 1), some (.int (zi 6)), some (.int (zi 4)), l4, l5, none] [] (SH Ls) mi2 mj (RF g) = zRun 0 172 [some (.ref 0), some (.ref 1), some (.int (zi 7)), some (.int (zi (1 + t2))), some (.int (zi 0)), l5, none] [] (SH Ls) mi2 mj (RF g) := by
    simp (disch := (first | with_reducible exact is_1 | with_reducible exact zi_at is_1 (by omega) (by omega) | ((with_reducible refine zct_le ?_) <;> exact Nat.le_of_ble_eq_true rfl) | with_reducible exact zh_0 | with_reducible exact zh_1 | with_reducible exact zh_b | omega)) only [q_0_154, q_0_155r, q_0_155n, q_0_156, q_0_157, q_0_160, q_0_163, q_0_164, q_0_167, q_0_168, q_0_169, q_0_170, vf_s, vf_n, zk2_none, zk2_int, zk2_ref, zk2_null, zk2_long, zct_nil, zct_i, zct_l, zct_r, zct_n, Option.bind_some, Option.toList_some, Option.toList_none, List.cons_append, List.nil_append, zor_l, zor_r, if_true, if_false, ↓reduceIte, zi_lit, zi_of, zi_add, zi_mul, zi_sub, zi_nat, zi_leT, zi_leF, zi_ltT, zi_ltF, zi_eqT, zi_eqF, zif_0z, zif_bz, zi_01l, zi_01r, not_true_eq_false, not_false_eq_true, Nat.reduceAdd, Nat.reduceMul, Nat.reduceSub, hx, m2]
  have t2' : zRun 0 247 [some (.ref 0), some (.ref 1), some (.int (zi (7 + 2 * (1 + t2)))), some (.int (zi (1 + t2))), some (.int (zi (1 + t2))), l5', l6'] [] (SH Ls) mi3 mj (RF g) = zRun 0 250 [some (.ref 0), some (.ref 1), some (.int (zi (7 + 2 * (1 + t2)))), some (.int (zi (1 + t2))), some (.int (zi 0)), l5', l6'] [] (SH Ls) mi3 mj (RF g) := by
    simp (disch := (first | with_reducible exact is_1 | with_reducible exact zi_at is_1 (by omega) (by omega) | ((with_reducible refine zct_le ?_) <;> exact Nat.le_of_ble_eq_true rfl) | with_reducible exact zh_0 | with_reducible exact zh_1 | with_reducible exact zh_b | omega)) only [q_0_247, q_0_248, vf_s, vf_n, zk2_none, zk2_int, zk2_ref, zk2_null, zk2_long, zct_nil, zct_i, zct_l, zct_r, zct_n, Option.bind_some, Option.toList_some, Option.toList_none, List.cons_append, List.nil_append, zor_l, zor_r, if_true, if_false, ↓reduceIte, zi_lit, zi_of, zi_add, zi_mul, zi_sub, zi_nat, zi_leT, zi_leF, zi_ltT, zi_ltF, zi_eqT, zi_eqF, zif_0z, zif_bz, zi_01l, zi_01r, not_true_eq_false, not_false_eq_true, Nat.reduceAdd, Nat.reduceMul, Nat.reduceSub]
  rw [t0, b1, t1', c1, t2', d1]
  simp (disch := (first | with_reducible exact is_1 | with_reducible exact zi_at is_1 (by omega) (by omega) | ((with_reducible refine zct_le ?_) <;> exact Nat.le_of_ble_eq_true rfl) | with_reducible exact zh_0 | with_reducible exact zh_1 | with_reducible exact zh_b | omega)) only [q_0_369r, q_0_369n, q_0_370, q_0_371, q_0_374, vf_s, vf_n, zk2_none, zk2_int, zk2_ref, zk2_null, zk2_long, zct_nil, zct_i, zct_l, zct_r, zct_n, Option.bind_some, Option.toList_some, Option.toList_none, List.cons_append, List.nil_append, zor_l, zor_r, if_true, if_false, ↓reduceIte, zi_lit, zi_of, zi_add, zi_mul, zi_sub, zi_nat, zi_leT, zi_leF, zi_ltT, zi_ltF, zi_eqT, zi_eqF, zif_0z, zif_bz, zi_01l, zi_01r, not_true_eq_false, not_false_eq_true, Nat.reduceAdd, Nat.reduceMul, Nat.reduceSub, e1]
end
