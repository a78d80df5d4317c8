/-! ===== calls (13): save ===== -/
section
variable {Ls : Nat} {g : Nat → Nat} {mi mi1 mi' : zI} {mj mj' : zJ} {x y z : Int32} {a b e n p q k c m u s b' c' m' : Nat} {v w : Value} {lo hi lo' hi' : Nat → Int32} {NN : Nat → Nat} {KK : Nat → Nat → Nat} {VV : Nat → Nat → Int32} {T : En} {o : Nat} {K : Nat → Nat}
theorem cpS.fr (h : cpS mi mi1 c c') (f : ∀ a, c' ≤ a → a ≤ c' + 16 → mi' a = mi1 a) : cpS mi mi' c c' := by
  obtain ⟨h1, h2, h3⟩ := h
  refine ⟨fun k hk => ?_, ?_, fun e he => ⟨?_, fun k hk => ?_⟩⟩
  · rw [f (c' + 2) (by omega) (by omega), f (c' + 3) (by omega) (by omega)]; exact h1 k hk
  · rw [f c' (by omega) (by omega)]; exact h2
  · rw [f (c' + 5 + 3 * e) (by omega) (by omega)]; exact (h3 e he).1
  · rw [f (c' + 6 + 3 * e) (by omega) (by omega), f (c' + 7 + 3 * e) (by omega) (by omega)]; exact (h3 e he).2 k hk
theorem c_101 (h : INV mi mj g) : cok Ls 101 197 [.int x] mi mj g := by
  rcases arg3 x 1 (by omega) with ⟨s, hs1, rfl⟩ | hx
  · have hs2 : s < 2 := by omega
    obtain ⟨hg, ⟨lo, hi, u, NN, KK, VV, hs⟩, hsl, hpad, hprf⟩ := id h
    obtain ⟨mi1, r1, r2, r3⟩ := m_71 (Ls := Ls) (g := g) (mi := mi) (mj := mj) (zSt_sl hs2) (Or.inl rfl : zSt 3) (by omega)
    have h2 : stRel (zup mi1 21 s (zi 1)) 3 149 0 lo hi u NN KK VV := hs.fr (fun a _ _ => by rw [zup_ne (by omega), r3 a (by omega)]) (by rw [zup_ne (by omega), r3 149 (by omega)])
    obtain ⟨mi3, q1, q2, q3, q4⟩ := l_197 (Ls := Ls) (g := g) (mi := zup mi1 21 s (zi 1)) (mj := mj) hs2 493 0 rfl (zup mi1 21 s (zi 1)) (fun _ _ => rfl) (fun j hj => by omega) (fun _ _ => rfl)
    have h3 : stRel (zup mi3 151 s (zi 1)) 3 149 0 lo hi u NN KK VV := h2.fr (fun a _ _ => by rw [zup_ne (by omega), q2 a (by omega)]) (by rw [zup_ne (by omega), q2 149 (by omega)])
    have hs114 := m_114i (Ls := Ls) (g := g) (mi := zup mi1 21 s (zi 1)) (mj := mj) (a := s) (by omega)
    have i1 := zSt_is (Ls := Ls) (zSt_sl hs2)
    have F : ∀ a, ¬ a = 150 → ¬ a = 151 → ¬ a = 21 → (a < 114 + 17 * s ∨ 114 + 17 * s + 16 < a) → zup mi3 151 s (zi 1) a = mi a := fun a a1 a2 a3 a4 => by rw [zup_ne a2, q2 a a1, zup_ne a3, r3 a a4]
    refine ⟨.int (exF NN 4), zup mi1 21 s (zi 1), mj, g, zup mi3 151 s (zi 1), mj, ?_, ?_, ⟨hg, ⟨lo, hi, u, NN, KK, VV, h3⟩, fun t ht => ?_, ?_, ?_⟩, Or.inl ⟨_, rfl⟩⟩
    · simp (disch := (first | with_reducible exact is_1 | with_reducible exact zi_at is_1 (by omega) (by omega) | with_reducible exact is_3 | with_reducible exact zi_at is_3 (by omega) (by omega) | with_reducible exact is_20 | with_reducible exact zi_at is_20 (by omega) (by omega) | with_reducible exact is_21 | with_reducible exact zi_at is_21 (by omega) (by omega) | with_reducible exact i1 | with_reducible exact zi_at i1 (by omega) (by omega) | ((with_reducible refine zct_le ?_) <;> exact Nat.le_of_ble_eq_true rfl) | with_reducible exact zh_0 | with_reducible exact zh_1 | with_reducible exact zh_b | omega)) only [e_101, q_101_0, q_101_1, q_101_4, q_101_5, q_101_6, q_101_9, q_101_11, q_101_12r, q_101_12n, q_101_13, q_101_16, q_101_17t7, q_101_17t10, q_101_17t11, q_101_18r, q_101_18n, q_101_19, q_101_22, q_101_25r, q_101_25n, q_101_26, q_101_29, q_101_30, q_101_31, q_101_32r, q_101_32n, q_101_33, q_101_36, q_101_39, vf_s, vf_n, zk2_none, zk2_int, zk2_ref, zk2_null, zk2_long, zct_nil, zct_i, zct_l, zct_r, zct_n, Option.bind_some, Option.toList_some, Option.toList_none, List.cons_append, List.nil_append, zor_l, zor_r, if_true, if_false, ↓reduceIte, zi_lit, zi_of, zi_add, zi_mul, zi_sub, zi_nat, zi_leT, zi_leF, zi_ltT, zi_ltF, zi_eqT, zi_eqF, zif_0z, zif_bz, zi_01l, zi_01r, not_true_eq_false, not_false_eq_true, Nat.reduceAdd, Nat.reduceMul, Nat.reduceSub, rf_1_2, rf_1_3, rf_1_4, rf_20 hs2, r1, nar_1, (m_72 (Ls := Ls) (g := g) (mj := mj) h2).1]
    · simp (disch := (first | with_reducible exact is_148 | with_reducible exact zi_at is_148 (by omega) (by omega) | with_reducible exact is_151 | with_reducible exact zi_at is_151 (by omega) (by omega) | ((with_reducible refine zct_le ?_) <;> exact Nat.le_of_ble_eq_true rfl) | with_reducible exact zh_0 | with_reducible exact zh_1 | with_reducible exact zh_b | omega)) only [e_197, q_197_0, q_197_1, q_197_4, q_197_7, q_197_9, q_197_10, q_197_11, vf_s, vf_n, zk2_none, zk2_int, zk2_ref, zk2_null, zk2_long, zct_nil, zct_i, zct_l, zct_r, zct_n, Option.bind_some, Option.toList_some, Option.toList_none, List.cons_append, List.nil_append, zor_l, zor_r, if_true, if_false, ↓reduceIte, zi_lit, zi_of, zi_add, zi_mul, zi_sub, zi_nat, zi_leT, zi_leF, zi_ltT, zi_ltF, zi_eqT, zi_eqF, zif_0z, zif_bz, zi_01l, zi_01r, not_true_eq_false, not_false_eq_true, Nat.reduceAdd, Nat.reduceMul, Nat.reduceSub, hs114]
      rw [q1]
      simp (disch := (first | with_reducible exact is_148 | with_reducible exact zi_at is_148 (by omega) (by omega) | with_reducible exact is_151 | with_reducible exact zi_at is_151 (by omega) (by omega) | ((with_reducible refine zct_le ?_) <;> exact Nat.le_of_ble_eq_true rfl) | with_reducible exact zh_0 | with_reducible exact zh_1 | with_reducible exact zh_b | omega)) only [q_197_43r, q_197_43n, q_197_44, q_197_47, q_197_48, q_197_49, q_197_50r, q_197_50n, q_197_51, q_197_54, vf_s, vf_n, zk2_none, zk2_int, zk2_ref, zk2_null, zk2_long, zct_nil, zct_i, zct_l, zct_r, zct_n, Option.bind_some, Option.toList_some, Option.toList_none, List.cons_append, List.nil_append, zor_l, zor_r, if_true, if_false, ↓reduceIte, zi_lit, zi_of, zi_add, zi_mul, zi_sub, zi_nat, zi_leT, zi_leF, zi_ltT, zi_ltF, zi_eqT, zi_eqF, zif_0z, zif_bz, zi_01l, zi_01r, not_true_eq_false, not_false_eq_true, Nat.reduceAdd, Nat.reduceMul, Nat.reduceSub, rf_148_2, nar_1, (m_72 (Ls := Ls) (g := g) (mj := mj) h3).2]
    · have E21 : zup mi3 151 s (zi 1) 21 = zup mi1 21 s (zi 1) 21 := by rw [zup_ne (by omega), q2 21 (by omega)]
      by_cases c : t = s
      · subst c
        refine ⟨by rw [E21, zg_s, zg_s], Or.inr ⟨by rw [E21, zg_s], lo, hi, u, NN, KK, VV, ?_⟩⟩
        refine hs.cp (r2.fr fun a a1 a2 => by rw [zup_ne (by omega), q2 a (by omega), zup_ne (by omega)]) (fun j hj => ?_)
        rw [zup_ne (by omega), q3 j hj, zup_ne (by omega), r3 149 (by omega), Nat.zero_add]
      · obtain ⟨t1, t2⟩ := hsl t ht
        have e1 : zup mi3 151 s (zi 1) 21 t = mi 21 t := by rw [E21, zg_j (by omega), r3 21 (by omega)]
        have e2 : zup mi3 151 s (zi 1) 151 t = mi 151 t := by rw [zg_j (by omega), q2 151 (by omega), zup_ne (by omega), r3 151 (by omega)]
        refine ⟨by rw [e1, e2, t1], ?_⟩
        rw [e1]
        rcases t2 with t2 | ⟨t2, lo, hi, u, NN, KK, VV, t3⟩
        · exact Or.inl t2
        · refine Or.inr ⟨t2, lo, hi, u, NN, KK, VV, t3.cp (cpS.self fun a a1 a2 => F a (by omega) (by omega) (by omega) (by omega)) (fun j hj => ?_)⟩
          rw [zup_ne (by omega), q4 (493 * t + j) (by omega), zup_ne (by omega), r3 150 (by omega)]
    · unfold padRel
      rw [F 1 (by omega) (by omega) (by omega) (by omega), F 148 (by omega) (by omega) (by omega) (by omega), F 2 (by omega) (by omega) (by omega) (by omega), F 152 (by omega) (by omega) (by omega) (by omega)]
      exact hpad
    · unfold prfRel
      rw [F 1 (by omega) (by omega) (by omega) (by omega), F 148 (by omega) (by omega) (by omega) (by omega), F 103 (by omega) (by omega) (by omega) (by omega), F 104 (by omega) (by omega) (by omega) (by omega)]
      exact hprf
  · refine cok.same (v := .int (-zi 2)) h ?_ ?_ (Or.inl ⟨_, rfl⟩)
    · rcases hx with hx | hx
      · simp (disch := (first | with_reducible exact is_1 | with_reducible exact zi_at is_1 (by omega) (by omega) | ((with_reducible refine zct_le ?_) <;> exact Nat.le_of_ble_eq_true rfl) | with_reducible exact zh_0 | with_reducible exact zh_1 | with_reducible exact zh_b | omega)) only [e_101, q_101_0, q_101_1, q_101_4, q_101_5, q_101_6, q_101_9, q_101_11, q_101_12r, q_101_12n, q_101_13, q_101_16, q_101_17t7, q_101_17t10, q_101_17t11, q_101_18r, q_101_18n, q_101_19, q_101_22, q_101_25r, q_101_25n, q_101_26, q_101_29, q_101_30, q_101_31, q_101_32r, q_101_32n, q_101_33, q_101_36, q_101_39, vf_s, vf_n, zk2_none, zk2_int, zk2_ref, zk2_null, zk2_long, zct_nil, zct_i, zct_l, zct_r, zct_n, Option.bind_some, Option.toList_some, Option.toList_none, List.cons_append, List.nil_append, zor_l, zor_r, if_true, if_false, ↓reduceIte, zi_lit, zi_of, zi_add, zi_mul, zi_sub, zi_nat, zi_leT, zi_leF, zi_ltT, zi_ltF, zi_eqT, zi_eqF, zif_0z, zif_bz, zi_01l, zi_01r, not_true_eq_false, not_false_eq_true, Nat.reduceAdd, Nat.reduceMul, Nat.reduceSub, xz_ltT, xz_ltF, zx_ltT, zx_ltF, xz_leT, xz_leF, zx_leT, zx_leF, xz_eqF, and_true, true_and, and_false, false_and, and_self]
      · simp (disch := (first | with_reducible exact is_1 | with_reducible exact zi_at is_1 (by omega) (by omega) | ((with_reducible refine zct_le ?_) <;> exact Nat.le_of_ble_eq_true rfl) | with_reducible exact zh_0 | with_reducible exact zh_1 | with_reducible exact zh_b | omega)) only [e_101, q_101_0, q_101_1, q_101_4, q_101_5, q_101_6, q_101_9, q_101_11, q_101_12r, q_101_12n, q_101_13, q_101_16, q_101_17t7, q_101_17t10, q_101_17t11, q_101_18r, q_101_18n, q_101_19, q_101_22, q_101_25r, q_101_25n, q_101_26, q_101_29, q_101_30, q_101_31, q_101_32r, q_101_32n, q_101_33, q_101_36, q_101_39, vf_s, vf_n, zk2_none, zk2_int, zk2_ref, zk2_null, zk2_long, zct_nil, zct_i, zct_l, zct_r, zct_n, Option.bind_some, Option.toList_some, Option.toList_none, List.cons_append, List.nil_append, zor_l, zor_r, if_true, if_false, ↓reduceIte, zi_lit, zi_of, zi_add, zi_mul, zi_sub, zi_nat, zi_leT, zi_leF, zi_ltT, zi_ltF, zi_eqT, zi_eqF, zif_0z, zif_bz, zi_01l, zi_01r, not_true_eq_false, not_false_eq_true, Nat.reduceAdd, Nat.reduceMul, Nat.reduceSub, xz_ltT, xz_ltF, zx_ltT, zx_ltF, xz_leT, xz_leF, zx_leT, zx_leF, xz_eqF, and_true, true_and, and_false, false_and, and_self]
    · have hs114 := m_114x (Ls := Ls) (g := g) (mi := mi) (mj := mj) hx
      simp (disch := (first | with_reducible exact is_148 | with_reducible exact zi_at is_148 (by omega) (by omega) | ((with_reducible refine zct_le ?_) <;> exact Nat.le_of_ble_eq_true rfl) | with_reducible exact zh_0 | with_reducible exact zh_1 | with_reducible exact zh_b | omega)) only [e_197, q_197_0, q_197_1, q_197_4, q_197_7, q_197_9, q_197_10, q_197_11, vf_s, vf_n, zk2_none, zk2_int, zk2_ref, zk2_null, zk2_long, zct_nil, zct_i, zct_l, zct_r, zct_n, Option.bind_some, Option.toList_some, Option.toList_none, List.cons_append, List.nil_append, zor_l, zor_r, if_true, if_false, ↓reduceIte, zi_lit, zi_of, zi_add, zi_mul, zi_sub, zi_nat, zi_leT, zi_leF, zi_ltT, zi_ltF, zi_eqT, zi_eqF, zif_0z, zif_bz, zi_01l, zi_01r, not_true_eq_false, not_false_eq_true, Nat.reduceAdd, Nat.reduceMul, Nat.reduceSub, hs114]
end
