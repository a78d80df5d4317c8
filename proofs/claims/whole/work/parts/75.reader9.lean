/-! ===== reading (9): the model lays the steps ===== -/
theorem f12 : -zi 12 - zi 100 = -zi 112 := by decide
theorem f13 : -zi 13 - zi 100 = -zi 113 := by decide
theorem f14 : -zi 14 - zi 100 = -zi 114 := by decide
theorem f15 : -zi 15 - zi 100 = -zi 115 := by decide
theorem f6 : (-zi 100 ≤ -zi 6) = True := by decide
theorem f112 : (-zi 100 ≤ -zi 112) = False := by decide
theorem f113 : (-zi 100 ≤ -zi 113) = False := by decide
theorem f114 : (-zi 100 ≤ -zi 114) = False := by decide
theorem f115 : (-zi 100 ≤ -zi 115) = False := by decide
theorem g112 : - -zi 112 - zi 100 = zi 12 := by decide
theorem g113 : - -zi 113 - zi 100 = zi 13 := by decide
theorem g114 : - -zi 114 - zi 100 = zi 14 := by decide
theorem g115 : - -zi 115 - zi 100 = zi 15 := by decide
section
variable {Ls : Nat} {g : Nat → Nat} {mi mi' : zI} {mj : zJ} {s s' t sf : Rd} {a b c k n v x p j i q0 q e val : Nat} {W U : List Nat} {P : Nat → Nat}
theorem m_131a : zCall 131 [.int (zi 65)] (SH Ls) mi mj (RF g) = some (some (.int (zi 12)), SH Ls, mi, mj, RF g) := by
  simp (disch := (first | ((with_reducible refine zct_le ?_) <;> exact Nat.le_of_ble_eq_true rfl) | with_reducible exact zh_0 | with_reducible exact zh_1 | with_reducible exact zh_b | omega)) only [e_131, q_131_0, q_131_1, q_131_3, q_131_6, q_131_8, q_131_11, q_131_12, q_131_14, q_131_17, q_131_19, q_131_22, q_131_23, q_131_25, q_131_28, q_131_30, q_131_33, q_131_35, vf_s, vf_n, zk2_none, zk2_int, zk2_ref, zk2_null, zk2_long, zct_nil, zct_i, zct_l, zct_r, zct_n, Option.bind_some, Option.toList_some, Option.toList_none, List.cons_append, List.nil_append, zor_l, zor_r, if_true, if_false, ↓reduceIte, zi_lit, zi_of, zi_add, zi_mul, zi_sub, zi_nat, zi_leT, zi_leF, zi_ltT, zi_ltF, zi_eqT, zi_eqF, zif_0z, zif_bz, zi_01l, zi_01r, not_true_eq_false, not_false_eq_true, Nat.reduceAdd, Nat.reduceMul, Nat.reduceSub]
theorem m_131r : zCall 131 [.int (zi 82)] (SH Ls) mi mj (RF g) = some (some (.int (zi 13)), SH Ls, mi, mj, RF g) := by
  simp (disch := (first | ((with_reducible refine zct_le ?_) <;> exact Nat.le_of_ble_eq_true rfl) | with_reducible exact zh_0 | with_reducible exact zh_1 | with_reducible exact zh_b | omega)) only [e_131, q_131_0, q_131_1, q_131_3, q_131_6, q_131_8, q_131_11, q_131_12, q_131_14, q_131_17, q_131_19, q_131_22, q_131_23, q_131_25, q_131_28, q_131_30, q_131_33, q_131_35, vf_s, vf_n, zk2_none, zk2_int, zk2_ref, zk2_null, zk2_long, zct_nil, zct_i, zct_l, zct_r, zct_n, Option.bind_some, Option.toList_some, Option.toList_none, List.cons_append, List.nil_append, zor_l, zor_r, if_true, if_false, ↓reduceIte, zi_lit, zi_of, zi_add, zi_mul, zi_sub, zi_nat, zi_leT, zi_leF, zi_ltT, zi_ltF, zi_eqT, zi_eqF, zif_0z, zif_bz, zi_01l, zi_01r, not_true_eq_false, not_false_eq_true, Nat.reduceAdd, Nat.reduceMul, Nat.reduceSub]
theorem m_131l : zCall 131 [.int (zi 76)] (SH Ls) mi mj (RF g) = some (some (.int (zi 14)), SH Ls, mi, mj, RF g) := by
  simp (disch := (first | ((with_reducible refine zct_le ?_) <;> exact Nat.le_of_ble_eq_true rfl) | with_reducible exact zh_0 | with_reducible exact zh_1 | with_reducible exact zh_b | omega)) only [e_131, q_131_0, q_131_1, q_131_3, q_131_6, q_131_8, q_131_11, q_131_12, q_131_14, q_131_17, q_131_19, q_131_22, q_131_23, q_131_25, q_131_28, q_131_30, q_131_33, q_131_35, vf_s, vf_n, zk2_none, zk2_int, zk2_ref, zk2_null, zk2_long, zct_nil, zct_i, zct_l, zct_r, zct_n, Option.bind_some, Option.toList_some, Option.toList_none, List.cons_append, List.nil_append, zor_l, zor_r, if_true, if_false, ↓reduceIte, zi_lit, zi_of, zi_add, zi_mul, zi_sub, zi_nat, zi_leT, zi_leF, zi_ltT, zi_ltF, zi_eqT, zi_eqF, zif_0z, zif_bz, zi_01l, zi_01r, not_true_eq_false, not_false_eq_true, Nat.reduceAdd, Nat.reduceMul, Nat.reduceSub]
theorem m_131g : zCall 131 [.int (zi 71)] (SH Ls) mi mj (RF g) = some (some (.int (zi 15)), SH Ls, mi, mj, RF g) := by
  simp (disch := (first | ((with_reducible refine zct_le ?_) <;> exact Nat.le_of_ble_eq_true rfl) | with_reducible exact zh_0 | with_reducible exact zh_1 | with_reducible exact zh_b | omega)) only [e_131, q_131_0, q_131_1, q_131_3, q_131_6, q_131_8, q_131_11, q_131_12, q_131_14, q_131_17, q_131_19, q_131_22, q_131_23, q_131_25, q_131_28, q_131_30, q_131_33, q_131_35, vf_s, vf_n, zk2_none, zk2_int, zk2_ref, zk2_null, zk2_long, zct_nil, zct_i, zct_l, zct_r, zct_n, Option.bind_some, Option.toList_some, Option.toList_none, List.cons_append, List.nil_append, zor_l, zor_r, if_true, if_false, ↓reduceIte, zi_lit, zi_of, zi_add, zi_mul, zi_sub, zi_nat, zi_leT, zi_leF, zi_ltT, zi_ltF, zi_eqT, zi_eqF, zif_0z, zif_bz, zi_01l, zi_01r, not_true_eq_false, not_false_eq_true, Nat.reduceAdd, Nat.reduceMul, Nat.reduceSub]
set_option maxHeartbeats 8000000 in
theorem l_133 (he : e < 4) (hn : n ≤ 48) (hsf : rdS q0 P n = some sf) (hnb : ¬ rdB sf) (m : Nat) : ∀ i s mi fl, n ≤ i + m → i ≤ n → rdS q0 P i = some s → bdR n P s i → lR mi e s → mi 148 4 = zi n → (∀ k, k < n → mi 152 k = zi (P k) ∧ P k < 65536) → (s.p = 0 → fl = 1) → (¬ s.p = 0 → fl = 0) → ∀ l3 l4 l5, ∃ mi', zRun 133 22 [some (.ref 148), some (.int (zi fl)), some (.int (zi i)), l3, l4, l5] [] (SH Ls) mi mj (RF g) = some (none, SH Ls, mi', mj, RF g) ∧ lR mi' e (cpl 1 sf.W sf) ∧ FrL e mi mi' := by
  have exit : ∀ mi fl, lR mi e sf → mi 148 4 = zi n → ∀ l3 l4 l5, ∃ mi', zRun 133 22 [some (.ref 148), some (.int (zi fl)), some (.int (zi n)), l3, l4, l5] [] (SH Ls) mi mj (RF g) = some (none, SH Ls, mi', mj, RF g) ∧ lR mi' e (cpl 1 sf.W sf) ∧ FrL e mi mi' := by
    intro mi fl h hm l3 l4 l5
    obtain ⟨hp, hW, hl, hS, -⟩ := rdS_I n hn sf hsf
    obtain ⟨mi1, r1, r2⟩ := m_128 (Ls := Ls) (g := g) (mj := mj) (b := 1) (k := 1) he (Or.inl ⟨rfl, rfl⟩) h hW (by omega) (by omega)
    refine ⟨mi1, ?_, r2⟩
    rw [q_133_22]
    simp (disch := (first | with_reducible exact is_148 | with_reducible exact zi_at is_148 (by omega) (by omega) | ((with_reducible refine zct_le ?_) <;> exact Nat.le_of_ble_eq_true rfl) | with_reducible exact zh_0 | with_reducible exact zh_1 | with_reducible exact zh_b | omega)) only [q_133_23r, q_133_23n, q_133_24, q_133_27, q_133_30r, q_133_30n, q_133_31, q_133_34, q_133_35, q_133_36, q_133_37, q_133_38, q_133_40, q_133_41, q_133_42, q_133_43, q_133_46, q_133_49r, q_133_49n, q_133_50, q_133_51, q_133_54, q_133_55, q_133_56, q_133_57, q_133_60, q_133_61, q_133_63, q_133_65, q_133_68, q_133_71r, q_133_71n, q_133_72, q_133_73, q_133_74, q_133_75, q_133_77, q_133_78, q_133_79, q_133_82, q_133_85, q_133_86, q_133_88, q_133_91, q_133_94r, q_133_94n, q_133_95r, q_133_95n, q_133_96, q_133_99, q_133_100, q_133_101, q_133_104, q_133_107, q_133_108, q_133_110, q_133_113r, q_133_113n, q_133_114, q_133_116, q_133_119, q_133_120, q_133_121, q_133_124, q_133_125, q_133_127, q_133_129, q_133_132, q_133_135r, q_133_135n, q_133_136, q_133_137, q_133_140, q_133_141, q_133_143, q_133_144, q_133_147, q_133_150, q_133_151, q_133_152, q_133_155, q_133_156, q_133_158, q_133_161r, q_133_161n, q_133_162, q_133_163, q_133_166r, q_133_166n, q_133_167r, q_133_167i, q_133_168, q_133_171, q_133_172, q_133_173, q_133_176r, q_133_176n, q_133_177, q_133_180r, q_133_180n, q_133_181, q_133_184, q_133_185, q_133_187, q_133_189, q_133_191, q_133_194r, q_133_194n, q_133_195, q_133_197, q_133_198, q_133_200, q_133_201, q_133_202, q_133_205, q_133_208, q_133_209, q_133_211, q_133_214r, q_133_214n, q_133_215, q_133_216, q_133_219, q_133_220, q_133_221, q_133_224, q_133_225, q_133_227, q_133_230, q_133_232, q_133_235r, q_133_235n, q_133_236, q_133_238, q_133_241, q_133_244, q_133_245, q_133_247, q_133_250, q_133_251, q_133_254, q_133_255, q_133_257, q_133_260, q_133_262, q_133_265, q_133_266, q_133_268, q_133_271, q_133_273, q_133_276, q_133_278, q_133_280r, q_133_280n, q_133_281, q_133_283, q_133_284, q_133_287, q_133_289, q_133_291, q_133_294, q_133_295, q_133_298, q_133_299, q_133_302r, q_133_302n, q_133_303, q_133_305, q_133_308, q_133_311, q_133_314r, q_133_314n, q_133_315, q_133_316, q_133_319, vf_s, vf_n, zk2_none, zk2_int, zk2_ref, zk2_null, zk2_long, zct_nil, zct_i, zct_l, zct_r, zct_n, Option.bind_some, Option.toList_some, Option.toList_none, List.cons_append, List.nil_append, zor_l, zor_r, if_true, if_false, ↓reduceIte, zi_lit, zi_of, zi_add, zi_mul, zi_sub, zi_nat, zi_leT, zi_leF, zi_ltT, zi_ltF, zi_eqT, zi_eqF, zif_0z, zif_bz, zi_01l, zi_01r, not_true_eq_false, not_false_eq_true, Nat.reduceAdd, Nat.reduceMul, Nat.reduceSub, hm, r1]
  induction m with
  | zero =>
    intro i s mi fl h1 h2 h3 h4 h5 h6 h7 h8 h9 l3 l4 l5
    obtain rfl : i = n := by omega
    rw [hsf] at h3
    obtain rfl := Option.some.inj h3
    exact exit mi fl h5 h6 l3 l4 l5
  | succ m ih =>
    intro i s mi fl h1 h2 h3 h4 h5 h6 h7 h8 h9 l3 l4 l5
    by_cases ci : i = n
    · subst ci
      rw [hsf] at h3
      obtain rfl := Option.some.inj h3
      exact exit mi fl h5 h6 l3 l4 l5
    · have nxt : ∀ i' s1 mi1 fl1, i < i' → i' ≤ n → rdS q0 P i' = some s1 → bdR n P s1 i' → lR mi1 e s1 → FrL e mi mi1 → (s1.p = 0 → fl1 = 1) → (¬ s1.p = 0 → fl1 = 0) → ∀ l3 l4 l5, ∃ mi', zRun 133 22 [some (.ref 148), some (.int (zi fl1)), some (.int (zi i')), l3, l4, l5] [] (SH Ls) mi1 mj (RF g) = some (none, SH Ls, mi', mj, RF g) ∧ lR mi' e (cpl 1 sf.W sf) ∧ FrL e mi mi' := by
        intro i' s1 mi1 fl1 k1 k2 k3 k4 k5 k6 k7 k8 l3 l4 l5
        obtain ⟨mi', r1, r2, r3⟩ := ih i' s1 mi1 fl1 (by omega) k2 k3 k4 k5 (by rw [k6.2.1 4 (by omega)]; exact h6) (fun k hk => by rw [k6.1 152 (by omega) (by omega) (by omega)]; exact h7 k hk) k7 k8 l3 l4 l5
        exact ⟨mi', r1, r2, k6.tr r3⟩
      have hi : i < n := by omega
      obtain ⟨px, px2⟩ := h7 i hi
      have hIs := rdS_I i (by omega) s h3
      have hnn := rdI_n hIs (by omega)
      obtain ⟨s1, k1, k2⟩ := rdS_t hsf h3 hi
      have hx2 : ∀ s1, rdS q0 P (i + 1) = some s1 → rdB s1 → i + 1 < n := fun s1 k kb => by
        rcases Nat.lt_or_ge (i + 1) n with q | q
        · exact q
        · have : i + 1 = n := by omega
          rw [this, hsf] at k
          rw [Option.some.inj k] at hnb
          exact absurd kb hnb
      have hbd1 : ∀ s1 j, (s1.p = 0 ∨ s1.p = 1 ∨ s1.p = 6 ∨ s1.p = 8) → bdR n P s1 j := fun s1 j hp => ⟨by omega, fun h => by omega, fun h => by omega⟩
      generalize hxx : P i = x at px px2 k1
      have d1 : 48 ≤ x ∧ x ≤ 57 → zCall 120 [.int (zi x)] (SH Ls) mi mj (RF g) = some (some (.int (zi 1)), SH Ls, mi, mj, RF g) := fun h => m_120y h.1 h.2
      have d0 : ¬ (48 ≤ x ∧ x ≤ 57) → zCall 120 [.int (zi x)] (SH Ls) mi mj (RF g) = some (some (.int (zi 0)), SH Ls, mi, mj, RF g) := fun h => m_120n (by omega) h
      have a1 : 97 ≤ x ∧ x ≤ 100 → zCall 111 [.int (zi x), .int (zi 97), .int (zi 100)] (SH Ls) mi mj (RF g) = some (some (.int (zi 1)), SH Ls, mi, mj, RF g) := fun h => m_111y h.1 h.2 (by omega)
      have a0 : ¬ (97 ≤ x ∧ x ≤ 100) → zCall 111 [.int (zi x), .int (zi 97), .int (zi 100)] (SH Ls) mi mj (RF g) = some (some (.int (zi 0)), SH Ls, mi, mj, RF g) := fun h => m_111n (by omega) (by omega) (by omega) h
      have b1 : 65 ≤ x ∧ x ≤ 90 → zCall 111 [.int (zi x), .int (zi 65), .int (zi 90)] (SH Ls) mi mj (RF g) = some (some (.int (zi 1)), SH Ls, mi, mj, RF g) := fun h => m_111y h.1 h.2 (by omega)
      have b0 : ¬ (65 ≤ x ∧ x ≤ 90) → zCall 111 [.int (zi x), .int (zi 65), .int (zi 90)] (SH Ls) mi mj (RF g) = some (some (.int (zi 0)), SH Ls, mi, mj, RF g) := fun h => m_111n (by omega) (by omega) (by omega) h
      by_cases hp01 : s.p = 0 ∨ s.p = 1
      · by_cases c45 : s.p = 0 ∧ x = 45
        · obtain ⟨p0, rfl⟩ := c45
          have e1 : tk s 45 = some (s.ho 7 1) := by unfold tk; rw [if_pos p0, if_pos rfl]
          rw [e1] at k1
          have k3 := Option.some.inj k1
          obtain ⟨mi1, r1, r2, r3⟩ := m_129 (Ls := Ls) (g := g) (mj := mj) (a := 7) (p := 1) h5 hnn.2
          have e7 : cdM 7 = zi 7 := rfl
          rw [e7] at r1
          have hfl := h8 p0
          subst hfl
          obtain ⟨mi', t1, t2⟩ := nxt (i + 1) s1 mi1 0 (by omega) (by omega) k2 (hbd1 _ _ (by rw [← k3]; exact Or.inr (Or.inl rfl))) (by rw [← k3]; exact r2) r3 (fun h => by rw [← k3] at h; exact absurd h (by show ¬ 1 = 0; omega)) (fun _ => rfl) (some (.int (zi 45))) (some (.int (zi 1))) l5
          refine ⟨mi', ?_, t2⟩
          have z1 := d0 (by omega)
          have z2 := a0 (by omega)
          have z3 := b0 (by omega)
          rw [q_133_22]
          simp (disch := (first | with_reducible exact is_148 | with_reducible exact zi_at is_148 (by omega) (by omega) | with_reducible exact is_152 | with_reducible exact zi_at is_152 (by omega) (by omega) | ((with_reducible refine zct_le ?_) <;> exact Nat.le_of_ble_eq_true rfl) | with_reducible exact zh_0 | with_reducible exact zh_1 | with_reducible exact zh_b | omega)) only [q_133_23r, q_133_23n, q_133_24, q_133_27, q_133_30r, q_133_30n, q_133_31, q_133_34, q_133_35, q_133_36, q_133_37, q_133_38, q_133_40, q_133_41, q_133_42, q_133_43, q_133_46, q_133_49r, q_133_49n, q_133_50, q_133_51, q_133_54, q_133_55, q_133_56, q_133_57, q_133_60, q_133_61, q_133_63, q_133_65, q_133_68, q_133_71r, q_133_71n, q_133_72, q_133_73, q_133_74, q_133_75, q_133_77, q_133_78, q_133_79, q_133_82, q_133_85, q_133_86, q_133_88, q_133_91, q_133_94r, q_133_94n, q_133_95r, q_133_95n, q_133_96, q_133_99, q_133_100, q_133_101, q_133_104, q_133_107, q_133_108, q_133_110, q_133_113r, q_133_113n, q_133_114, q_133_116, q_133_119, q_133_120, q_133_121, q_133_124, q_133_125, q_133_127, q_133_129, q_133_132, q_133_135r, q_133_135n, q_133_136, q_133_137, q_133_140, q_133_141, q_133_143, q_133_144, q_133_147, q_133_150, q_133_151, q_133_152, q_133_155, q_133_156, q_133_158, q_133_161r, q_133_161n, q_133_162, q_133_163, q_133_166r, q_133_166n, q_133_167r, q_133_167i, q_133_168, q_133_171, q_133_172, q_133_173, q_133_176r, q_133_176n, q_133_177, q_133_180r, q_133_180n, q_133_181, q_133_184, q_133_185, q_133_187, q_133_189, q_133_191, q_133_194r, q_133_194n, q_133_195, q_133_197, q_133_198, q_133_200, q_133_201, q_133_202, q_133_205, q_133_208, q_133_209, q_133_211, q_133_214r, q_133_214n, q_133_215, q_133_216, q_133_219, q_133_220, q_133_221, q_133_224, q_133_225, q_133_227, q_133_230, q_133_232, q_133_235r, q_133_235n, q_133_236, q_133_238, q_133_241, q_133_244, q_133_245, q_133_247, q_133_250, q_133_251, q_133_254, q_133_255, q_133_257, q_133_260, q_133_262, q_133_265, q_133_266, q_133_268, q_133_271, q_133_273, q_133_276, q_133_278, q_133_280r, q_133_280n, q_133_281, q_133_283, q_133_284, q_133_287, q_133_289, q_133_291, q_133_294, q_133_295, q_133_298, q_133_299, q_133_302r, q_133_302n, q_133_303, q_133_305, q_133_308, q_133_311, q_133_314r, q_133_314n, q_133_315, q_133_316, q_133_319, vf_s, vf_n, zk2_none, zk2_int, zk2_ref, zk2_null, zk2_long, zct_nil, zct_i, zct_l, zct_r, zct_n, Option.bind_some, Option.toList_some, Option.toList_none, List.cons_append, List.nil_append, zor_l, zor_r, if_true, if_false, ↓reduceIte, zi_lit, zi_of, zi_add, zi_mul, zi_sub, zi_nat, zi_leT, zi_leF, zi_ltT, zi_ltF, zi_eqT, zi_eqF, zif_0z, zif_bz, zi_01l, zi_01r, not_true_eq_false, not_false_eq_true, Nat.reduceAdd, Nat.reduceMul, Nat.reduceSub, rf_148_3, h6, px, z1, z2, z3, r1]
          exact t1
        · have e0 : tkO s x = some s1 := by
            unfold tk at k1
            rcases hp01 with q | q
            · rw [if_pos q, if_neg (fun h => c45 ⟨q, h⟩)] at k1; exact k1
            · rw [if_neg (by omega), if_pos q] at k1; exact k1
          by_cases cd : 48 ≤ x ∧ x ≤ 57
          · obtain ⟨mi1, j, t, r1, r2, r3, r4, r5, r6, r7, r8⟩ := m_132 (Ls := Ls) (g := g) (mj := mj) he hn h6 h7 hsf hnb h5 h3 hi hp01 (by rw [hxx]; exact cd)
            obtain ⟨j0, rfl⟩ : ∃ j0, j = j0 + 1 := ⟨j - 1, by omega⟩
            obtain ⟨mi', t1, t2⟩ := nxt (j0 + 1) t mi1 0 (by omega) r3 r4 r6 r5 r8 (fun h => absurd h r7) (fun _ => rfl) (some (.int (zi x))) (some (.int (zi fl))) l5
            refine ⟨mi', ?_, t2⟩
            have z1 := d1 cd
            rw [q_133_22]
            simp (disch := (first | with_reducible exact is_148 | with_reducible exact zi_at is_148 (by omega) (by omega) | with_reducible exact is_152 | with_reducible exact zi_at is_152 (by omega) (by omega) | ((with_reducible refine zct_le ?_) <;> exact Nat.le_of_ble_eq_true rfl) | with_reducible exact zh_0 | with_reducible exact zh_1 | with_reducible exact zh_b | omega)) only [q_133_23r, q_133_23n, q_133_24, q_133_27, q_133_30r, q_133_30n, q_133_31, q_133_34, q_133_35, q_133_36, q_133_37, q_133_38, q_133_40, q_133_41, q_133_42, q_133_43, q_133_46, q_133_49r, q_133_49n, q_133_50, q_133_51, q_133_54, q_133_55, q_133_56, q_133_57, q_133_60, q_133_61, q_133_63, q_133_65, q_133_68, q_133_71r, q_133_71n, q_133_72, q_133_73, q_133_74, q_133_75, q_133_77, q_133_78, q_133_79, q_133_82, q_133_85, q_133_86, q_133_88, q_133_91, q_133_94r, q_133_94n, q_133_95r, q_133_95n, q_133_96, q_133_99, q_133_100, q_133_101, q_133_104, q_133_107, q_133_108, q_133_110, q_133_113r, q_133_113n, q_133_114, q_133_116, q_133_119, q_133_120, q_133_121, q_133_124, q_133_125, q_133_127, q_133_129, q_133_132, q_133_135r, q_133_135n, q_133_136, q_133_137, q_133_140, q_133_141, q_133_143, q_133_144, q_133_147, q_133_150, q_133_151, q_133_152, q_133_155, q_133_156, q_133_158, q_133_161r, q_133_161n, q_133_162, q_133_163, q_133_166r, q_133_166n, q_133_167r, q_133_167i, q_133_168, q_133_171, q_133_172, q_133_173, q_133_176r, q_133_176n, q_133_177, q_133_180r, q_133_180n, q_133_181, q_133_184, q_133_185, q_133_187, q_133_189, q_133_191, q_133_194r, q_133_194n, q_133_195, q_133_197, q_133_198, q_133_200, q_133_201, q_133_202, q_133_205, q_133_208, q_133_209, q_133_211, q_133_214r, q_133_214n, q_133_215, q_133_216, q_133_219, q_133_220, q_133_221, q_133_224, q_133_225, q_133_227, q_133_230, q_133_232, q_133_235r, q_133_235n, q_133_236, q_133_238, q_133_241, q_133_244, q_133_245, q_133_247, q_133_250, q_133_251, q_133_254, q_133_255, q_133_257, q_133_260, q_133_262, q_133_265, q_133_266, q_133_268, q_133_271, q_133_273, q_133_276, q_133_278, q_133_280r, q_133_280n, q_133_281, q_133_283, q_133_284, q_133_287, q_133_289, q_133_291, q_133_294, q_133_295, q_133_298, q_133_299, q_133_302r, q_133_302n, q_133_303, q_133_305, q_133_308, q_133_311, q_133_314r, q_133_314n, q_133_315, q_133_316, q_133_319, vf_s, vf_n, zk2_none, zk2_int, zk2_ref, zk2_null, zk2_long, zct_nil, zct_i, zct_l, zct_r, zct_n, Option.bind_some, Option.toList_some, Option.toList_none, List.cons_append, List.nil_append, zor_l, zor_r, if_true, if_false, ↓reduceIte, zi_lit, zi_of, zi_add, zi_mul, zi_sub, zi_nat, zi_leT, zi_leF, zi_ltT, zi_ltF, zi_eqT, zi_eqF, zif_0z, zif_bz, zi_01l, zi_01r, not_true_eq_false, not_false_eq_true, Nat.reduceAdd, Nat.reduceMul, Nat.reduceSub, rf_148_3, h6, px, z1, r1, Nat.add_sub_cancel]
            exact t1
          · have z1 := d0 cd
            unfold tkO at e0
            by_cases ca : 97 ≤ x ∧ x ≤ 100
            · rw [if_pos ca] at e0
              have k3 := Option.some.inj e0
              have z2 := a1 ca
              obtain ⟨mi1, r1, r2, r3⟩ := m_126a (Ls := Ls) (g := g) (mj := mj) (k := 1 + x - 97) he h5 (by omega)
              have ek : 1 + x - 97 = 1 + (x - 97) := by omega
              obtain ⟨mi', t1, t2⟩ := nxt (i + 1) s1 mi1 0 (by omega) (by omega) k2 (hbd1 _ _ (by rw [← k3]; exact Or.inr (Or.inr (Or.inl rfl)))) (by rw [← k3, ← ek]; exact r2) r3 (fun h => by rw [← k3] at h; exact absurd h (by show ¬ 6 = 0; omega)) (fun _ => rfl) (some (.int (zi x))) (some (.int (zi fl))) l5
              refine ⟨mi', ?_, t2⟩
              rw [q_133_22]
              simp (disch := (first | with_reducible exact is_148 | with_reducible exact zi_at is_148 (by omega) (by omega) | with_reducible exact is_152 | with_reducible exact zi_at is_152 (by omega) (by omega) | ((with_reducible refine zct_le ?_) <;> exact Nat.le_of_ble_eq_true rfl) | with_reducible exact zh_0 | with_reducible exact zh_1 | with_reducible exact zh_b | omega)) only [q_133_23r, q_133_23n, q_133_24, q_133_27, q_133_30r, q_133_30n, q_133_31, q_133_34, q_133_35, q_133_36, q_133_37, q_133_38, q_133_40, q_133_41, q_133_42, q_133_43, q_133_46, q_133_49r, q_133_49n, q_133_50, q_133_51, q_133_54, q_133_55, q_133_56, q_133_57, q_133_60, q_133_61, q_133_63, q_133_65, q_133_68, q_133_71r, q_133_71n, q_133_72, q_133_73, q_133_74, q_133_75, q_133_77, q_133_78, q_133_79, q_133_82, q_133_85, q_133_86, q_133_88, q_133_91, q_133_94r, q_133_94n, q_133_95r, q_133_95n, q_133_96, q_133_99, q_133_100, q_133_101, q_133_104, q_133_107, q_133_108, q_133_110, q_133_113r, q_133_113n, q_133_114, q_133_116, q_133_119, q_133_120, q_133_121, q_133_124, q_133_125, q_133_127, q_133_129, q_133_132, q_133_135r, q_133_135n, q_133_136, q_133_137, q_133_140, q_133_141, q_133_143, q_133_144, q_133_147, q_133_150, q_133_151, q_133_152, q_133_155, q_133_156, q_133_158, q_133_161r, q_133_161n, q_133_162, q_133_163, q_133_166r, q_133_166n, q_133_167r, q_133_167i, q_133_168, q_133_171, q_133_172, q_133_173, q_133_176r, q_133_176n, q_133_177, q_133_180r, q_133_180n, q_133_181, q_133_184, q_133_185, q_133_187, q_133_189, q_133_191, q_133_194r, q_133_194n, q_133_195, q_133_197, q_133_198, q_133_200, q_133_201, q_133_202, q_133_205, q_133_208, q_133_209, q_133_211, q_133_214r, q_133_214n, q_133_215, q_133_216, q_133_219, q_133_220, q_133_221, q_133_224, q_133_225, q_133_227, q_133_230, q_133_232, q_133_235r, q_133_235n, q_133_236, q_133_238, q_133_241, q_133_244, q_133_245, q_133_247, q_133_250, q_133_251, q_133_254, q_133_255, q_133_257, q_133_260, q_133_262, q_133_265, q_133_266, q_133_268, q_133_271, q_133_273, q_133_276, q_133_278, q_133_280r, q_133_280n, q_133_281, q_133_283, q_133_284, q_133_287, q_133_289, q_133_291, q_133_294, q_133_295, q_133_298, q_133_299, q_133_302r, q_133_302n, q_133_303, q_133_305, q_133_308, q_133_311, q_133_314r, q_133_314n, q_133_315, q_133_316, q_133_319, vf_s, vf_n, zk2_none, zk2_int, zk2_ref, zk2_null, zk2_long, zct_nil, zct_i, zct_l, zct_r, zct_n, Option.bind_some, Option.toList_some, Option.toList_none, List.cons_append, List.nil_append, zor_l, zor_r, if_true, if_false, ↓reduceIte, zi_lit, zi_of, zi_add, zi_mul, zi_sub, zi_nat, zi_leT, zi_leF, zi_ltT, zi_ltF, zi_eqT, zi_eqF, zif_0z, zif_bz, zi_01l, zi_01r, not_true_eq_false, not_false_eq_true, Nat.reduceAdd, Nat.reduceMul, Nat.reduceSub, rf_148_3, h6, px, z1, z2, r1]
              exact t1
            · rw [if_neg ca, if_neg cd] at e0
              have z2 := a0 ca
              by_cases c40 : x = 40
              · subst c40
                rw [if_pos rfl] at e0
                have k3 := Option.some.inj e0
                obtain ⟨mi1, r1, r2, r3⟩ := m_129 (Ls := Ls) (g := g) (mj := mj) (a := 16) (p := 0) h5 hnn.2
                have e7 : cdM 16 = -zi 6 := rfl
                rw [e7] at r1
                obtain ⟨mi', t1, t2⟩ := nxt (i + 1) s1 mi1 1 (by omega) (by omega) k2 (hbd1 _ _ (by rw [← k3]; exact Or.inl rfl)) (by rw [← k3]; exact r2) r3 (fun _ => rfl) (fun h => by rw [← k3] at h; exact absurd rfl h) (some (.int (zi 40))) (some (.int (zi fl))) l5
                refine ⟨mi', ?_, t2⟩
                rw [q_133_22]
                simp (disch := (first | with_reducible exact is_148 | with_reducible exact zi_at is_148 (by omega) (by omega) | with_reducible exact is_152 | with_reducible exact zi_at is_152 (by omega) (by omega) | ((with_reducible refine zct_le ?_) <;> exact Nat.le_of_ble_eq_true rfl) | with_reducible exact zh_0 | with_reducible exact zh_1 | with_reducible exact zh_b | omega)) only [q_133_23r, q_133_23n, q_133_24, q_133_27, q_133_30r, q_133_30n, q_133_31, q_133_34, q_133_35, q_133_36, q_133_37, q_133_38, q_133_40, q_133_41, q_133_42, q_133_43, q_133_46, q_133_49r, q_133_49n, q_133_50, q_133_51, q_133_54, q_133_55, q_133_56, q_133_57, q_133_60, q_133_61, q_133_63, q_133_65, q_133_68, q_133_71r, q_133_71n, q_133_72, q_133_73, q_133_74, q_133_75, q_133_77, q_133_78, q_133_79, q_133_82, q_133_85, q_133_86, q_133_88, q_133_91, q_133_94r, q_133_94n, q_133_95r, q_133_95n, q_133_96, q_133_99, q_133_100, q_133_101, q_133_104, q_133_107, q_133_108, q_133_110, q_133_113r, q_133_113n, q_133_114, q_133_116, q_133_119, q_133_120, q_133_121, q_133_124, q_133_125, q_133_127, q_133_129, q_133_132, q_133_135r, q_133_135n, q_133_136, q_133_137, q_133_140, q_133_141, q_133_143, q_133_144, q_133_147, q_133_150, q_133_151, q_133_152, q_133_155, q_133_156, q_133_158, q_133_161r, q_133_161n, q_133_162, q_133_163, q_133_166r, q_133_166n, q_133_167r, q_133_167i, q_133_168, q_133_171, q_133_172, q_133_173, q_133_176r, q_133_176n, q_133_177, q_133_180r, q_133_180n, q_133_181, q_133_184, q_133_185, q_133_187, q_133_189, q_133_191, q_133_194r, q_133_194n, q_133_195, q_133_197, q_133_198, q_133_200, q_133_201, q_133_202, q_133_205, q_133_208, q_133_209, q_133_211, q_133_214r, q_133_214n, q_133_215, q_133_216, q_133_219, q_133_220, q_133_221, q_133_224, q_133_225, q_133_227, q_133_230, q_133_232, q_133_235r, q_133_235n, q_133_236, q_133_238, q_133_241, q_133_244, q_133_245, q_133_247, q_133_250, q_133_251, q_133_254, q_133_255, q_133_257, q_133_260, q_133_262, q_133_265, q_133_266, q_133_268, q_133_271, q_133_273, q_133_276, q_133_278, q_133_280r, q_133_280n, q_133_281, q_133_283, q_133_284, q_133_287, q_133_289, q_133_291, q_133_294, q_133_295, q_133_298, q_133_299, q_133_302r, q_133_302n, q_133_303, q_133_305, q_133_308, q_133_311, q_133_314r, q_133_314n, q_133_315, q_133_316, q_133_319, vf_s, vf_n, zk2_none, zk2_int, zk2_ref, zk2_null, zk2_long, zct_nil, zct_i, zct_l, zct_r, zct_n, Option.bind_some, Option.toList_some, Option.toList_none, List.cons_append, List.nil_append, zor_l, zor_r, if_true, if_false, ↓reduceIte, zi_lit, zi_of, zi_add, zi_mul, zi_sub, zi_nat, zi_leT, zi_leF, zi_ltT, zi_ltF, zi_eqT, zi_eqF, zif_0z, zif_bz, zi_01l, zi_01r, not_true_eq_false, not_false_eq_true, Nat.reduceAdd, Nat.reduceMul, Nat.reduceSub, rf_148_3, h6, px, z1, z2, r1]
                exact t1
              · rw [if_neg c40] at e0
                by_cases c65 : x = 65
                · subst c65
                  rw [if_pos rfl] at e0
                  have k3 := Option.some.inj e0
                  have hj := hx2 s1 k2 (by rw [← k3]; exact Or.inr (Or.inr (Or.inl rfl)))
                  obtain ⟨s2, k4, k5⟩ := rdS_t hsf k2 hj
                  rw [← k3] at k4
                  have e2 : tk (s.op 12) (P (i + 1)) = (if P (i + 1) = 40 then some ((s.op 12).ho 12 0) else none) := by
                    unfold tk
                    rw [if_neg (by show ¬ 2 = 0; omega), if_neg (by show ¬ 2 = 1; omega), if_pos (by rfl)]
                    rfl
                  rw [e2] at k4
                  split at k4
                  · have k6 := Option.some.inj k4
                    obtain ⟨mi1, r1, r2, r3⟩ := m_129 (Ls := Ls) (g := g) (mj := mj) (a := 12) (p := 0) h5 hnn.2
                    have e7 : cdM 12 = -zi 112 := rfl
                    rw [e7] at r1
                    obtain ⟨mi', t1, t2⟩ := nxt (i + 1 + 1) s2 mi1 1 (by omega) (by omega) k5 (hbd1 _ _ (by rw [← k6]; exact Or.inl rfl)) (by rw [← k6]; exact r2) r3 (fun _ => rfl) (fun h => by rw [← k6] at h; exact absurd rfl h) (some (.int (zi 65))) (some (.int (zi fl))) l5
                    refine ⟨mi', ?_, t2⟩
                    have z3 := b1 (by omega)
                    rw [q_133_22]
                    simp (disch := (first | with_reducible exact is_148 | with_reducible exact zi_at is_148 (by omega) (by omega) | with_reducible exact is_152 | with_reducible exact zi_at is_152 (by omega) (by omega) | ((with_reducible refine zct_le ?_) <;> exact Nat.le_of_ble_eq_true rfl) | with_reducible exact zh_0 | with_reducible exact zh_1 | with_reducible exact zh_b | omega)) only [q_133_23r, q_133_23n, q_133_24, q_133_27, q_133_30r, q_133_30n, q_133_31, q_133_34, q_133_35, q_133_36, q_133_37, q_133_38, q_133_40, q_133_41, q_133_42, q_133_43, q_133_46, q_133_49r, q_133_49n, q_133_50, q_133_51, q_133_54, q_133_55, q_133_56, q_133_57, q_133_60, q_133_61, q_133_63, q_133_65, q_133_68, q_133_71r, q_133_71n, q_133_72, q_133_73, q_133_74, q_133_75, q_133_77, q_133_78, q_133_79, q_133_82, q_133_85, q_133_86, q_133_88, q_133_91, q_133_94r, q_133_94n, q_133_95r, q_133_95n, q_133_96, q_133_99, q_133_100, q_133_101, q_133_104, q_133_107, q_133_108, q_133_110, q_133_113r, q_133_113n, q_133_114, q_133_116, q_133_119, q_133_120, q_133_121, q_133_124, q_133_125, q_133_127, q_133_129, q_133_132, q_133_135r, q_133_135n, q_133_136, q_133_137, q_133_140, q_133_141, q_133_143, q_133_144, q_133_147, q_133_150, q_133_151, q_133_152, q_133_155, q_133_156, q_133_158, q_133_161r, q_133_161n, q_133_162, q_133_163, q_133_166r, q_133_166n, q_133_167r, q_133_167i, q_133_168, q_133_171, q_133_172, q_133_173, q_133_176r, q_133_176n, q_133_177, q_133_180r, q_133_180n, q_133_181, q_133_184, q_133_185, q_133_187, q_133_189, q_133_191, q_133_194r, q_133_194n, q_133_195, q_133_197, q_133_198, q_133_200, q_133_201, q_133_202, q_133_205, q_133_208, q_133_209, q_133_211, q_133_214r, q_133_214n, q_133_215, q_133_216, q_133_219, q_133_220, q_133_221, q_133_224, q_133_225, q_133_227, q_133_230, q_133_232, q_133_235r, q_133_235n, q_133_236, q_133_238, q_133_241, q_133_244, q_133_245, q_133_247, q_133_250, q_133_251, q_133_254, q_133_255, q_133_257, q_133_260, q_133_262, q_133_265, q_133_266, q_133_268, q_133_271, q_133_273, q_133_276, q_133_278, q_133_280r, q_133_280n, q_133_281, q_133_283, q_133_284, q_133_287, q_133_289, q_133_291, q_133_294, q_133_295, q_133_298, q_133_299, q_133_302r, q_133_302n, q_133_303, q_133_305, q_133_308, q_133_311, q_133_314r, q_133_314n, q_133_315, q_133_316, q_133_319, vf_s, vf_n, zk2_none, zk2_int, zk2_ref, zk2_null, zk2_long, zct_nil, zct_i, zct_l, zct_r, zct_n, Option.bind_some, Option.toList_some, Option.toList_none, List.cons_append, List.nil_append, zor_l, zor_r, if_true, if_false, ↓reduceIte, zi_lit, zi_of, zi_add, zi_mul, zi_sub, zi_nat, zi_leT, zi_leF, zi_ltT, zi_ltF, zi_eqT, zi_eqF, zif_0z, zif_bz, zi_01l, zi_01r, not_true_eq_false, not_false_eq_true, Nat.reduceAdd, Nat.reduceMul, Nat.reduceSub, rf_148_3, h6, px, z1, z2, z3, m_131a, f12, r1]
                    exact t1
                  · exact absurd k4 (fun h => by cases h)
                · rw [if_neg c65] at e0
                  by_cases c71 : x = 71
                  · subst c71
                    rw [if_pos rfl] at e0
                    have k3 := Option.some.inj e0
                    have hj := hx2 s1 k2 (by rw [← k3]; exact Or.inr (Or.inr (Or.inl rfl)))
                    obtain ⟨s2, k4, k5⟩ := rdS_t hsf k2 hj
                    rw [← k3] at k4
                    have e2 : tk (s.op 47) (P (i + 1)) = (if P (i + 1) = 40 then some ((s.op 47).ho 47 0) else none) := by
                      unfold tk
                      rw [if_neg (by show ¬ 2 = 0; omega), if_neg (by show ¬ 2 = 1; omega), if_pos (by rfl)]
                      rfl
                    rw [e2] at k4
                    split at k4
                    · have k6 := Option.some.inj k4
                      obtain ⟨mi1, r1, r2, r3⟩ := m_129 (Ls := Ls) (g := g) (mj := mj) (a := 47) (p := 0) h5 hnn.2
                      have e7 : cdM 47 = -zi 115 := rfl
                      rw [e7] at r1
                      obtain ⟨mi', t1, t2⟩ := nxt (i + 1 + 1) s2 mi1 1 (by omega) (by omega) k5 (hbd1 _ _ (by rw [← k6]; exact Or.inl rfl)) (by rw [← k6]; exact r2) r3 (fun _ => rfl) (fun h => by rw [← k6] at h; exact absurd rfl h) (some (.int (zi 71))) (some (.int (zi fl))) l5
                      refine ⟨mi', ?_, t2⟩
                      have z3 := b1 (by omega)
                      rw [q_133_22]
                      simp (disch := (first | with_reducible exact is_148 | with_reducible exact zi_at is_148 (by omega) (by omega) | with_reducible exact is_152 | with_reducible exact zi_at is_152 (by omega) (by omega) | ((with_reducible refine zct_le ?_) <;> exact Nat.le_of_ble_eq_true rfl) | with_reducible exact zh_0 | with_reducible exact zh_1 | with_reducible exact zh_b | omega)) only [q_133_23r, q_133_23n, q_133_24, q_133_27, q_133_30r, q_133_30n, q_133_31, q_133_34, q_133_35, q_133_36, q_133_37, q_133_38, q_133_40, q_133_41, q_133_42, q_133_43, q_133_46, q_133_49r, q_133_49n, q_133_50, q_133_51, q_133_54, q_133_55, q_133_56, q_133_57, q_133_60, q_133_61, q_133_63, q_133_65, q_133_68, q_133_71r, q_133_71n, q_133_72, q_133_73, q_133_74, q_133_75, q_133_77, q_133_78, q_133_79, q_133_82, q_133_85, q_133_86, q_133_88, q_133_91, q_133_94r, q_133_94n, q_133_95r, q_133_95n, q_133_96, q_133_99, q_133_100, q_133_101, q_133_104, q_133_107, q_133_108, q_133_110, q_133_113r, q_133_113n, q_133_114, q_133_116, q_133_119, q_133_120, q_133_121, q_133_124, q_133_125, q_133_127, q_133_129, q_133_132, q_133_135r, q_133_135n, q_133_136, q_133_137, q_133_140, q_133_141, q_133_143, q_133_144, q_133_147, q_133_150, q_133_151, q_133_152, q_133_155, q_133_156, q_133_158, q_133_161r, q_133_161n, q_133_162, q_133_163, q_133_166r, q_133_166n, q_133_167r, q_133_167i, q_133_168, q_133_171, q_133_172, q_133_173, q_133_176r, q_133_176n, q_133_177, q_133_180r, q_133_180n, q_133_181, q_133_184, q_133_185, q_133_187, q_133_189, q_133_191, q_133_194r, q_133_194n, q_133_195, q_133_197, q_133_198, q_133_200, q_133_201, q_133_202, q_133_205, q_133_208, q_133_209, q_133_211, q_133_214r, q_133_214n, q_133_215, q_133_216, q_133_219, q_133_220, q_133_221, q_133_224, q_133_225, q_133_227, q_133_230, q_133_232, q_133_235r, q_133_235n, q_133_236, q_133_238, q_133_241, q_133_244, q_133_245, q_133_247, q_133_250, q_133_251, q_133_254, q_133_255, q_133_257, q_133_260, q_133_262, q_133_265, q_133_266, q_133_268, q_133_271, q_133_273, q_133_276, q_133_278, q_133_280r, q_133_280n, q_133_281, q_133_283, q_133_284, q_133_287, q_133_289, q_133_291, q_133_294, q_133_295, q_133_298, q_133_299, q_133_302r, q_133_302n, q_133_303, q_133_305, q_133_308, q_133_311, q_133_314r, q_133_314n, q_133_315, q_133_316, q_133_319, vf_s, vf_n, zk2_none, zk2_int, zk2_ref, zk2_null, zk2_long, zct_nil, zct_i, zct_l, zct_r, zct_n, Option.bind_some, Option.toList_some, Option.toList_none, List.cons_append, List.nil_append, zor_l, zor_r, if_true, if_false, ↓reduceIte, zi_lit, zi_of, zi_add, zi_mul, zi_sub, zi_nat, zi_leT, zi_leF, zi_ltT, zi_ltF, zi_eqT, zi_eqF, zif_0z, zif_bz, zi_01l, zi_01r, not_true_eq_false, not_false_eq_true, Nat.reduceAdd, Nat.reduceMul, Nat.reduceSub, rf_148_3, h6, px, z1, z2, z3, m_131g, f15, r1]
                      exact t1
                    · exact absurd k4 (fun h => by cases h)
                  · rw [if_neg c71] at e0
                    by_cases c76 : x = 76
                    · subst c76
                      rw [if_pos rfl] at e0
                      have k3 := Option.some.inj e0
                      have hj := hx2 s1 k2 (by rw [← k3]; exact Or.inr (Or.inr (Or.inl rfl)))
                      obtain ⟨s2, k4, k5⟩ := rdS_t hsf k2 hj
                      rw [← k3] at k4
                      have e2 : tk (s.op 46) (P (i + 1)) = (if P (i + 1) = 40 then some ((s.op 46).ho 46 0) else none) := by
                        unfold tk
                        rw [if_neg (by show ¬ 2 = 0; omega), if_neg (by show ¬ 2 = 1; omega), if_pos (by rfl)]
                        rfl
                      rw [e2] at k4
                      split at k4
                      · have k6 := Option.some.inj k4
                        obtain ⟨mi1, r1, r2, r3⟩ := m_129 (Ls := Ls) (g := g) (mj := mj) (a := 46) (p := 0) h5 hnn.2
                        have e7 : cdM 46 = -zi 114 := rfl
                        rw [e7] at r1
                        obtain ⟨mi', t1, t2⟩ := nxt (i + 1 + 1) s2 mi1 1 (by omega) (by omega) k5 (hbd1 _ _ (by rw [← k6]; exact Or.inl rfl)) (by rw [← k6]; exact r2) r3 (fun _ => rfl) (fun h => by rw [← k6] at h; exact absurd rfl h) (some (.int (zi 76))) (some (.int (zi fl))) l5
                        refine ⟨mi', ?_, t2⟩
                        have z3 := b1 (by omega)
                        rw [q_133_22]
                        simp (disch := (first | with_reducible exact is_148 | with_reducible exact zi_at is_148 (by omega) (by omega) | with_reducible exact is_152 | with_reducible exact zi_at is_152 (by omega) (by omega) | ((with_reducible refine zct_le ?_) <;> exact Nat.le_of_ble_eq_true rfl) | with_reducible exact zh_0 | with_reducible exact zh_1 | with_reducible exact zh_b | omega)) only [q_133_23r, q_133_23n, q_133_24, q_133_27, q_133_30r, q_133_30n, q_133_31, q_133_34, q_133_35, q_133_36, q_133_37, q_133_38, q_133_40, q_133_41, q_133_42, q_133_43, q_133_46, q_133_49r, q_133_49n, q_133_50, q_133_51, q_133_54, q_133_55, q_133_56, q_133_57, q_133_60, q_133_61, q_133_63, q_133_65, q_133_68, q_133_71r, q_133_71n, q_133_72, q_133_73, q_133_74, q_133_75, q_133_77, q_133_78, q_133_79, q_133_82, q_133_85, q_133_86, q_133_88, q_133_91, q_133_94r, q_133_94n, q_133_95r, q_133_95n, q_133_96, q_133_99, q_133_100, q_133_101, q_133_104, q_133_107, q_133_108, q_133_110, q_133_113r, q_133_113n, q_133_114, q_133_116, q_133_119, q_133_120, q_133_121, q_133_124, q_133_125, q_133_127, q_133_129, q_133_132, q_133_135r, q_133_135n, q_133_136, q_133_137, q_133_140, q_133_141, q_133_143, q_133_144, q_133_147, q_133_150, q_133_151, q_133_152, q_133_155, q_133_156, q_133_158, q_133_161r, q_133_161n, q_133_162, q_133_163, q_133_166r, q_133_166n, q_133_167r, q_133_167i, q_133_168, q_133_171, q_133_172, q_133_173, q_133_176r, q_133_176n, q_133_177, q_133_180r, q_133_180n, q_133_181, q_133_184, q_133_185, q_133_187, q_133_189, q_133_191, q_133_194r, q_133_194n, q_133_195, q_133_197, q_133_198, q_133_200, q_133_201, q_133_202, q_133_205, q_133_208, q_133_209, q_133_211, q_133_214r, q_133_214n, q_133_215, q_133_216, q_133_219, q_133_220, q_133_221, q_133_224, q_133_225, q_133_227, q_133_230, q_133_232, q_133_235r, q_133_235n, q_133_236, q_133_238, q_133_241, q_133_244, q_133_245, q_133_247, q_133_250, q_133_251, q_133_254, q_133_255, q_133_257, q_133_260, q_133_262, q_133_265, q_133_266, q_133_268, q_133_271, q_133_273, q_133_276, q_133_278, q_133_280r, q_133_280n, q_133_281, q_133_283, q_133_284, q_133_287, q_133_289, q_133_291, q_133_294, q_133_295, q_133_298, q_133_299, q_133_302r, q_133_302n, q_133_303, q_133_305, q_133_308, q_133_311, q_133_314r, q_133_314n, q_133_315, q_133_316, q_133_319, vf_s, vf_n, zk2_none, zk2_int, zk2_ref, zk2_null, zk2_long, zct_nil, zct_i, zct_l, zct_r, zct_n, Option.bind_some, Option.toList_some, Option.toList_none, List.cons_append, List.nil_append, zor_l, zor_r, if_true, if_false, ↓reduceIte, zi_lit, zi_of, zi_add, zi_mul, zi_sub, zi_nat, zi_leT, zi_leF, zi_ltT, zi_ltF, zi_eqT, zi_eqF, zif_0z, zif_bz, zi_01l, zi_01r, not_true_eq_false, not_false_eq_true, Nat.reduceAdd, Nat.reduceMul, Nat.reduceSub, rf_148_3, h6, px, z1, z2, z3, m_131l, f14, r1]
                        exact t1
                      · exact absurd k4 (fun h => by cases h)
                    · rw [if_neg c76] at e0
                      by_cases c82 : x = 82
                      · subst c82
                        rw [if_pos rfl] at e0
                        have k3 := Option.some.inj e0
                        have hj := hx2 s1 k2 (by rw [← k3]; exact Or.inr (Or.inr (Or.inl rfl)))
                        obtain ⟨s2, k4, k5⟩ := rdS_t hsf k2 hj
                        rw [← k3] at k4
                        have e2 : tk (s.op 13) (P (i + 1)) = (if P (i + 1) = 40 then some ((s.op 13).ho 13 0) else none) := by
                          unfold tk
                          rw [if_neg (by show ¬ 2 = 0; omega), if_neg (by show ¬ 2 = 1; omega), if_pos (by rfl)]
                          rfl
                        rw [e2] at k4
                        split at k4
                        · have k6 := Option.some.inj k4
                          obtain ⟨mi1, r1, r2, r3⟩ := m_129 (Ls := Ls) (g := g) (mj := mj) (a := 13) (p := 0) h5 hnn.2
                          have e7 : cdM 13 = -zi 113 := rfl
                          rw [e7] at r1
                          obtain ⟨mi', t1, t2⟩ := nxt (i + 1 + 1) s2 mi1 1 (by omega) (by omega) k5 (hbd1 _ _ (by rw [← k6]; exact Or.inl rfl)) (by rw [← k6]; exact r2) r3 (fun _ => rfl) (fun h => by rw [← k6] at h; exact absurd rfl h) (some (.int (zi 82))) (some (.int (zi fl))) l5
                          refine ⟨mi', ?_, t2⟩
                          have z3 := b1 (by omega)
                          rw [q_133_22]
                          simp (disch := (first | with_reducible exact is_148 | with_reducible exact zi_at is_148 (by omega) (by omega) | with_reducible exact is_152 | with_reducible exact zi_at is_152 (by omega) (by omega) | ((with_reducible refine zct_le ?_) <;> exact Nat.le_of_ble_eq_true rfl) | with_reducible exact zh_0 | with_reducible exact zh_1 | with_reducible exact zh_b | omega)) only [q_133_23r, q_133_23n, q_133_24, q_133_27, q_133_30r, q_133_30n, q_133_31, q_133_34, q_133_35, q_133_36, q_133_37, q_133_38, q_133_40, q_133_41, q_133_42, q_133_43, q_133_46, q_133_49r, q_133_49n, q_133_50, q_133_51, q_133_54, q_133_55, q_133_56, q_133_57, q_133_60, q_133_61, q_133_63, q_133_65, q_133_68, q_133_71r, q_133_71n, q_133_72, q_133_73, q_133_74, q_133_75, q_133_77, q_133_78, q_133_79, q_133_82, q_133_85, q_133_86, q_133_88, q_133_91, q_133_94r, q_133_94n, q_133_95r, q_133_95n, q_133_96, q_133_99, q_133_100, q_133_101, q_133_104, q_133_107, q_133_108, q_133_110, q_133_113r, q_133_113n, q_133_114, q_133_116, q_133_119, q_133_120, q_133_121, q_133_124, q_133_125, q_133_127, q_133_129, q_133_132, q_133_135r, q_133_135n, q_133_136, q_133_137, q_133_140, q_133_141, q_133_143, q_133_144, q_133_147, q_133_150, q_133_151, q_133_152, q_133_155, q_133_156, q_133_158, q_133_161r, q_133_161n, q_133_162, q_133_163, q_133_166r, q_133_166n, q_133_167r, q_133_167i, q_133_168, q_133_171, q_133_172, q_133_173, q_133_176r, q_133_176n, q_133_177, q_133_180r, q_133_180n, q_133_181, q_133_184, q_133_185, q_133_187, q_133_189, q_133_191, q_133_194r, q_133_194n, q_133_195, q_133_197, q_133_198, q_133_200, q_133_201, q_133_202, q_133_205, q_133_208, q_133_209, q_133_211, q_133_214r, q_133_214n, q_133_215, q_133_216, q_133_219, q_133_220, q_133_221, q_133_224, q_133_225, q_133_227, q_133_230, q_133_232, q_133_235r, q_133_235n, q_133_236, q_133_238, q_133_241, q_133_244, q_133_245, q_133_247, q_133_250, q_133_251, q_133_254, q_133_255, q_133_257, q_133_260, q_133_262, q_133_265, q_133_266, q_133_268, q_133_271, q_133_273, q_133_276, q_133_278, q_133_280r, q_133_280n, q_133_281, q_133_283, q_133_284, q_133_287, q_133_289, q_133_291, q_133_294, q_133_295, q_133_298, q_133_299, q_133_302r, q_133_302n, q_133_303, q_133_305, q_133_308, q_133_311, q_133_314r, q_133_314n, q_133_315, q_133_316, q_133_319, vf_s, vf_n, zk2_none, zk2_int, zk2_ref, zk2_null, zk2_long, zct_nil, zct_i, zct_l, zct_r, zct_n, Option.bind_some, Option.toList_some, Option.toList_none, List.cons_append, List.nil_append, zor_l, zor_r, if_true, if_false, ↓reduceIte, zi_lit, zi_of, zi_add, zi_mul, zi_sub, zi_nat, zi_leT, zi_leF, zi_ltT, zi_ltF, zi_eqT, zi_eqF, zif_0z, zif_bz, zi_01l, zi_01r, not_true_eq_false, not_false_eq_true, Nat.reduceAdd, Nat.reduceMul, Nat.reduceSub, rf_148_3, h6, px, z1, z2, z3, m_131r, f13, r1]
                          exact t1
                        · exact absurd k4 (fun h => by cases h)
                      · rw [if_neg c82] at e0
                        exact absurd e0 (fun h => by cases h)
      · have hb : s.p = 3 ∨ s.p = 5 ∨ s.p = 6 ∨ s.p = 8 := by have := h4.1; omega
        have hfl := h9 (by omega)
        subst hfl
        have hnd : (s.p = 3 ∨ s.p = 5) → ¬ (48 ≤ x ∧ x ≤ 57) := fun q => by
          rcases q with q | q
          · rw [← hxx]; exact (h4.2.1 q hi).1
          · rw [← hxx]; exact h4.2.2 q hi
        have e0 : tkB s x = some s1 := by
          rcases hb with q | q | q | q
          · unfold tk tkW at k1
            rw [if_neg (by omega), if_neg (by omega), if_neg (by omega), if_pos q, if_neg (hnd (Or.inl q)), if_neg (by rw [← hxx]; exact (h4.2.1 q hi).2)] at k1
            exact k1
          · unfold tk at k1
            rw [if_neg (by omega), if_neg (by omega), if_neg (by omega), if_neg (by omega), if_neg (by omega), if_pos q, if_neg (hnd (Or.inr q))] at k1
            exact k1
          · rw [tk_b (Or.inl q)] at k1; exact k1
          · rw [tk_b (Or.inr q)] at k1; exact k1
        have hIW := hIs.2.1
        have rel : ∀ b k, ((b = 1 ∧ k = 1) ∨ (b = 2 ∧ k = 3)) → ∃ mi', zCall 128 [.ref 148, .int (zi k)] (SH Ls) mi mj (RF g) = some (none, SH Ls, mi', mj, RF g) ∧ lR mi' e (cpl b s.W s) ∧ FrL e mi mi' := fun b k hbk => m_128 he hbk h5 hIW (by omega) (by omega)
        have opr : ∀ (b k a : Nat), ((b = 1 ∧ k = 1) ∨ (b = 2 ∧ k = 3)) → (a = 5 ∨ a = 6 ∨ a = 9 ∨ a = 11) → some ((cpl b s.W s).ho a 1) = some s1 → ∃ mi1 mi2, zCall 128 [.ref 148, .int (zi k)] (SH Ls) mi mj (RF g) = some (none, SH Ls, mi1, mj, RF g) ∧ zCall 129 [.ref 148, .int (zi a)] (SH Ls) mi1 mj (RF g) = some (none, SH Ls, mi2, mj, RF g) ∧ ∀ l3 l4 l5, ∃ mi', zRun 133 22 [some (.ref 148), some (.int (zi 0)), some (.int (zi (i + 1))), l3, l4, l5] [] (SH Ls) mi2 mj (RF g) = some (none, SH Ls, mi', mj, RF g) ∧ lR mi' e (cpl 1 sf.W sf) ∧ FrL e mi mi' := fun b k a hbk ha hs1 => by
          obtain ⟨mi1, r1, r2, r3⟩ := rel b k hbk
          obtain ⟨-, j2, -⟩ := cpl_J (b := b) hIs (by omega) hb (by omega)
          obtain ⟨mi2, t1, t2, t3⟩ := m_129 (Ls := Ls) (g := g) (mj := mj) (a := a) (p := 1) r2 j2
          have k3 := Option.some.inj hs1
          have e7 := cdM_op (a := a) (by omega)
          rw [e7] at t1
          refine ⟨mi1, mi2, r1, t1, fun l3 l4 l5 => ?_⟩
          exact nxt (i + 1) s1 mi2 0 (by omega) (by omega) k2 (hbd1 _ _ (by rw [← k3]; exact Or.inr (Or.inl rfl))) (by rw [← k3]; exact t2) (r3.tr t3) (fun h => by rw [← k3] at h; exact absurd h (by show ¬ 1 = 0; omega)) (fun _ => rfl) l3 l4 l5
        unfold tkB at e0
        by_cases c41 : x = 41
        · subst c41
          rw [if_pos rfl] at e0
          have z1 := d0 (by omega)
          have z2 := a0 (by omega)
          have z3 := b0 (by omega)
          obtain ⟨mi1, r1, r2, r3⟩ := rel 1 1 (Or.inl ⟨rfl, rfl⟩)
          obtain ⟨j1, j2, j3⟩ := cpl_J (b := 1) hIs (by omega) hb (by omega)
          have hhd := cpl_hd s.W s
          generalize cpl 1 s.W s = t at e0 r2 j1 j2 j3 hhd
          rcases hhd with hW | ⟨a, U, hW, ha0⟩
          · rw [hW] at e0; exact absurd e0 (fun h => by cases h)
          · have w1 := lR_wt r2 hW
            have k4 := r2.2.2.2.1
            have k5 := r2.2.2.2.2
            rw [hW] at e0 j1 j2 j3 k4 k5
            rw [List.length_cons] at j2
            have k4' : mi1 148 8 = zi (U.length + 1) := k4
            have k5' : mi1 154 U.length = cdM a := k5.1
            have oa := okA_0 (j1 a List.mem_cons_self) ha0
            rw [clo] at e0
            by_cases c32 : 32 ≤ a
            · rw [if_pos c32] at e0; exact absurd e0 (fun h => by cases h)
            · rw [if_neg c32] at e0
              by_cases c16 : a = 16
              · subst c16
                rw [if_pos rfl] at e0
                have k3 := Option.some.inj e0
                obtain ⟨mi', t1, t2⟩ := nxt (i + 1) s1 (zup mi1 148 8 (zi U.length)) 0 (by omega) (by omega) k2 (hbd1 _ _ (by rw [← k3]; exact Or.inr (Or.inr (Or.inl rfl)))) (by rw [← k3]; exact w1) (r3.tr FrL_8) (fun h => by rw [← k3] at h; exact absurd h (by show ¬ 6 = 0; omega)) (fun _ => rfl) (some (.int (zi 41))) (some (.int (zi 0))) (some (.int (-zi 6)))
                refine ⟨mi', ?_, t2⟩
                have e7 : cdM 16 = -zi 6 := rfl
                rw [e7] at k5'
                rw [q_133_22]
                simp (disch := (first | with_reducible exact is_148 | with_reducible exact zi_at is_148 (by omega) (by omega) | with_reducible exact is_152 | with_reducible exact zi_at is_152 (by omega) (by omega) | with_reducible exact is_154 | with_reducible exact zi_at is_154 (by omega) (by omega) | ((with_reducible refine zct_le ?_) <;> exact Nat.le_of_ble_eq_true rfl) | with_reducible exact zh_0 | with_reducible exact zh_1 | with_reducible exact zh_b | omega)) only [q_133_23r, q_133_23n, q_133_24, q_133_27, q_133_30r, q_133_30n, q_133_31, q_133_34, q_133_35, q_133_36, q_133_37, q_133_38, q_133_40, q_133_41, q_133_42, q_133_43, q_133_46, q_133_49r, q_133_49n, q_133_50, q_133_51, q_133_54, q_133_55, q_133_56, q_133_57, q_133_60, q_133_61, q_133_63, q_133_65, q_133_68, q_133_71r, q_133_71n, q_133_72, q_133_73, q_133_74, q_133_75, q_133_77, q_133_78, q_133_79, q_133_82, q_133_85, q_133_86, q_133_88, q_133_91, q_133_94r, q_133_94n, q_133_95r, q_133_95n, q_133_96, q_133_99, q_133_100, q_133_101, q_133_104, q_133_107, q_133_108, q_133_110, q_133_113r, q_133_113n, q_133_114, q_133_116, q_133_119, q_133_120, q_133_121, q_133_124, q_133_125, q_133_127, q_133_129, q_133_132, q_133_135r, q_133_135n, q_133_136, q_133_137, q_133_140, q_133_141, q_133_143, q_133_144, q_133_147, q_133_150, q_133_151, q_133_152, q_133_155, q_133_156, q_133_158, q_133_161r, q_133_161n, q_133_162, q_133_163, q_133_166r, q_133_166n, q_133_167r, q_133_167i, q_133_168, q_133_171, q_133_172, q_133_173, q_133_176r, q_133_176n, q_133_177, q_133_180r, q_133_180n, q_133_181, q_133_184, q_133_185, q_133_187, q_133_189, q_133_191, q_133_194r, q_133_194n, q_133_195, q_133_197, q_133_198, q_133_200, q_133_201, q_133_202, q_133_205, q_133_208, q_133_209, q_133_211, q_133_214r, q_133_214n, q_133_215, q_133_216, q_133_219, q_133_220, q_133_221, q_133_224, q_133_225, q_133_227, q_133_230, q_133_232, q_133_235r, q_133_235n, q_133_236, q_133_238, q_133_241, q_133_244, q_133_245, q_133_247, q_133_250, q_133_251, q_133_254, q_133_255, q_133_257, q_133_260, q_133_262, q_133_265, q_133_266, q_133_268, q_133_271, q_133_273, q_133_276, q_133_278, q_133_280r, q_133_280n, q_133_281, q_133_283, q_133_284, q_133_287, q_133_289, q_133_291, q_133_294, q_133_295, q_133_298, q_133_299, q_133_302r, q_133_302n, q_133_303, q_133_305, q_133_308, q_133_311, q_133_314r, q_133_314n, q_133_315, q_133_316, q_133_319, vf_s, vf_n, zk2_none, zk2_int, zk2_ref, zk2_null, zk2_long, zct_nil, zct_i, zct_l, zct_r, zct_n, Option.bind_some, Option.toList_some, Option.toList_none, List.cons_append, List.nil_append, zor_l, zor_r, if_true, if_false, ↓reduceIte, zi_lit, zi_of, zi_add, zi_mul, zi_sub, zi_nat, zi_leT, zi_leF, zi_ltT, zi_ltF, zi_eqT, zi_eqF, zif_0z, zif_bz, zi_01l, zi_01r, not_true_eq_false, not_false_eq_true, Nat.reduceAdd, Nat.reduceMul, Nat.reduceSub, zg_s, zg_o, zg_j, zg_r, zg_ro, zg_d, yfl_o, rf_148_3, rf_148_7, h6, px, z1, z2, z3, r1, k4', k5', Nat.add_sub_cancel, f6]
                exact t1
              · rw [if_neg c16] at e0
                have k3 := Option.some.inj e0
                have hpn : pnd (a :: U) = 1 + pnd U := by show (if a = 16 then 0 else 1) + pnd U = _; rw [if_neg c16]
                obtain ⟨mi2, u1, u2, u3⟩ := m_126a (Ls := Ls) (g := g) (mj := mj) (k := a) he w1 (by show t.n < 60; omega)
                obtain ⟨mi', t1, t2⟩ := nxt (i + 1) s1 mi2 0 (by omega) (by omega) k2 (hbd1 _ _ (by rw [← k3]; exact Or.inr (Or.inr (Or.inl rfl)))) (by rw [← k3]; exact u2) (r3.tr (FrL_8.tr u3)) (fun h => by rw [← k3] at h; exact absurd h (by show ¬ 6 = 0; omega)) (fun _ => rfl) (some (.int (zi 41))) (some (.int (zi 0))) (some (.int (cdM a)))
                refine ⟨mi', ?_, t2⟩
                have oa2 : a = 12 ∨ a = 13 ∨ a = 14 ∨ a = 15 := by omega
                rcases oa2 with rfl | rfl | rfl | rfl
                · have e7 : cdM 12 = -zi 112 := rfl
                  rw [e7] at k5' t1
                  rw [q_133_22]
                  simp (disch := (first | with_reducible exact is_148 | with_reducible exact zi_at is_148 (by omega) (by omega) | with_reducible exact is_152 | with_reducible exact zi_at is_152 (by omega) (by omega) | with_reducible exact is_154 | with_reducible exact zi_at is_154 (by omega) (by omega) | ((with_reducible refine zct_le ?_) <;> exact Nat.le_of_ble_eq_true rfl) | with_reducible exact zh_0 | with_reducible exact zh_1 | with_reducible exact zh_b | omega)) only [q_133_23r, q_133_23n, q_133_24, q_133_27, q_133_30r, q_133_30n, q_133_31, q_133_34, q_133_35, q_133_36, q_133_37, q_133_38, q_133_40, q_133_41, q_133_42, q_133_43, q_133_46, q_133_49r, q_133_49n, q_133_50, q_133_51, q_133_54, q_133_55, q_133_56, q_133_57, q_133_60, q_133_61, q_133_63, q_133_65, q_133_68, q_133_71r, q_133_71n, q_133_72, q_133_73, q_133_74, q_133_75, q_133_77, q_133_78, q_133_79, q_133_82, q_133_85, q_133_86, q_133_88, q_133_91, q_133_94r, q_133_94n, q_133_95r, q_133_95n, q_133_96, q_133_99, q_133_100, q_133_101, q_133_104, q_133_107, q_133_108, q_133_110, q_133_113r, q_133_113n, q_133_114, q_133_116, q_133_119, q_133_120, q_133_121, q_133_124, q_133_125, q_133_127, q_133_129, q_133_132, q_133_135r, q_133_135n, q_133_136, q_133_137, q_133_140, q_133_141, q_133_143, q_133_144, q_133_147, q_133_150, q_133_151, q_133_152, q_133_155, q_133_156, q_133_158, q_133_161r, q_133_161n, q_133_162, q_133_163, q_133_166r, q_133_166n, q_133_167r, q_133_167i, q_133_168, q_133_171, q_133_172, q_133_173, q_133_176r, q_133_176n, q_133_177, q_133_180r, q_133_180n, q_133_181, q_133_184, q_133_185, q_133_187, q_133_189, q_133_191, q_133_194r, q_133_194n, q_133_195, q_133_197, q_133_198, q_133_200, q_133_201, q_133_202, q_133_205, q_133_208, q_133_209, q_133_211, q_133_214r, q_133_214n, q_133_215, q_133_216, q_133_219, q_133_220, q_133_221, q_133_224, q_133_225, q_133_227, q_133_230, q_133_232, q_133_235r, q_133_235n, q_133_236, q_133_238, q_133_241, q_133_244, q_133_245, q_133_247, q_133_250, q_133_251, q_133_254, q_133_255, q_133_257, q_133_260, q_133_262, q_133_265, q_133_266, q_133_268, q_133_271, q_133_273, q_133_276, q_133_278, q_133_280r, q_133_280n, q_133_281, q_133_283, q_133_284, q_133_287, q_133_289, q_133_291, q_133_294, q_133_295, q_133_298, q_133_299, q_133_302r, q_133_302n, q_133_303, q_133_305, q_133_308, q_133_311, q_133_314r, q_133_314n, q_133_315, q_133_316, q_133_319, vf_s, vf_n, zk2_none, zk2_int, zk2_ref, zk2_null, zk2_long, zct_nil, zct_i, zct_l, zct_r, zct_n, Option.bind_some, Option.toList_some, Option.toList_none, List.cons_append, List.nil_append, zor_l, zor_r, if_true, if_false, ↓reduceIte, zi_lit, zi_of, zi_add, zi_mul, zi_sub, zi_nat, zi_leT, zi_leF, zi_ltT, zi_ltF, zi_eqT, zi_eqF, zif_0z, zif_bz, zi_01l, zi_01r, not_true_eq_false, not_false_eq_true, Nat.reduceAdd, Nat.reduceMul, Nat.reduceSub, zg_s, zg_o, zg_j, zg_r, zg_ro, zg_d, yfl_o, rf_148_3, rf_148_7, h6, px, z1, z2, z3, r1, k4', k5', Nat.add_sub_cancel, f112, g112, u1]
                  exact t1
                · have e7 : cdM 13 = -zi 113 := rfl
                  rw [e7] at k5' t1
                  rw [q_133_22]
                  simp (disch := (first | with_reducible exact is_148 | with_reducible exact zi_at is_148 (by omega) (by omega) | with_reducible exact is_152 | with_reducible exact zi_at is_152 (by omega) (by omega) | with_reducible exact is_154 | with_reducible exact zi_at is_154 (by omega) (by omega) | ((with_reducible refine zct_le ?_) <;> exact Nat.le_of_ble_eq_true rfl) | with_reducible exact zh_0 | with_reducible exact zh_1 | with_reducible exact zh_b | omega)) only [q_133_23r, q_133_23n, q_133_24, q_133_27, q_133_30r, q_133_30n, q_133_31, q_133_34, q_133_35, q_133_36, q_133_37, q_133_38, q_133_40, q_133_41, q_133_42, q_133_43, q_133_46, q_133_49r, q_133_49n, q_133_50, q_133_51, q_133_54, q_133_55, q_133_56, q_133_57, q_133_60, q_133_61, q_133_63, q_133_65, q_133_68, q_133_71r, q_133_71n, q_133_72, q_133_73, q_133_74, q_133_75, q_133_77, q_133_78, q_133_79, q_133_82, q_133_85, q_133_86, q_133_88, q_133_91, q_133_94r, q_133_94n, q_133_95r, q_133_95n, q_133_96, q_133_99, q_133_100, q_133_101, q_133_104, q_133_107, q_133_108, q_133_110, q_133_113r, q_133_113n, q_133_114, q_133_116, q_133_119, q_133_120, q_133_121, q_133_124, q_133_125, q_133_127, q_133_129, q_133_132, q_133_135r, q_133_135n, q_133_136, q_133_137, q_133_140, q_133_141, q_133_143, q_133_144, q_133_147, q_133_150, q_133_151, q_133_152, q_133_155, q_133_156, q_133_158, q_133_161r, q_133_161n, q_133_162, q_133_163, q_133_166r, q_133_166n, q_133_167r, q_133_167i, q_133_168, q_133_171, q_133_172, q_133_173, q_133_176r, q_133_176n, q_133_177, q_133_180r, q_133_180n, q_133_181, q_133_184, q_133_185, q_133_187, q_133_189, q_133_191, q_133_194r, q_133_194n, q_133_195, q_133_197, q_133_198, q_133_200, q_133_201, q_133_202, q_133_205, q_133_208, q_133_209, q_133_211, q_133_214r, q_133_214n, q_133_215, q_133_216, q_133_219, q_133_220, q_133_221, q_133_224, q_133_225, q_133_227, q_133_230, q_133_232, q_133_235r, q_133_235n, q_133_236, q_133_238, q_133_241, q_133_244, q_133_245, q_133_247, q_133_250, q_133_251, q_133_254, q_133_255, q_133_257, q_133_260, q_133_262, q_133_265, q_133_266, q_133_268, q_133_271, q_133_273, q_133_276, q_133_278, q_133_280r, q_133_280n, q_133_281, q_133_283, q_133_284, q_133_287, q_133_289, q_133_291, q_133_294, q_133_295, q_133_298, q_133_299, q_133_302r, q_133_302n, q_133_303, q_133_305, q_133_308, q_133_311, q_133_314r, q_133_314n, q_133_315, q_133_316, q_133_319, vf_s, vf_n, zk2_none, zk2_int, zk2_ref, zk2_null, zk2_long, zct_nil, zct_i, zct_l, zct_r, zct_n, Option.bind_some, Option.toList_some, Option.toList_none, List.cons_append, List.nil_append, zor_l, zor_r, if_true, if_false, ↓reduceIte, zi_lit, zi_of, zi_add, zi_mul, zi_sub, zi_nat, zi_leT, zi_leF, zi_ltT, zi_ltF, zi_eqT, zi_eqF, zif_0z, zif_bz, zi_01l, zi_01r, not_true_eq_false, not_false_eq_true, Nat.reduceAdd, Nat.reduceMul, Nat.reduceSub, zg_s, zg_o, zg_j, zg_r, zg_ro, zg_d, yfl_o, rf_148_3, rf_148_7, h6, px, z1, z2, z3, r1, k4', k5', Nat.add_sub_cancel, f113, g113, u1]
                  exact t1
                · have e7 : cdM 14 = -zi 114 := rfl
                  rw [e7] at k5' t1
                  rw [q_133_22]
                  simp (disch := (first | with_reducible exact is_148 | with_reducible exact zi_at is_148 (by omega) (by omega) | with_reducible exact is_152 | with_reducible exact zi_at is_152 (by omega) (by omega) | with_reducible exact is_154 | with_reducible exact zi_at is_154 (by omega) (by omega) | ((with_reducible refine zct_le ?_) <;> exact Nat.le_of_ble_eq_true rfl) | with_reducible exact zh_0 | with_reducible exact zh_1 | with_reducible exact zh_b | omega)) only [q_133_23r, q_133_23n, q_133_24, q_133_27, q_133_30r, q_133_30n, q_133_31, q_133_34, q_133_35, q_133_36, q_133_37, q_133_38, q_133_40, q_133_41, q_133_42, q_133_43, q_133_46, q_133_49r, q_133_49n, q_133_50, q_133_51, q_133_54, q_133_55, q_133_56, q_133_57, q_133_60, q_133_61, q_133_63, q_133_65, q_133_68, q_133_71r, q_133_71n, q_133_72, q_133_73, q_133_74, q_133_75, q_133_77, q_133_78, q_133_79, q_133_82, q_133_85, q_133_86, q_133_88, q_133_91, q_133_94r, q_133_94n, q_133_95r, q_133_95n, q_133_96, q_133_99, q_133_100, q_133_101, q_133_104, q_133_107, q_133_108, q_133_110, q_133_113r, q_133_113n, q_133_114, q_133_116, q_133_119, q_133_120, q_133_121, q_133_124, q_133_125, q_133_127, q_133_129, q_133_132, q_133_135r, q_133_135n, q_133_136, q_133_137, q_133_140, q_133_141, q_133_143, q_133_144, q_133_147, q_133_150, q_133_151, q_133_152, q_133_155, q_133_156, q_133_158, q_133_161r, q_133_161n, q_133_162, q_133_163, q_133_166r, q_133_166n, q_133_167r, q_133_167i, q_133_168, q_133_171, q_133_172, q_133_173, q_133_176r, q_133_176n, q_133_177, q_133_180r, q_133_180n, q_133_181, q_133_184, q_133_185, q_133_187, q_133_189, q_133_191, q_133_194r, q_133_194n, q_133_195, q_133_197, q_133_198, q_133_200, q_133_201, q_133_202, q_133_205, q_133_208, q_133_209, q_133_211, q_133_214r, q_133_214n, q_133_215, q_133_216, q_133_219, q_133_220, q_133_221, q_133_224, q_133_225, q_133_227, q_133_230, q_133_232, q_133_235r, q_133_235n, q_133_236, q_133_238, q_133_241, q_133_244, q_133_245, q_133_247, q_133_250, q_133_251, q_133_254, q_133_255, q_133_257, q_133_260, q_133_262, q_133_265, q_133_266, q_133_268, q_133_271, q_133_273, q_133_276, q_133_278, q_133_280r, q_133_280n, q_133_281, q_133_283, q_133_284, q_133_287, q_133_289, q_133_291, q_133_294, q_133_295, q_133_298, q_133_299, q_133_302r, q_133_302n, q_133_303, q_133_305, q_133_308, q_133_311, q_133_314r, q_133_314n, q_133_315, q_133_316, q_133_319, vf_s, vf_n, zk2_none, zk2_int, zk2_ref, zk2_null, zk2_long, zct_nil, zct_i, zct_l, zct_r, zct_n, Option.bind_some, Option.toList_some, Option.toList_none, List.cons_append, List.nil_append, zor_l, zor_r, if_true, if_false, ↓reduceIte, zi_lit, zi_of, zi_add, zi_mul, zi_sub, zi_nat, zi_leT, zi_leF, zi_ltT, zi_ltF, zi_eqT, zi_eqF, zif_0z, zif_bz, zi_01l, zi_01r, not_true_eq_false, not_false_eq_true, Nat.reduceAdd, Nat.reduceMul, Nat.reduceSub, zg_s, zg_o, zg_j, zg_r, zg_ro, zg_d, yfl_o, rf_148_3, rf_148_7, h6, px, z1, z2, z3, r1, k4', k5', Nat.add_sub_cancel, f114, g114, u1]
                  exact t1
                · have e7 : cdM 15 = -zi 115 := rfl
                  rw [e7] at k5' t1
                  rw [q_133_22]
                  simp (disch := (first | with_reducible exact is_148 | with_reducible exact zi_at is_148 (by omega) (by omega) | with_reducible exact is_152 | with_reducible exact zi_at is_152 (by omega) (by omega) | with_reducible exact is_154 | with_reducible exact zi_at is_154 (by omega) (by omega) | ((with_reducible refine zct_le ?_) <;> exact Nat.le_of_ble_eq_true rfl) | with_reducible exact zh_0 | with_reducible exact zh_1 | with_reducible exact zh_b | omega)) only [q_133_23r, q_133_23n, q_133_24, q_133_27, q_133_30r, q_133_30n, q_133_31, q_133_34, q_133_35, q_133_36, q_133_37, q_133_38, q_133_40, q_133_41, q_133_42, q_133_43, q_133_46, q_133_49r, q_133_49n, q_133_50, q_133_51, q_133_54, q_133_55, q_133_56, q_133_57, q_133_60, q_133_61, q_133_63, q_133_65, q_133_68, q_133_71r, q_133_71n, q_133_72, q_133_73, q_133_74, q_133_75, q_133_77, q_133_78, q_133_79, q_133_82, q_133_85, q_133_86, q_133_88, q_133_91, q_133_94r, q_133_94n, q_133_95r, q_133_95n, q_133_96, q_133_99, q_133_100, q_133_101, q_133_104, q_133_107, q_133_108, q_133_110, q_133_113r, q_133_113n, q_133_114, q_133_116, q_133_119, q_133_120, q_133_121, q_133_124, q_133_125, q_133_127, q_133_129, q_133_132, q_133_135r, q_133_135n, q_133_136, q_133_137, q_133_140, q_133_141, q_133_143, q_133_144, q_133_147, q_133_150, q_133_151, q_133_152, q_133_155, q_133_156, q_133_158, q_133_161r, q_133_161n, q_133_162, q_133_163, q_133_166r, q_133_166n, q_133_167r, q_133_167i, q_133_168, q_133_171, q_133_172, q_133_173, q_133_176r, q_133_176n, q_133_177, q_133_180r, q_133_180n, q_133_181, q_133_184, q_133_185, q_133_187, q_133_189, q_133_191, q_133_194r, q_133_194n, q_133_195, q_133_197, q_133_198, q_133_200, q_133_201, q_133_202, q_133_205, q_133_208, q_133_209, q_133_211, q_133_214r, q_133_214n, q_133_215, q_133_216, q_133_219, q_133_220, q_133_221, q_133_224, q_133_225, q_133_227, q_133_230, q_133_232, q_133_235r, q_133_235n, q_133_236, q_133_238, q_133_241, q_133_244, q_133_245, q_133_247, q_133_250, q_133_251, q_133_254, q_133_255, q_133_257, q_133_260, q_133_262, q_133_265, q_133_266, q_133_268, q_133_271, q_133_273, q_133_276, q_133_278, q_133_280r, q_133_280n, q_133_281, q_133_283, q_133_284, q_133_287, q_133_289, q_133_291, q_133_294, q_133_295, q_133_298, q_133_299, q_133_302r, q_133_302n, q_133_303, q_133_305, q_133_308, q_133_311, q_133_314r, q_133_314n, q_133_315, q_133_316, q_133_319, vf_s, vf_n, zk2_none, zk2_int, zk2_ref, zk2_null, zk2_long, zct_nil, zct_i, zct_l, zct_r, zct_n, Option.bind_some, Option.toList_some, Option.toList_none, List.cons_append, List.nil_append, zor_l, zor_r, if_true, if_false, ↓reduceIte, zi_lit, zi_of, zi_add, zi_mul, zi_sub, zi_nat, zi_leT, zi_leF, zi_ltT, zi_ltF, zi_eqT, zi_eqF, zif_0z, zif_bz, zi_01l, zi_01r, not_true_eq_false, not_false_eq_true, Nat.reduceAdd, Nat.reduceMul, Nat.reduceSub, zg_s, zg_o, zg_j, zg_r, zg_ro, zg_d, yfl_o, rf_148_3, rf_148_7, h6, px, z1, z2, z3, r1, k4', k5', Nat.add_sub_cancel, f115, g115, u1]
                  exact t1
        · rw [if_neg c41] at e0
          by_cases c42 : x = 42
          · subst c42
            rw [if_pos rfl] at e0
            have z1 := d0 (by omega)
            have z2 := a0 (by omega)
            have z3 := b0 (by omega)
            obtain ⟨mi1, mi2, r1, r2, r3⟩ := opr 2 3 9 (by omega) (by omega) e0
            obtain ⟨mi', t1, t2⟩ := r3 (some (.int (zi 42))) (some (.int (zi 0))) (some (.int (zi 9)))
            refine ⟨mi', ?_, t2⟩
            rw [q_133_22]
            simp (disch := (first | with_reducible exact is_148 | with_reducible exact zi_at is_148 (by omega) (by omega) | with_reducible exact is_152 | with_reducible exact zi_at is_152 (by omega) (by omega) | ((with_reducible refine zct_le ?_) <;> exact Nat.le_of_ble_eq_true rfl) | with_reducible exact zh_0 | with_reducible exact zh_1 | with_reducible exact zh_b | omega)) only [q_133_23r, q_133_23n, q_133_24, q_133_27, q_133_30r, q_133_30n, q_133_31, q_133_34, q_133_35, q_133_36, q_133_37, q_133_38, q_133_40, q_133_41, q_133_42, q_133_43, q_133_46, q_133_49r, q_133_49n, q_133_50, q_133_51, q_133_54, q_133_55, q_133_56, q_133_57, q_133_60, q_133_61, q_133_63, q_133_65, q_133_68, q_133_71r, q_133_71n, q_133_72, q_133_73, q_133_74, q_133_75, q_133_77, q_133_78, q_133_79, q_133_82, q_133_85, q_133_86, q_133_88, q_133_91, q_133_94r, q_133_94n, q_133_95r, q_133_95n, q_133_96, q_133_99, q_133_100, q_133_101, q_133_104, q_133_107, q_133_108, q_133_110, q_133_113r, q_133_113n, q_133_114, q_133_116, q_133_119, q_133_120, q_133_121, q_133_124, q_133_125, q_133_127, q_133_129, q_133_132, q_133_135r, q_133_135n, q_133_136, q_133_137, q_133_140, q_133_141, q_133_143, q_133_144, q_133_147, q_133_150, q_133_151, q_133_152, q_133_155, q_133_156, q_133_158, q_133_161r, q_133_161n, q_133_162, q_133_163, q_133_166r, q_133_166n, q_133_167r, q_133_167i, q_133_168, q_133_171, q_133_172, q_133_173, q_133_176r, q_133_176n, q_133_177, q_133_180r, q_133_180n, q_133_181, q_133_184, q_133_185, q_133_187, q_133_189, q_133_191, q_133_194r, q_133_194n, q_133_195, q_133_197, q_133_198, q_133_200, q_133_201, q_133_202, q_133_205, q_133_208, q_133_209, q_133_211, q_133_214r, q_133_214n, q_133_215, q_133_216, q_133_219, q_133_220, q_133_221, q_133_224, q_133_225, q_133_227, q_133_230, q_133_232, q_133_235r, q_133_235n, q_133_236, q_133_238, q_133_241, q_133_244, q_133_245, q_133_247, q_133_250, q_133_251, q_133_254, q_133_255, q_133_257, q_133_260, q_133_262, q_133_265, q_133_266, q_133_268, q_133_271, q_133_273, q_133_276, q_133_278, q_133_280r, q_133_280n, q_133_281, q_133_283, q_133_284, q_133_287, q_133_289, q_133_291, q_133_294, q_133_295, q_133_298, q_133_299, q_133_302r, q_133_302n, q_133_303, q_133_305, q_133_308, q_133_311, q_133_314r, q_133_314n, q_133_315, q_133_316, q_133_319, vf_s, vf_n, zk2_none, zk2_int, zk2_ref, zk2_null, zk2_long, zct_nil, zct_i, zct_l, zct_r, zct_n, Option.bind_some, Option.toList_some, Option.toList_none, List.cons_append, List.nil_append, zor_l, zor_r, if_true, if_false, ↓reduceIte, zi_lit, zi_of, zi_add, zi_mul, zi_sub, zi_nat, zi_leT, zi_leF, zi_ltT, zi_ltF, zi_eqT, zi_eqF, zif_0z, zif_bz, zi_01l, zi_01r, not_true_eq_false, not_false_eq_true, Nat.reduceAdd, Nat.reduceMul, Nat.reduceSub, rf_148_3, h6, px, z1, z2, z3, r1, r2]
            exact t1
          · rw [if_neg c42] at e0
            by_cases c43 : x = 43
            · subst c43
              rw [if_pos rfl] at e0
              have z1 := d0 (by omega)
              have z2 := a0 (by omega)
              have z3 := b0 (by omega)
              obtain ⟨mi1, mi2, r1, r2, r3⟩ := opr 1 1 5 (by omega) (by omega) e0
              obtain ⟨mi', t1, t2⟩ := r3 (some (.int (zi 43))) (some (.int (zi 0))) (some (.int (zi 5)))
              refine ⟨mi', ?_, t2⟩
              rw [q_133_22]
              simp (disch := (first | with_reducible exact is_148 | with_reducible exact zi_at is_148 (by omega) (by omega) | with_reducible exact is_152 | with_reducible exact zi_at is_152 (by omega) (by omega) | ((with_reducible refine zct_le ?_) <;> exact Nat.le_of_ble_eq_true rfl) | with_reducible exact zh_0 | with_reducible exact zh_1 | with_reducible exact zh_b | omega)) only [q_133_23r, q_133_23n, q_133_24, q_133_27, q_133_30r, q_133_30n, q_133_31, q_133_34, q_133_35, q_133_36, q_133_37, q_133_38, q_133_40, q_133_41, q_133_42, q_133_43, q_133_46, q_133_49r, q_133_49n, q_133_50, q_133_51, q_133_54, q_133_55, q_133_56, q_133_57, q_133_60, q_133_61, q_133_63, q_133_65, q_133_68, q_133_71r, q_133_71n, q_133_72, q_133_73, q_133_74, q_133_75, q_133_77, q_133_78, q_133_79, q_133_82, q_133_85, q_133_86, q_133_88, q_133_91, q_133_94r, q_133_94n, q_133_95r, q_133_95n, q_133_96, q_133_99, q_133_100, q_133_101, q_133_104, q_133_107, q_133_108, q_133_110, q_133_113r, q_133_113n, q_133_114, q_133_116, q_133_119, q_133_120, q_133_121, q_133_124, q_133_125, q_133_127, q_133_129, q_133_132, q_133_135r, q_133_135n, q_133_136, q_133_137, q_133_140, q_133_141, q_133_143, q_133_144, q_133_147, q_133_150, q_133_151, q_133_152, q_133_155, q_133_156, q_133_158, q_133_161r, q_133_161n, q_133_162, q_133_163, q_133_166r, q_133_166n, q_133_167r, q_133_167i, q_133_168, q_133_171, q_133_172, q_133_173, q_133_176r, q_133_176n, q_133_177, q_133_180r, q_133_180n, q_133_181, q_133_184, q_133_185, q_133_187, q_133_189, q_133_191, q_133_194r, q_133_194n, q_133_195, q_133_197, q_133_198, q_133_200, q_133_201, q_133_202, q_133_205, q_133_208, q_133_209, q_133_211, q_133_214r, q_133_214n, q_133_215, q_133_216, q_133_219, q_133_220, q_133_221, q_133_224, q_133_225, q_133_227, q_133_230, q_133_232, q_133_235r, q_133_235n, q_133_236, q_133_238, q_133_241, q_133_244, q_133_245, q_133_247, q_133_250, q_133_251, q_133_254, q_133_255, q_133_257, q_133_260, q_133_262, q_133_265, q_133_266, q_133_268, q_133_271, q_133_273, q_133_276, q_133_278, q_133_280r, q_133_280n, q_133_281, q_133_283, q_133_284, q_133_287, q_133_289, q_133_291, q_133_294, q_133_295, q_133_298, q_133_299, q_133_302r, q_133_302n, q_133_303, q_133_305, q_133_308, q_133_311, q_133_314r, q_133_314n, q_133_315, q_133_316, q_133_319, vf_s, vf_n, zk2_none, zk2_int, zk2_ref, zk2_null, zk2_long, zct_nil, zct_i, zct_l, zct_r, zct_n, Option.bind_some, Option.toList_some, Option.toList_none, List.cons_append, List.nil_append, zor_l, zor_r, if_true, if_false, ↓reduceIte, zi_lit, zi_of, zi_add, zi_mul, zi_sub, zi_nat, zi_leT, zi_leF, zi_ltT, zi_ltF, zi_eqT, zi_eqF, zif_0z, zif_bz, zi_01l, zi_01r, not_true_eq_false, not_false_eq_true, Nat.reduceAdd, Nat.reduceMul, Nat.reduceSub, rf_148_3, h6, px, z1, z2, z3, r1, r2]
              exact t1
            · rw [if_neg c43] at e0
              by_cases c44 : x = 44
              · subst c44
                rw [if_pos rfl] at e0
                have z1 := d0 (by omega)
                have z2 := a0 (by omega)
                have z3 := b0 (by omega)
                obtain ⟨mi1, r1, r2, r3⟩ := rel 1 1 (Or.inl ⟨rfl, rfl⟩)
                obtain ⟨j1, j2, j3⟩ := cpl_J (b := 1) hIs (by omega) hb (by omega)
                have hhd := cpl_hd s.W s
                generalize cpl 1 s.W s = t at e0 r2 j1 j2 j3 hhd
                rcases hhd with hW | ⟨a, U, hW, ha0⟩
                · rw [hW] at e0; exact absurd e0 (fun h => by cases h)
                · rw [hW] at e0 j1
                  have oa := okA_0 (j1 a List.mem_cons_self) ha0
                  rw [com] at e0
                  by_cases c32 : a < 32
                  · rw [if_pos c32] at e0; exact absurd e0 (fun h => by cases h)
                  · rw [if_neg c32] at e0
                    have k3 := Option.some.inj e0
                    have hl : lR mi1 e ((t.wt ((a - 32) :: U)).st 0) := by
                      obtain ⟨g1, g2, g3, g4, g5⟩ := r2
                      rw [hW] at g4 g5
                      refine ⟨g1, g2, g3, g4, ?_, g5.2⟩
                      have : cdM (a - 32) = cdM a := by
                        have ha2 : a = 46 ∨ a = 47 := by omega
                        rcases ha2 with rfl | rfl <;> rfl
                      rw [this]
                      exact g5.1
                    obtain ⟨mi', t1, t2⟩ := nxt (i + 1) s1 mi1 1 (by omega) (by omega) k2 (hbd1 _ _ (by rw [← k3]; exact Or.inl rfl)) (by rw [← k3]; exact hl) r3 (fun _ => rfl) (fun h => by rw [← k3] at h; exact absurd rfl h) (some (.int (zi 44))) (some (.int (zi 0))) l5
                    refine ⟨mi', ?_, t2⟩
                    rw [q_133_22]
                    simp (disch := (first | with_reducible exact is_148 | with_reducible exact zi_at is_148 (by omega) (by omega) | with_reducible exact is_152 | with_reducible exact zi_at is_152 (by omega) (by omega) | ((with_reducible refine zct_le ?_) <;> exact Nat.le_of_ble_eq_true rfl) | with_reducible exact zh_0 | with_reducible exact zh_1 | with_reducible exact zh_b | omega)) only [q_133_23r, q_133_23n, q_133_24, q_133_27, q_133_30r, q_133_30n, q_133_31, q_133_34, q_133_35, q_133_36, q_133_37, q_133_38, q_133_40, q_133_41, q_133_42, q_133_43, q_133_46, q_133_49r, q_133_49n, q_133_50, q_133_51, q_133_54, q_133_55, q_133_56, q_133_57, q_133_60, q_133_61, q_133_63, q_133_65, q_133_68, q_133_71r, q_133_71n, q_133_72, q_133_73, q_133_74, q_133_75, q_133_77, q_133_78, q_133_79, q_133_82, q_133_85, q_133_86, q_133_88, q_133_91, q_133_94r, q_133_94n, q_133_95r, q_133_95n, q_133_96, q_133_99, q_133_100, q_133_101, q_133_104, q_133_107, q_133_108, q_133_110, q_133_113r, q_133_113n, q_133_114, q_133_116, q_133_119, q_133_120, q_133_121, q_133_124, q_133_125, q_133_127, q_133_129, q_133_132, q_133_135r, q_133_135n, q_133_136, q_133_137, q_133_140, q_133_141, q_133_143, q_133_144, q_133_147, q_133_150, q_133_151, q_133_152, q_133_155, q_133_156, q_133_158, q_133_161r, q_133_161n, q_133_162, q_133_163, q_133_166r, q_133_166n, q_133_167r, q_133_167i, q_133_168, q_133_171, q_133_172, q_133_173, q_133_176r, q_133_176n, q_133_177, q_133_180r, q_133_180n, q_133_181, q_133_184, q_133_185, q_133_187, q_133_189, q_133_191, q_133_194r, q_133_194n, q_133_195, q_133_197, q_133_198, q_133_200, q_133_201, q_133_202, q_133_205, q_133_208, q_133_209, q_133_211, q_133_214r, q_133_214n, q_133_215, q_133_216, q_133_219, q_133_220, q_133_221, q_133_224, q_133_225, q_133_227, q_133_230, q_133_232, q_133_235r, q_133_235n, q_133_236, q_133_238, q_133_241, q_133_244, q_133_245, q_133_247, q_133_250, q_133_251, q_133_254, q_133_255, q_133_257, q_133_260, q_133_262, q_133_265, q_133_266, q_133_268, q_133_271, q_133_273, q_133_276, q_133_278, q_133_280r, q_133_280n, q_133_281, q_133_283, q_133_284, q_133_287, q_133_289, q_133_291, q_133_294, q_133_295, q_133_298, q_133_299, q_133_302r, q_133_302n, q_133_303, q_133_305, q_133_308, q_133_311, q_133_314r, q_133_314n, q_133_315, q_133_316, q_133_319, vf_s, vf_n, zk2_none, zk2_int, zk2_ref, zk2_null, zk2_long, zct_nil, zct_i, zct_l, zct_r, zct_n, Option.bind_some, Option.toList_some, Option.toList_none, List.cons_append, List.nil_append, zor_l, zor_r, if_true, if_false, ↓reduceIte, zi_lit, zi_of, zi_add, zi_mul, zi_sub, zi_nat, zi_leT, zi_leF, zi_ltT, zi_ltF, zi_eqT, zi_eqF, zif_0z, zif_bz, zi_01l, zi_01r, not_true_eq_false, not_false_eq_true, Nat.reduceAdd, Nat.reduceMul, Nat.reduceSub, rf_148_3, h6, px, z1, z2, z3, r1]
                    exact t1
              · rw [if_neg c44] at e0
                by_cases c45 : x = 45
                · subst c45
                  rw [if_pos rfl] at e0
                  have z1 := d0 (by omega)
                  have z2 := a0 (by omega)
                  have z3 := b0 (by omega)
                  obtain ⟨mi1, mi2, r1, r2, r3⟩ := opr 1 1 6 (by omega) (by omega) e0
                  obtain ⟨mi', t1, t2⟩ := r3 (some (.int (zi 45))) (some (.int (zi 0))) (some (.int (zi 6)))
                  refine ⟨mi', ?_, t2⟩
                  rw [q_133_22]
                  simp (disch := (first | with_reducible exact is_148 | with_reducible exact zi_at is_148 (by omega) (by omega) | with_reducible exact is_152 | with_reducible exact zi_at is_152 (by omega) (by omega) | ((with_reducible refine zct_le ?_) <;> exact Nat.le_of_ble_eq_true rfl) | with_reducible exact zh_0 | with_reducible exact zh_1 | with_reducible exact zh_b | omega)) only [q_133_23r, q_133_23n, q_133_24, q_133_27, q_133_30r, q_133_30n, q_133_31, q_133_34, q_133_35, q_133_36, q_133_37, q_133_38, q_133_40, q_133_41, q_133_42, q_133_43, q_133_46, q_133_49r, q_133_49n, q_133_50, q_133_51, q_133_54, q_133_55, q_133_56, q_133_57, q_133_60, q_133_61, q_133_63, q_133_65, q_133_68, q_133_71r, q_133_71n, q_133_72, q_133_73, q_133_74, q_133_75, q_133_77, q_133_78, q_133_79, q_133_82, q_133_85, q_133_86, q_133_88, q_133_91, q_133_94r, q_133_94n, q_133_95r, q_133_95n, q_133_96, q_133_99, q_133_100, q_133_101, q_133_104, q_133_107, q_133_108, q_133_110, q_133_113r, q_133_113n, q_133_114, q_133_116, q_133_119, q_133_120, q_133_121, q_133_124, q_133_125, q_133_127, q_133_129, q_133_132, q_133_135r, q_133_135n, q_133_136, q_133_137, q_133_140, q_133_141, q_133_143, q_133_144, q_133_147, q_133_150, q_133_151, q_133_152, q_133_155, q_133_156, q_133_158, q_133_161r, q_133_161n, q_133_162, q_133_163, q_133_166r, q_133_166n, q_133_167r, q_133_167i, q_133_168, q_133_171, q_133_172, q_133_173, q_133_176r, q_133_176n, q_133_177, q_133_180r, q_133_180n, q_133_181, q_133_184, q_133_185, q_133_187, q_133_189, q_133_191, q_133_194r, q_133_194n, q_133_195, q_133_197, q_133_198, q_133_200, q_133_201, q_133_202, q_133_205, q_133_208, q_133_209, q_133_211, q_133_214r, q_133_214n, q_133_215, q_133_216, q_133_219, q_133_220, q_133_221, q_133_224, q_133_225, q_133_227, q_133_230, q_133_232, q_133_235r, q_133_235n, q_133_236, q_133_238, q_133_241, q_133_244, q_133_245, q_133_247, q_133_250, q_133_251, q_133_254, q_133_255, q_133_257, q_133_260, q_133_262, q_133_265, q_133_266, q_133_268, q_133_271, q_133_273, q_133_276, q_133_278, q_133_280r, q_133_280n, q_133_281, q_133_283, q_133_284, q_133_287, q_133_289, q_133_291, q_133_294, q_133_295, q_133_298, q_133_299, q_133_302r, q_133_302n, q_133_303, q_133_305, q_133_308, q_133_311, q_133_314r, q_133_314n, q_133_315, q_133_316, q_133_319, vf_s, vf_n, zk2_none, zk2_int, zk2_ref, zk2_null, zk2_long, zct_nil, zct_i, zct_l, zct_r, zct_n, Option.bind_some, Option.toList_some, Option.toList_none, List.cons_append, List.nil_append, zor_l, zor_r, if_true, if_false, ↓reduceIte, zi_lit, zi_of, zi_add, zi_mul, zi_sub, zi_nat, zi_leT, zi_leF, zi_ltT, zi_ltF, zi_eqT, zi_eqF, zif_0z, zif_bz, zi_01l, zi_01r, not_true_eq_false, not_false_eq_true, Nat.reduceAdd, Nat.reduceMul, Nat.reduceSub, rf_148_3, h6, px, z1, z2, z3, r1, r2]
                  exact t1
                · rw [if_neg c45] at e0
                  by_cases c47 : x = 47
                  · subst c47
                    rw [if_pos rfl] at e0
                    have z1 := d0 (by omega)
                    have z2 := a0 (by omega)
                    have z3 := b0 (by omega)
                    obtain ⟨mi1, mi2, r1, r2, r3⟩ := opr 2 3 11 (by omega) (by omega) e0
                    obtain ⟨mi', t1, t2⟩ := r3 (some (.int (zi 47))) (some (.int (zi 0))) (some (.int (zi 11)))
                    refine ⟨mi', ?_, t2⟩
                    rw [q_133_22]
                    simp (disch := (first | with_reducible exact is_148 | with_reducible exact zi_at is_148 (by omega) (by omega) | with_reducible exact is_152 | with_reducible exact zi_at is_152 (by omega) (by omega) | ((with_reducible refine zct_le ?_) <;> exact Nat.le_of_ble_eq_true rfl) | with_reducible exact zh_0 | with_reducible exact zh_1 | with_reducible exact zh_b | omega)) only [q_133_23r, q_133_23n, q_133_24, q_133_27, q_133_30r, q_133_30n, q_133_31, q_133_34, q_133_35, q_133_36, q_133_37, q_133_38, q_133_40, q_133_41, q_133_42, q_133_43, q_133_46, q_133_49r, q_133_49n, q_133_50, q_133_51, q_133_54, q_133_55, q_133_56, q_133_57, q_133_60, q_133_61, q_133_63, q_133_65, q_133_68, q_133_71r, q_133_71n, q_133_72, q_133_73, q_133_74, q_133_75, q_133_77, q_133_78, q_133_79, q_133_82, q_133_85, q_133_86, q_133_88, q_133_91, q_133_94r, q_133_94n, q_133_95r, q_133_95n, q_133_96, q_133_99, q_133_100, q_133_101, q_133_104, q_133_107, q_133_108, q_133_110, q_133_113r, q_133_113n, q_133_114, q_133_116, q_133_119, q_133_120, q_133_121, q_133_124, q_133_125, q_133_127, q_133_129, q_133_132, q_133_135r, q_133_135n, q_133_136, q_133_137, q_133_140, q_133_141, q_133_143, q_133_144, q_133_147, q_133_150, q_133_151, q_133_152, q_133_155, q_133_156, q_133_158, q_133_161r, q_133_161n, q_133_162, q_133_163, q_133_166r, q_133_166n, q_133_167r, q_133_167i, q_133_168, q_133_171, q_133_172, q_133_173, q_133_176r, q_133_176n, q_133_177, q_133_180r, q_133_180n, q_133_181, q_133_184, q_133_185, q_133_187, q_133_189, q_133_191, q_133_194r, q_133_194n, q_133_195, q_133_197, q_133_198, q_133_200, q_133_201, q_133_202, q_133_205, q_133_208, q_133_209, q_133_211, q_133_214r, q_133_214n, q_133_215, q_133_216, q_133_219, q_133_220, q_133_221, q_133_224, q_133_225, q_133_227, q_133_230, q_133_232, q_133_235r, q_133_235n, q_133_236, q_133_238, q_133_241, q_133_244, q_133_245, q_133_247, q_133_250, q_133_251, q_133_254, q_133_255, q_133_257, q_133_260, q_133_262, q_133_265, q_133_266, q_133_268, q_133_271, q_133_273, q_133_276, q_133_278, q_133_280r, q_133_280n, q_133_281, q_133_283, q_133_284, q_133_287, q_133_289, q_133_291, q_133_294, q_133_295, q_133_298, q_133_299, q_133_302r, q_133_302n, q_133_303, q_133_305, q_133_308, q_133_311, q_133_314r, q_133_314n, q_133_315, q_133_316, q_133_319, vf_s, vf_n, zk2_none, zk2_int, zk2_ref, zk2_null, zk2_long, zct_nil, zct_i, zct_l, zct_r, zct_n, Option.bind_some, Option.toList_some, Option.toList_none, List.cons_append, List.nil_append, zor_l, zor_r, if_true, if_false, ↓reduceIte, zi_lit, zi_of, zi_add, zi_mul, zi_sub, zi_nat, zi_leT, zi_leF, zi_ltT, zi_ltF, zi_eqT, zi_eqF, zif_0z, zif_bz, zi_01l, zi_01r, not_true_eq_false, not_false_eq_true, Nat.reduceAdd, Nat.reduceMul, Nat.reduceSub, rf_148_3, h6, px, z1, z2, z3, r1, r2]
                    exact t1
                  · rw [if_neg c47] at e0
                    by_cases c94 : x = 94
                    · subst c94
                      rw [if_pos rfl] at e0
                      by_cases c8 : s.p = 8
                      · rw [if_pos c8] at e0; exact absurd e0 (fun h => by cases h)
                      · rw [if_neg c8] at e0
                        have k3 := Option.some.inj e0
                        have hj := hx2 s1 k2 (by rw [← k3]; exact Or.inr (Or.inr (Or.inr (Or.inr rfl))))
                        obtain ⟨s2, k4, k5⟩ := rdS_t hsf k2 hj
                        have hI1 := rdS_I (i + 1) (by omega) s1 k2
                        have hn3 : s1.n + 3 ≤ 60 := by
                          have q1 := hI1.2.2.2.1
                          have q2 : cst s1.p = 7 := by rw [← k3]; rfl
                          omega
                        have e2 : tk s1 (P (i + 1)) = tkP s1 (P (i + 1)) := by
                          have hp7 : s1.p = 7 := by rw [← k3]; rfl
                          unfold tk
                          rw [if_neg (by omega), if_neg (by omega), if_neg (by omega), if_neg (by omega), if_neg (by omega), if_neg (by omega), if_pos hp7]
                        rw [e2] at k4
                        obtain ⟨py, py2⟩ := h7 (i + 1) hj
                        have z1 := d0 (by omega)
                        have z2 := a0 (by omega)
                        obtain ⟨mi1, r1, r2, r3⟩ := m_130 (Ls := Ls) (g := g) (mj := mj) he (show lR mi e s1 by rw [← k3]; exact h5) hn3 k4
                        have hp8 : s2.p = 8 := by
                          unfold tkP at k4
                          split at k4
                          · rw [← Option.some.inj k4]; rfl
                          · split at k4
                            · rw [← Option.some.inj k4]; rfl
                            · split at k4
                              · rw [← Option.some.inj k4]; rfl
                              · exact absurd k4 (fun h => by cases h)
                        obtain ⟨mi', t1, t2⟩ := nxt (i + 1 + 1) s2 mi1 0 (by omega) (by omega) k5 (hbd1 _ _ (Or.inr (Or.inr (Or.inr hp8)))) r2 r3 (fun h => by omega) (fun _ => rfl) (some (.int (zi 94))) (some (.int (zi 0))) l5
                        refine ⟨mi', ?_, t2⟩
                        rw [q_133_22]
                        simp (disch := (first | with_reducible exact is_148 | with_reducible exact zi_at is_148 (by omega) (by omega) | with_reducible exact is_152 | with_reducible exact zi_at is_152 (by omega) (by omega) | ((with_reducible refine zct_le ?_) <;> exact Nat.le_of_ble_eq_true rfl) | with_reducible exact zh_0 | with_reducible exact zh_1 | with_reducible exact zh_b | omega)) only [q_133_23r, q_133_23n, q_133_24, q_133_27, q_133_30r, q_133_30n, q_133_31, q_133_34, q_133_35, q_133_36, q_133_37, q_133_38, q_133_40, q_133_41, q_133_42, q_133_43, q_133_46, q_133_49r, q_133_49n, q_133_50, q_133_51, q_133_54, q_133_55, q_133_56, q_133_57, q_133_60, q_133_61, q_133_63, q_133_65, q_133_68, q_133_71r, q_133_71n, q_133_72, q_133_73, q_133_74, q_133_75, q_133_77, q_133_78, q_133_79, q_133_82, q_133_85, q_133_86, q_133_88, q_133_91, q_133_94r, q_133_94n, q_133_95r, q_133_95n, q_133_96, q_133_99, q_133_100, q_133_101, q_133_104, q_133_107, q_133_108, q_133_110, q_133_113r, q_133_113n, q_133_114, q_133_116, q_133_119, q_133_120, q_133_121, q_133_124, q_133_125, q_133_127, q_133_129, q_133_132, q_133_135r, q_133_135n, q_133_136, q_133_137, q_133_140, q_133_141, q_133_143, q_133_144, q_133_147, q_133_150, q_133_151, q_133_152, q_133_155, q_133_156, q_133_158, q_133_161r, q_133_161n, q_133_162, q_133_163, q_133_166r, q_133_166n, q_133_167r, q_133_167i, q_133_168, q_133_171, q_133_172, q_133_173, q_133_176r, q_133_176n, q_133_177, q_133_180r, q_133_180n, q_133_181, q_133_184, q_133_185, q_133_187, q_133_189, q_133_191, q_133_194r, q_133_194n, q_133_195, q_133_197, q_133_198, q_133_200, q_133_201, q_133_202, q_133_205, q_133_208, q_133_209, q_133_211, q_133_214r, q_133_214n, q_133_215, q_133_216, q_133_219, q_133_220, q_133_221, q_133_224, q_133_225, q_133_227, q_133_230, q_133_232, q_133_235r, q_133_235n, q_133_236, q_133_238, q_133_241, q_133_244, q_133_245, q_133_247, q_133_250, q_133_251, q_133_254, q_133_255, q_133_257, q_133_260, q_133_262, q_133_265, q_133_266, q_133_268, q_133_271, q_133_273, q_133_276, q_133_278, q_133_280r, q_133_280n, q_133_281, q_133_283, q_133_284, q_133_287, q_133_289, q_133_291, q_133_294, q_133_295, q_133_298, q_133_299, q_133_302r, q_133_302n, q_133_303, q_133_305, q_133_308, q_133_311, q_133_314r, q_133_314n, q_133_315, q_133_316, q_133_319, vf_s, vf_n, zk2_none, zk2_int, zk2_ref, zk2_null, zk2_long, zct_nil, zct_i, zct_l, zct_r, zct_n, Option.bind_some, Option.toList_some, Option.toList_none, List.cons_append, List.nil_append, zor_l, zor_r, if_true, if_false, ↓reduceIte, zi_lit, zi_of, zi_add, zi_mul, zi_sub, zi_nat, zi_leT, zi_leF, zi_ltT, zi_ltF, zi_eqT, zi_eqF, zif_0z, zif_bz, zi_01l, zi_01r, not_true_eq_false, not_false_eq_true, Nat.reduceAdd, Nat.reduceMul, Nat.reduceSub, rf_148_3, h6, px, z1, z2, py, r1]
                        exact t1
                    · rw [if_neg c94] at e0
                      exact absurd e0 (fun h => by cases h)
theorem m_133 (he : e < 4) (hn : n ≤ 48) (hsf : rdS q0 P n = some sf) (hnb : ¬ rdB sf) (h9 : mi 148 9 = zi e) (hm : mi 148 4 = zi n) (hP : ∀ k, k < n → mi 152 k = zi (P k) ∧ P k < 65536) : ∃ mi', zCall 133 [.ref 148] (SH Ls) mi mj (RF g) = some (none, SH Ls, mi', mj, RF g) ∧ lR mi' e (cpl 1 sf.W sf) ∧ FrL e mi mi' := by
  have f0 : FrL e mi (zup (zup mi 149 (9 + e) (zi 0)) 148 8 (zi 0)) := ⟨fun a x y z => by rw [zup_ne x, zup_ne y], fun j hj => by rw [zg_j (by omega), zup_ne (by omega)], fun j x y z => by rw [zup_ne (by omega), zg_j (by omega)]⟩
  have h0 : lR (zup (zup mi 149 (9 + e) (zi 0)) 148 8 (zi 0)) e (rdZ q0) := ⟨by rw [f0.2.1 9 (by omega)]; exact h9, by simp (disch := omega) only [zg_s, zg_o, zg_j, zg_r, zg_ro, zg_d, yfl_o]; rfl, fun i hi => absurd hi (Nat.not_lt_zero i), zg_s, trivial⟩
  obtain ⟨mi', r1, r2, r3⟩ := l_133 (Ls := Ls) (g := g) (mj := mj) he hn hsf hnb n 0 (rdZ q0) _ 1 (by omega) (by omega) rfl ⟨Or.inl rfl, fun h => absurd h (by show ¬ 0 = 3; omega), fun h => absurd h (by show ¬ 0 = 5; omega)⟩ h0 (by rw [f0.2.1 4 (by omega)]; exact hm) (fun k hk => by rw [f0.1 152 (by omega) (by omega) (by omega)]; exact hP k hk) (fun _ => rfl) (fun h => absurd rfl h) none none none
  refine ⟨mi', ?_, r2, f0.tr r3⟩
  simp (disch := (first | with_reducible exact is_148 | with_reducible exact zi_at is_148 (by omega) (by omega) | with_reducible exact is_149 | with_reducible exact zi_at is_149 (by omega) (by omega) | ((with_reducible refine zct_le ?_) <;> exact Nat.le_of_ble_eq_true rfl) | with_reducible exact zh_0 | with_reducible exact zh_1 | with_reducible exact zh_b | omega)) only [e_133, q_133_0r, q_133_0n, q_133_1, q_133_4, q_133_6r, q_133_6n, q_133_7, q_133_10, q_133_11, q_133_12, q_133_13r, q_133_13n, q_133_14, q_133_15, q_133_18, q_133_19, q_133_20, q_133_21, vf_s, vf_n, zk2_none, zk2_int, zk2_ref, zk2_null, zk2_long, zct_nil, zct_i, zct_l, zct_r, zct_n, Option.bind_some, Option.toList_some, Option.toList_none, List.cons_append, List.nil_append, zor_l, zor_r, if_true, if_false, ↓reduceIte, zi_lit, zi_of, zi_add, zi_mul, zi_sub, zi_nat, zi_leT, zi_leF, zi_ltT, zi_ltF, zi_eqT, zi_eqF, zif_0z, zif_bz, zi_01l, zi_01r, not_true_eq_false, not_false_eq_true, Nat.reduceAdd, Nat.reduceMul, Nat.reduceSub, rf_148_0, h9]
  exact r1
end
