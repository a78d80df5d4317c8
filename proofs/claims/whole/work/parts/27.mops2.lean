/-! ===== the forms of the model (3): products, roots, choices ===== -/
section
variable {Ls : Nat} {g : Nat → Nat} {mi : zI} {mj : zJ} {i1 i2 : Int32} {f o p q k n d s b x y : Nat} {u v w r0 : Int64} {Z : Option zRes} {F G X Y : FF}
theorem l_152 (hx : x < 100) (hy : y < 100) (hne : x < y)
    (hZ : ∀ l12, zRun 152 168 [some (.ref 148), some (.int (zi x)), some (.int (zi y)), some (.int (zi (17 * x))), some (.int (zi (17 * y))), some (.long u), none, some (.long v), none, some (.long (fsum (fun k => zr8 (u * mj 155 (17 * y + 1 + k) + v * mj 155 (17 * x + 1 + k))) r0 12)), none, some (.int (zi 12)), l12, none, none, none, none, none, none] [] (SH Ls) mi (yfo mj 155 (17 * x + 1) 12 fun k => zs8 (u * mj 155 (17 * y + 1 + k) + v * mj 155 (17 * x + 1 + k))) (RF g) = Z)
    (n : Nat) : ∀ k, k + n = 12 → ∀ l12, zRun 152 83 [some (.ref 148), some (.int (zi x)), some (.int (zi y)), some (.int (zi (17 * x))), some (.int (zi (17 * y))), some (.long u), none, some (.long v), none, some (.long (fsum (fun k => zr8 (u * mj 155 (17 * y + 1 + k) + v * mj 155 (17 * x + 1 + k))) r0 k)), none, some (.int (zi k)), l12, none, none, none, none, none, none] [] (SH Ls) mi (yfo mj 155 (17 * x + 1) k fun k => zs8 (u * mj 155 (17 * y + 1 + k) + v * mj 155 (17 * x + 1 + k))) (RF g) = Z := by
  induction n with
  | zero =>
    intro k hk l12
    obtain rfl : k = 12 := by omega
    rw [q_152_83]
    simp (disch := (first | ((with_reducible refine zct_le ?_) <;> exact Nat.le_of_ble_eq_true rfl) | with_reducible exact zh_0 | with_reducible exact zh_1 | with_reducible exact zh_b | omega)) only [q_152_85, q_152_87, vf_s, vf_n, zk2_none, zk2_int, zk2_ref, zk2_null, zk2_long, zct_nil, zct_i, zct_l, zct_r, zct_n, Option.bind_some, Option.toList_some, Option.toList_none, List.cons_append, List.nil_append, zor_l, zor_r, if_true, if_false, ↓reduceIte, zi_lit, zi_of, zi_add, zi_mul, zi_sub, zi_nat, zi_leT, zi_leF, zi_ltT, zi_ltF, zi_eqT, zi_eqF, zif_0z, zif_bz, zi_01l, zi_01r, not_true_eq_false, not_false_eq_true, Nat.reduceAdd, Nat.reduceMul, Nat.reduceSub]
    exact hZ l12
  | succ n ih =>
    intro k hk l12
    rw [q_152_83]
    simp (disch := (first | with_reducible exact is_148 | with_reducible exact zi_at is_148 (by omega) (by omega) | with_reducible exact is_155 | with_reducible exact zi_at is_155 (by omega) (by omega) | with_reducible exact k256_ne | with_reducible exact zi_at k256_ne (by omega) (by omega) | ((with_reducible refine zct_le ?_) <;> exact Nat.le_of_ble_eq_true rfl) | with_reducible exact zh_0 | with_reducible exact zh_1 | with_reducible exact zh_b | omega)) only [q_152_85, q_152_87, q_152_90, q_152_92r, q_152_92n, q_152_93, q_152_96, q_152_98, q_152_99, q_152_100, q_152_102, q_152_103, q_152_104, q_152_105, q_152_107r, q_152_107n, q_152_108, q_152_111, q_152_112, q_152_113, q_152_114, q_152_116, q_152_117, q_152_118, q_152_119, q_152_120, q_152_122, q_152_124, q_152_126, q_152_129, q_152_130, q_152_131, q_152_132, q_152_135, q_152_136, q_152_139, vf_s, vf_n, zk2_none, zk2_int, zk2_ref, zk2_null, zk2_long, zct_nil, zct_i, zct_l, zct_r, zct_n, Option.bind_some, Option.toList_some, Option.toList_none, List.cons_append, List.nil_append, zor_l, zor_r, if_true, if_false, ↓reduceIte, zi_lit, zi_of, zi_add, zi_mul, zi_sub, zi_nat, zi_leT, zi_leF, zi_ltT, zi_ltF, zi_eqT, zi_eqF, zif_0z, zif_bz, zi_01l, zi_01r, not_true_eq_false, not_false_eq_true, Nat.reduceAdd, Nat.reduceMul, Nat.reduceSub, rf_148_10, yfo_out, zr8_rem]
    rw [mg_J]
    simp (disch := (first | with_reducible exact is_148 | with_reducible exact zi_at is_148 (by omega) (by omega) | with_reducible exact is_155 | with_reducible exact zi_at is_155 (by omega) (by omega) | with_reducible exact k256_ne | with_reducible exact zi_at k256_ne (by omega) (by omega) | ((with_reducible refine zct_le ?_) <;> exact Nat.le_of_ble_eq_true rfl) | with_reducible exact zh_0 | with_reducible exact zh_1 | with_reducible exact zh_b | omega)) only [q_152_140, q_152_141, q_152_143r, q_152_143n, q_152_144, q_152_147, q_152_148, q_152_149, q_152_150, q_152_152, q_152_153, q_152_155, q_152_158, q_152_161, q_152_162, q_152_165, vf_s, vf_n, zk2_none, zk2_int, zk2_ref, zk2_null, zk2_long, zct_nil, zct_i, zct_l, zct_r, zct_n, Option.bind_some, Option.toList_some, Option.toList_none, List.cons_append, List.nil_append, zor_l, zor_r, if_true, if_false, ↓reduceIte, zi_lit, zi_of, zi_add, zi_mul, zi_sub, zi_nat, zi_leT, zi_leF, zi_ltT, zi_ltF, zi_eqT, zi_eqF, zif_0z, zif_bz, zi_01l, zi_01r, not_true_eq_false, not_false_eq_true, Nat.reduceAdd, Nat.reduceMul, Nat.reduceSub, rf_148_10, m_147, zfd256, zr8_d]
    rw [yfo_s rfl]
    exact ih (k + 1) (by omega) _
theorem m_152 (hx : x < 100) (hy : y < 100) (hne : x < y) (hX : mOk mj x X) (hY : mOk mj y Y) (bX : fBd X) (bY : fBd Y) : ∃ mj', zCall 152 [.ref 148, .int (zi x), .int (zi y)] (SH Ls) mi mj (RF g) = some (none, SH Ls, mi, mj', RF g) ∧ mOk mj' x (fMul X (frad X 12) Y (frad Y 12)) ∧ FrR x mj mj' := by
  obtain ⟨rfl, x2⟩ := hX
  obtain ⟨rfl, y2⟩ := hY
  have b1 := mulB1 bX bY
  have b2 := mulB2 bX bY
  simp only [rf_0, rf_13] at b1
  simp only [rf_14, rf_15] at b2
  have c1 := zcd256 b1
  have c2 := zcd256 b2
  refine ⟨zup (zup (zup (zup (yfo mj 155 (17 * x + 1) 12 fun k => zs8 (mj 155 (17 * x) * mj 155 (17 * y + 1 + k) + mj 155 (17 * y) * mj 155 (17 * x + 1 + k))) 155 (17 * x) (zs8 (mj 155 (17 * x) * mj 155 (17 * y)))) 155 (17 * x + 13) (fsum (fun k => zr8 (mj 155 (17 * x) * mj 155 (17 * y + 1 + k) + mj 155 (17 * y) * mj 155 (17 * x + 1 + k))) (zu8 (zabs (mj 155 (17 * x)) * mj 155 (17 * y + 13) + zabs (mj 155 (17 * y)) * mj 155 (17 * x + 13) + frad (rf mj x) 12 * frad (rf mj y) 12)) 12 + zr8 (mj 155 (17 * x) * mj 155 (17 * y)))) 155 (17 * x + 14) (zs8 (zmin (zmin (mj 155 (17 * x + 14) * mj 155 (17 * y + 14)) (mj 155 (17 * x + 14) * mj 155 (17 * y + 15))) (zmin (mj 155 (17 * x + 15) * mj 155 (17 * y + 14)) (mj 155 (17 * x + 15) * mj 155 (17 * y + 15)))))) 155 (17 * x + 15) (zu8 (zmax (zmax (mj 155 (17 * x + 14) * mj 155 (17 * y + 14)) (mj 155 (17 * x + 14) * mj 155 (17 * y + 15))) (zmax (mj 155 (17 * x + 15) * mj 155 (17 * y + 14)) (mj 155 (17 * x + 15) * mj 155 (17 * y + 15))))), ?_, ⟨?_, ?_⟩, ?_⟩
  · simp (disch := (first | with_reducible exact is_148 | with_reducible exact zi_at is_148 (by omega) (by omega) | with_reducible exact is_155 | with_reducible exact zi_at is_155 (by omega) (by omega) | with_reducible exact k256_ne | with_reducible exact zi_at k256_ne (by omega) (by omega) | ((with_reducible refine zct_le ?_) <;> exact Nat.le_of_ble_eq_true rfl) | with_reducible exact zh_0 | with_reducible exact zh_1 | with_reducible exact zh_b | omega)) only [e_152, q_152_0, q_152_2, q_152_3, q_152_4, q_152_5, q_152_7, q_152_8, q_152_9, q_152_11r, q_152_11n, q_152_12, q_152_15, q_152_16, q_152_17, q_152_19r, q_152_19n, q_152_20, q_152_23, q_152_25, q_152_26, q_152_28, q_152_30, q_152_33r, q_152_33n, q_152_34, q_152_37, q_152_39, q_152_41, q_152_42, q_152_43, q_152_44, q_152_46, q_152_49r, q_152_49n, q_152_50, q_152_53, q_152_54, q_152_56, q_152_57, q_152_58, q_152_59, q_152_60r, q_152_60n, q_152_61, q_152_62, q_152_65r, q_152_65n, q_152_66, q_152_67, q_152_70, q_152_71, q_152_72, q_152_75, q_152_78, q_152_80, q_152_81, vf_s, vf_n, zk2_none, zk2_int, zk2_ref, zk2_null, zk2_long, zct_nil, zct_i, zct_l, zct_r, zct_n, Option.bind_some, Option.toList_some, Option.toList_none, List.cons_append, List.nil_append, zor_l, zor_r, if_true, if_false, ↓reduceIte, zi_lit, zi_of, zi_add, zi_mul, zi_sub, zi_nat, zi_leT, zi_leF, zi_ltT, zi_ltF, zi_eqT, zi_eqF, zif_0z, zif_bz, zi_01l, zi_01r, not_true_eq_false, not_false_eq_true, Nat.reduceAdd, Nat.reduceMul, Nat.reduceSub, rf_148_10, m_137, m_138 hx, m_138 hy, m_148, c1]
    have := l_152 (Ls := Ls) (g := g) (mi := mi) (mj := mj) (u := mj 155 (17 * x)) (v := mj 155 (17 * y)) (r0 := zu8 (zabs (mj 155 (17 * x)) * mj 155 (17 * y + 13) + zabs (mj 155 (17 * y)) * mj 155 (17 * x + 13) + frad (rf mj x) 12 * frad (rf mj y) 12)) hx hy hne (by
      intro l12
      simp (disch := (first | with_reducible exact is_148 | with_reducible exact zi_at is_148 (by omega) (by omega) | with_reducible exact is_155 | with_reducible exact zi_at is_155 (by omega) (by omega) | with_reducible exact k256_ne | with_reducible exact zi_at k256_ne (by omega) (by omega) | ((with_reducible refine zct_le ?_) <;> exact Nat.le_of_ble_eq_true rfl) | with_reducible exact zh_0 | with_reducible exact zh_1 | with_reducible exact zh_b | omega)) only [q_152_168, q_152_170, q_152_172, q_152_174, q_152_175, q_152_178, q_152_179, q_152_180, q_152_181, q_152_184, q_152_185, q_152_188, vf_s, vf_n, zk2_none, zk2_int, zk2_ref, zk2_null, zk2_long, zct_nil, zct_i, zct_l, zct_r, zct_n, Option.bind_some, Option.toList_some, Option.toList_none, List.cons_append, List.nil_append, zor_l, zor_r, if_true, if_false, ↓reduceIte, zi_lit, zi_of, zi_add, zi_mul, zi_sub, zi_nat, zi_leT, zi_leF, zi_ltT, zi_ltF, zi_eqT, zi_eqF, zif_0z, zif_bz, zi_01l, zi_01r, not_true_eq_false, not_false_eq_true, Nat.reduceAdd, Nat.reduceMul, Nat.reduceSub, zr8_rem]
      rw [mg_J]
      simp (disch := (first | with_reducible exact is_148 | with_reducible exact zi_at is_148 (by omega) (by omega) | with_reducible exact is_155 | with_reducible exact zi_at is_155 (by omega) (by omega) | with_reducible exact k256_ne | with_reducible exact zi_at k256_ne (by omega) (by omega) | ((with_reducible refine zct_le ?_) <;> exact Nat.le_of_ble_eq_true rfl) | with_reducible exact zh_0 | with_reducible exact zh_1 | with_reducible exact zh_b | omega)) only [q_152_189, q_152_190, q_152_192r, q_152_192n, q_152_193, q_152_196, q_152_197, q_152_199, q_152_201, q_152_202, q_152_205, q_152_208, q_152_209r, q_152_209n, q_152_210, q_152_213, q_152_214, q_152_216, q_152_217, q_152_219, q_152_220r, q_152_220n, q_152_221, q_152_224, q_152_225, q_152_227, q_152_228, q_152_229r, q_152_229n, q_152_230, q_152_233, q_152_235, q_152_237, q_152_238, q_152_239, q_152_240, q_152_242r, q_152_242n, q_152_243, q_152_246, q_152_247, q_152_249, q_152_250, q_152_251r, q_152_251n, q_152_252, q_152_255, q_152_257, q_152_259, q_152_260, q_152_261, q_152_262, q_152_264r, q_152_264n, q_152_265, q_152_268, q_152_269, q_152_271, q_152_272, q_152_273r, q_152_273n, q_152_274, q_152_277, q_152_279, q_152_281, q_152_282, q_152_283, q_152_284, q_152_286r, q_152_286n, q_152_287, q_152_290, q_152_291, q_152_293, q_152_294, q_152_295r, q_152_295n, q_152_296, q_152_299, q_152_301, q_152_303, q_152_304, q_152_305, q_152_306, q_152_308r, q_152_308n, q_152_309, q_152_312, q_152_313, q_152_315, q_152_316, q_152_318, q_152_320, q_152_323, q_152_325, q_152_327, q_152_330, q_152_333, q_152_336, q_152_339, q_152_340r, q_152_340n, q_152_341, q_152_344, q_152_345, q_152_347, q_152_348, q_152_350, q_152_352, q_152_355, q_152_357, q_152_359, q_152_362, q_152_365, q_152_368, q_152_371, q_152_372, vf_s, vf_n, zk2_none, zk2_int, zk2_ref, zk2_null, zk2_long, zct_nil, zct_i, zct_l, zct_r, zct_n, Option.bind_some, Option.toList_some, Option.toList_none, List.cons_append, List.nil_append, zor_l, zor_r, if_true, if_false, ↓reduceIte, zi_lit, zi_of, zi_add, zi_mul, zi_sub, zi_nat, zi_leT, zi_leF, zi_ltT, zi_ltF, zi_eqT, zi_eqF, zif_0z, zif_bz, zi_01l, zi_01r, not_true_eq_false, not_false_eq_true, Nat.reduceAdd, Nat.reduceMul, Nat.reduceSub, zg_s, zg_o, zg_j, zg_r, zg_ro, zg_d, yfl_o, yfo_o, yfo_out, rf_148_10, m_147, m_148, m_150, m_151, zfd256, zr8_d, c2]
      exact Eq.refl _) 12 0 rfl none
    rw [yfo_0] at this
    exact this
  · unfold fMul
    refine rf_of ?_ (fun k hk => ?_) ?_ ?_ ?_
    · simp (disch := omega) only [zg_s, zg_o, zg_j, zg_r, zg_ro, zg_d, yfl_o, rf_0]
    · simp (disch := omega) only [zg_s, zg_o, zg_j, zg_r, zg_ro, zg_d, yfl_o, rf_0, yfo_in, rf_c]
    · simp (disch := omega) only [zg_s, zg_o, zg_j, zg_r, zg_ro, zg_d, yfl_o, rf_0, rf_13]
      rw [fsum_end]
      refine congrArg (HAdd.hAdd _) (fsum_ext 12 fun j hj => ?_)
      rw [rf_c hj, rf_c hj]
    · simp (disch := omega) only [zg_s, zg_o, zg_j, zg_r, zg_ro, zg_d, yfl_o, rf_14, rf_15]
    · simp (disch := omega) only [zg_s, zg_o, zg_j, zg_r, zg_ro, zg_d, yfl_o, rf_14, rf_15]
  · simp (disch := omega) only [zg_s, zg_o, zg_j, zg_r, zg_ro, zg_d, yfl_o, yfo_out]
    exact x2
  · exact ((FrR.fo (by omega)).tr (FrR.up (by omega))).tr (((FrR.up (by omega)).tr (FrR.up (by omega))).tr (FrR.up (by omega)))
theorem l_153 (hx : x < 100)
    (hZ : ∀ l10, zRun 153 126 [some (.ref 148), some (.int (zi x)), some (.int (zi (17 * x))), some (.long u), none, some (.long v), none, some (.long (fsum (fun k => zr8 (2 * u * mj 155 (17 * x + 1 + k))) r0 12)), none, some (.int (zi 12)), l10, none, none, none, none, none] [] (SH Ls) mi (yfo mj 155 (17 * x + 1) 12 fun k => zs8 (2 * u * mj 155 (17 * x + 1 + k))) (RF g) = Z)
    (n : Nat) : ∀ k, k + n = 12 → ∀ l10, zRun 153 54 [some (.ref 148), some (.int (zi x)), some (.int (zi (17 * x))), some (.long u), none, some (.long v), none, some (.long (fsum (fun k => zr8 (2 * u * mj 155 (17 * x + 1 + k))) r0 k)), none, some (.int (zi k)), l10, none, none, none, none, none] [] (SH Ls) mi (yfo mj 155 (17 * x + 1) k fun k => zs8 (2 * u * mj 155 (17 * x + 1 + k))) (RF g) = Z := by
  induction n with
  | zero =>
    intro k hk l10
    obtain rfl : k = 12 := by omega
    rw [q_153_54]
    simp (disch := (first | ((with_reducible refine zct_le ?_) <;> exact Nat.le_of_ble_eq_true rfl) | with_reducible exact zh_0 | with_reducible exact zh_1 | with_reducible exact zh_b | omega)) only [q_153_56, q_153_58, vf_s, vf_n, zk2_none, zk2_int, zk2_ref, zk2_null, zk2_long, zct_nil, zct_i, zct_l, zct_r, zct_n, Option.bind_some, Option.toList_some, Option.toList_none, List.cons_append, List.nil_append, zor_l, zor_r, if_true, if_false, ↓reduceIte, zi_lit, zi_of, zi_add, zi_mul, zi_sub, zi_nat, zi_leT, zi_leF, zi_ltT, zi_ltF, zi_eqT, zi_eqF, zif_0z, zif_bz, zi_01l, zi_01r, not_true_eq_false, not_false_eq_true, Nat.reduceAdd, Nat.reduceMul, Nat.reduceSub]
    exact hZ l10
  | succ n ih =>
    intro k hk l10
    rw [q_153_54]
    simp (disch := (first | with_reducible exact is_148 | with_reducible exact zi_at is_148 (by omega) (by omega) | with_reducible exact is_155 | with_reducible exact zi_at is_155 (by omega) (by omega) | with_reducible exact k256_ne | with_reducible exact zi_at k256_ne (by omega) (by omega) | ((with_reducible refine zct_le ?_) <;> exact Nat.le_of_ble_eq_true rfl) | with_reducible exact zh_0 | with_reducible exact zh_1 | with_reducible exact zh_b | omega)) only [q_153_56, q_153_58, q_153_61, q_153_64, q_153_65, q_153_66r, q_153_66n, q_153_67, q_153_70, q_153_71, q_153_72, q_153_73, q_153_75, q_153_76, q_153_77, q_153_78, q_153_80, q_153_82, q_153_84, q_153_87, q_153_88, q_153_89, q_153_90, q_153_93, q_153_94, q_153_97, vf_s, vf_n, zk2_none, zk2_int, zk2_ref, zk2_null, zk2_long, zct_nil, zct_i, zct_l, zct_r, zct_n, Option.bind_some, Option.toList_some, Option.toList_none, List.cons_append, List.nil_append, zor_l, zor_r, if_true, if_false, ↓reduceIte, zi_lit, zi_of, zi_add, zi_mul, zi_sub, zi_nat, zi_leT, zi_leF, zi_ltT, zi_ltF, zi_eqT, zi_eqF, zif_0z, zif_bz, zi_01l, zi_01r, not_true_eq_false, not_false_eq_true, Nat.reduceAdd, Nat.reduceMul, Nat.reduceSub, rf_148_10, yfo_out, zr8_rem]
    rw [mg_J]
    simp (disch := (first | with_reducible exact is_148 | with_reducible exact zi_at is_148 (by omega) (by omega) | with_reducible exact is_155 | with_reducible exact zi_at is_155 (by omega) (by omega) | with_reducible exact k256_ne | with_reducible exact zi_at k256_ne (by omega) (by omega) | ((with_reducible refine zct_le ?_) <;> exact Nat.le_of_ble_eq_true rfl) | with_reducible exact zh_0 | with_reducible exact zh_1 | with_reducible exact zh_b | omega)) only [q_153_98, q_153_99, q_153_101r, q_153_101n, q_153_102, q_153_105, q_153_106, q_153_107, q_153_108, q_153_110, q_153_111, q_153_113, q_153_116, q_153_119, q_153_120, q_153_123, vf_s, vf_n, zk2_none, zk2_int, zk2_ref, zk2_null, zk2_long, zct_nil, zct_i, zct_l, zct_r, zct_n, Option.bind_some, Option.toList_some, Option.toList_none, List.cons_append, List.nil_append, zor_l, zor_r, if_true, if_false, ↓reduceIte, zi_lit, zi_of, zi_add, zi_mul, zi_sub, zi_nat, zi_leT, zi_leF, zi_ltT, zi_ltF, zi_eqT, zi_eqF, zif_0z, zif_bz, zi_01l, zi_01r, not_true_eq_false, not_false_eq_true, Nat.reduceAdd, Nat.reduceMul, Nat.reduceSub, rf_148_10, m_147, zfd256, zr8_d]
    rw [yfo_s rfl]
    exact ih (k + 1) (by omega) _
theorem sqB1 {x : FF} (hx : fBd x) : (4 * zabs (x 0) * x 13 + frad x 12 * frad x 12).toInt ≤ 9000000000000000000 := by
  obtain ⟨x1, x2, x3, x4⟩ := hx
  have a := zabs_B (x1 0 (by omega)).1 (x1 0 (by omega)).2
  have h13 := (x1 13 (by omega)).2
  have k4 : (4 : Int64).toInt = 4 := by decide
  have e4 : (4 * zabs (x 0)).toInt = 4 * (zabs (x 0)).toInt := by rw [zj_mul (by rw [k4]; omega) (by rw [k4]; omega), k4]
  have pb : 0 ≤ (zabs (x 0)).toInt * (x 13).toInt ∧ (zabs (x 0)).toInt * (x 13).toInt ≤ 1000000000000000000 := ⟨Int.mul_nonneg a.1 x2, (mul_bd (by omega) (by omega) (by omega) (by omega)).2⟩
  have e5 : (4 * zabs (x 0) * x 13).toInt = 4 * ((zabs (x 0)).toInt * (x 13).toInt) := by
    rw [zj_mul (by rw [e4, Int.mul_assoc]; omega) (by rw [e4, Int.mul_assoc]; omega), e4, Int.mul_assoc]
  have p3 := zj_mulB (u := frad x 12) (v := frad x 12) (by omega) (by omega) (by omega) (by omega)
  rw [zj_add (by omega) (by omega)]
  omega
theorem sqB2 {x : FF} (hx : fBd x) : (zmax (x 14 * x 14) (x 15 * x 15)).toInt ≤ 9000000000000000000 := by
  obtain ⟨x1, -⟩ := hx
  have a := x1 14 (by omega)
  have b := x1 15 (by omega)
  have p1 := zj_mulB a.1 a.2 a.1 a.2
  have p4 := zj_mulB b.1 b.2 b.1 b.2
  exact zmax_le (by omega) (by omega)
theorem m_153 (hx : x < 100) (hX : mOk mj x X) (bX : fBd X) : ∃ mj', zCall 153 [.ref 148, .int (zi x)] (SH Ls) mi mj (RF g) = some (none, SH Ls, mi, mj', RF g) ∧ mOk mj' x (fSq X (frad X 12)) ∧ FrR x mj mj' := by
  obtain ⟨rfl, x2⟩ := hX
  have b1 := sqB1 bX
  have b2 := sqB2 bX
  simp only [rf_0, rf_13] at b1
  simp only [rf_14, rf_15] at b2
  have c1 := zcd512 b1
  have c2 := zcd256 b2
  refine ⟨zup (zup (zup (zup (yfo mj 155 (17 * x + 1) 12 fun k => zs8 (2 * mj 155 (17 * x) * mj 155 (17 * x + 1 + k))) 155 (17 * x) (zs9 (2 * mj 155 (17 * x) * mj 155 (17 * x) + frad (rf mj x) 12 * frad (rf mj x) 12))) 155 (17 * x + 13) (fsum (fun k => zr8 (2 * mj 155 (17 * x) * mj 155 (17 * x + 1 + k))) (zu9 (4 * zabs (mj 155 (17 * x)) * mj 155 (17 * x + 13) + frad (rf mj x) 12 * frad (rf mj x) 12)) 12 + zr9 (2 * mj 155 (17 * x) * mj 155 (17 * x) + frad (rf mj x) 12 * frad (rf mj x) 12))) 155 (17 * x + 14) (if 0 < mj 155 (17 * x + 14) then zs8 (zmin (mj 155 (17 * x + 14) * mj 155 (17 * x + 14)) (mj 155 (17 * x + 15) * mj 155 (17 * x + 15))) else if mj 155 (17 * x + 15) < 0 then zs8 (zmin (mj 155 (17 * x + 14) * mj 155 (17 * x + 14)) (mj 155 (17 * x + 15) * mj 155 (17 * x + 15))) else 0)) 155 (17 * x + 15) (zu8 (zmax (mj 155 (17 * x + 14) * mj 155 (17 * x + 14)) (mj 155 (17 * x + 15) * mj 155 (17 * x + 15)))), ?_, ⟨?_, ?_⟩, ?_⟩
  · simp (disch := (first | with_reducible exact is_148 | with_reducible exact zi_at is_148 (by omega) (by omega) | with_reducible exact is_155 | with_reducible exact zi_at is_155 (by omega) (by omega) | with_reducible exact k512_ne | with_reducible exact zi_at k512_ne (by omega) (by omega) | ((with_reducible refine zct_le ?_) <;> exact Nat.le_of_ble_eq_true rfl) | with_reducible exact zh_0 | with_reducible exact zh_1 | with_reducible exact zh_b | omega)) only [e_153, q_153_0, q_153_2, q_153_3, q_153_4, q_153_5r, q_153_5n, q_153_6, q_153_9, q_153_10, q_153_11, q_153_12r, q_153_12n, q_153_13, q_153_14, q_153_17, q_153_19, q_153_22, q_153_23, q_153_26, q_153_27r, q_153_27n, q_153_28, q_153_31, q_153_32, q_153_34, q_153_35, q_153_36, q_153_37, q_153_39, q_153_41, q_153_42, q_153_43, q_153_46, q_153_49, q_153_51, q_153_52, vf_s, vf_n, zk2_none, zk2_int, zk2_ref, zk2_null, zk2_long, zct_nil, zct_i, zct_l, zct_r, zct_n, Option.bind_some, Option.toList_some, Option.toList_none, List.cons_append, List.nil_append, zor_l, zor_r, if_true, if_false, ↓reduceIte, zi_lit, zi_of, zi_add, zi_mul, zi_sub, zi_nat, zi_leT, zi_leF, zi_ltT, zi_ltF, zi_eqT, zi_eqF, zif_0z, zif_bz, zi_01l, zi_01r, not_true_eq_false, not_false_eq_true, Nat.reduceAdd, Nat.reduceMul, Nat.reduceSub, rf_148_10, m_137, m_138 hx, m_148, c1]
    refine Eq.trans ?_ (l_153 (Ls := Ls) (g := g) (mi := mi) (mj := mj) (u := mj 155 (17 * x)) (v := frad (rf mj x) 12) (r0 := zu9 (4 * zabs (mj 155 (17 * x)) * mj 155 (17 * x + 13) + frad (rf mj x) 12 * frad (rf mj x) 12)) hx ?_ 12 0 rfl none)
    · rw [yfo_0]
      rfl
    · intro l10
      simp (disch := (first | with_reducible exact is_148 | with_reducible exact zi_at is_148 (by omega) (by omega) | with_reducible exact is_155 | with_reducible exact zi_at is_155 (by omega) (by omega) | with_reducible exact k512_ne | with_reducible exact zi_at k512_ne (by omega) (by omega) | ((with_reducible refine zct_le ?_) <;> exact Nat.le_of_ble_eq_true rfl) | with_reducible exact zh_0 | with_reducible exact zh_1 | with_reducible exact zh_b | omega)) only [q_153_126, q_153_129, q_153_130, q_153_131, q_153_132, q_153_133, q_153_135, q_153_137, q_153_138, q_153_139, q_153_141, q_153_143, q_153_145, q_153_148, q_153_149, q_153_150, q_153_151, q_153_154, q_153_155, q_153_158, vf_s, vf_n, zk2_none, zk2_int, zk2_ref, zk2_null, zk2_long, zct_nil, zct_i, zct_l, zct_r, zct_n, Option.bind_some, Option.toList_some, Option.toList_none, List.cons_append, List.nil_append, zor_l, zor_r, if_true, if_false, ↓reduceIte, zi_lit, zi_of, zi_add, zi_mul, zi_sub, zi_nat, zi_leT, zi_leF, zi_ltT, zi_ltF, zi_eqT, zi_eqF, zif_0z, zif_bz, zi_01l, zi_01r, not_true_eq_false, not_false_eq_true, Nat.reduceAdd, Nat.reduceMul, Nat.reduceSub, zr9_rem]
      rw [mg_J]
      by_cases h1 : 0 < mj 155 (17 * x + 14)
      · simp (disch := (first | with_reducible exact is_148 | with_reducible exact zi_at is_148 (by omega) (by omega) | with_reducible exact is_155 | with_reducible exact zi_at is_155 (by omega) (by omega) | with_reducible exact k256_ne | with_reducible exact zi_at k256_ne (by omega) (by omega) | with_reducible exact k512_ne | with_reducible exact zi_at k512_ne (by omega) (by omega) | ((with_reducible refine zct_le ?_) <;> exact Nat.le_of_ble_eq_true rfl) | with_reducible exact zh_0 | with_reducible exact zh_1 | with_reducible exact zh_b | omega)) only [q_153_159, q_153_160, q_153_162r, q_153_162n, q_153_163, q_153_166, q_153_167, q_153_169, q_153_172, q_153_175, q_153_176r, q_153_176n, q_153_177, q_153_180, q_153_181, q_153_183, q_153_184, q_153_186, q_153_187r, q_153_187n, q_153_188, q_153_191, q_153_192, q_153_194, q_153_195, q_153_196r, q_153_196n, q_153_197, q_153_200, q_153_201, q_153_203, q_153_204, q_153_205, q_153_206, q_153_208r, q_153_208n, q_153_209, q_153_212, q_153_213, q_153_215, q_153_216, q_153_217r, q_153_217n, q_153_218, q_153_221, q_153_222, q_153_224, q_153_225, q_153_226, q_153_227, q_153_229r, q_153_229n, q_153_230, q_153_233, q_153_234, q_153_236, q_153_237, q_153_238, q_153_239, q_153_240, q_153_243r, q_153_243n, q_153_244, q_153_247, q_153_248, q_153_250, q_153_251, q_153_252, q_153_253, q_153_254, q_153_257, q_153_258, q_153_261, q_153_262, q_153_264r, q_153_264n, q_153_265, q_153_268, q_153_269, q_153_271, q_153_272, q_153_274, q_153_277, q_153_278, q_153_281, q_153_283, q_153_285, q_153_288, q_153_291, q_153_294, q_153_295r, q_153_295n, q_153_296, q_153_299, q_153_300, q_153_302, q_153_303, q_153_305, q_153_307, q_153_310, q_153_313, q_153_316, q_153_317, vf_s, vf_n, zk2_none, zk2_int, zk2_ref, zk2_null, zk2_long, zct_nil, zct_i, zct_l, zct_r, zct_n, Option.bind_some, Option.toList_some, Option.toList_none, List.cons_append, List.nil_append, zor_l, zor_r, if_true, if_false, ↓reduceIte, zi_lit, zi_of, zi_add, zi_mul, zi_sub, zi_nat, zi_leT, zi_leF, zi_ltT, zi_ltF, zi_eqT, zi_eqF, zif_0z, zif_bz, zi_01l, zi_01r, not_true_eq_false, not_false_eq_true, Nat.reduceAdd, Nat.reduceMul, Nat.reduceSub, zg_s, zg_o, zg_j, zg_r, zg_ro, zg_d, yfl_o, yfo_out, rf_148_10, m_147, m_148, m_150, m_151, zfd256, zfd512, zr9_d, c2, h1]
      · by_cases h2 : mj 155 (17 * x + 15) < 0
        · simp (disch := (first | with_reducible exact is_148 | with_reducible exact zi_at is_148 (by omega) (by omega) | with_reducible exact is_155 | with_reducible exact zi_at is_155 (by omega) (by omega) | with_reducible exact k256_ne | with_reducible exact zi_at k256_ne (by omega) (by omega) | with_reducible exact k512_ne | with_reducible exact zi_at k512_ne (by omega) (by omega) | ((with_reducible refine zct_le ?_) <;> exact Nat.le_of_ble_eq_true rfl) | with_reducible exact zh_0 | with_reducible exact zh_1 | with_reducible exact zh_b | omega)) only [q_153_159, q_153_160, q_153_162r, q_153_162n, q_153_163, q_153_166, q_153_167, q_153_169, q_153_172, q_153_175, q_153_176r, q_153_176n, q_153_177, q_153_180, q_153_181, q_153_183, q_153_184, q_153_186, q_153_187r, q_153_187n, q_153_188, q_153_191, q_153_192, q_153_194, q_153_195, q_153_196r, q_153_196n, q_153_197, q_153_200, q_153_201, q_153_203, q_153_204, q_153_205, q_153_206, q_153_208r, q_153_208n, q_153_209, q_153_212, q_153_213, q_153_215, q_153_216, q_153_217r, q_153_217n, q_153_218, q_153_221, q_153_222, q_153_224, q_153_225, q_153_226, q_153_227, q_153_229r, q_153_229n, q_153_230, q_153_233, q_153_234, q_153_236, q_153_237, q_153_238, q_153_239, q_153_240, q_153_243r, q_153_243n, q_153_244, q_153_247, q_153_248, q_153_250, q_153_251, q_153_252, q_153_253, q_153_254, q_153_257, q_153_258, q_153_261, q_153_262, q_153_264r, q_153_264n, q_153_265, q_153_268, q_153_269, q_153_271, q_153_272, q_153_274, q_153_277, q_153_278, q_153_281, q_153_283, q_153_285, q_153_288, q_153_291, q_153_294, q_153_295r, q_153_295n, q_153_296, q_153_299, q_153_300, q_153_302, q_153_303, q_153_305, q_153_307, q_153_310, q_153_313, q_153_316, q_153_317, vf_s, vf_n, zk2_none, zk2_int, zk2_ref, zk2_null, zk2_long, zct_nil, zct_i, zct_l, zct_r, zct_n, Option.bind_some, Option.toList_some, Option.toList_none, List.cons_append, List.nil_append, zor_l, zor_r, if_true, if_false, ↓reduceIte, zi_lit, zi_of, zi_add, zi_mul, zi_sub, zi_nat, zi_leT, zi_leF, zi_ltT, zi_ltF, zi_eqT, zi_eqF, zif_0z, zif_bz, zi_01l, zi_01r, not_true_eq_false, not_false_eq_true, Nat.reduceAdd, Nat.reduceMul, Nat.reduceSub, zg_s, zg_o, zg_j, zg_r, zg_ro, zg_d, yfl_o, yfo_out, rf_148_10, m_147, m_148, m_150, m_151, zfd256, zfd512, zr9_d, c2, h1, h2]
        · simp (disch := (first | with_reducible exact is_148 | with_reducible exact zi_at is_148 (by omega) (by omega) | with_reducible exact is_155 | with_reducible exact zi_at is_155 (by omega) (by omega) | with_reducible exact k256_ne | with_reducible exact zi_at k256_ne (by omega) (by omega) | with_reducible exact k512_ne | with_reducible exact zi_at k512_ne (by omega) (by omega) | ((with_reducible refine zct_le ?_) <;> exact Nat.le_of_ble_eq_true rfl) | with_reducible exact zh_0 | with_reducible exact zh_1 | with_reducible exact zh_b | omega)) only [q_153_159, q_153_160, q_153_162r, q_153_162n, q_153_163, q_153_166, q_153_167, q_153_169, q_153_172, q_153_175, q_153_176r, q_153_176n, q_153_177, q_153_180, q_153_181, q_153_183, q_153_184, q_153_186, q_153_187r, q_153_187n, q_153_188, q_153_191, q_153_192, q_153_194, q_153_195, q_153_196r, q_153_196n, q_153_197, q_153_200, q_153_201, q_153_203, q_153_204, q_153_205, q_153_206, q_153_208r, q_153_208n, q_153_209, q_153_212, q_153_213, q_153_215, q_153_216, q_153_217r, q_153_217n, q_153_218, q_153_221, q_153_222, q_153_224, q_153_225, q_153_226, q_153_227, q_153_229r, q_153_229n, q_153_230, q_153_233, q_153_234, q_153_236, q_153_237, q_153_238, q_153_239, q_153_240, q_153_243r, q_153_243n, q_153_244, q_153_247, q_153_248, q_153_250, q_153_251, q_153_252, q_153_253, q_153_254, q_153_257, q_153_258, q_153_261, q_153_262, q_153_264r, q_153_264n, q_153_265, q_153_268, q_153_269, q_153_271, q_153_272, q_153_274, q_153_277, q_153_278, q_153_281, q_153_283, q_153_285, q_153_288, q_153_291, q_153_294, q_153_295r, q_153_295n, q_153_296, q_153_299, q_153_300, q_153_302, q_153_303, q_153_305, q_153_307, q_153_310, q_153_313, q_153_316, q_153_317, vf_s, vf_n, zk2_none, zk2_int, zk2_ref, zk2_null, zk2_long, zct_nil, zct_i, zct_l, zct_r, zct_n, Option.bind_some, Option.toList_some, Option.toList_none, List.cons_append, List.nil_append, zor_l, zor_r, if_true, if_false, ↓reduceIte, zi_lit, zi_of, zi_add, zi_mul, zi_sub, zi_nat, zi_leT, zi_leF, zi_ltT, zi_ltF, zi_eqT, zi_eqF, zif_0z, zif_bz, zi_01l, zi_01r, not_true_eq_false, not_false_eq_true, Nat.reduceAdd, Nat.reduceMul, Nat.reduceSub, zg_s, zg_o, zg_j, zg_r, zg_ro, zg_d, yfl_o, yfo_out, rf_148_10, m_147, m_148, m_150, m_151, zfd256, zfd512, zr9_d, c2, h1, h2]
  · unfold fSq
    refine rf_of ?_ (fun k hk => ?_) ?_ ?_ ?_
    · simp (disch := omega) only [zg_s, zg_o, zg_j, zg_r, zg_ro, zg_d, yfl_o, rf_0]
    · simp (disch := omega) only [zg_s, zg_o, zg_j, zg_r, zg_ro, zg_d, yfl_o, rf_0, yfo_in, rf_c]
    · simp (disch := omega) only [zg_s, zg_o, zg_j, zg_r, zg_ro, zg_d, yfl_o, rf_0, rf_13]
      rw [fsum_end]
      refine congrArg (HAdd.hAdd _) (fsum_ext 12 fun j hj => ?_)
      rw [rf_c hj]
    · simp (disch := omega) only [zg_s, zg_o, zg_j, zg_r, zg_ro, zg_d, yfl_o, rf_14, rf_15]
      rfl
    · simp (disch := omega) only [zg_s, zg_o, zg_j, zg_r, zg_ro, zg_d, yfl_o, rf_14, rf_15]
  · simp (disch := omega) only [zg_s, zg_o, zg_j, zg_r, zg_ro, zg_d, yfl_o, yfo_out]
    exact x2
  · exact ((FrR.fo (by omega)).tr (FrR.up (by omega))).tr (((FrR.up (by omega)).tr (FrR.up (by omega))).tr (FrR.up (by omega)))
/-! roots -/
def isRt (v r : Int) : Prop := 0 ≤ r ∧ r * r ≤ v ∧ v < (r + 1) * (r + 1)
theorem sq_le {a b : Int} (h0 : 0 ≤ a) (h : a ≤ b) : a * a ≤ b * b := Int.mul_le_mul h h h0 (by omega)
theorem isRt_uniq {v r s : Int} (h1 : isRt v r) (h2 : isRt v s) : r = s := by
  obtain ⟨a1, a2, a3⟩ := h1
  obtain ⟨b1, b2, b3⟩ := h2
  rcases Int.lt_trichotomy r s with h | h | h
  · have := sq_le (a := r + 1) (b := s) (by omega) (by omega)
    omega
  · exact h
  · have := sq_le (a := s + 1) (b := r) (by omega) (by omega)
    omega
theorem zsl_i : ∀ n, n < 20 → (zsl n).toInt = ((2 ^ n : Nat) : Int) := by decide +kernel
theorem rtd_is {u : Int64} (hu : 0 ≤ u.toInt) (n : Nat) : n ≤ 20 → ∀ r : Int64, 0 ≤ r.toInt → r.toInt + ((2 ^ n : Nat) : Int) ≤ 1048576 → r.toInt * r.toInt ≤ u.toInt → u.toInt < (r.toInt + ((2 ^ n : Nat) : Int)) * (r.toInt + ((2 ^ n : Nat) : Int)) → isRt u.toInt (rtd u n r).toInt := by
  induction n with
  | zero =>
    intro _ r h0 h1 h2 h3
    exact ⟨h0, h2, h3⟩
  | succ n ih =>
    intro hn r h0 h1 h2 h3
    have hp : (2 ^ (n + 1) : Nat) = 2 ^ n + 2 ^ n := by rw [Nat.pow_succ]; omega
    rw [hp] at h1 h3
    have hz := zsl_i n (by omega)
    clear hp
    generalize 2 ^ n = p at hz h1 h3 ih
    have e1 : (r + zsl n).toInt = r.toInt + (p : Int) := by
      rw [zj_add (by rw [hz]; omega) (by rw [hz]; omega), hz]
    have hsq := sq_le (a := r.toInt + (p : Int)) (b := 1048576) (by omega) (by omega)
    have hs0 : 0 ≤ (r.toInt + (p : Int)) * (r.toInt + (p : Int)) := Int.mul_nonneg (by omega) (by omega)
    have e2 : ((r + zsl n) * (r + zsl n)).toInt = (r.toInt + (p : Int)) * (r.toInt + (p : Int)) := by
      rw [zj_mul (by rw [e1]; omega) (by rw [e1]; omega), e1]
    rw [rtd]
    by_cases c : u < (r + zsl n) * (r + zsl n)
    · rw [if_pos c]
      rw [zj_lt, e2] at c
      exact ih (by omega) r h0 (by omega) h2 c
    · rw [if_neg c]
      rw [zj_lt, e2] at c
      refine ih (by omega) _ (by omega) (by omega) (by rw [e1]; omega) ?_
      rw [e1, show r.toInt + (p : Int) + (p : Int) = r.toInt + ((p + p : Nat) : Int) by omega]
      exact h3
theorem rtd_v {u : Int64} (h0 : 0 ≤ u.toInt) (h1 : u.toInt ≤ 256000000000) : isRt u.toInt (rtd u 20 0).toInt := by
  refine rtd_is h0 20 (Nat.le_refl _) 0 (by decide) (by decide) ?_ ?_
  · rw [kj0]; omega
  · rw [kj0]
    have : ((2 ^ 20 : Nat) : Int) = 1048576 := by decide
    rw [this]
    omega
theorem kj2 : (2 : Int64).toInt = 2 := by decide
theorem kj1m : (1000000 : Int64).toInt = 1000000 := by decide
theorem l_154 (h0 : 0 ≤ u.toInt) (h1 : u.toInt ≤ 256000000000) (n : Nat) : ∀ v w : Int64, ∀ l6, w.toInt - v.toInt ≤ n → 0 ≤ v.toInt → v.toInt ≤ w.toInt → w.toInt ≤ 1000000 → v.toInt * v.toInt ≤ u.toInt → u.toInt < (w.toInt + 1) * (w.toInt + 1) → zRun 154 7 [some (.long u), none, some (.long v), none, some (.long w), none, l6, none] [] (SH Ls) mi mj (RF g) = some (some (.long (rtd u 20 0)), SH Ls, mi, mj, RF g) := by
  induction n with
  | zero =>
    intro v w l6 a1 a2 a3 a4 a5 a6
    have e : v.toInt = w.toInt := by omega
    have ev : v = rtd u 20 0 := zj_inj (isRt_uniq ⟨a2, a5, by rw [e]; exact a6⟩ (rtd_v h0 h1))
    have c : w ≤ v := by rw [zj_le]; omega
    rw [q_154_7]
    simp (disch := (first | ((with_reducible refine zct_le ?_) <;> exact Nat.le_of_ble_eq_true rfl) | with_reducible exact zh_0 | with_reducible exact zh_1 | with_reducible exact zh_b | omega)) only [q_154_8, q_154_10, q_154_11, q_154_14, q_154_15, q_154_17, q_154_18, q_154_19, q_154_20, q_154_23, q_154_24, q_154_26, q_154_28, q_154_30, q_154_31, q_154_32, q_154_33, q_154_36, q_154_38, q_154_39, q_154_42, q_154_44, q_154_45, q_154_46, q_154_48, q_154_51, q_154_52, vf_s, vf_n, zk2_none, zk2_int, zk2_ref, zk2_null, zk2_long, zct_nil, zct_i, zct_l, zct_r, zct_n, Option.bind_some, Option.toList_some, Option.toList_none, List.cons_append, List.nil_append, zor_l, zor_r, if_true, if_false, ↓reduceIte, zi_lit, zi_of, zi_add, zi_mul, zi_sub, zi_nat, zi_leT, zi_leF, zi_ltT, zi_ltF, zi_eqT, zi_eqF, zif_0z, zif_bz, zi_01l, zi_01r, not_true_eq_false, not_false_eq_true, Nat.reduceAdd, Nat.reduceMul, Nat.reduceSub, c]
    rw [← ev]
  | succ n ih =>
    intro v w l6 a1 a2 a3 a4 a5 a6
    by_cases c : w ≤ v
    · have e : v.toInt = w.toInt := by rw [zj_le] at c; omega
      have ev : v = rtd u 20 0 := zj_inj (isRt_uniq ⟨a2, a5, by rw [e]; exact a6⟩ (rtd_v h0 h1))
      rw [q_154_7]
      simp (disch := (first | ((with_reducible refine zct_le ?_) <;> exact Nat.le_of_ble_eq_true rfl) | with_reducible exact zh_0 | with_reducible exact zh_1 | with_reducible exact zh_b | omega)) only [q_154_8, q_154_10, q_154_11, q_154_14, q_154_15, q_154_17, q_154_18, q_154_19, q_154_20, q_154_23, q_154_24, q_154_26, q_154_28, q_154_30, q_154_31, q_154_32, q_154_33, q_154_36, q_154_38, q_154_39, q_154_42, q_154_44, q_154_45, q_154_46, q_154_48, q_154_51, q_154_52, vf_s, vf_n, zk2_none, zk2_int, zk2_ref, zk2_null, zk2_long, zct_nil, zct_i, zct_l, zct_r, zct_n, Option.bind_some, Option.toList_some, Option.toList_none, List.cons_append, List.nil_append, zor_l, zor_r, if_true, if_false, ↓reduceIte, zi_lit, zi_of, zi_add, zi_mul, zi_sub, zi_nat, zi_leT, zi_leF, zi_ltT, zi_ltF, zi_eqT, zi_eqF, zif_0z, zif_bz, zi_01l, zi_01r, not_true_eq_false, not_false_eq_true, Nat.reduceAdd, Nat.reduceMul, Nat.reduceSub, c]
      rw [← ev]
    · have c' : v.toInt < w.toInt := by rw [zj_le] at c; omega
      have e1 : (v + w).toInt = v.toInt + w.toInt := zj_add (by omega) (by omega)
      have e2 : (v + w + 1).toInt = v.toInt + w.toInt + 1 := by rw [zj_add (by rw [e1, kj1]; omega) (by rw [e1, kj1]; omega), e1, kj1]
      have e3 : ((v + w + 1) / 2).toInt = (v.toInt + w.toInt + 1) / 2 := by rw [lg_ldiv_nonneg (by omega) (by decide), e2, kj2]
      have hs := sq_le (a := (v.toInt + w.toInt + 1) / 2) (b := 1000000) (by omega) (by omega)
      have hs0 : 0 ≤ (v.toInt + w.toInt + 1) / 2 * ((v.toInt + w.toInt + 1) / 2) := Int.mul_nonneg (by omega) (by omega)
      have e4 : ((v + w + 1) / 2 * ((v + w + 1) / 2)).toInt = (v.toInt + w.toInt + 1) / 2 * ((v.toInt + w.toInt + 1) / 2) := by rw [zj_mul (by rw [e3]; omega) (by rw [e3]; omega), e3]
      have e5 : ((v + w + 1) / 2 - 1).toInt = (v.toInt + w.toInt + 1) / 2 - 1 := by rw [zj_sub (by rw [e3, kj1]; omega) (by rw [e3, kj1]; omega), e3, kj1]
      rw [q_154_7]
      simp (disch := (first | with_reducible exact k2_ne | with_reducible exact zi_at k2_ne (by omega) (by omega) | ((with_reducible refine zct_le ?_) <;> exact Nat.le_of_ble_eq_true rfl) | with_reducible exact zh_0 | with_reducible exact zh_1 | with_reducible exact zh_b | omega)) only [q_154_8, q_154_10, q_154_11, q_154_14, q_154_15, q_154_17, q_154_18, q_154_19, q_154_20, q_154_23, q_154_24, q_154_26, q_154_28, q_154_30, q_154_31, q_154_32, q_154_33, q_154_36, q_154_38, q_154_39, q_154_42, q_154_44, q_154_45, q_154_46, q_154_48, q_154_51, q_154_52, vf_s, vf_n, zk2_none, zk2_int, zk2_ref, zk2_null, zk2_long, zct_nil, zct_i, zct_l, zct_r, zct_n, Option.bind_some, Option.toList_some, Option.toList_none, List.cons_append, List.nil_append, zor_l, zor_r, if_true, if_false, ↓reduceIte, zi_lit, zi_of, zi_add, zi_mul, zi_sub, zi_nat, zi_leT, zi_leF, zi_ltT, zi_ltF, zi_eqT, zi_eqF, zif_0z, zif_bz, zi_01l, zi_01r, not_true_eq_false, not_false_eq_true, Nat.reduceAdd, Nat.reduceMul, Nat.reduceSub, c]
      by_cases d : u < (v + w + 1) / 2 * ((v + w + 1) / 2)
      · rw [if_pos d]
        rw [zj_lt, e4] at d
        refine ih v _ _ (by omega) a2 (by omega) (by omega) a5 ?_
        rw [e5, show (v.toInt + w.toInt + 1) / 2 - 1 + 1 = (v.toInt + w.toInt + 1) / 2 by omega]
        exact d
      · rw [if_neg d]
        rw [zj_lt, e4] at d
        exact ih _ w _ (by omega) (by omega) (by omega) a4 (by rw [e3]; omega) a6
theorem m_154 (h0 : 0 ≤ u.toInt) (h1 : u.toInt ≤ 256000000000) : zCall 154 [.long u] (SH Ls) mi mj (RF g) = some (some (.long (rtd u 20 0)), SH Ls, mi, mj, RF g) := by
  simp (disch := (first | ((with_reducible refine zct_le ?_) <;> exact Nat.le_of_ble_eq_true rfl) | with_reducible exact zh_0 | with_reducible exact zh_1 | with_reducible exact zh_b | omega)) only [e_154, q_154_0, q_154_1, q_154_2, q_154_5, vf_s, vf_n, zk2_none, zk2_int, zk2_ref, zk2_null, zk2_long, zct_nil, zct_i, zct_l, zct_r, zct_n, Option.bind_some, Option.toList_some, Option.toList_none, List.cons_append, List.nil_append, zor_l, zor_r, if_true, if_false, ↓reduceIte]
  exact l_154 h0 h1 1000000 0 1000000 none (by decide) (by decide) (by decide) (by decide) (by rw [kj0]; omega) (by rw [kj1m]; omega)
end
