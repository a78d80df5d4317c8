/-! ===== the law's loop ===== -/
theorem zex_rt : ∀ (n k pc : Nat) (L : zLS) (S : List Value) (sh : zSh) (mi : zI) (mj : zJ) (mr : zR) (r : zRes), zex n k pc L S sh mi mj mr = some r → ∀ (y : MethodName) (b : ByteArray) (ml : Nat) (rt : Option FieldType) (c lv np q1 q2 : Nat), zM[k]? = some (y, b, ml, rt, c, lv, np, q1, q2) → ∃ ins S0, zretv rt ins S0 = some r.1 := by
  intro n
  induction n with
  | zero => intro k pc L S sh mi mj mr r h; simp [zex] at h
  | succ n ih =>
    intro k pc L S sh mi mj mr r h y b ml rt c lv np q1 q2 hM
    rw [zex] at h
    split at h
    · exact ih _ _ _ _ _ _ _ _ _ h _ _ _ _ _ _ _ _ _ hM
    · rename_i v hs
      cases h
      unfold zstep at hs
      rw [hM] at hs
      simp only at hs
      split at hs
      · rename_i ins len hd
        split at hs
        · unfold zins at hs
          split at hs
          · cases hs
          · split at hs
            · split at hs <;> cases hs
            · split at hs
              · cases hs
              · split at hs
                · cases hs
                · split at hs
                  · cases hs
                  · split at hs
                    · rename_i hz
                      cases hs
                      exact ⟨_, _, hz⟩
                    · split at hs <;> cases hs
        · cases hs
      · cases hs
    · obtain ⟨q, h1, h2⟩ := Option.bind_eq_some_iff.mp h
      exact ih _ _ _ _ _ _ _ _ _ h2 _ _ _ _ _ _ _ _ _ hM
    · cases h
theorem zCall_rt {k : Nat} {as : List Value} {sh sh' : zSh} {mi mi' : zI} {mj mj' : zJ} {mr mr' : zR} {v : Option Value} {y : MethodName} {b : ByteArray} {ml c lv np q1 q2 : Nat} {rt : Option FieldType} (hM : zM[k]? = some (y, b, ml, rt, c, lv, np, q1, q2)) (h : zCall k as sh mi mj mr = some (v, sh', mi', mj', mr')) : ∃ ins S0, zretv rt ins S0 = some v := by
  unfold zCall at h
  rcases zRun_spec k 0 (zent (zml k) as) [] sh mi mj mr with ⟨n, r, h1, h2⟩ | ⟨h1, h2⟩
  · rw [h] at h2
    have := Option.some.inj h2
    rw [← this] at h1
    exact zex_rt _ _ _ _ _ _ _ _ _ _ h1 _ _ _ _ _ _ _ _ _ hM
  · rw [h] at h2; cases h2
theorem zretv_i {ins : Instr} {S : List Value} {u : Int64} : ¬ zretv (some .int) ins S = some (some (.long u)) := by
  intro h
  unfold zretv at h
  split at h <;> simp_all
theorem and31 (x : Int32) : ∃ p, p < 32 ∧ x &&& zi 31 = zi p := by
  refine ⟨(x.toBitVec &&& 31#32).toNat, ?_, ?_⟩
  · have : (x.toBitVec &&& 31#32).toNat = x.toBitVec.toNat &&& 31 := BitVec.toNat_and _ _
    rw [this]
    have := Nat.and_le_right (n := x.toBitVec.toNat) (m := 31)
    omega
  · refine Int32.toBitVec_inj.mp ?_
    show x.toBitVec &&& 31#32 = BitVec.ofNat 32 _
    rw [BitVec.ofNat_toNat, BitVec.setWidth_eq]
section
variable {Ls : Nat} {g : Nat → Nat} {mi mi' : zI} {mj mj' : zJ} {i k p : Nat}
theorem sh0 : (SH Ls)[0]? = some (99, Ls) := rfl

theorem t_0 (h : INV mi mj g) (hi : i + 4 ≤ Ls) (hL : Ls ≤ 2048) (hk : mi 0 i &&& zi 31 = zi 0) : ∃ mi' mj' g', zRun 0 26 [some (.ref 0), some (.ref 1), some (.ref 148), some (.int (zi i))] [] (SH Ls) mi mj (RF g) = zRun 0 18 [some (.ref 0), some (.ref 1), some (.ref 148), some (.int (zi (i + 4)))] [] (SH Ls) mi' mj' (RF g') ∧ INV mi' mj' g' := by
  obtain ⟨v, mi1, mj1, g1, mi2, mj2, r1, r2, r3, r4, r5, r6⟩ := (c_79 (Ls := Ls) (x := mi 0 (i + 1)) (y := mi 0 (i + 2)) (z := mi 0 (i + 3)) h).m0
  refine ⟨mi2, mj2, g1, ?_, r3⟩
  rcases r4 with ⟨x, rfl⟩ | ⟨u, rfl⟩
  rotate_left
  · obtain ⟨_, _, q⟩ := zCall_rt zk_79 r1
    exact absurd q zretv_i
  · simp (disch := (first | exact sh0 | exact zi_in (by omega) (by omega) | (first | with_reducible exact is_1 | with_reducible exact zi_at is_1 (by omega) (by omega) | with_reducible exact is_148 | with_reducible exact zi_at is_148 (by omega) (by omega) | ((with_reducible refine zct_le ?_) <;> exact Nat.le_of_ble_eq_true rfl) | with_reducible exact zh_0 | with_reducible exact zh_1 | with_reducible exact zh_b | omega))) only [q_0_26r, q_0_26n, q_0_27, q_0_28 (n := Ls), q_0_29, q_0_31, q_0_32, q_0_144r, q_0_144n, q_0_145r, q_0_145n, q_0_146, q_0_147, q_0_148, q_0_149 (n := Ls), q_0_150r, q_0_150n, q_0_151, q_0_152, q_0_153, q_0_154 (n := Ls), q_0_155r, q_0_155n, q_0_156, q_0_157, q_0_158, q_0_159 (n := Ls), q_0_160, q_0_163r, q_0_163n, q_0_164r, q_0_164n, q_0_165, q_0_166, q_0_167, q_0_168 (n := Ls), q_0_169r, q_0_169n, q_0_170, q_0_171, q_0_172, q_0_173 (n := Ls), q_0_174r, q_0_174n, q_0_175, q_0_176, q_0_177, q_0_178 (n := Ls), q_0_179, q_0_182, q_0_185, q_0_186, q_0_873, q_0_876, vf_s, vf_n, zk2_none, zk2_int, zk2_ref, zk2_null, zk2_long, zct_nil, zct_i, zct_l, zct_r, zct_n, Option.bind_some, Option.toList_some, Option.toList_none, List.cons_append, List.nil_append, zor_l, zor_r, if_true, if_false, ↓reduceIte, zi_lit, zi_of, zi_add, zi_mul, zi_sub, zi_nat, zi_leT, zi_leF, zi_ltT, zi_ltF, zi_eqT, zi_eqF, zif_0z, zif_bz, zi_01l, zi_01r, not_true_eq_false, not_false_eq_true, Nat.reduceAdd, Nat.reduceMul, Nat.reduceSub, hk, r1, r2, r5]
theorem t_1 (h : INV mi mj g) (hi : i + 4 ≤ Ls) (hL : Ls ≤ 2048) (hk : mi 0 i &&& zi 31 = zi 1) : ∃ mi' mj' g', zRun 0 26 [some (.ref 0), some (.ref 1), some (.ref 148), some (.int (zi i))] [] (SH Ls) mi mj (RF g) = zRun 0 18 [some (.ref 0), some (.ref 1), some (.ref 148), some (.int (zi (i + 4)))] [] (SH Ls) mi' mj' (RF g') ∧ INV mi' mj' g' := by
  obtain ⟨v, mi1, mj1, g1, mi2, mj2, r1, r2, r3, r4, r5, r6⟩ := (c_80 (Ls := Ls) (x := mi 0 (i + 1)) (y := mi 0 (i + 2)) h).m0
  refine ⟨mi2, mj2, g1, ?_, r3⟩
  rcases r4 with ⟨x, rfl⟩ | ⟨u, rfl⟩
  rotate_left
  · obtain ⟨_, _, q⟩ := zCall_rt zk_80 r1
    exact absurd q zretv_i
  · simp (disch := (first | exact sh0 | exact zi_in (by omega) (by omega) | (first | with_reducible exact is_1 | with_reducible exact zi_at is_1 (by omega) (by omega) | with_reducible exact is_148 | with_reducible exact zi_at is_148 (by omega) (by omega) | ((with_reducible refine zct_le ?_) <;> exact Nat.le_of_ble_eq_true rfl) | with_reducible exact zh_0 | with_reducible exact zh_1 | with_reducible exact zh_b | omega))) only [q_0_26r, q_0_26n, q_0_27, q_0_28 (n := Ls), q_0_29, q_0_31, q_0_32, q_0_187r, q_0_187n, q_0_188r, q_0_188n, q_0_189, q_0_190, q_0_191, q_0_192 (n := Ls), q_0_193r, q_0_193n, q_0_194, q_0_195, q_0_196, q_0_197 (n := Ls), q_0_198, q_0_201r, q_0_201n, q_0_202r, q_0_202n, q_0_203, q_0_204, q_0_205, q_0_206 (n := Ls), q_0_207r, q_0_207n, q_0_208, q_0_209, q_0_210, q_0_211 (n := Ls), q_0_212, q_0_215, q_0_218, q_0_219, q_0_873, q_0_876, vf_s, vf_n, zk2_none, zk2_int, zk2_ref, zk2_null, zk2_long, zct_nil, zct_i, zct_l, zct_r, zct_n, Option.bind_some, Option.toList_some, Option.toList_none, List.cons_append, List.nil_append, zor_l, zor_r, if_true, if_false, ↓reduceIte, zi_lit, zi_of, zi_add, zi_mul, zi_sub, zi_nat, zi_leT, zi_leF, zi_ltT, zi_ltF, zi_eqT, zi_eqF, zif_0z, zif_bz, zi_01l, zi_01r, not_true_eq_false, not_false_eq_true, Nat.reduceAdd, Nat.reduceMul, Nat.reduceSub, hk, r1, r2, r5]
theorem t_2 (h : INV mi mj g) (hi : i + 4 ≤ Ls) (hL : Ls ≤ 2048) (hk : mi 0 i &&& zi 31 = zi 2) : ∃ mi' mj' g', zRun 0 26 [some (.ref 0), some (.ref 1), some (.ref 148), some (.int (zi i))] [] (SH Ls) mi mj (RF g) = zRun 0 18 [some (.ref 0), some (.ref 1), some (.ref 148), some (.int (zi (i + 4)))] [] (SH Ls) mi' mj' (RF g') ∧ INV mi' mj' g' := by
  obtain ⟨v, mi1, mj1, g1, mi2, mj2, r1, r2, r3, r4, r5, r6⟩ := (c_81 (Ls := Ls) (x := mi 0 (i + 1)) h).m0
  refine ⟨mi2, mj2, g1, ?_, r3⟩
  rcases r4 with ⟨x, rfl⟩ | ⟨u, rfl⟩
  rotate_left
  · obtain ⟨_, _, q⟩ := zCall_rt zk_81 r1
    exact absurd q zretv_i
  · simp (disch := (first | exact sh0 | exact zi_in (by omega) (by omega) | (first | with_reducible exact is_1 | with_reducible exact zi_at is_1 (by omega) (by omega) | with_reducible exact is_148 | with_reducible exact zi_at is_148 (by omega) (by omega) | ((with_reducible refine zct_le ?_) <;> exact Nat.le_of_ble_eq_true rfl) | with_reducible exact zh_0 | with_reducible exact zh_1 | with_reducible exact zh_b | omega))) only [q_0_26r, q_0_26n, q_0_27, q_0_28 (n := Ls), q_0_29, q_0_31, q_0_32, q_0_220r, q_0_220n, q_0_221r, q_0_221n, q_0_222, q_0_223, q_0_224, q_0_225 (n := Ls), q_0_226, q_0_229r, q_0_229n, q_0_230r, q_0_230n, q_0_231, q_0_232, q_0_233, q_0_234 (n := Ls), q_0_235, q_0_238, q_0_241, q_0_242, q_0_873, q_0_876, vf_s, vf_n, zk2_none, zk2_int, zk2_ref, zk2_null, zk2_long, zct_nil, zct_i, zct_l, zct_r, zct_n, Option.bind_some, Option.toList_some, Option.toList_none, List.cons_append, List.nil_append, zor_l, zor_r, if_true, if_false, ↓reduceIte, zi_lit, zi_of, zi_add, zi_mul, zi_sub, zi_nat, zi_leT, zi_leF, zi_ltT, zi_ltF, zi_eqT, zi_eqF, zif_0z, zif_bz, zi_01l, zi_01r, not_true_eq_false, not_false_eq_true, Nat.reduceAdd, Nat.reduceMul, Nat.reduceSub, hk, r1, r2, r5]
theorem t_3 (h : INV mi mj g) (hi : i + 4 ≤ Ls) (hL : Ls ≤ 2048) (hk : mi 0 i &&& zi 31 = zi 3) : ∃ mi' mj' g', zRun 0 26 [some (.ref 0), some (.ref 1), some (.ref 148), some (.int (zi i))] [] (SH Ls) mi mj (RF g) = zRun 0 18 [some (.ref 0), some (.ref 1), some (.ref 148), some (.int (zi (i + 4)))] [] (SH Ls) mi' mj' (RF g') ∧ INV mi' mj' g' := by
  obtain ⟨v, mi1, mj1, g1, mi2, mj2, r1, r2, r3, r4, r5, r6⟩ := (c_82 (Ls := Ls) (x := mi 0 (i + 1)) h).m0
  refine ⟨mi2, mj2, g1, ?_, r3⟩
  rcases r4 with ⟨x, rfl⟩ | ⟨u, rfl⟩
  rotate_left
  · obtain ⟨_, _, q⟩ := zCall_rt zk_82 r1
    exact absurd q zretv_i
  · simp (disch := (first | exact sh0 | exact zi_in (by omega) (by omega) | (first | with_reducible exact is_1 | with_reducible exact zi_at is_1 (by omega) (by omega) | with_reducible exact is_148 | with_reducible exact zi_at is_148 (by omega) (by omega) | ((with_reducible refine zct_le ?_) <;> exact Nat.le_of_ble_eq_true rfl) | with_reducible exact zh_0 | with_reducible exact zh_1 | with_reducible exact zh_b | omega))) only [q_0_26r, q_0_26n, q_0_27, q_0_28 (n := Ls), q_0_29, q_0_31, q_0_32, q_0_243r, q_0_243n, q_0_244r, q_0_244n, q_0_245, q_0_246, q_0_247, q_0_248 (n := Ls), q_0_249, q_0_252r, q_0_252n, q_0_253r, q_0_253n, q_0_254, q_0_255, q_0_256, q_0_257 (n := Ls), q_0_258, q_0_261, q_0_264, q_0_265, q_0_873, q_0_876, vf_s, vf_n, zk2_none, zk2_int, zk2_ref, zk2_null, zk2_long, zct_nil, zct_i, zct_l, zct_r, zct_n, Option.bind_some, Option.toList_some, Option.toList_none, List.cons_append, List.nil_append, zor_l, zor_r, if_true, if_false, ↓reduceIte, zi_lit, zi_of, zi_add, zi_mul, zi_sub, zi_nat, zi_leT, zi_leF, zi_ltT, zi_ltF, zi_eqT, zi_eqF, zif_0z, zif_bz, zi_01l, zi_01r, not_true_eq_false, not_false_eq_true, Nat.reduceAdd, Nat.reduceMul, Nat.reduceSub, hk, r1, r2, r5]
theorem t_4 (h : INV mi mj g) (hi : i + 4 ≤ Ls) (hL : Ls ≤ 2048) (hk : mi 0 i &&& zi 31 = zi 4) : ∃ mi' mj' g', zRun 0 26 [some (.ref 0), some (.ref 1), some (.ref 148), some (.int (zi i))] [] (SH Ls) mi mj (RF g) = zRun 0 18 [some (.ref 0), some (.ref 1), some (.ref 148), some (.int (zi (i + 4)))] [] (SH Ls) mi' mj' (RF g') ∧ INV mi' mj' g' := by
  obtain ⟨v, mi1, mj1, g1, mi2, mj2, r1, r2, r3, r4, r5, r6⟩ := (c_83 (Ls := Ls)  h).m0
  refine ⟨mi2, mj2, g1, ?_, r3⟩
  rcases r4 with ⟨x, rfl⟩ | ⟨u, rfl⟩
  rotate_left
  · obtain ⟨_, _, q⟩ := zCall_rt zk_83 r1
    exact absurd q zretv_i
  · simp (disch := (first | exact sh0 | exact zi_in (by omega) (by omega) | (first | with_reducible exact is_1 | with_reducible exact zi_at is_1 (by omega) (by omega) | with_reducible exact is_148 | with_reducible exact zi_at is_148 (by omega) (by omega) | ((with_reducible refine zct_le ?_) <;> exact Nat.le_of_ble_eq_true rfl) | with_reducible exact zh_0 | with_reducible exact zh_1 | with_reducible exact zh_b | omega))) only [q_0_26r, q_0_26n, q_0_27, q_0_28 (n := Ls), q_0_29, q_0_31, q_0_32, q_0_266r, q_0_266n, q_0_267, q_0_270r, q_0_270n, q_0_271, q_0_274, q_0_277, q_0_278, q_0_873, q_0_876, vf_s, vf_n, zk2_none, zk2_int, zk2_ref, zk2_null, zk2_long, zct_nil, zct_i, zct_l, zct_r, zct_n, Option.bind_some, Option.toList_some, Option.toList_none, List.cons_append, List.nil_append, zor_l, zor_r, if_true, if_false, ↓reduceIte, zi_lit, zi_of, zi_add, zi_mul, zi_sub, zi_nat, zi_leT, zi_leF, zi_ltT, zi_ltF, zi_eqT, zi_eqF, zif_0z, zif_bz, zi_01l, zi_01r, not_true_eq_false, not_false_eq_true, Nat.reduceAdd, Nat.reduceMul, Nat.reduceSub, hk, r1, r2, r5]
theorem t_5 (h : INV mi mj g) (hi : i + 4 ≤ Ls) (hL : Ls ≤ 2048) (hk : mi 0 i &&& zi 31 = zi 5) : ∃ mi' mj' g', zRun 0 26 [some (.ref 0), some (.ref 1), some (.ref 148), some (.int (zi i))] [] (SH Ls) mi mj (RF g) = zRun 0 18 [some (.ref 0), some (.ref 1), some (.ref 148), some (.int (zi (i + 4)))] [] (SH Ls) mi' mj' (RF g') ∧ INV mi' mj' g' := by
  obtain ⟨v, mi1, mj1, g1, mi2, mj2, r1, r2, r3, r4, r5, r6⟩ := (c_84 (Ls := Ls)  h).m0
  refine ⟨mi2, mj2, g1, ?_, r3⟩
  rcases r4 with ⟨x, rfl⟩ | ⟨u, rfl⟩
  rotate_left
  · obtain ⟨_, _, q⟩ := zCall_rt zk_84 r1
    exact absurd q zretv_i
  · simp (disch := (first | exact sh0 | exact zi_in (by omega) (by omega) | (first | with_reducible exact is_1 | with_reducible exact zi_at is_1 (by omega) (by omega) | with_reducible exact is_148 | with_reducible exact zi_at is_148 (by omega) (by omega) | ((with_reducible refine zct_le ?_) <;> exact Nat.le_of_ble_eq_true rfl) | with_reducible exact zh_0 | with_reducible exact zh_1 | with_reducible exact zh_b | omega))) only [q_0_26r, q_0_26n, q_0_27, q_0_28 (n := Ls), q_0_29, q_0_31, q_0_32, q_0_279r, q_0_279n, q_0_280, q_0_283r, q_0_283n, q_0_284, q_0_287, q_0_290, q_0_291, q_0_873, q_0_876, vf_s, vf_n, zk2_none, zk2_int, zk2_ref, zk2_null, zk2_long, zct_nil, zct_i, zct_l, zct_r, zct_n, Option.bind_some, Option.toList_some, Option.toList_none, List.cons_append, List.nil_append, zor_l, zor_r, if_true, if_false, ↓reduceIte, zi_lit, zi_of, zi_add, zi_mul, zi_sub, zi_nat, zi_leT, zi_leF, zi_ltT, zi_ltF, zi_eqT, zi_eqF, zif_0z, zif_bz, zi_01l, zi_01r, not_true_eq_false, not_false_eq_true, Nat.reduceAdd, Nat.reduceMul, Nat.reduceSub, hk, r1, r2, r5]
theorem t_6 (h : INV mi mj g) (hi : i + 4 ≤ Ls) (hL : Ls ≤ 2048) (hk : mi 0 i &&& zi 31 = zi 6) : ∃ mi' mj' g', zRun 0 26 [some (.ref 0), some (.ref 1), some (.ref 148), some (.int (zi i))] [] (SH Ls) mi mj (RF g) = zRun 0 18 [some (.ref 0), some (.ref 1), some (.ref 148), some (.int (zi (i + 4)))] [] (SH Ls) mi' mj' (RF g') ∧ INV mi' mj' g' := by
  obtain ⟨v, mi1, mj1, g1, mi2, mj2, r1, r2, r3, r4, r5, r6⟩ := (c_85 (Ls := Ls) (y := mi 0 (i + 1)) h).m0
  refine ⟨mi2, mj2, g1, ?_, r3⟩
  rcases r4 with ⟨x, rfl⟩ | ⟨u, rfl⟩
  rotate_left
  · obtain ⟨_, _, q⟩ := zCall_rt zk_85 r1
    exact absurd q zretv_i
  · simp (disch := (first | exact sh0 | exact zi_in (by omega) (by omega) | (first | with_reducible exact is_1 | with_reducible exact zi_at is_1 (by omega) (by omega) | with_reducible exact is_148 | with_reducible exact zi_at is_148 (by omega) (by omega) | ((with_reducible refine zct_le ?_) <;> exact Nat.le_of_ble_eq_true rfl) | with_reducible exact zh_0 | with_reducible exact zh_1 | with_reducible exact zh_b | omega))) only [q_0_26r, q_0_26n, q_0_27, q_0_28 (n := Ls), q_0_29, q_0_31, q_0_32, q_0_292r, q_0_292n, q_0_293r, q_0_293n, q_0_294, q_0_295, q_0_296, q_0_297 (n := Ls), q_0_298, q_0_301r, q_0_301n, q_0_302r, q_0_302n, q_0_303, q_0_304, q_0_305, q_0_306 (n := Ls), q_0_307, q_0_310, q_0_313, q_0_314, q_0_873, q_0_876, vf_s, vf_n, zk2_none, zk2_int, zk2_ref, zk2_null, zk2_long, zct_nil, zct_i, zct_l, zct_r, zct_n, Option.bind_some, Option.toList_some, Option.toList_none, List.cons_append, List.nil_append, zor_l, zor_r, if_true, if_false, ↓reduceIte, zi_lit, zi_of, zi_add, zi_mul, zi_sub, zi_nat, zi_leT, zi_leF, zi_ltT, zi_ltF, zi_eqT, zi_eqF, zif_0z, zif_bz, zi_01l, zi_01r, not_true_eq_false, not_false_eq_true, Nat.reduceAdd, Nat.reduceMul, Nat.reduceSub, hk, r1, r2, r5]
theorem t_7 (h : INV mi mj g) (hi : i + 4 ≤ Ls) (hL : Ls ≤ 2048) (hk : mi 0 i &&& zi 31 = zi 7) : ∃ mi' mj' g', zRun 0 26 [some (.ref 0), some (.ref 1), some (.ref 148), some (.int (zi i))] [] (SH Ls) mi mj (RF g) = zRun 0 18 [some (.ref 0), some (.ref 1), some (.ref 148), some (.int (zi (i + 4)))] [] (SH Ls) mi' mj' (RF g') ∧ INV mi' mj' g' := by
  obtain ⟨v, mi1, mj1, g1, mi2, mj2, r1, r2, r3, r4, r5, r6⟩ := (c_86 (Ls := Ls) (x := mi 0 (i + 1)) (y := mi 0 (i + 2)) (z := mi 0 (i + 3)) h).m0
  refine ⟨mi2, mj2, g1, ?_, r3⟩
  rcases r4 with ⟨x, rfl⟩ | ⟨u, rfl⟩
  rotate_left
  · obtain ⟨_, _, q⟩ := zCall_rt zk_86 r1
    exact absurd q zretv_i
  · simp (disch := (first | exact sh0 | exact zi_in (by omega) (by omega) | (first | with_reducible exact is_1 | with_reducible exact zi_at is_1 (by omega) (by omega) | with_reducible exact is_148 | with_reducible exact zi_at is_148 (by omega) (by omega) | ((with_reducible refine zct_le ?_) <;> exact Nat.le_of_ble_eq_true rfl) | with_reducible exact zh_0 | with_reducible exact zh_1 | with_reducible exact zh_b | omega))) only [q_0_26r, q_0_26n, q_0_27, q_0_28 (n := Ls), q_0_29, q_0_31, q_0_32, q_0_315r, q_0_315n, q_0_316r, q_0_316n, q_0_317, q_0_318, q_0_319, q_0_320 (n := Ls), q_0_321r, q_0_321n, q_0_322, q_0_323, q_0_324, q_0_325 (n := Ls), q_0_326r, q_0_326n, q_0_327, q_0_328, q_0_329, q_0_330 (n := Ls), q_0_331, q_0_334r, q_0_334n, q_0_335r, q_0_335n, q_0_336, q_0_337, q_0_338, q_0_339 (n := Ls), q_0_340r, q_0_340n, q_0_341, q_0_342, q_0_343, q_0_344 (n := Ls), q_0_345r, q_0_345n, q_0_346, q_0_347, q_0_348, q_0_349 (n := Ls), q_0_350, q_0_353, q_0_356, q_0_357, q_0_873, q_0_876, vf_s, vf_n, zk2_none, zk2_int, zk2_ref, zk2_null, zk2_long, zct_nil, zct_i, zct_l, zct_r, zct_n, Option.bind_some, Option.toList_some, Option.toList_none, List.cons_append, List.nil_append, zor_l, zor_r, if_true, if_false, ↓reduceIte, zi_lit, zi_of, zi_add, zi_mul, zi_sub, zi_nat, zi_leT, zi_leF, zi_ltT, zi_ltF, zi_eqT, zi_eqF, zif_0z, zif_bz, zi_01l, zi_01r, not_true_eq_false, not_false_eq_true, Nat.reduceAdd, Nat.reduceMul, Nat.reduceSub, hk, r1, r2, r5]
theorem t_8 (h : INV mi mj g) (hi : i + 4 ≤ Ls) (hL : Ls ≤ 2048) (hk : mi 0 i &&& zi 31 = zi 8) : ∃ mi' mj' g', zRun 0 26 [some (.ref 0), some (.ref 1), some (.ref 148), some (.int (zi i))] [] (SH Ls) mi mj (RF g) = zRun 0 18 [some (.ref 0), some (.ref 1), some (.ref 148), some (.int (zi (i + 4)))] [] (SH Ls) mi' mj' (RF g') ∧ INV mi' mj' g' := by
  obtain ⟨v, mi1, mj1, g1, mi2, mj2, r1, r2, r3, r4, r5, r6⟩ := (c_87 (Ls := Ls) (x := mi 0 (i + 1)) h).m0
  refine ⟨mi2, mj2, g1, ?_, r3⟩
  rcases r4 with ⟨x, rfl⟩ | ⟨u, rfl⟩
  rotate_left
  · obtain ⟨_, _, q⟩ := zCall_rt zk_87 r1
    exact absurd q zretv_i
  · simp (disch := (first | exact sh0 | exact zi_in (by omega) (by omega) | (first | with_reducible exact is_1 | with_reducible exact zi_at is_1 (by omega) (by omega) | with_reducible exact is_148 | with_reducible exact zi_at is_148 (by omega) (by omega) | ((with_reducible refine zct_le ?_) <;> exact Nat.le_of_ble_eq_true rfl) | with_reducible exact zh_0 | with_reducible exact zh_1 | with_reducible exact zh_b | omega))) only [q_0_26r, q_0_26n, q_0_27, q_0_28 (n := Ls), q_0_29, q_0_31, q_0_32, q_0_358r, q_0_358n, q_0_359r, q_0_359n, q_0_360, q_0_361, q_0_362, q_0_363 (n := Ls), q_0_364, q_0_367r, q_0_367n, q_0_368r, q_0_368n, q_0_369, q_0_370, q_0_371, q_0_372 (n := Ls), q_0_373, q_0_376, q_0_379, q_0_380, q_0_873, q_0_876, vf_s, vf_n, zk2_none, zk2_int, zk2_ref, zk2_null, zk2_long, zct_nil, zct_i, zct_l, zct_r, zct_n, Option.bind_some, Option.toList_some, Option.toList_none, List.cons_append, List.nil_append, zor_l, zor_r, if_true, if_false, ↓reduceIte, zi_lit, zi_of, zi_add, zi_mul, zi_sub, zi_nat, zi_leT, zi_leF, zi_ltT, zi_ltF, zi_eqT, zi_eqF, zif_0z, zif_bz, zi_01l, zi_01r, not_true_eq_false, not_false_eq_true, Nat.reduceAdd, Nat.reduceMul, Nat.reduceSub, hk, r1, r2, r5]
theorem t_9 (h : INV mi mj g) (hi : i + 4 ≤ Ls) (hL : Ls ≤ 2048) (hk : mi 0 i &&& zi 31 = zi 9) : ∃ mi' mj' g', zRun 0 26 [some (.ref 0), some (.ref 1), some (.ref 148), some (.int (zi i))] [] (SH Ls) mi mj (RF g) = zRun 0 18 [some (.ref 0), some (.ref 1), some (.ref 148), some (.int (zi (i + 4)))] [] (SH Ls) mi' mj' (RF g') ∧ INV mi' mj' g' := by
  obtain ⟨v, mi1, mj1, g1, mi2, mj2, r1, r2, r3, r4, r5, r6⟩ := (c_88 (Ls := Ls) (x := mi 0 (i + 1)) h).m0
  refine ⟨mi2, mj2, g1, ?_, r3⟩
  rcases r4 with ⟨x, rfl⟩ | ⟨u, rfl⟩
  rotate_left
  · obtain ⟨_, _, q⟩ := zCall_rt zk_88 r1
    exact absurd q zretv_i
  · simp (disch := (first | exact sh0 | exact zi_in (by omega) (by omega) | (first | with_reducible exact is_1 | with_reducible exact zi_at is_1 (by omega) (by omega) | with_reducible exact is_148 | with_reducible exact zi_at is_148 (by omega) (by omega) | ((with_reducible refine zct_le ?_) <;> exact Nat.le_of_ble_eq_true rfl) | with_reducible exact zh_0 | with_reducible exact zh_1 | with_reducible exact zh_b | omega))) only [q_0_26r, q_0_26n, q_0_27, q_0_28 (n := Ls), q_0_29, q_0_31, q_0_32, q_0_381r, q_0_381n, q_0_382r, q_0_382n, q_0_383, q_0_384, q_0_385, q_0_386 (n := Ls), q_0_387, q_0_390r, q_0_390n, q_0_391r, q_0_391n, q_0_392, q_0_393, q_0_394, q_0_395 (n := Ls), q_0_396, q_0_399, q_0_402, q_0_403, q_0_873, q_0_876, vf_s, vf_n, zk2_none, zk2_int, zk2_ref, zk2_null, zk2_long, zct_nil, zct_i, zct_l, zct_r, zct_n, Option.bind_some, Option.toList_some, Option.toList_none, List.cons_append, List.nil_append, zor_l, zor_r, if_true, if_false, ↓reduceIte, zi_lit, zi_of, zi_add, zi_mul, zi_sub, zi_nat, zi_leT, zi_leF, zi_ltT, zi_ltF, zi_eqT, zi_eqF, zif_0z, zif_bz, zi_01l, zi_01r, not_true_eq_false, not_false_eq_true, Nat.reduceAdd, Nat.reduceMul, Nat.reduceSub, hk, r1, r2, r5]
theorem t_10 (h : INV mi mj g) (hi : i + 4 ≤ Ls) (hL : Ls ≤ 2048) (hk : mi 0 i &&& zi 31 = zi 10) : ∃ mi' mj' g', zRun 0 26 [some (.ref 0), some (.ref 1), some (.ref 148), some (.int (zi i))] [] (SH Ls) mi mj (RF g) = zRun 0 18 [some (.ref 0), some (.ref 1), some (.ref 148), some (.int (zi (i + 4)))] [] (SH Ls) mi' mj' (RF g') ∧ INV mi' mj' g' := by
  obtain ⟨v, mi1, mj1, g1, mi2, mj2, r1, r2, r3, r4, r5, r6⟩ := (c_89 (Ls := Ls) (x := mi 0 (i + 1)) (y := mi 0 (i + 2)) (z := mi 0 (i + 3)) h).m0
  refine ⟨mi2, mj2, g1, ?_, r3⟩
  obtain ⟨u, rfl⟩ := r4
  simp (disch := (first | exact sh0 | exact zi_in (by omega) (by omega) | (first | with_reducible exact is_1 | with_reducible exact zi_at is_1 (by omega) (by omega) | with_reducible exact is_148 | with_reducible exact zi_at is_148 (by omega) (by omega) | ((with_reducible refine zct_le ?_) <;> exact Nat.le_of_ble_eq_true rfl) | with_reducible exact zh_0 | with_reducible exact zh_1 | with_reducible exact zh_b | omega))) only [q_0_26r, q_0_26n, q_0_27, q_0_28 (n := Ls), q_0_29, q_0_31, q_0_32, q_0_404r, q_0_404n, q_0_405r, q_0_405n, q_0_406, q_0_407, q_0_408, q_0_409 (n := Ls), q_0_410r, q_0_410n, q_0_411, q_0_412, q_0_413, q_0_414 (n := Ls), q_0_415r, q_0_415n, q_0_416, q_0_417, q_0_418, q_0_419 (n := Ls), q_0_420, q_0_423r, q_0_423n, q_0_424r, q_0_424n, q_0_425, q_0_426, q_0_427, q_0_428 (n := Ls), q_0_429r, q_0_429n, q_0_430, q_0_431, q_0_432, q_0_433 (n := Ls), q_0_434r, q_0_434n, q_0_435, q_0_436, q_0_437, q_0_438 (n := Ls), q_0_439, q_0_442, q_0_443, q_0_446, q_0_447, q_0_873, q_0_876, vf_s, vf_n, zk2_none, zk2_int, zk2_ref, zk2_null, zk2_long, zct_nil, zct_i, zct_l, zct_r, zct_n, Option.bind_some, Option.toList_some, Option.toList_none, List.cons_append, List.nil_append, zor_l, zor_r, if_true, if_false, ↓reduceIte, zi_lit, zi_of, zi_add, zi_mul, zi_sub, zi_nat, zi_leT, zi_leF, zi_ltT, zi_ltF, zi_eqT, zi_eqF, zif_0z, zif_bz, zi_01l, zi_01r, not_true_eq_false, not_false_eq_true, Nat.reduceAdd, Nat.reduceMul, Nat.reduceSub, hk, r1, r2, r5]
theorem t_11 (h : INV mi mj g) (hi : i + 4 ≤ Ls) (hL : Ls ≤ 2048) (hk : mi 0 i &&& zi 31 = zi 11) : ∃ mi' mj' g', zRun 0 26 [some (.ref 0), some (.ref 1), some (.ref 148), some (.int (zi i))] [] (SH Ls) mi mj (RF g) = zRun 0 18 [some (.ref 0), some (.ref 1), some (.ref 148), some (.int (zi (i + 4)))] [] (SH Ls) mi' mj' (RF g') ∧ INV mi' mj' g' := by
  obtain ⟨v, mi1, mj1, g1, mi2, mj2, r1, r2, r3, r4, r5, r6⟩ := (c_90 (Ls := Ls) (x := mi 0 (i + 1)) (y := mi 0 (i + 2)) h).m0
  refine ⟨mi2, mj2, g1, ?_, r3⟩
  obtain ⟨u, rfl⟩ := r4
  simp (disch := (first | exact sh0 | exact zi_in (by omega) (by omega) | (first | with_reducible exact is_1 | with_reducible exact zi_at is_1 (by omega) (by omega) | with_reducible exact is_148 | with_reducible exact zi_at is_148 (by omega) (by omega) | ((with_reducible refine zct_le ?_) <;> exact Nat.le_of_ble_eq_true rfl) | with_reducible exact zh_0 | with_reducible exact zh_1 | with_reducible exact zh_b | omega))) only [q_0_26r, q_0_26n, q_0_27, q_0_28 (n := Ls), q_0_29, q_0_31, q_0_32, q_0_448r, q_0_448n, q_0_449r, q_0_449n, q_0_450, q_0_451, q_0_452, q_0_453 (n := Ls), q_0_454r, q_0_454n, q_0_455, q_0_456, q_0_457, q_0_458 (n := Ls), q_0_459, q_0_462r, q_0_462n, q_0_463r, q_0_463n, q_0_464, q_0_465, q_0_466, q_0_467 (n := Ls), q_0_468r, q_0_468n, q_0_469, q_0_470, q_0_471, q_0_472 (n := Ls), q_0_473, q_0_476, q_0_477, q_0_480, q_0_481, q_0_873, q_0_876, vf_s, vf_n, zk2_none, zk2_int, zk2_ref, zk2_null, zk2_long, zct_nil, zct_i, zct_l, zct_r, zct_n, Option.bind_some, Option.toList_some, Option.toList_none, List.cons_append, List.nil_append, zor_l, zor_r, if_true, if_false, ↓reduceIte, zi_lit, zi_of, zi_add, zi_mul, zi_sub, zi_nat, zi_leT, zi_leF, zi_ltT, zi_ltF, zi_eqT, zi_eqF, zif_0z, zif_bz, zi_01l, zi_01r, not_true_eq_false, not_false_eq_true, Nat.reduceAdd, Nat.reduceMul, Nat.reduceSub, hk, r1, r2, r5]
theorem t_12 (h : INV mi mj g) (hi : i + 4 ≤ Ls) (hL : Ls ≤ 2048) (hk : mi 0 i &&& zi 31 = zi 12) : ∃ mi' mj' g', zRun 0 26 [some (.ref 0), some (.ref 1), some (.ref 148), some (.int (zi i))] [] (SH Ls) mi mj (RF g) = zRun 0 18 [some (.ref 0), some (.ref 1), some (.ref 148), some (.int (zi (i + 4)))] [] (SH Ls) mi' mj' (RF g') ∧ INV mi' mj' g' := by
  obtain ⟨v, mi1, mj1, g1, mi2, mj2, r1, r2, r3, r4, r5, r6⟩ := (c_91 (Ls := Ls) (x := mi 0 (i + 1)) (y := mi 0 (i + 2)) (z := mi 0 (i + 3)) h).m0
  refine ⟨mi2, mj2, g1, ?_, r3⟩
  obtain ⟨u, rfl⟩ := r4
  simp (disch := (first | exact sh0 | exact zi_in (by omega) (by omega) | (first | with_reducible exact is_1 | with_reducible exact zi_at is_1 (by omega) (by omega) | with_reducible exact is_148 | with_reducible exact zi_at is_148 (by omega) (by omega) | ((with_reducible refine zct_le ?_) <;> exact Nat.le_of_ble_eq_true rfl) | with_reducible exact zh_0 | with_reducible exact zh_1 | with_reducible exact zh_b | omega))) only [q_0_26r, q_0_26n, q_0_27, q_0_28 (n := Ls), q_0_29, q_0_31, q_0_32, q_0_482r, q_0_482n, q_0_483r, q_0_483n, q_0_484, q_0_485, q_0_486, q_0_487 (n := Ls), q_0_488r, q_0_488n, q_0_489, q_0_490, q_0_491, q_0_492 (n := Ls), q_0_493r, q_0_493n, q_0_494, q_0_495, q_0_496, q_0_497 (n := Ls), q_0_498, q_0_501r, q_0_501n, q_0_502r, q_0_502n, q_0_503, q_0_504, q_0_505, q_0_506 (n := Ls), q_0_507r, q_0_507n, q_0_508, q_0_509, q_0_510, q_0_511 (n := Ls), q_0_512r, q_0_512n, q_0_513, q_0_514, q_0_515, q_0_516 (n := Ls), q_0_517, q_0_520, q_0_521, q_0_524, q_0_525, q_0_873, q_0_876, vf_s, vf_n, zk2_none, zk2_int, zk2_ref, zk2_null, zk2_long, zct_nil, zct_i, zct_l, zct_r, zct_n, Option.bind_some, Option.toList_some, Option.toList_none, List.cons_append, List.nil_append, zor_l, zor_r, if_true, if_false, ↓reduceIte, zi_lit, zi_of, zi_add, zi_mul, zi_sub, zi_nat, zi_leT, zi_leF, zi_ltT, zi_ltF, zi_eqT, zi_eqF, zif_0z, zif_bz, zi_01l, zi_01r, not_true_eq_false, not_false_eq_true, Nat.reduceAdd, Nat.reduceMul, Nat.reduceSub, hk, r1, r2, r5]
theorem t_13 (h : INV mi mj g) (hi : i + 4 ≤ Ls) (hL : Ls ≤ 2048) (hk : mi 0 i &&& zi 31 = zi 13) : ∃ mi' mj' g', zRun 0 26 [some (.ref 0), some (.ref 1), some (.ref 148), some (.int (zi i))] [] (SH Ls) mi mj (RF g) = zRun 0 18 [some (.ref 0), some (.ref 1), some (.ref 148), some (.int (zi (i + 4)))] [] (SH Ls) mi' mj' (RF g') ∧ INV mi' mj' g' := by
  obtain ⟨v, mi1, mj1, g1, mi2, mj2, r1, r2, r3, r4, r5, r6⟩ := (c_92 (Ls := Ls) (x := mi 0 (i + 1)) h).m0
  refine ⟨mi2, mj2, g1, ?_, r3⟩
  rcases r4 with ⟨x, rfl⟩ | ⟨u, rfl⟩
  rotate_left
  · obtain ⟨_, _, q⟩ := zCall_rt zk_92 r1
    exact absurd q zretv_i
  · simp (disch := (first | exact sh0 | exact zi_in (by omega) (by omega) | (first | with_reducible exact is_1 | with_reducible exact zi_at is_1 (by omega) (by omega) | with_reducible exact is_148 | with_reducible exact zi_at is_148 (by omega) (by omega) | ((with_reducible refine zct_le ?_) <;> exact Nat.le_of_ble_eq_true rfl) | with_reducible exact zh_0 | with_reducible exact zh_1 | with_reducible exact zh_b | omega))) only [q_0_26r, q_0_26n, q_0_27, q_0_28 (n := Ls), q_0_29, q_0_31, q_0_32, q_0_526r, q_0_526n, q_0_527r, q_0_527n, q_0_528, q_0_529, q_0_530, q_0_531 (n := Ls), q_0_532, q_0_535r, q_0_535n, q_0_536r, q_0_536n, q_0_537, q_0_538, q_0_539, q_0_540 (n := Ls), q_0_541, q_0_544, q_0_547, q_0_548, q_0_873, q_0_876, vf_s, vf_n, zk2_none, zk2_int, zk2_ref, zk2_null, zk2_long, zct_nil, zct_i, zct_l, zct_r, zct_n, Option.bind_some, Option.toList_some, Option.toList_none, List.cons_append, List.nil_append, zor_l, zor_r, if_true, if_false, ↓reduceIte, zi_lit, zi_of, zi_add, zi_mul, zi_sub, zi_nat, zi_leT, zi_leF, zi_ltT, zi_ltF, zi_eqT, zi_eqF, zif_0z, zif_bz, zi_01l, zi_01r, not_true_eq_false, not_false_eq_true, Nat.reduceAdd, Nat.reduceMul, Nat.reduceSub, hk, r1, r2, r5]
theorem t_14 (h : INV mi mj g) (hi : i + 4 ≤ Ls) (hL : Ls ≤ 2048) (hk : mi 0 i &&& zi 31 = zi 14) : ∃ mi' mj' g', zRun 0 26 [some (.ref 0), some (.ref 1), some (.ref 148), some (.int (zi i))] [] (SH Ls) mi mj (RF g) = zRun 0 18 [some (.ref 0), some (.ref 1), some (.ref 148), some (.int (zi (i + 4)))] [] (SH Ls) mi' mj' (RF g') ∧ INV mi' mj' g' := by
  obtain ⟨v, mi1, mj1, g1, mi2, mj2, r1, r2, r3, r4, r5, r6⟩ := (c_93 (Ls := Ls) (x := mi 0 (i + 1)) h).m0
  refine ⟨mi2, mj2, g1, ?_, r3⟩
  obtain ⟨u, rfl⟩ := r4
  simp (disch := (first | exact sh0 | exact zi_in (by omega) (by omega) | (first | with_reducible exact is_1 | with_reducible exact zi_at is_1 (by omega) (by omega) | with_reducible exact is_148 | with_reducible exact zi_at is_148 (by omega) (by omega) | ((with_reducible refine zct_le ?_) <;> exact Nat.le_of_ble_eq_true rfl) | with_reducible exact zh_0 | with_reducible exact zh_1 | with_reducible exact zh_b | omega))) only [q_0_26r, q_0_26n, q_0_27, q_0_28 (n := Ls), q_0_29, q_0_31, q_0_32, q_0_549r, q_0_549n, q_0_550r, q_0_550n, q_0_551, q_0_552, q_0_553, q_0_554 (n := Ls), q_0_555, q_0_558r, q_0_558n, q_0_559r, q_0_559n, q_0_560, q_0_561, q_0_562, q_0_563 (n := Ls), q_0_564, q_0_567, q_0_568, q_0_571, q_0_572, q_0_873, q_0_876, vf_s, vf_n, zk2_none, zk2_int, zk2_ref, zk2_null, zk2_long, zct_nil, zct_i, zct_l, zct_r, zct_n, Option.bind_some, Option.toList_some, Option.toList_none, List.cons_append, List.nil_append, zor_l, zor_r, if_true, if_false, ↓reduceIte, zi_lit, zi_of, zi_add, zi_mul, zi_sub, zi_nat, zi_leT, zi_leF, zi_ltT, zi_ltF, zi_eqT, zi_eqF, zif_0z, zif_bz, zi_01l, zi_01r, not_true_eq_false, not_false_eq_true, Nat.reduceAdd, Nat.reduceMul, Nat.reduceSub, hk, r1, r2, r5]
theorem t_15 (h : INV mi mj g) (hi : i + 4 ≤ Ls) (hL : Ls ≤ 2048) (hk : mi 0 i &&& zi 31 = zi 15) : ∃ mi' mj' g', zRun 0 26 [some (.ref 0), some (.ref 1), some (.ref 148), some (.int (zi i))] [] (SH Ls) mi mj (RF g) = zRun 0 18 [some (.ref 0), some (.ref 1), some (.ref 148), some (.int (zi (i + 4)))] [] (SH Ls) mi' mj' (RF g') ∧ INV mi' mj' g' := by
  obtain ⟨v, mi1, mj1, g1, mi2, mj2, r1, r2, r3, r4, r5, r6⟩ := (c_94 (Ls := Ls) (x := mi 0 (i + 1)) (y := mi 0 (i + 2)) (z := mi 0 (i + 3)) h).m0
  refine ⟨mi2, mj2, g1, ?_, r3⟩
  obtain ⟨u, rfl⟩ := r4
  simp (disch := (first | exact sh0 | exact zi_in (by omega) (by omega) | (first | with_reducible exact is_1 | with_reducible exact zi_at is_1 (by omega) (by omega) | with_reducible exact is_148 | with_reducible exact zi_at is_148 (by omega) (by omega) | ((with_reducible refine zct_le ?_) <;> exact Nat.le_of_ble_eq_true rfl) | with_reducible exact zh_0 | with_reducible exact zh_1 | with_reducible exact zh_b | omega))) only [q_0_26r, q_0_26n, q_0_27, q_0_28 (n := Ls), q_0_29, q_0_31, q_0_32, q_0_573r, q_0_573n, q_0_574r, q_0_574n, q_0_575, q_0_576, q_0_577, q_0_578 (n := Ls), q_0_579r, q_0_579n, q_0_580, q_0_581, q_0_582, q_0_583 (n := Ls), q_0_584r, q_0_584n, q_0_585, q_0_586, q_0_587, q_0_588 (n := Ls), q_0_589, q_0_592r, q_0_592n, q_0_593r, q_0_593n, q_0_594, q_0_595, q_0_596, q_0_597 (n := Ls), q_0_598r, q_0_598n, q_0_599, q_0_600, q_0_601, q_0_602 (n := Ls), q_0_603r, q_0_603n, q_0_604, q_0_605, q_0_606, q_0_607 (n := Ls), q_0_608, q_0_611, q_0_612, q_0_615, q_0_616, q_0_873, q_0_876, vf_s, vf_n, zk2_none, zk2_int, zk2_ref, zk2_null, zk2_long, zct_nil, zct_i, zct_l, zct_r, zct_n, Option.bind_some, Option.toList_some, Option.toList_none, List.cons_append, List.nil_append, zor_l, zor_r, if_true, if_false, ↓reduceIte, zi_lit, zi_of, zi_add, zi_mul, zi_sub, zi_nat, zi_leT, zi_leF, zi_ltT, zi_ltF, zi_eqT, zi_eqF, zif_0z, zif_bz, zi_01l, zi_01r, not_true_eq_false, not_false_eq_true, Nat.reduceAdd, Nat.reduceMul, Nat.reduceSub, hk, r1, r2, r5]
theorem t_16 (h : INV mi mj g) (hi : i + 4 ≤ Ls) (hL : Ls ≤ 2048) (hk : mi 0 i &&& zi 31 = zi 16) : ∃ mi' mj' g', zRun 0 26 [some (.ref 0), some (.ref 1), some (.ref 148), some (.int (zi i))] [] (SH Ls) mi mj (RF g) = zRun 0 18 [some (.ref 0), some (.ref 1), some (.ref 148), some (.int (zi (i + 4)))] [] (SH Ls) mi' mj' (RF g') ∧ INV mi' mj' g' := by
  obtain ⟨v, mi1, mj1, g1, mi2, mj2, r1, r2, r3, r4, r5, r6⟩ := (c_95 (Ls := Ls) (x := mi 0 (i + 1)) (y := mi 0 (i + 2)) h).m0
  refine ⟨mi2, mj2, g1, ?_, r3⟩
  rcases r4 with ⟨x, rfl⟩ | ⟨u, rfl⟩
  rotate_left
  · obtain ⟨_, _, q⟩ := zCall_rt zk_95 r1
    exact absurd q zretv_i
  · simp (disch := (first | exact sh0 | exact zi_in (by omega) (by omega) | (first | with_reducible exact is_1 | with_reducible exact zi_at is_1 (by omega) (by omega) | with_reducible exact is_148 | with_reducible exact zi_at is_148 (by omega) (by omega) | ((with_reducible refine zct_le ?_) <;> exact Nat.le_of_ble_eq_true rfl) | with_reducible exact zh_0 | with_reducible exact zh_1 | with_reducible exact zh_b | omega))) only [q_0_26r, q_0_26n, q_0_27, q_0_28 (n := Ls), q_0_29, q_0_31, q_0_32, q_0_617r, q_0_617n, q_0_618r, q_0_618n, q_0_619, q_0_620, q_0_621, q_0_622 (n := Ls), q_0_623r, q_0_623n, q_0_624, q_0_625, q_0_626, q_0_627 (n := Ls), q_0_628, q_0_631r, q_0_631n, q_0_632r, q_0_632n, q_0_633, q_0_634, q_0_635, q_0_636 (n := Ls), q_0_637r, q_0_637n, q_0_638, q_0_639, q_0_640, q_0_641 (n := Ls), q_0_642, q_0_645, q_0_648, q_0_649, q_0_873, q_0_876, vf_s, vf_n, zk2_none, zk2_int, zk2_ref, zk2_null, zk2_long, zct_nil, zct_i, zct_l, zct_r, zct_n, Option.bind_some, Option.toList_some, Option.toList_none, List.cons_append, List.nil_append, zor_l, zor_r, if_true, if_false, ↓reduceIte, zi_lit, zi_of, zi_add, zi_mul, zi_sub, zi_nat, zi_leT, zi_leF, zi_ltT, zi_ltF, zi_eqT, zi_eqF, zif_0z, zif_bz, zi_01l, zi_01r, not_true_eq_false, not_false_eq_true, Nat.reduceAdd, Nat.reduceMul, Nat.reduceSub, hk, r1, r2, r5]
theorem t_17 (h : INV mi mj g) (hi : i + 4 ≤ Ls) (hL : Ls ≤ 2048) (hk : mi 0 i &&& zi 31 = zi 17) : ∃ mi' mj' g', zRun 0 26 [some (.ref 0), some (.ref 1), some (.ref 148), some (.int (zi i))] [] (SH Ls) mi mj (RF g) = zRun 0 18 [some (.ref 0), some (.ref 1), some (.ref 148), some (.int (zi (i + 4)))] [] (SH Ls) mi' mj' (RF g') ∧ INV mi' mj' g' := by
  obtain ⟨v, mi1, mj1, g1, mi2, mj2, r1, r2, r3, r4, r5, r6⟩ := (c_96 (Ls := Ls) (x := mi 0 (i + 1)) (y := mi 0 (i + 2)) (z := mi 0 (i + 3)) h).m0
  refine ⟨mi2, mj2, g1, ?_, r3⟩
  rcases r4 with ⟨x, rfl⟩ | ⟨u, rfl⟩
  rotate_left
  · obtain ⟨_, _, q⟩ := zCall_rt zk_96 r1
    exact absurd q zretv_i
  · simp (disch := (first | exact sh0 | exact zi_in (by omega) (by omega) | (first | with_reducible exact is_1 | with_reducible exact zi_at is_1 (by omega) (by omega) | with_reducible exact is_148 | with_reducible exact zi_at is_148 (by omega) (by omega) | ((with_reducible refine zct_le ?_) <;> exact Nat.le_of_ble_eq_true rfl) | with_reducible exact zh_0 | with_reducible exact zh_1 | with_reducible exact zh_b | omega))) only [q_0_26r, q_0_26n, q_0_27, q_0_28 (n := Ls), q_0_29, q_0_31, q_0_32, q_0_650r, q_0_650n, q_0_651r, q_0_651n, q_0_652, q_0_653, q_0_654, q_0_655 (n := Ls), q_0_656r, q_0_656n, q_0_657, q_0_658, q_0_659, q_0_660 (n := Ls), q_0_661r, q_0_661n, q_0_662, q_0_663, q_0_664, q_0_665 (n := Ls), q_0_666, q_0_669r, q_0_669n, q_0_670r, q_0_670n, q_0_671, q_0_672, q_0_673, q_0_674 (n := Ls), q_0_675r, q_0_675n, q_0_676, q_0_677, q_0_678, q_0_679 (n := Ls), q_0_680r, q_0_680n, q_0_681, q_0_682, q_0_683, q_0_684 (n := Ls), q_0_685, q_0_688, q_0_691, q_0_692, q_0_873, q_0_876, vf_s, vf_n, zk2_none, zk2_int, zk2_ref, zk2_null, zk2_long, zct_nil, zct_i, zct_l, zct_r, zct_n, Option.bind_some, Option.toList_some, Option.toList_none, List.cons_append, List.nil_append, zor_l, zor_r, if_true, if_false, ↓reduceIte, zi_lit, zi_of, zi_add, zi_mul, zi_sub, zi_nat, zi_leT, zi_leF, zi_ltT, zi_ltF, zi_eqT, zi_eqF, zif_0z, zif_bz, zi_01l, zi_01r, not_true_eq_false, not_false_eq_true, Nat.reduceAdd, Nat.reduceMul, Nat.reduceSub, hk, r1, r2, r5]
theorem t_18 (h : INV mi mj g) (hi : i + 4 ≤ Ls) (hL : Ls ≤ 2048) (hk : mi 0 i &&& zi 31 = zi 18) : ∃ mi' mj' g', zRun 0 26 [some (.ref 0), some (.ref 1), some (.ref 148), some (.int (zi i))] [] (SH Ls) mi mj (RF g) = zRun 0 18 [some (.ref 0), some (.ref 1), some (.ref 148), some (.int (zi (i + 4)))] [] (SH Ls) mi' mj' (RF g') ∧ INV mi' mj' g' := by
  obtain ⟨v, mi1, mj1, g1, mi2, mj2, r1, r2, r3, r4, r5, r6⟩ := (c_97 (Ls := Ls) (x := mi 0 (i + 1)) h).m0
  refine ⟨mi2, mj2, g1, ?_, r3⟩
  obtain ⟨u, rfl⟩ := r4
  simp (disch := (first | exact sh0 | exact zi_in (by omega) (by omega) | (first | with_reducible exact is_1 | with_reducible exact zi_at is_1 (by omega) (by omega) | with_reducible exact is_148 | with_reducible exact zi_at is_148 (by omega) (by omega) | ((with_reducible refine zct_le ?_) <;> exact Nat.le_of_ble_eq_true rfl) | with_reducible exact zh_0 | with_reducible exact zh_1 | with_reducible exact zh_b | omega))) only [q_0_26r, q_0_26n, q_0_27, q_0_28 (n := Ls), q_0_29, q_0_31, q_0_32, q_0_693r, q_0_693n, q_0_694r, q_0_694n, q_0_695, q_0_696, q_0_697, q_0_698 (n := Ls), q_0_699, q_0_702r, q_0_702n, q_0_703r, q_0_703n, q_0_704, q_0_705, q_0_706, q_0_707 (n := Ls), q_0_708, q_0_711, q_0_712, q_0_715, q_0_716, q_0_873, q_0_876, vf_s, vf_n, zk2_none, zk2_int, zk2_ref, zk2_null, zk2_long, zct_nil, zct_i, zct_l, zct_r, zct_n, Option.bind_some, Option.toList_some, Option.toList_none, List.cons_append, List.nil_append, zor_l, zor_r, if_true, if_false, ↓reduceIte, zi_lit, zi_of, zi_add, zi_mul, zi_sub, zi_nat, zi_leT, zi_leF, zi_ltT, zi_ltF, zi_eqT, zi_eqF, zif_0z, zif_bz, zi_01l, zi_01r, not_true_eq_false, not_false_eq_true, Nat.reduceAdd, Nat.reduceMul, Nat.reduceSub, hk, r1, r2, r5]
theorem t_19 (h : INV mi mj g) (hi : i + 4 ≤ Ls) (hL : Ls ≤ 2048) (hk : mi 0 i &&& zi 31 = zi 19) : ∃ mi' mj' g', zRun 0 26 [some (.ref 0), some (.ref 1), some (.ref 148), some (.int (zi i))] [] (SH Ls) mi mj (RF g) = zRun 0 18 [some (.ref 0), some (.ref 1), some (.ref 148), some (.int (zi (i + 4)))] [] (SH Ls) mi' mj' (RF g') ∧ INV mi' mj' g' := by
  obtain ⟨v, mi1, mj1, g1, mi2, mj2, r1, r2, r3, r4, r5, r6⟩ := (c_98 (Ls := Ls) (x := mi 0 (i + 1)) (y := mi 0 (i + 2)) (z := mi 0 (i + 3)) h).m0
  refine ⟨mi2, mj2, g1, ?_, r3⟩
  obtain ⟨u, rfl⟩ := r4
  simp (disch := (first | exact sh0 | exact zi_in (by omega) (by omega) | (first | with_reducible exact is_1 | with_reducible exact zi_at is_1 (by omega) (by omega) | with_reducible exact is_148 | with_reducible exact zi_at is_148 (by omega) (by omega) | ((with_reducible refine zct_le ?_) <;> exact Nat.le_of_ble_eq_true rfl) | with_reducible exact zh_0 | with_reducible exact zh_1 | with_reducible exact zh_b | omega))) only [q_0_26r, q_0_26n, q_0_27, q_0_28 (n := Ls), q_0_29, q_0_31, q_0_32, q_0_717r, q_0_717n, q_0_718r, q_0_718n, q_0_719, q_0_720, q_0_721, q_0_722 (n := Ls), q_0_723r, q_0_723n, q_0_724, q_0_725, q_0_726, q_0_727 (n := Ls), q_0_728r, q_0_728n, q_0_729, q_0_730, q_0_731, q_0_732 (n := Ls), q_0_733, q_0_736r, q_0_736n, q_0_737r, q_0_737n, q_0_738, q_0_739, q_0_740, q_0_741 (n := Ls), q_0_742r, q_0_742n, q_0_743, q_0_744, q_0_745, q_0_746 (n := Ls), q_0_747r, q_0_747n, q_0_748, q_0_749, q_0_750, q_0_751 (n := Ls), q_0_752, q_0_755, q_0_756, q_0_759, q_0_760, q_0_873, q_0_876, vf_s, vf_n, zk2_none, zk2_int, zk2_ref, zk2_null, zk2_long, zct_nil, zct_i, zct_l, zct_r, zct_n, Option.bind_some, Option.toList_some, Option.toList_none, List.cons_append, List.nil_append, zor_l, zor_r, if_true, if_false, ↓reduceIte, zi_lit, zi_of, zi_add, zi_mul, zi_sub, zi_nat, zi_leT, zi_leF, zi_ltT, zi_ltF, zi_eqT, zi_eqF, zif_0z, zif_bz, zi_01l, zi_01r, not_true_eq_false, not_false_eq_true, Nat.reduceAdd, Nat.reduceMul, Nat.reduceSub, hk, r1, r2, r5]
theorem t_20 (h : INV mi mj g) (hi : i + 4 ≤ Ls) (hL : Ls ≤ 2048) (hk : mi 0 i &&& zi 31 = zi 20) : ∃ mi' mj' g', zRun 0 26 [some (.ref 0), some (.ref 1), some (.ref 148), some (.int (zi i))] [] (SH Ls) mi mj (RF g) = zRun 0 18 [some (.ref 0), some (.ref 1), some (.ref 148), some (.int (zi (i + 4)))] [] (SH Ls) mi' mj' (RF g') ∧ INV mi' mj' g' := by
  obtain ⟨v, mi1, mj1, g1, mi2, mj2, r1, r2, r3, r4, r5, r6⟩ := (c_99 (Ls := Ls) (x := mi 0 (i + 1)) (y := mi 0 (i + 2)) (z := mi 0 (i + 3)) h).m0
  refine ⟨mi2, mj2, g1, ?_, r3⟩
  rcases r4 with ⟨x, rfl⟩ | ⟨u, rfl⟩
  rotate_left
  · obtain ⟨_, _, q⟩ := zCall_rt zk_99 r1
    exact absurd q zretv_i
  · simp (disch := (first | exact sh0 | exact zi_in (by omega) (by omega) | (first | with_reducible exact is_1 | with_reducible exact zi_at is_1 (by omega) (by omega) | with_reducible exact is_148 | with_reducible exact zi_at is_148 (by omega) (by omega) | ((with_reducible refine zct_le ?_) <;> exact Nat.le_of_ble_eq_true rfl) | with_reducible exact zh_0 | with_reducible exact zh_1 | with_reducible exact zh_b | omega))) only [q_0_26r, q_0_26n, q_0_27, q_0_28 (n := Ls), q_0_29, q_0_31, q_0_32, q_0_761r, q_0_761n, q_0_762r, q_0_762n, q_0_763, q_0_764, q_0_765, q_0_766 (n := Ls), q_0_767r, q_0_767n, q_0_768, q_0_769, q_0_770, q_0_771 (n := Ls), q_0_772r, q_0_772n, q_0_773, q_0_774, q_0_775, q_0_776 (n := Ls), q_0_777, q_0_780r, q_0_780n, q_0_781r, q_0_781n, q_0_782, q_0_783, q_0_784, q_0_785 (n := Ls), q_0_786r, q_0_786n, q_0_787, q_0_788, q_0_789, q_0_790 (n := Ls), q_0_791r, q_0_791n, q_0_792, q_0_793, q_0_794, q_0_795 (n := Ls), q_0_796, q_0_799, q_0_802, q_0_803, q_0_873, q_0_876, vf_s, vf_n, zk2_none, zk2_int, zk2_ref, zk2_null, zk2_long, zct_nil, zct_i, zct_l, zct_r, zct_n, Option.bind_some, Option.toList_some, Option.toList_none, List.cons_append, List.nil_append, zor_l, zor_r, if_true, if_false, ↓reduceIte, zi_lit, zi_of, zi_add, zi_mul, zi_sub, zi_nat, zi_leT, zi_leF, zi_ltT, zi_ltF, zi_eqT, zi_eqF, zif_0z, zif_bz, zi_01l, zi_01r, not_true_eq_false, not_false_eq_true, Nat.reduceAdd, Nat.reduceMul, Nat.reduceSub, hk, r1, r2, r5]
theorem t_21 (h : INV mi mj g) (hi : i + 4 ≤ Ls) (hL : Ls ≤ 2048) (hk : mi 0 i &&& zi 31 = zi 21) : ∃ mi' mj' g', zRun 0 26 [some (.ref 0), some (.ref 1), some (.ref 148), some (.int (zi i))] [] (SH Ls) mi mj (RF g) = zRun 0 18 [some (.ref 0), some (.ref 1), some (.ref 148), some (.int (zi (i + 4)))] [] (SH Ls) mi' mj' (RF g') ∧ INV mi' mj' g' := by
  obtain ⟨v, mi1, mj1, g1, mi2, mj2, r1, r2, r3, r4, r5, r6⟩ := (c_100 (Ls := Ls) (x := mi 0 (i + 1)) h).m0
  refine ⟨mi2, mj2, g1, ?_, r3⟩
  rcases r4 with ⟨x, rfl⟩ | ⟨u, rfl⟩
  rotate_left
  · obtain ⟨_, _, q⟩ := zCall_rt zk_100 r1
    exact absurd q zretv_i
  · simp (disch := (first | exact sh0 | exact zi_in (by omega) (by omega) | (first | with_reducible exact is_1 | with_reducible exact zi_at is_1 (by omega) (by omega) | with_reducible exact is_148 | with_reducible exact zi_at is_148 (by omega) (by omega) | ((with_reducible refine zct_le ?_) <;> exact Nat.le_of_ble_eq_true rfl) | with_reducible exact zh_0 | with_reducible exact zh_1 | with_reducible exact zh_b | omega))) only [q_0_26r, q_0_26n, q_0_27, q_0_28 (n := Ls), q_0_29, q_0_31, q_0_32, q_0_804r, q_0_804n, q_0_805r, q_0_805n, q_0_806, q_0_807, q_0_808, q_0_809 (n := Ls), q_0_810, q_0_813r, q_0_813n, q_0_814r, q_0_814n, q_0_815, q_0_816, q_0_817, q_0_818 (n := Ls), q_0_819, q_0_822, q_0_825, q_0_826, q_0_873, q_0_876, vf_s, vf_n, zk2_none, zk2_int, zk2_ref, zk2_null, zk2_long, zct_nil, zct_i, zct_l, zct_r, zct_n, Option.bind_some, Option.toList_some, Option.toList_none, List.cons_append, List.nil_append, zor_l, zor_r, if_true, if_false, ↓reduceIte, zi_lit, zi_of, zi_add, zi_mul, zi_sub, zi_nat, zi_leT, zi_leF, zi_ltT, zi_ltF, zi_eqT, zi_eqF, zif_0z, zif_bz, zi_01l, zi_01r, not_true_eq_false, not_false_eq_true, Nat.reduceAdd, Nat.reduceMul, Nat.reduceSub, hk, r1, r2, r5]
theorem t_22 (h : INV mi mj g) (hi : i + 4 ≤ Ls) (hL : Ls ≤ 2048) (hk : mi 0 i &&& zi 31 = zi 22) : ∃ mi' mj' g', zRun 0 26 [some (.ref 0), some (.ref 1), some (.ref 148), some (.int (zi i))] [] (SH Ls) mi mj (RF g) = zRun 0 18 [some (.ref 0), some (.ref 1), some (.ref 148), some (.int (zi (i + 4)))] [] (SH Ls) mi' mj' (RF g') ∧ INV mi' mj' g' := by
  obtain ⟨v, mi1, mj1, g1, mi2, mj2, r1, r2, r3, r4, r5, r6⟩ := (c_101 (Ls := Ls) (x := mi 0 (i + 1)) h).m0
  refine ⟨mi2, mj2, g1, ?_, r3⟩
  rcases r4 with ⟨x, rfl⟩ | ⟨u, rfl⟩
  rotate_left
  · obtain ⟨_, _, q⟩ := zCall_rt zk_101 r1
    exact absurd q zretv_i
  · simp (disch := (first | exact sh0 | exact zi_in (by omega) (by omega) | (first | with_reducible exact is_1 | with_reducible exact zi_at is_1 (by omega) (by omega) | with_reducible exact is_148 | with_reducible exact zi_at is_148 (by omega) (by omega) | ((with_reducible refine zct_le ?_) <;> exact Nat.le_of_ble_eq_true rfl) | with_reducible exact zh_0 | with_reducible exact zh_1 | with_reducible exact zh_b | omega))) only [q_0_26r, q_0_26n, q_0_27, q_0_28 (n := Ls), q_0_29, q_0_31, q_0_32, q_0_827r, q_0_827n, q_0_828r, q_0_828n, q_0_829, q_0_830, q_0_831, q_0_832 (n := Ls), q_0_833, q_0_836r, q_0_836n, q_0_837r, q_0_837n, q_0_838, q_0_839, q_0_840, q_0_841 (n := Ls), q_0_842, q_0_845, q_0_848, q_0_849, q_0_873, q_0_876, vf_s, vf_n, zk2_none, zk2_int, zk2_ref, zk2_null, zk2_long, zct_nil, zct_i, zct_l, zct_r, zct_n, Option.bind_some, Option.toList_some, Option.toList_none, List.cons_append, List.nil_append, zor_l, zor_r, if_true, if_false, ↓reduceIte, zi_lit, zi_of, zi_add, zi_mul, zi_sub, zi_nat, zi_leT, zi_leF, zi_ltT, zi_ltF, zi_eqT, zi_eqF, zif_0z, zif_bz, zi_01l, zi_01r, not_true_eq_false, not_false_eq_true, Nat.reduceAdd, Nat.reduceMul, Nat.reduceSub, hk, r1, r2, r5]
theorem t_23 (h : INV mi mj g) (hi : i + 4 ≤ Ls) (hL : Ls ≤ 2048) (hk : mi 0 i &&& zi 31 = zi 23) : ∃ mi' mj' g', zRun 0 26 [some (.ref 0), some (.ref 1), some (.ref 148), some (.int (zi i))] [] (SH Ls) mi mj (RF g) = zRun 0 18 [some (.ref 0), some (.ref 1), some (.ref 148), some (.int (zi (i + 4)))] [] (SH Ls) mi' mj' (RF g') ∧ INV mi' mj' g' := by
  obtain ⟨v, mi1, mj1, g1, mi2, mj2, r1, r2, r3, r4, r5, r6⟩ := (c_102 (Ls := Ls) (x := mi 0 (i + 1)) h).m0
  refine ⟨mi2, mj2, g1, ?_, r3⟩
  rcases r4 with ⟨x, rfl⟩ | ⟨u, rfl⟩
  rotate_left
  · obtain ⟨_, _, q⟩ := zCall_rt zk_102 r1
    exact absurd q zretv_i
  · simp (disch := (first | exact sh0 | exact zi_in (by omega) (by omega) | (first | with_reducible exact is_1 | with_reducible exact zi_at is_1 (by omega) (by omega) | with_reducible exact is_148 | with_reducible exact zi_at is_148 (by omega) (by omega) | ((with_reducible refine zct_le ?_) <;> exact Nat.le_of_ble_eq_true rfl) | with_reducible exact zh_0 | with_reducible exact zh_1 | with_reducible exact zh_b | omega))) only [q_0_26r, q_0_26n, q_0_27, q_0_28 (n := Ls), q_0_29, q_0_31, q_0_32, q_0_850r, q_0_850n, q_0_851r, q_0_851n, q_0_852, q_0_853, q_0_854, q_0_855 (n := Ls), q_0_856, q_0_859r, q_0_859n, q_0_860r, q_0_860n, q_0_861, q_0_862, q_0_863, q_0_864 (n := Ls), q_0_865, q_0_868, q_0_871, q_0_872, q_0_873, q_0_876, vf_s, vf_n, zk2_none, zk2_int, zk2_ref, zk2_null, zk2_long, zct_nil, zct_i, zct_l, zct_r, zct_n, Option.bind_some, Option.toList_some, Option.toList_none, List.cons_append, List.nil_append, zor_l, zor_r, if_true, if_false, ↓reduceIte, zi_lit, zi_of, zi_add, zi_mul, zi_sub, zi_nat, zi_leT, zi_leF, zi_ltT, zi_ltF, zi_eqT, zi_eqF, zif_0z, zif_bz, zi_01l, zi_01r, not_true_eq_false, not_false_eq_true, Nat.reduceAdd, Nat.reduceMul, Nat.reduceSub, hk, r1, r2, r5]
theorem t_x (h : INV mi mj g) (hi : i + 4 ≤ Ls) (hL : Ls ≤ 2048) (hk0 : 24 ≤ k) (hk1 : k < 32) (hk : mi 0 i &&& zi 31 = zi k) : ∃ mi' mj' g', zRun 0 26 [some (.ref 0), some (.ref 1), some (.ref 148), some (.int (zi i))] [] (SH Ls) mi mj (RF g) = zRun 0 18 [some (.ref 0), some (.ref 1), some (.ref 148), some (.int (zi (i + 4)))] [] (SH Ls) mi' mj' (RF g') ∧ INV mi' mj' g' := by
  refine ⟨mi, mj, g, ?_, h⟩
  simp (disch := (first | exact sh0 | exact zi_in (by omega) (by omega) | (first | with_reducible exact is_1 | with_reducible exact zi_at is_1 (by omega) (by omega) | with_reducible exact is_148 | with_reducible exact zi_at is_148 (by omega) (by omega) | ((with_reducible refine zct_le ?_) <;> exact Nat.le_of_ble_eq_true rfl) | with_reducible exact zh_0 | with_reducible exact zh_1 | with_reducible exact zh_b | omega))) only [q_0_26r, q_0_26n, q_0_27, q_0_28 (n := Ls), q_0_29, q_0_31, q_0_32, q_0_873, q_0_876, vf_s, vf_n, zk2_none, zk2_int, zk2_ref, zk2_null, zk2_long, zct_nil, zct_i, zct_l, zct_r, zct_n, Option.bind_some, Option.toList_some, Option.toList_none, List.cons_append, List.nil_append, zor_l, zor_r, if_true, if_false, ↓reduceIte, zi_lit, zi_of, zi_add, zi_mul, zi_sub, zi_nat, zi_leT, zi_leF, zi_ltT, zi_ltF, zi_eqT, zi_eqF, zif_0z, zif_bz, zi_01l, zi_01r, not_true_eq_false, not_false_eq_true, Nat.reduceAdd, Nat.reduceMul, Nat.reduceSub, hk]
theorem t_all (h : INV mi mj g) (hi : i + 4 ≤ Ls) (hL : Ls ≤ 2048) : ∃ mi' mj' g', zRun 0 26 [some (.ref 0), some (.ref 1), some (.ref 148), some (.int (zi i))] [] (SH Ls) mi mj (RF g) = zRun 0 18 [some (.ref 0), some (.ref 1), some (.ref 148), some (.int (zi (i + 4)))] [] (SH Ls) mi' mj' (RF g') ∧ INV mi' mj' g' := by
  obtain ⟨k, hk1, hk⟩ := and31 (mi 0 i)
  by_cases c0 : k = 0
  · subst c0; exact t_0 h hi hL hk
  by_cases c1 : k = 1
  · subst c1; exact t_1 h hi hL hk
  by_cases c2 : k = 2
  · subst c2; exact t_2 h hi hL hk
  by_cases c3 : k = 3
  · subst c3; exact t_3 h hi hL hk
  by_cases c4 : k = 4
  · subst c4; exact t_4 h hi hL hk
  by_cases c5 : k = 5
  · subst c5; exact t_5 h hi hL hk
  by_cases c6 : k = 6
  · subst c6; exact t_6 h hi hL hk
  by_cases c7 : k = 7
  · subst c7; exact t_7 h hi hL hk
  by_cases c8 : k = 8
  · subst c8; exact t_8 h hi hL hk
  by_cases c9 : k = 9
  · subst c9; exact t_9 h hi hL hk
  by_cases c10 : k = 10
  · subst c10; exact t_10 h hi hL hk
  by_cases c11 : k = 11
  · subst c11; exact t_11 h hi hL hk
  by_cases c12 : k = 12
  · subst c12; exact t_12 h hi hL hk
  by_cases c13 : k = 13
  · subst c13; exact t_13 h hi hL hk
  by_cases c14 : k = 14
  · subst c14; exact t_14 h hi hL hk
  by_cases c15 : k = 15
  · subst c15; exact t_15 h hi hL hk
  by_cases c16 : k = 16
  · subst c16; exact t_16 h hi hL hk
  by_cases c17 : k = 17
  · subst c17; exact t_17 h hi hL hk
  by_cases c18 : k = 18
  · subst c18; exact t_18 h hi hL hk
  by_cases c19 : k = 19
  · subst c19; exact t_19 h hi hL hk
  by_cases c20 : k = 20
  · subst c20; exact t_20 h hi hL hk
  by_cases c21 : k = 21
  · subst c21; exact t_21 h hi hL hk
  by_cases c22 : k = 22
  · subst c22; exact t_22 h hi hL hk
  by_cases c23 : k = 23
  · subst c23; exact t_23 h hi hL hk
  exact t_x h hi hL (by omega) hk1 hk
theorem l_0 (hL : Ls ≤ 2048) (m : Nat) : ∀ i mi mj g, Ls ≤ i + 4 * m → i ≤ Ls + 4 → INV mi mj g → ∃ mi' mj' g', zRun 0 18 [some (.ref 0), some (.ref 1), some (.ref 148), some (.int (zi i))] [] (SH Ls) mi mj (RF g) = some (some (.int (zi 1)), SH Ls, mi', mj', RF g') := by
  have hsub : ∀ i, i ≤ 3000 → (zi Ls - zi 4 < zi i) = (Ls < i + 4) := fun i hi => by
    have e1 := zi_toInt (a := Ls) (by omega)
    have e2 := zi_toInt (a := 4) (by omega)
    have e3 := zi_toInt (a := i) (by omega)
    rw [Int32.lt_iff_toInt_lt, Kit.i32_sub (by rw [e1, e2]; omega) (by rw [e1, e2]; omega), e1, e2, e3]
    exact propext ⟨fun h => by omega, fun h => by omega⟩
  induction m with
  | zero =>
    intro i mi mj g h1 h2 h
    have c := hsub i (by omega)
    have c2 : (zi Ls - zi 4 < zi i) = True := by rw [c]; exact eq_true (by omega)
    refine ⟨mi, mj, g, ?_⟩
    rw [q_0_18]
    simp (disch := (first | exact sh0 | exact zi_in (by omega) (by omega) | (first | with_reducible exact is_1 | with_reducible exact zi_at is_1 (by omega) (by omega) | with_reducible exact is_148 | with_reducible exact zi_at is_148 (by omega) (by omega) | ((with_reducible refine zct_le ?_) <;> exact Nat.le_of_ble_eq_true rfl) | with_reducible exact zh_0 | with_reducible exact zh_1 | with_reducible exact zh_b | omega))) only [q_0_19r, q_0_19n, q_0_20 (n := Ls), q_0_21, q_0_22, q_0_23, q_0_879, q_0_880, vf_s, vf_n, zk2_none, zk2_int, zk2_ref, zk2_null, zk2_long, zct_nil, zct_i, zct_l, zct_r, zct_n, Option.bind_some, Option.toList_some, Option.toList_none, List.cons_append, List.nil_append, zor_l, zor_r, if_true, if_false, ↓reduceIte, zi_lit, zi_of, c2, zi_01r]
  | succ m ih =>
    intro i mi mj g h1 h2 h
    have c := hsub i (by omega)
    by_cases cc : Ls < i + 4
    · have c2 : (zi Ls - zi 4 < zi i) = True := by rw [c]; exact eq_true cc
      refine ⟨mi, mj, g, ?_⟩
      rw [q_0_18]
      simp (disch := (first | exact sh0 | exact zi_in (by omega) (by omega) | (first | with_reducible exact is_1 | with_reducible exact zi_at is_1 (by omega) (by omega) | with_reducible exact is_148 | with_reducible exact zi_at is_148 (by omega) (by omega) | ((with_reducible refine zct_le ?_) <;> exact Nat.le_of_ble_eq_true rfl) | with_reducible exact zh_0 | with_reducible exact zh_1 | with_reducible exact zh_b | omega))) only [q_0_19r, q_0_19n, q_0_20 (n := Ls), q_0_21, q_0_22, q_0_23, q_0_879, q_0_880, vf_s, vf_n, zk2_none, zk2_int, zk2_ref, zk2_null, zk2_long, zct_nil, zct_i, zct_l, zct_r, zct_n, Option.bind_some, Option.toList_some, Option.toList_none, List.cons_append, List.nil_append, zor_l, zor_r, if_true, if_false, ↓reduceIte, zi_lit, zi_of, c2, zi_01r]
    · have c2 : (zi Ls - zi 4 < zi i) = False := by rw [c]; exact eq_false cc
      obtain ⟨mi1, mj1, g1, r1, r2⟩ := t_all (Ls := Ls) (i := i) h (by omega) hL
      obtain ⟨mi2, mj2, g2, t1⟩ := ih (i + 4) mi1 mj1 g1 (by omega) (by omega) r2
      refine ⟨mi2, mj2, g2, ?_⟩
      rw [q_0_18]
      simp (disch := (first | exact sh0 | exact zi_in (by omega) (by omega) | (first | with_reducible exact is_1 | with_reducible exact zi_at is_1 (by omega) (by omega) | with_reducible exact is_148 | with_reducible exact zi_at is_148 (by omega) (by omega) | ((with_reducible refine zct_le ?_) <;> exact Nat.le_of_ble_eq_true rfl) | with_reducible exact zh_0 | with_reducible exact zh_1 | with_reducible exact zh_b | omega))) only [q_0_19r, q_0_19n, q_0_20 (n := Ls), q_0_21, q_0_22, q_0_23, vf_s, vf_n, zk2_none, zk2_int, zk2_ref, zk2_null, zk2_long, zct_nil, zct_i, zct_l, zct_r, zct_n, Option.bind_some, Option.toList_some, Option.toList_none, List.cons_append, List.nil_append, zor_l, zor_r, if_true, if_false, ↓reduceIte, zi_lit, zi_of, c2]
      rw [r1, t1]
end
