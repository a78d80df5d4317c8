/-! ===== the law: what is refused by a new object ===== -/
theorem km100001 : (-zi 100001).toInt = -100001 := by decide
theorem far_neg {n : Nat} (h : n < 900000) : (-zi 100001 - zi n).toInt < -100000 := by
  have e := zi_toInt (a := n) (by omega)
  rw [Kit.i32_sub (by rw [km100001]; omega) (by rw [km100001]; omega), km100001, e]
  omega
theorem k900000 : ¬ (zi 900000 = 0) := by decide
theorem far_pos {v : Int32} (h : 0 ≤ v.toInt) : 1000000 < (v - v / zi 900000 * zi 900000 + zi 1000001).toInt := by
  have e : v - v / zi 900000 * zi 900000 = zi (v.toInt.toNat % 900000) := rem_zi h (by omega) (by omega)
  have hl : v.toInt.toNat % 900000 < 900000 := Nat.mod_lt _ (by omega)
  have e1 := zi_toInt (a := v.toInt.toNat % 900000) (by omega)
  have e2 : (zi 1000001).toInt = 1000001 := by decide
  rw [e, Kit.i32_add (by omega) (by omega), e1, e2]
  omega
section
variable {Ls : Nat} {g : Nat → Nat} {mi mi' : zI} {mj mj' : zJ} {x y z f : Int32} {a b e n p q k c m u s : Nat} {v w : Int32} {lo hi : Nat → Int32} {NN : Nat → Nat} {KK : Nat → Nat → Nat} {VV : Nat → Nat → Int32}
theorem v_refused (h : ST mi g lo hi u (fun _ => 0) KK VV) (hp : mi 1 1 = zi 0) : ∃ mi', zCall 127 [.ref 1, .int v] (SH Ls) mi mj (RF g) = some (some (.int (zi 1)), SH Ls, mi', mj, RF g) ∧ FrA mi mi' := by
  obtain ⟨mi1, r1, r2⟩ := f_85p (Ls := Ls) (g := g) (mj := mj) hp
  have h1 := h.kp r2.k h.1
  have h0 : ∀ mj', zCall 103 [.ref 1, .int (zi 0)] (SH Ls) mi1 mj' (RF g) = some (some .null, SH Ls, mi1, mj', RF g) := fun mj' => by
    obtain ⟨b1, b2, -, -⟩ := h1.2.2.2.2.2 0 (by omega)
    rw [m_103 (e := 0) (by omega) b2 (by omega), if_pos rfl]
  have hc : zCall 100 [.ref 1, .int (zi 0)] (SH Ls) mi1 mj (RF g) = some (some (.int (zi 0)), SH Ls, mi1, mj, RF g) := s_100e h1
  have key : ∀ f : Int32, (f.toInt < -100000 ∨ 1000000 < f.toInt) → ∀ l1, zRun 127 24 [some (.ref 1), l1, some (.int f)] [] (SH Ls) mi mj (RF g) = some (some (.int (zi 1)), SH Ls, mi1, mj, RF g) := by
    intro f hf l1
    have f3 : f.toInt < 0 ∨ 3 < f.toInt := by omega
    have f1 : f.toInt < 0 ∨ 1 < f.toInt := by omega
    have f8 : f.toInt < 0 ∨ 8 < f.toInt := by omega
    have k0 : (zi 0).toInt = 0 := by decide
    have k1 : (zi 1).toInt = 1 := by decide
    have n0 : ¬ f = zi 0 := fun q => by rw [q, k0] at hf; omega
    have n1 : ¬ f = zi 1 := fun q => by rw [q, k1] at hf; omega
    simp (disch := (first | with_reducible exact is_1 | with_reducible exact zi_at is_1 (by omega) (by omega) | ((with_reducible refine zct_le ?_) <;> exact Nat.le_of_ble_eq_true rfl) | with_reducible exact zh_0 | with_reducible exact zh_1 | with_reducible exact zh_b | omega)) only [q_127_24r, q_127_24n, q_127_25, q_127_26, q_127_27, q_127_28, q_127_31, q_127_32, q_127_35r, q_127_35n, q_127_36, q_127_37, q_127_38, q_127_39, q_127_42, q_127_44, q_127_47r, q_127_47n, q_127_48, q_127_49, q_127_50, q_127_51, q_127_54, q_127_56, q_127_59r, q_127_59n, q_127_60, q_127_61, q_127_62, q_127_65, q_127_66, q_127_69r, q_127_69n, q_127_70, q_127_71, q_127_72, q_127_75, q_127_77, q_127_80r, q_127_80n, q_127_81, q_127_82, q_127_85, q_127_87, q_127_90r, q_127_90n, q_127_91, q_127_92, q_127_95, q_127_97, q_127_100r, q_127_100n, q_127_101, q_127_102, q_127_105, q_127_106, q_127_109r, q_127_109n, q_127_110, q_127_111, q_127_114, q_127_116, q_127_119r, q_127_119n, q_127_120, q_127_121, q_127_122, q_127_123, q_127_126, q_127_127, q_127_130r, q_127_130n, q_127_131, q_127_132, q_127_135, q_127_136, q_127_139r, q_127_139n, q_127_140, q_127_141, q_127_144, q_127_145, q_127_148r, q_127_148n, q_127_149, q_127_150, q_127_151, q_127_152, q_127_155, q_127_158, q_127_159, q_127_162r, q_127_162n, q_127_163, q_127_164, q_127_165, q_127_168, q_127_171, q_127_172, q_127_175r, q_127_175n, q_127_176, q_127_177, q_127_178, q_127_179, q_127_182, q_127_185, q_127_186, q_127_189r, q_127_189n, q_127_190, q_127_191, q_127_194, q_127_195, q_127_198r, q_127_198n, q_127_199, q_127_200, q_127_203, q_127_206, q_127_207, q_127_210r, q_127_210n, q_127_211, q_127_212, q_127_213, q_127_214, q_127_217, q_127_220, q_127_221, q_127_224r, q_127_224n, q_127_225, q_127_226, q_127_227, q_127_230, q_127_231, q_127_234r, q_127_234n, q_127_235, q_127_236, q_127_237, q_127_238, q_127_241, q_127_242, q_127_245r, q_127_245n, q_127_246, q_127_247, q_127_250, q_127_253, q_127_254, q_127_257r, q_127_257n, q_127_258, q_127_259, q_127_260, q_127_261, q_127_264, q_127_267, q_127_268, q_127_271r, q_127_271n, q_127_272, q_127_273, q_127_274, q_127_275, q_127_278, q_127_279, q_127_282r, q_127_282n, q_127_283, q_127_284, q_127_287, q_127_289, q_127_292r, q_127_292n, q_127_293, q_127_294, q_127_297, q_127_299, q_127_302r, q_127_302n, q_127_303, q_127_304, q_127_307, q_127_309, q_127_312r, q_127_312n, q_127_313, q_127_314, q_127_317, q_127_320, q_127_321, q_127_324, q_127_325, vf_s, vf_n, zk2_none, zk2_int, zk2_ref, zk2_null, zk2_long, zct_nil, zct_i, zct_l, zct_r, zct_n, Option.bind_some, Option.toList_some, Option.toList_none, List.cons_append, List.nil_append, zor_l, zor_r, if_true, if_false, ↓reduceIte, zi_lit, zi_of, zi_add, zi_mul, zi_sub, zi_nat, zi_leT, zi_leF, zi_ltT, zi_ltF, zi_eqT, zi_eqF, zif_0z, zif_bz, zi_01l, zi_01r, not_true_eq_false, not_false_eq_true, Nat.reduceAdd, Nat.reduceMul, Nat.reduceSub, f_79 (y := zi 0) (z := zi 0) f3, f_79y (a := 0) (y := f) (z := zi 0) (by omega) (by omega), f_79z (a := 0) (y := zi 0) (z := f) (by omega) (by omega) (by omega) (by omega), f_80 (y := zi 0) f3, f_80y (a := 0) (y := f) (by omega) n0 n1, f_81 f8, f_82 (x := f) (by omega), f_85 f3, r1, f_86 (y := zi 0) (z := zi 0) f3, f_87 f3, f_88 f3, f_89 (y := zi 0) (z := zi 0) f3, f_90 (y := zi 0) f3, f_91 (y := zi 0) (z := zi 0) f3, f_92 f3, f_93 f3, f_94 (y := zi 0) (z := zi 0) f3, f_95 f3 (h0 mj), f_96 (y := zi 0) (z := zi 1) f3, f_97 f8, f_98 (y := zi 0) (z := zi 0) f3, f_99 (y := zi 0) (z := zi 1) f3, f_100 f3, f_101 f1, f_102 f1, hc]
  refine ⟨mi1, ?_, r2⟩
  by_cases c : v < 0
  · have m := m_116 (Ls := Ls) (g := g) (mi := mi) (mj := mj) (v := v) (m := 900000) (by omega) (by omega)
    have hl := upF_lt (v := v) (m := 900000) (by omega)
    have hk := key (-zi 100001 - zi (upF v 900000)) (Or.inl (far_neg hl))
    have c' : ¬ 0 ≤ v := fun q => by rw [Int32.le_iff_toInt_le] at q; rw [Int32.lt_iff_toInt_lt] at c; omega
    have c0 : ¬ zi 0 ≤ v := c'
    simp (disch := (first | ((with_reducible refine zct_le ?_) <;> exact Nat.le_of_ble_eq_true rfl) | with_reducible exact zh_0 | with_reducible exact zh_1 | with_reducible exact zh_b | omega)) only [e_127, q_127_0, q_127_1, q_127_4, q_127_6, q_127_7, q_127_9, q_127_12, q_127_13, q_127_16, q_127_17, q_127_19, q_127_20, q_127_22, q_127_23, vf_s, vf_n, zk2_none, zk2_int, zk2_ref, zk2_null, zk2_long, zct_nil, zct_i, zct_l, zct_r, zct_n, Option.bind_some, Option.toList_some, Option.toList_none, List.cons_append, List.nil_append, zor_l, zor_r, if_true, if_false, ↓reduceIte, zi_lit, zi_of, zi_add, zi_mul, zi_sub, zi_nat, zi_leT, zi_leF, zi_ltT, zi_ltF, zi_eqT, zi_eqF, zif_0z, zif_bz, zi_01l, zi_01r, not_true_eq_false, not_false_eq_true, Nat.reduceAdd, Nat.reduceMul, Nat.reduceSub, c', c0, m, hk]
  · have c' : 0 ≤ v := by rw [Int32.le_iff_toInt_le]; rw [Int32.lt_iff_toInt_lt] at c; omega
    have hv : 0 ≤ v.toInt := by rw [Int32.le_iff_toInt_le] at c'; exact c'
    have hk := key _ (Or.inr (far_pos hv))
    have c0 : zi 0 ≤ v := c'
    simp (disch := (first | with_reducible exact k900000 | with_reducible exact zi_at k900000 (by omega) (by omega) | ((with_reducible refine zct_le ?_) <;> exact Nat.le_of_ble_eq_true rfl) | with_reducible exact zh_0 | with_reducible exact zh_1 | with_reducible exact zh_b | omega)) only [e_127, q_127_0, q_127_1, q_127_4, q_127_6, q_127_7, q_127_9, q_127_12, q_127_13, q_127_16, q_127_17, q_127_19, q_127_20, q_127_22, q_127_23, vf_s, vf_n, zk2_none, zk2_int, zk2_ref, zk2_null, zk2_long, zct_nil, zct_i, zct_l, zct_r, zct_n, Option.bind_some, Option.toList_some, Option.toList_none, List.cons_append, List.nil_append, zor_l, zor_r, if_true, if_false, ↓reduceIte, zi_lit, zi_of, zi_add, zi_mul, zi_sub, zi_nat, zi_leT, zi_leF, zi_ltT, zi_ltF, zi_eqT, zi_eqF, zif_0z, zif_bz, zi_01l, zi_01r, not_true_eq_false, not_false_eq_true, Nat.reduceAdd, Nat.reduceMul, Nat.reduceSub, c', c0, hk]
end
