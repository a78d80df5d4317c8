/-! ===== calls (6): sample, compare ===== -/
def plc (a b w : Int32) : Int32 := if w = zi 0 then a else if w = zi 1 then b else if w = zi 2 then (a + b) >>> (zi 1 &&& zi 31) else (zi 3 * a + b) >>> (zi 2 &&& zi 31)
def spv (lo hi : Nat → Int32) (y : Int32) (k : Nat) : Int32 := plc (lo k) (hi k) ((y >>> (zi (2 * k) &&& zi 31)) &&& zi 3)
theorem and3 (x : Int32) : ∃ p, p < 4 ∧ x &&& zi 3 = zi p := by
  refine ⟨(x.toBitVec &&& 3#32).toNat, ?_, ?_⟩
  · have : (x.toBitVec &&& 3#32).toNat = x.toBitVec.toNat &&& 3 := BitVec.toNat_and _ _
    rw [this]
    have := Nat.and_le_right (n := x.toBitVec.toNat) (m := 3)
    omega
  · refine Int32.toBitVec_inj.mp ?_
    show x.toBitVec &&& 3#32 = BitVec.ofNat 32 _
    rw [BitVec.ofNat_toNat, BitVec.setWidth_eq]
theorem plc_in {a b w : Int32} (h1 : -100000 ≤ a.toInt) (h2 : a.toInt ≤ b.toInt) (h3 : b.toInt ≤ 100000) : a.toInt ≤ (plc a b w).toInt ∧ (plc a b w).toInt ≤ b.toInt := by
  have k3 : (zi 3).toInt = 3 := by decide
  have e1 : (a + b).toInt = a.toInt + b.toInt := Kit.i32_add (by omega) (by omega)
  have e2 : ((a + b) >>> (zi 1 &&& zi 31)).toInt = (a + b).toInt / 2 ^ 1 := Kit.i32_shr _ _ (by decide)
  have e3 : (zi 3 * a).toInt = 3 * a.toInt := by rw [Kit.i32_mul (by rw [k3]; omega) (by rw [k3]; omega), k3]
  have e4 : (zi 3 * a + b).toInt = 3 * a.toInt + b.toInt := by rw [Kit.i32_add (by rw [e3]; omega) (by rw [e3]; omega), e3]
  have e5 : ((zi 3 * a + b) >>> (zi 2 &&& zi 31)).toInt = (zi 3 * a + b).toInt / 2 ^ 2 := Kit.i32_shr _ _ (by decide)
  rw [e1] at e2
  rw [e4] at e5
  unfold plc
  split
  · omega
  · split
    · omega
    · split
      · rw [e2]; omega
      · rw [e5]; omega
theorem spv_in {lo hi : Nat → Int32} {y : Int32} (h : boxIn lo hi) : boxIn (spv lo hi y) (spv lo hi y) := by
  intro k hk
  obtain ⟨h1, h2, h3⟩ := h k hk
  have := plc_in (w := (y >>> (zi (2 * k) &&& zi 31)) &&& zi 3) h1 h2 h3
  have e : spv lo hi y k = plc (lo k) (hi k) ((y >>> (zi (2 * k) &&& zi 31)) &&& zi 3) := rfl
  rw [e]
  omega
def catK (K1 K2 : Nat → Nat) (n1 n2 i : Nat) : Nat := if i < n1 then K1 i else if i < n1 + n2 then K2 (i - n1) else 6
def catV (V1 V2 : Nat → Int32) (n1 n2 i : Nat) : Int32 := if i < n1 then V1 i else if i < n1 + n2 then V2 (i - n1) else zi 0
section
variable {K1 K2 : Nat → Nat} {V1 V2 : Nat → Int32} {n1 n2 i j : Nat}
theorem catK_1 (h : i < n1) : catK K1 K2 n1 n2 i = K1 i := if_pos h
theorem catK_2 (h : i < n2) : catK K1 K2 n1 n2 (n1 + i) = K2 i := by unfold catK; rw [if_neg (by omega), if_pos (by omega), Nat.add_sub_cancel_left]
theorem catK_3 : catK K1 K2 n1 n2 (n1 + n2) = 6 := by unfold catK; rw [if_neg (by omega), if_neg (by omega)]
theorem catV_1 (h : i < n1) : catV V1 V2 n1 n2 i = V1 i := if_pos h
theorem catV_2 (h : i < n2) : catV V1 V2 n1 n2 (n1 + i) = V2 i := by unfold catV; rw [if_neg (by omega), if_pos (by omega), Nat.add_sub_cancel_left]
theorem catV_3 : catV V1 V2 n1 n2 (n1 + n2) = zi 0 := by unfold catV; rw [if_neg (by omega), if_neg (by omega)]
theorem cat_d1 (h : i ≤ n1) : dep (catK K1 K2 n1 n2) i = dep K1 i := dep_ext fun k hk => catK_1 (by omega)
theorem cat_d2 (h : wfX K2 n2) : ∀ j, j ≤ n2 → dep (catK K1 K2 n1 n2) (n1 + j) = dep K1 n1 + dep K2 j := by
  intro j
  induction j with
  | zero => exact fun _ => cat_d1 (Nat.le_refl _)
  | succ j ih =>
    intro hj
    have := (h j (by omega)).2.1
    rw [show n1 + (j + 1) = (n1 + j) + 1 by omega, dep, dep, ih (by omega), catK_2 (by omega)]
    omega
theorem cat_wf (h1 : wfX K1 n1) (h2 : wfX K2 n2) (d1 : dep K1 n1 = 1) (d2 : dep K2 n2 = 1) : wfK (catK K1 K2 n1 n2) (n1 + n2 + 1) ∧ dep (catK K1 K2 n1 n2) (n1 + n2 + 1) = 1 := by
  have dd : dep (catK K1 K2 n1 n2) (n1 + n2) = 2 := by rw [cat_d2 h2 n2 (Nat.le_refl _), d1, d2]
  refine ⟨fun i hi => ?_, by rw [dep, dd, catK_3]; rfl⟩
  by_cases c : i < n1
  · rw [catK_1 c, cat_d1 (by omega)]
    exact h1.wf i c
  · by_cases c2 : i < n1 + n2
    · obtain ⟨j, rfl⟩ : ∃ j, i = n1 + j := ⟨i - n1, by omega⟩
      obtain ⟨a, b, c, d⟩ := h2 j (by omega)
      rw [catK_2 (by omega), cat_d2 h2 j (by omega), d1]
      exact ⟨a, by omega, by omega, fun q => by omega⟩
    · obtain rfl : i = n1 + n2 := by omega
      rw [dd, catK_3]
      exact ⟨by omega, by decide, by decide, fun q => by omega⟩
theorem cat_v (h1 : valIn K1 V1 n1) (h2 : valIn K2 V2 n2) : valIn (catK K1 K2 n1 n2) (catV V1 V2 n1 n2) (n1 + n2 + 1) := by
  intro i hi hk
  by_cases c : i < n1
  · rw [catK_1 c] at hk
    rw [catV_1 c]
    exact h1 i c hk
  · by_cases c2 : i < n1 + n2
    · obtain ⟨j, rfl⟩ : ∃ j, i = n1 + j := ⟨i - n1, by omega⟩
      rw [catK_2 (by omega)] at hk
      rw [catV_2 (by omega)]
      exact h2 j (by omega) hk
    · obtain rfl : i = n1 + n2 := by omega
      rw [catK_3] at hk
      exact absurd hk (by decide)
end
section
variable {Ls : Nat} {g : Nat → Nat} {mi mi' : zI} {mj : zJ} {x y z : Int32} {a b e n p q k c m u e' N M : Nat} {v w : Value} {lo hi lo' hi' : Nat → Int32} {NN : Nat → Nat} {KK : Nat → Nat → Nat} {VV : Nat → Nat → Int32} {T : En} {o : Nat} {K : Nat → Nat}
theorem bx105 : zBx 105 := by simp [zBx]
theorem m_6 (ho : zBx o) (hk : k < 4) (hp : p < 4) : zCall 6 [.ref o, .int (zi k), .int (zi p)] (SH Ls) mi mj (RF g) = some (some (.int (plc (mi (o + 1) k) (mi (o + 2) k) (zi p))), SH Ls, mi, mj, RF g) := by
  rcases (show p = 0 ∨ p = 1 ∨ p = 2 ∨ p = 3 by omega) with rfl | rfl | rfl | rfl
  · simp (disch := (first | with_reducible exact (zBx_is ho) | with_reducible exact zi_at (zBx_is ho) (by omega) (by omega) | with_reducible exact (zBx_i1 ho) | with_reducible exact zi_at (zBx_i1 ho) (by omega) (by omega) | with_reducible exact (zBx_i2 ho) | with_reducible exact zi_at (zBx_i2 ho) (by omega) (by omega) | ((with_reducible refine zct_le ?_) <;> exact Nat.le_of_ble_eq_true rfl) | with_reducible exact zh_0 | with_reducible exact zh_1 | with_reducible exact zh_b | omega)) only [e_6, q_6_0, q_6_1, q_6_28r, q_6_28n, q_6_29, q_6_32, q_6_33, q_6_34, q_6_35r, q_6_35n, q_6_36, q_6_39, q_6_40, q_6_41, q_6_42r, q_6_42n, q_6_43, q_6_44, q_6_47, q_6_48, q_6_49r, q_6_49n, q_6_50, q_6_53, q_6_54, q_6_55, q_6_56r, q_6_56n, q_6_57, q_6_60, q_6_61, q_6_62, q_6_63, q_6_64, q_6_65, vf_s, vf_n, zk2_none, zk2_int, zk2_ref, zk2_null, zk2_long, zct_nil, zct_i, zct_l, zct_r, zct_n, Option.bind_some, Option.toList_some, Option.toList_none, List.cons_append, List.nil_append, zor_l, zor_r, if_true, if_false, ↓reduceIte, zi_lit, zi_of, zi_add, zi_mul, zi_sub, zi_nat, zi_leT, zi_leF, zi_ltT, zi_ltF, zi_eqT, zi_eqF, zif_0z, zif_bz, zi_01l, zi_01r, not_true_eq_false, not_false_eq_true, Nat.reduceAdd, Nat.reduceMul, Nat.reduceSub, zBx_r0 ho, zBx_r1 ho]
    rfl
  · simp (disch := (first | with_reducible exact (zBx_is ho) | with_reducible exact zi_at (zBx_is ho) (by omega) (by omega) | with_reducible exact (zBx_i1 ho) | with_reducible exact zi_at (zBx_i1 ho) (by omega) (by omega) | with_reducible exact (zBx_i2 ho) | with_reducible exact zi_at (zBx_i2 ho) (by omega) (by omega) | ((with_reducible refine zct_le ?_) <;> exact Nat.le_of_ble_eq_true rfl) | with_reducible exact zh_0 | with_reducible exact zh_1 | with_reducible exact zh_b | omega)) only [e_6, q_6_0, q_6_1, q_6_28r, q_6_28n, q_6_29, q_6_32, q_6_33, q_6_34, q_6_35r, q_6_35n, q_6_36, q_6_39, q_6_40, q_6_41, q_6_42r, q_6_42n, q_6_43, q_6_44, q_6_47, q_6_48, q_6_49r, q_6_49n, q_6_50, q_6_53, q_6_54, q_6_55, q_6_56r, q_6_56n, q_6_57, q_6_60, q_6_61, q_6_62, q_6_63, q_6_64, q_6_65, vf_s, vf_n, zk2_none, zk2_int, zk2_ref, zk2_null, zk2_long, zct_nil, zct_i, zct_l, zct_r, zct_n, Option.bind_some, Option.toList_some, Option.toList_none, List.cons_append, List.nil_append, zor_l, zor_r, if_true, if_false, ↓reduceIte, zi_lit, zi_of, zi_add, zi_mul, zi_sub, zi_nat, zi_leT, zi_leF, zi_ltT, zi_ltF, zi_eqT, zi_eqF, zif_0z, zif_bz, zi_01l, zi_01r, not_true_eq_false, not_false_eq_true, Nat.reduceAdd, Nat.reduceMul, Nat.reduceSub, zBx_r0 ho, zBx_r1 ho]
    rfl
  · simp (disch := (first | with_reducible exact (zBx_is ho) | with_reducible exact zi_at (zBx_is ho) (by omega) (by omega) | with_reducible exact (zBx_i1 ho) | with_reducible exact zi_at (zBx_i1 ho) (by omega) (by omega) | with_reducible exact (zBx_i2 ho) | with_reducible exact zi_at (zBx_i2 ho) (by omega) (by omega) | ((with_reducible refine zct_le ?_) <;> exact Nat.le_of_ble_eq_true rfl) | with_reducible exact zh_0 | with_reducible exact zh_1 | with_reducible exact zh_b | omega)) only [e_6, q_6_0, q_6_1, q_6_28r, q_6_28n, q_6_29, q_6_32, q_6_33, q_6_34, q_6_35r, q_6_35n, q_6_36, q_6_39, q_6_40, q_6_41, q_6_42r, q_6_42n, q_6_43, q_6_44, q_6_47, q_6_48, q_6_49r, q_6_49n, q_6_50, q_6_53, q_6_54, q_6_55, q_6_56r, q_6_56n, q_6_57, q_6_60, q_6_61, q_6_62, q_6_63, q_6_64, q_6_65, vf_s, vf_n, zk2_none, zk2_int, zk2_ref, zk2_null, zk2_long, zct_nil, zct_i, zct_l, zct_r, zct_n, Option.bind_some, Option.toList_some, Option.toList_none, List.cons_append, List.nil_append, zor_l, zor_r, if_true, if_false, ↓reduceIte, zi_lit, zi_of, zi_add, zi_mul, zi_sub, zi_nat, zi_leT, zi_leF, zi_ltT, zi_ltF, zi_eqT, zi_eqF, zif_0z, zif_bz, zi_01l, zi_01r, not_true_eq_false, not_false_eq_true, Nat.reduceAdd, Nat.reduceMul, Nat.reduceSub, zBx_r0 ho, zBx_r1 ho, m_5 ho (zi_in (by omega) (by omega) : zin (zi k) 4 = true), zi_nat]
    rfl
  · simp (disch := (first | with_reducible exact (zBx_is ho) | with_reducible exact zi_at (zBx_is ho) (by omega) (by omega) | with_reducible exact (zBx_i1 ho) | with_reducible exact zi_at (zBx_i1 ho) (by omega) (by omega) | with_reducible exact (zBx_i2 ho) | with_reducible exact zi_at (zBx_i2 ho) (by omega) (by omega) | ((with_reducible refine zct_le ?_) <;> exact Nat.le_of_ble_eq_true rfl) | with_reducible exact zh_0 | with_reducible exact zh_1 | with_reducible exact zh_b | omega)) only [e_6, q_6_0, q_6_1, q_6_28r, q_6_28n, q_6_29, q_6_32, q_6_33, q_6_34, q_6_35r, q_6_35n, q_6_36, q_6_39, q_6_40, q_6_41, q_6_42r, q_6_42n, q_6_43, q_6_44, q_6_47, q_6_48, q_6_49r, q_6_49n, q_6_50, q_6_53, q_6_54, q_6_55, q_6_56r, q_6_56n, q_6_57, q_6_60, q_6_61, q_6_62, q_6_63, q_6_64, q_6_65, vf_s, vf_n, zk2_none, zk2_int, zk2_ref, zk2_null, zk2_long, zct_nil, zct_i, zct_l, zct_r, zct_n, Option.bind_some, Option.toList_some, Option.toList_none, List.cons_append, List.nil_append, zor_l, zor_r, if_true, if_false, ↓reduceIte, zi_lit, zi_of, zi_add, zi_mul, zi_sub, zi_nat, zi_leT, zi_leF, zi_ltT, zi_ltF, zi_eqT, zi_eqF, zif_0z, zif_bz, zi_01l, zi_01r, not_true_eq_false, not_false_eq_true, Nat.reduceAdd, Nat.reduceMul, Nat.reduceSub, zBx_r0 ho, zBx_r1 ho]
    rfl
theorem l_94 (h5 : ∀ k, k < 4 → mi 5 k = lo k ∧ mi 6 k = hi k) (n : Nat) : ∀ k, k + n = 4 → ∀ mi1 : zI, (∀ a, ¬ a = 106 → ¬ a = 107 → mi1 a = mi a) → (∀ j, j < k → mi1 106 j = spv lo hi y j ∧ mi1 107 j = spv lo hi y j) → ∀ l1 l3 l6, ∃ mi2 l6', zRun 94 44 [some (.ref 1), l1, some (.int y), l3, some (.ref o), some (.int (zi k)), l6] [] (SH Ls) mi1 mj (RF g) = zRun 94 91 [some (.ref 1), l1, some (.int y), l3, some (.ref o), some (.int (zi 4)), l6'] [] (SH Ls) mi2 mj (RF g) ∧ (∀ a, ¬ a = 106 → ¬ a = 107 → mi2 a = mi a) ∧ (∀ j, j < 4 → mi2 106 j = spv lo hi y j ∧ mi2 107 j = spv lo hi y j) := by
  induction n with
  | zero =>
    intro k hk mi1 h1 h2 l1 l3 l6
    obtain rfl : k = 4 := by omega
    refine ⟨mi1, l6, ?_, h1, h2⟩
    rw [q_94_44]
    simp (disch := (first | ((with_reducible refine zct_le ?_) <;> exact Nat.le_of_ble_eq_true rfl) | with_reducible exact zh_0 | with_reducible exact zh_1 | with_reducible exact zh_b | omega)) only [q_94_46, q_94_47, q_94_50r, q_94_50n, q_94_51, q_94_54, q_94_57, q_94_59, q_94_60, q_94_61, q_94_63, q_94_64, q_94_65, q_94_66, q_94_67, q_94_70, q_94_72r, q_94_72n, q_94_73, q_94_76, q_94_78, q_94_80, q_94_82, q_94_85, q_94_88, vf_s, vf_n, zk2_none, zk2_int, zk2_ref, zk2_null, zk2_long, zct_nil, zct_i, zct_l, zct_r, zct_n, Option.bind_some, Option.toList_some, Option.toList_none, List.cons_append, List.nil_append, zor_l, zor_r, if_true, if_false, ↓reduceIte, zi_lit, zi_of, zi_add, zi_mul, zi_sub, zi_nat, zi_leT, zi_leF, zi_ltT, zi_ltF, zi_eqT, zi_eqF, zif_0z, zif_bz, zi_01l, zi_01r, not_true_eq_false, not_false_eq_true, Nat.reduceAdd, Nat.reduceMul, Nat.reduceSub]
  | succ n ih =>
    intro k hk mi1 h1 h2 l1 l3 l6
    obtain ⟨p, hp, ep⟩ := and3 (y >>> (zi (2 * k) &&& zi 31))
    have m6 := m_6 (Ls := Ls) (mi := mi1) (mj := mj) (g := g) (k := k) bx4 (show k < 4 by omega) hp
    have e5 : spv lo hi y k = plc (lo k) (hi k) (zi p) := by rw [← ep]; rfl
    rw [h1 5 (by omega) (by omega), h1 6 (by omega) (by omega), (h5 k (by omega)).1, (h5 k (by omega)).2, ← e5] at m6
    have m2 := m_2 (Ls := Ls) (mi := mi1) (mj := mj) (g := g) (o := 105) (y := spv lo hi y k) (z := spv lo hi y k) (x := zi k) bx105 (zi_in (by omega) (by omega))
    rw [zi_nat (by omega)] at m2
    obtain ⟨mi2, l6', r1, r2, r3⟩ := ih (k + 1) (by omega) (zup (zup mi1 106 k (spv lo hi y k)) 107 k (spv lo hi y k)) (fun a q1 q2 => by rw [zup_ne q2, zup_ne q1, h1 a q1 q2]) (fun j hj => by
      by_cases c : j = k
      · subst c; simp (disch := omega) only [zg_s, zg_o, zg_j, zg_r, zg_ro, zg_d, yfl_o, and_self]
      · simp (disch := omega) only [zg_s, zg_o, zg_j, zg_r, zg_ro, zg_d, yfl_o]; exact h2 j (by omega)) l1 l3 (some (.int (spv lo hi y k)))
    refine ⟨mi2, l6', ?_, r2, r3⟩
    rw [q_94_44]
    simp (disch := (first | with_reducible exact is_1 | with_reducible exact zi_at is_1 (by omega) (by omega) | with_reducible exact is_3 | with_reducible exact zi_at is_3 (by omega) (by omega) | with_reducible exact is_4 | with_reducible exact zi_at is_4 (by omega) (by omega) | with_reducible exact (zBx_is bx105) | with_reducible exact zi_at (zBx_is bx105) (by omega) (by omega) | ((with_reducible refine zct_le ?_) <;> exact Nat.le_of_ble_eq_true rfl) | with_reducible exact zh_0 | with_reducible exact zh_1 | with_reducible exact zh_b | omega)) only [q_94_46, q_94_47, q_94_50r, q_94_50n, q_94_51, q_94_54, q_94_57, q_94_59, q_94_60, q_94_61, q_94_63, q_94_64, q_94_65, q_94_66, q_94_67, q_94_70, q_94_72r, q_94_72n, q_94_73, q_94_76, q_94_78, q_94_80, q_94_82, q_94_85, q_94_88, vf_s, vf_n, zk2_none, zk2_int, zk2_ref, zk2_null, zk2_long, zct_nil, zct_i, zct_l, zct_r, zct_n, Option.bind_some, Option.toList_some, Option.toList_none, List.cons_append, List.nil_append, zor_l, zor_r, if_true, if_false, ↓reduceIte, zi_lit, zi_of, zi_add, zi_mul, zi_sub, zi_nat, zi_leT, zi_leF, zi_ltT, zi_ltF, zi_eqT, zi_eqF, zif_0z, zif_bz, zi_01l, zi_01r, not_true_eq_false, not_false_eq_true, Nat.reduceAdd, Nat.reduceMul, Nat.reduceSub, rf_1_2, rf_3_0, rf_1_10, ep, m6, m2]
    exact r1
theorem l_178 (h5 : ∀ k, k < 4 → mi 149 k = lo k ∧ mi 149 (4 + k) = hi k) (n : Nat) : ∀ k, k + n = 4 → ∀ mi1 : zI, (∀ a, ¬ a = 158 → ¬ a = 159 → mi1 a = mi a) → (∀ j, j < k → mi1 158 j = spv lo hi y j ∧ mi1 159 j = spv lo hi y j) → ∀ l1 l5 l6 l7, ∃ mi2 l5' l6' l7', zRun 178 37 [some (.ref 148), l1, some (.int y), some (.int z), some (.int (zi k)), l5, l6, l7] [] (SH Ls) mi1 mj (RF g) = zRun 178 148 [some (.ref 148), l1, some (.int y), some (.int z), some (.int (zi 4)), l5', l6', l7'] [] (SH Ls) mi2 mj (RF g) ∧ (∀ a, ¬ a = 158 → ¬ a = 159 → mi2 a = mi a) ∧ (∀ j, j < 4 → mi2 158 j = spv lo hi y j ∧ mi2 159 j = spv lo hi y j) := by
  induction n with
  | zero =>
    intro k hk mi1 h1 h2 l1 l5 l6 l7
    obtain rfl : k = 4 := by omega
    refine ⟨mi1, l5, l6, l7, ?_, h1, h2⟩
    rw [q_178_37]
    simp (disch := (first | ((with_reducible refine zct_le ?_) <;> exact Nat.le_of_ble_eq_true rfl) | with_reducible exact zh_0 | with_reducible exact zh_1 | with_reducible exact zh_b | omega)) only [q_178_39, q_178_40, q_178_43r, q_178_43n, q_178_44, q_178_47, q_178_48, q_178_50, q_178_51, q_178_52, q_178_54r, q_178_54n, q_178_55, q_178_58, q_178_59, q_178_61, q_178_62, q_178_63, q_178_65, q_178_66, q_178_67, q_178_69, q_178_70, q_178_71, q_178_72, q_178_73, q_178_75r, q_178_75n, q_178_76, q_178_79, q_178_81, q_178_83, q_178_86, q_178_88, q_178_91, q_178_93, q_178_94, q_178_97, q_178_99, q_178_102, q_178_104, q_178_105, q_178_108, q_178_110, q_178_112, q_178_113, q_178_114, q_178_115, q_178_118, q_178_119, q_178_121, q_178_122, q_178_124, q_178_125, q_178_126, q_178_127, q_178_128r, q_178_128n, q_178_129, q_178_132, q_178_134r, q_178_134n, q_178_135, q_178_138, q_178_140, q_178_141, q_178_142, q_178_145, vf_s, vf_n, zk2_none, zk2_int, zk2_ref, zk2_null, zk2_long, zct_nil, zct_i, zct_l, zct_r, zct_n, Option.bind_some, Option.toList_some, Option.toList_none, List.cons_append, List.nil_append, zor_l, zor_r, if_true, if_false, ↓reduceIte, zi_lit, zi_of, zi_add, zi_mul, zi_sub, zi_nat, zi_leT, zi_leF, zi_ltT, zi_ltF, zi_eqT, zi_eqF, zif_0z, zif_bz, zi_01l, zi_01r, not_true_eq_false, not_false_eq_true, Nat.reduceAdd, Nat.reduceMul, Nat.reduceSub]
  | succ n ih =>
    intro k hk mi1 h1 h2 l1 l5 l6 l7
    obtain ⟨p, hp, ep⟩ := and3 (y >>> (zi (2 * k) &&& zi 31))
    have e5 : spv lo hi y k = plc (lo k) (hi k) (zi p) := by rw [← ep]; rfl
    have f149 : mi1 149 = mi 149 := h1 149 (by omega) (by omega)
    have g1 : mi1 149 k = lo k := by rw [f149, (h5 k (by omega)).1]
    have g2 : mi1 149 (4 + k) = hi k := by rw [f149, (h5 k (by omega)).2]
    obtain ⟨mi2, l5', l6', l7', r1, r2, r3⟩ := ih (k + 1) (by omega) (zup (zup mi1 158 k (spv lo hi y k)) 159 k (spv lo hi y k)) (fun a q1 q2 => by rw [zup_ne q2, zup_ne q1, h1 a q1 q2]) (fun j hj => by
      by_cases c : j = k
      · subst c; simp (disch := omega) only [zg_s, zg_o, zg_j, zg_r, zg_ro, zg_d, yfl_o, and_self]
      · simp (disch := omega) only [zg_s, zg_o, zg_j, zg_r, zg_ro, zg_d, yfl_o]; exact h2 j (by omega)) l1 (some (.int (lo k))) (some (.int (hi k))) (some (.int (zi p)))
    refine ⟨mi2, l5', l6', l7', ?_, r2, r3⟩
    rw [q_178_37, ← r1, e5]
    rcases (show p = 0 ∨ p = 1 ∨ p = 2 ∨ p = 3 by omega) with rfl | rfl | rfl | rfl
    all_goals simp (disch := (first | with_reducible exact is_148 | with_reducible exact zi_at is_148 (by omega) (by omega) | with_reducible exact is_149 | with_reducible exact zi_at is_149 (by omega) (by omega) | with_reducible exact is_158 | with_reducible exact zi_at is_158 (by omega) (by omega) | with_reducible exact is_159 | with_reducible exact zi_at is_159 (by omega) (by omega) | ((with_reducible refine zct_le ?_) <;> exact Nat.le_of_ble_eq_true rfl) | with_reducible exact zh_0 | with_reducible exact zh_1 | with_reducible exact zh_b | omega)) only [q_178_39, q_178_40, q_178_43r, q_178_43n, q_178_44, q_178_47, q_178_48, q_178_50, q_178_51, q_178_52, q_178_54r, q_178_54n, q_178_55, q_178_58, q_178_59, q_178_61, q_178_62, q_178_63, q_178_65, q_178_66, q_178_67, q_178_69, q_178_70, q_178_71, q_178_72, q_178_73, q_178_75r, q_178_75n, q_178_76, q_178_79, q_178_81, q_178_83, q_178_86, q_178_88, q_178_91, q_178_93, q_178_94, q_178_97, q_178_99, q_178_102, q_178_104, q_178_105, q_178_108, q_178_110, q_178_112, q_178_113, q_178_114, q_178_115, q_178_118, q_178_119, q_178_121, q_178_122, q_178_124, q_178_125, q_178_126, q_178_127, q_178_128r, q_178_128n, q_178_129, q_178_132, q_178_134r, q_178_134n, q_178_135, q_178_138, q_178_140, q_178_141, q_178_142, q_178_145, vf_s, vf_n, zk2_none, zk2_int, zk2_ref, zk2_null, zk2_long, zct_nil, zct_i, zct_l, zct_r, zct_n, Option.bind_some, Option.toList_some, Option.toList_none, List.cons_append, List.nil_append, zor_l, zor_r, if_true, if_false, ↓reduceIte, zi_lit, zi_of, zi_add, zi_mul, zi_sub, zi_nat, zi_leT, zi_leF, zi_ltT, zi_ltF, zi_eqT, zi_eqF, zif_0z, zif_bz, zi_01l, zi_01r, not_true_eq_false, not_false_eq_true, Nat.reduceAdd, Nat.reduceMul, Nat.reduceSub, zg_s, zg_o, zg_j, zg_r, zg_ro, zg_d, yfl_o, rf_148_0, rf_148_16, rf_148_17, ep, g1, g2, Nat.zero_add, plc]
/-- a second expression beside the first -/
theorem ex_two (hs : stRel mi 3 149 0 lo hi u NN KK VV) (x : Int32) : (∃ e, e < 4 ∧ x = zi e ∧ 0 < NN e) ∨ ((∀ mj', zCall 103 [.ref 1, .int x] (SH Ls) mi mj' (RF g) = some (some .null, SH Ls, mi, mj', RF g)) ∧ ∀ mj', zCall 113 [.ref 148, .int x] (SH Ls) mi mj' (RF g) = some (some (.int (zi 0)), SH Ls, mi, mj', RF g)) := by
  rcases arg3 x 3 (by omega) with ⟨e, he, rfl⟩ | hx
  · have he : e < 4 := by omega
    obtain ⟨b1, b2, b3, b4, b5⟩ := hs.2.2.2.2.2 e he
    rw [Nat.zero_add] at b3
    by_cases c : 0 < NN e
    · exact Or.inl ⟨e, he, rfl, c⟩
    · have c0 : NN e = 0 := by omega
      refine Or.inr ⟨fun mj' => ?_, fun mj' => ?_⟩
      · rw [m_103 he (by rw [show 8 + 3 * e = 3 + 5 + 3 * e by omega]; exact b2) b1, if_pos c0]
      · rw [m_113 he b3 b1, if_pos c0]
  · exact Or.inr ⟨fun _ => m_103x hx, fun _ => m_113x hx⟩
theorem cd_ev (hs : stRel mi 3 149 0 lo hi u NN KK VV) (hg : gOk g) (he : e < 4) (hn : 0 < NN e) (he2 : e' < 4) (hn2 : 0 < NN e') :
    ∃ mi1 mj1 g1 o', zCall 46 [.ref 27, .ref (8 + 3 * e), .ref (8 + 3 * e'), .ref 4, .int (zi u)] (SH Ls) mi mj (RF g) = some (some (.ref o'), SH Ls, mi1, mj1, RF g1) ∧ gOk g1 ∧ zFm o' ∧ cE mi1 mj1 o' (topE lo hi u (catK (KK e) (KK e') (NN e) (NN e')) (catV (VV e) (VV e') (NN e) (NN e')) (NN e + NN e' + 1)) ∧ FrE mi mj mi1 mj1 := by
  obtain ⟨s1, s2, s3, s4, s5, s6⟩ := hs
  obtain ⟨b1, b2, b3, b4, b5⟩ := s6 e he
  obtain ⟨w1, w2, w3⟩ := b5 hn
  obtain ⟨b1', b2', b3', b4', b5'⟩ := s6 e' he2
  obtain ⟨w1', w2', w3'⟩ := b5' hn2
  obtain ⟨hw, hd⟩ := cat_wf w1 w1' w3 w3'
  have hv := cat_v w2 w2'
  have hO := exOk_of (u := u) s1 s2 hw hv
  obtain ⟨mi1, mj1, g1, r1, r2, r3⟩ := m_46 (Ls := Ls) (mj := mj) (sp_e he) (sp_e he2) b1 b1' hg ⟨s2, bx4, fun k hk => (s3 k hk).1, fun k hk => (s3 k hk).2.1, hw, hO.2.2⟩ (by rw [show 8 + 3 * e = 3 + 5 + 3 * e by omega]; exact b2) (by rw [show 8 + 3 * e' = 3 + 5 + 3 * e' by omega]; exact b2') (fun k hk => by rw [show 8 + 3 * e + 1 = 3 + 6 + 3 * e by omega, catK_1 hk]; exact (b4 k hk).1) (fun k hk => by rw [show 8 + 3 * e + 2 = 3 + 7 + 3 * e by omega, catV_1 hk]; exact (b4 k hk).2.1) (fun k hk => by rw [show 8 + 3 * e' + 1 = 3 + 6 + 3 * e' by omega, catK_2 hk]; exact (b4' k hk).1) (fun k hk => by rw [show 8 + 3 * e' + 2 = 3 + 7 + 3 * e' by omega, catV_2 hk]; exact (b4' k hk).2.1) catK_3 catV_3 (by rw [cat_d1 (Nat.le_refl _), w3]; omega) (by rw [hd]; omega)
  rw [hd] at r1
  refine ⟨mi1, mj1, g1, _, r1, r2.1, (r2.1 _ (by omega)).1, ?_, r3⟩
  have := r2.2.1 0 (by rw [hd]; omega)
  rw [dep_top hd]
  exact this
end
