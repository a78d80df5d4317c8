/-! ===== calls (4): sample, compare ===== -/
def plc (a b w : Int32) : Int32 := if w = zi 0 then a else if w = zi 1 then b else if w = zi 2 then (a + b) >>> (zi 1 &&& zi 31) else (zi 3 * a + b) >>> (zi 2 &&& zi 31)
def spv (lo hi : Nat → Int32) (y : Int32) (k : Nat) : Int32 := plc (lo k) (hi k) ((y >>> (zi (2 * k) &&& zi 31)) &&& zi 3)
theorem and3 (x : Int32) : ∃ p, p < 4 ∧ x &&& zi 3 = zi p := by
  refine ⟨(x.toBitVec &&& 3#32).toNat, ?_, ?_⟩
  · have : (x.toBitVec &&& 3#32).toNat = x.toBitVec.toNat &&& 3 := BitVec.toNat_and _ _
    rw [this]
    have := Nat.and_le_right (n := x.toBitVec.toNat) (m := 3)
    omega
  · refine Int32.toBitVec_inj.mp ?_
    show x.toBitVec &&& 3#32 = BitVec.ofNat 32 _
    rw [BitVec.ofNat_toNat, BitVec.setWidth_eq]
theorem plc_in {a b w : Int32} (h1 : -100000 ≤ a.toInt) (h2 : a.toInt ≤ b.toInt) (h3 : b.toInt ≤ 100000) : a.toInt ≤ (plc a b w).toInt ∧ (plc a b w).toInt ≤ b.toInt := by
  have k3 : (zi 3).toInt = 3 := by decide
  have e1 : (a + b).toInt = a.toInt + b.toInt := Kit.i32_add (by omega) (by omega)
  have e2 : ((a + b) >>> (zi 1 &&& zi 31)).toInt = (a + b).toInt / 2 ^ 1 := Kit.i32_shr _ _ (by decide)
  have e3 : (zi 3 * a).toInt = 3 * a.toInt := by rw [Kit.i32_mul (by rw [k3]; omega) (by rw [k3]; omega), k3]
  have e4 : (zi 3 * a + b).toInt = 3 * a.toInt + b.toInt := by rw [Kit.i32_add (by rw [e3]; omega) (by rw [e3]; omega), e3]
  have e5 : ((zi 3 * a + b) >>> (zi 2 &&& zi 31)).toInt = (zi 3 * a + b).toInt / 2 ^ 2 := Kit.i32_shr _ _ (by decide)
  rw [e1] at e2
  rw [e4] at e5
  unfold plc
  split
  · omega
  · split
    · omega
    · split
      · rw [e2]; omega
      · rw [e5]; omega
theorem spv_in {lo hi : Nat → Int32} {y : Int32} (h : boxIn lo hi) : boxIn (spv lo hi y) (spv lo hi y) := by
  intro k hk
  obtain ⟨h1, h2, h3⟩ := h k hk
  have := plc_in (w := (y >>> (zi (2 * k) &&& zi 31)) &&& zi 3) h1 h2 h3
  have e : spv lo hi y k = plc (lo k) (hi k) ((y >>> (zi (2 * k) &&& zi 31)) &&& zi 3) := rfl
  rw [e]
  omega
section
variable {Ls : Nat} {g : Nat → Nat} {mi mi' : zI} {mj mj' : zJ} {x y z : Int32} {a b e n p q k c m u e' N M : Nat} {v w : Value} {lo hi lo' hi' : Nat → Int32} {NN : Nat → Nat} {KK : Nat → Nat → Nat} {VV : Nat → Nat → Int32} {T : En} {o : Nat} {K : Nat → Nat}
theorem bx105 : zBx 105 := by simp [zBx]
theorem m_6 (ho : zBx o) (hk : k < 4) (hp : p < 4) : zCall 6 [.ref o, .int (zi k), .int (zi p)] (SH Ls) mi mj (RF g) = some (some (.int (plc (mi (o + 1) k) (mi (o + 2) k) (zi p))), SH Ls, mi, mj, RF g) := by
  rcases (show p = 0 ∨ p = 1 ∨ p = 2 ∨ p = 3 by omega) with rfl | rfl | rfl | rfl
  · simp (disch := (first | with_reducible exact (zBx_is ho) | with_reducible exact zi_at (zBx_is ho) (by omega) (by omega) | with_reducible exact (zBx_i1 ho) | with_reducible exact zi_at (zBx_i1 ho) (by omega) (by omega) | with_reducible exact (zBx_i2 ho) | with_reducible exact zi_at (zBx_i2 ho) (by omega) (by omega) | ((with_reducible refine zct_le ?_) <;> exact Nat.le_of_ble_eq_true rfl) | with_reducible exact zh_0 | with_reducible exact zh_1 | with_reducible exact zh_b | omega)) only [e_6, q_6_0, q_6_1, q_6_28r, q_6_28n, q_6_29, q_6_32, q_6_33, q_6_34, q_6_35r, q_6_35n, q_6_36, q_6_39, q_6_40, q_6_41, q_6_42r, q_6_42n, q_6_43, q_6_44, q_6_47, q_6_48, q_6_49r, q_6_49n, q_6_50, q_6_53, q_6_54, q_6_55, q_6_56r, q_6_56n, q_6_57, q_6_60, q_6_61, q_6_62, q_6_63, q_6_64, q_6_65, vf_s, vf_n, zk2_none, zk2_int, zk2_ref, zk2_null, zk2_long, zct_nil, zct_i, zct_l, zct_r, zct_n, Option.bind_some, Option.toList_some, Option.toList_none, List.cons_append, List.nil_append, zor_l, zor_r, if_true, if_false, ↓reduceIte, zi_lit, zi_of, zi_add, zi_mul, zi_sub, zi_nat, zi_leT, zi_leF, zi_ltT, zi_ltF, zi_eqT, zi_eqF, zif_0z, zif_bz, zi_01l, zi_01r, not_true_eq_false, not_false_eq_true, Nat.reduceAdd, Nat.reduceMul, Nat.reduceSub, zBx_r0 ho, zBx_r1 ho]
    rfl
  · simp (disch := (first | with_reducible exact (zBx_is ho) | with_reducible exact zi_at (zBx_is ho) (by omega) (by omega) | with_reducible exact (zBx_i1 ho) | with_reducible exact zi_at (zBx_i1 ho) (by omega) (by omega) | with_reducible exact (zBx_i2 ho) | with_reducible exact zi_at (zBx_i2 ho) (by omega) (by omega) | ((with_reducible refine zct_le ?_) <;> exact Nat.le_of_ble_eq_true rfl) | with_reducible exact zh_0 | with_reducible exact zh_1 | with_reducible exact zh_b | omega)) only [e_6, q_6_0, q_6_1, q_6_28r, q_6_28n, q_6_29, q_6_32, q_6_33, q_6_34, q_6_35r, q_6_35n, q_6_36, q_6_39, q_6_40, q_6_41, q_6_42r, q_6_42n, q_6_43, q_6_44, q_6_47, q_6_48, q_6_49r, q_6_49n, q_6_50, q_6_53, q_6_54, q_6_55, q_6_56r, q_6_56n, q_6_57, q_6_60, q_6_61, q_6_62, q_6_63, q_6_64, q_6_65, vf_s, vf_n, zk2_none, zk2_int, zk2_ref, zk2_null, zk2_long, zct_nil, zct_i, zct_l, zct_r, zct_n, Option.bind_some, Option.toList_some, Option.toList_none, List.cons_append, List.nil_append, zor_l, zor_r, if_true, if_false, ↓reduceIte, zi_lit, zi_of, zi_add, zi_mul, zi_sub, zi_nat, zi_leT, zi_leF, zi_ltT, zi_ltF, zi_eqT, zi_eqF, zif_0z, zif_bz, zi_01l, zi_01r, not_true_eq_false, not_false_eq_true, Nat.reduceAdd, Nat.reduceMul, Nat.reduceSub, zBx_r0 ho, zBx_r1 ho]
    rfl
  · simp (disch := (first | with_reducible exact (zBx_is ho) | with_reducible exact zi_at (zBx_is ho) (by omega) (by omega) | with_reducible exact (zBx_i1 ho) | with_reducible exact zi_at (zBx_i1 ho) (by omega) (by omega) | with_reducible exact (zBx_i2 ho) | with_reducible exact zi_at (zBx_i2 ho) (by omega) (by omega) | ((with_reducible refine zct_le ?_) <;> exact Nat.le_of_ble_eq_true rfl) | with_reducible exact zh_0 | with_reducible exact zh_1 | with_reducible exact zh_b | omega)) only [e_6, q_6_0, q_6_1, q_6_28r, q_6_28n, q_6_29, q_6_32, q_6_33, q_6_34, q_6_35r, q_6_35n, q_6_36, q_6_39, q_6_40, q_6_41, q_6_42r, q_6_42n, q_6_43, q_6_44, q_6_47, q_6_48, q_6_49r, q_6_49n, q_6_50, q_6_53, q_6_54, q_6_55, q_6_56r, q_6_56n, q_6_57, q_6_60, q_6_61, q_6_62, q_6_63, q_6_64, q_6_65, vf_s, vf_n, zk2_none, zk2_int, zk2_ref, zk2_null, zk2_long, zct_nil, zct_i, zct_l, zct_r, zct_n, Option.bind_some, Option.toList_some, Option.toList_none, List.cons_append, List.nil_append, zor_l, zor_r, if_true, if_false, ↓reduceIte, zi_lit, zi_of, zi_add, zi_mul, zi_sub, zi_nat, zi_leT, zi_leF, zi_ltT, zi_ltF, zi_eqT, zi_eqF, zif_0z, zif_bz, zi_01l, zi_01r, not_true_eq_false, not_false_eq_true, Nat.reduceAdd, Nat.reduceMul, Nat.reduceSub, zBx_r0 ho, zBx_r1 ho, m_5 ho (zi_in (by omega) (by omega) : zin (zi k) 4 = true), zi_nat]
    rfl
  · simp (disch := (first | with_reducible exact (zBx_is ho) | with_reducible exact zi_at (zBx_is ho) (by omega) (by omega) | with_reducible exact (zBx_i1 ho) | with_reducible exact zi_at (zBx_i1 ho) (by omega) (by omega) | with_reducible exact (zBx_i2 ho) | with_reducible exact zi_at (zBx_i2 ho) (by omega) (by omega) | ((with_reducible refine zct_le ?_) <;> exact Nat.le_of_ble_eq_true rfl) | with_reducible exact zh_0 | with_reducible exact zh_1 | with_reducible exact zh_b | omega)) only [e_6, q_6_0, q_6_1, q_6_28r, q_6_28n, q_6_29, q_6_32, q_6_33, q_6_34, q_6_35r, q_6_35n, q_6_36, q_6_39, q_6_40, q_6_41, q_6_42r, q_6_42n, q_6_43, q_6_44, q_6_47, q_6_48, q_6_49r, q_6_49n, q_6_50, q_6_53, q_6_54, q_6_55, q_6_56r, q_6_56n, q_6_57, q_6_60, q_6_61, q_6_62, q_6_63, q_6_64, q_6_65, vf_s, vf_n, zk2_none, zk2_int, zk2_ref, zk2_null, zk2_long, zct_nil, zct_i, zct_l, zct_r, zct_n, Option.bind_some, Option.toList_some, Option.toList_none, List.cons_append, List.nil_append, zor_l, zor_r, if_true, if_false, ↓reduceIte, zi_lit, zi_of, zi_add, zi_mul, zi_sub, zi_nat, zi_leT, zi_leF, zi_ltT, zi_ltF, zi_eqT, zi_eqF, zif_0z, zif_bz, zi_01l, zi_01r, not_true_eq_false, not_false_eq_true, Nat.reduceAdd, Nat.reduceMul, Nat.reduceSub, zBx_r0 ho, zBx_r1 ho]
    rfl
theorem l_94 (h5 : ∀ k, k < 4 → mi 5 k = lo k ∧ mi 6 k = hi k) (n : Nat) : ∀ k, k + n = 4 → ∀ mi1 : zI, (∀ a, ¬ a = 106 → ¬ a = 107 → mi1 a = mi a) → (∀ j, j < k → mi1 106 j = spv lo hi y j ∧ mi1 107 j = spv lo hi y j) → ∀ l1 l3 l6, ∃ mi2 l6', zRun 94 44 [some (.ref 1), l1, some (.int y), l3, some (.ref o), some (.int (zi k)), l6] [] (SH Ls) mi1 mj (RF g) = zRun 94 91 [some (.ref 1), l1, some (.int y), l3, some (.ref o), some (.int (zi 4)), l6'] [] (SH Ls) mi2 mj (RF g) ∧ (∀ a, ¬ a = 106 → ¬ a = 107 → mi2 a = mi a) ∧ (∀ j, j < 4 → mi2 106 j = spv lo hi y j ∧ mi2 107 j = spv lo hi y j) := by
  induction n with
  | zero =>
    intro k hk mi1 h1 h2 l1 l3 l6
    obtain rfl : k = 4 := by omega
    refine ⟨mi1, l6, ?_, h1, h2⟩
    rw [q_94_44]
    simp (disch := (first | ((with_reducible refine zct_le ?_) <;> exact Nat.le_of_ble_eq_true rfl) | with_reducible exact zh_0 | with_reducible exact zh_1 | with_reducible exact zh_b | omega)) only [q_94_46, q_94_47, q_94_50r, q_94_50n, q_94_51, q_94_54, q_94_57, q_94_59, q_94_60, q_94_61, q_94_63, q_94_64, q_94_65, q_94_66, q_94_67, q_94_70, q_94_72r, q_94_72n, q_94_73, q_94_76, q_94_78, q_94_80, q_94_82, q_94_85, q_94_88, vf_s, vf_n, zk2_none, zk2_int, zk2_ref, zk2_null, zk2_long, zct_nil, zct_i, zct_l, zct_r, zct_n, Option.bind_some, Option.toList_some, Option.toList_none, List.cons_append, List.nil_append, zor_l, zor_r, if_true, if_false, ↓reduceIte, zi_lit, zi_of, zi_add, zi_mul, zi_sub, zi_nat, zi_leT, zi_leF, zi_ltT, zi_ltF, zi_eqT, zi_eqF, zif_0z, zif_bz, zi_01l, zi_01r, not_true_eq_false, not_false_eq_true, Nat.reduceAdd, Nat.reduceMul, Nat.reduceSub]
  | succ n ih =>
    intro k hk mi1 h1 h2 l1 l3 l6
    obtain ⟨p, hp, ep⟩ := and3 (y >>> (zi (2 * k) &&& zi 31))
    have m6 := m_6 (Ls := Ls) (mi := mi1) (mj := mj) (g := g) (k := k) bx4 (show k < 4 by omega) hp
    have e5 : spv lo hi y k = plc (lo k) (hi k) (zi p) := by rw [← ep]; rfl
    rw [h1 5 (by omega) (by omega), h1 6 (by omega) (by omega), (h5 k (by omega)).1, (h5 k (by omega)).2, ← e5] at m6
    have m2 := m_2 (Ls := Ls) (mi := mi1) (mj := mj) (g := g) (o := 105) (y := spv lo hi y k) (z := spv lo hi y k) (x := zi k) bx105 (zi_in (by omega) (by omega))
    rw [zi_nat (by omega)] at m2
    obtain ⟨mi2, l6', r1, r2, r3⟩ := ih (k + 1) (by omega) (zup (zup mi1 106 k (spv lo hi y k)) 107 k (spv lo hi y k)) (fun a q1 q2 => by rw [zup_ne q2, zup_ne q1, h1 a q1 q2]) (fun j hj => by
      by_cases c : j = k
      · subst c; simp (disch := omega) only [zg_s, zg_o, zg_j, zg_r, zg_ro, zg_d, yfl_o, and_self]
      · simp (disch := omega) only [zg_s, zg_o, zg_j, zg_r, zg_ro, zg_d, yfl_o]; exact h2 j (by omega)) l1 l3 (some (.int (spv lo hi y k)))
    refine ⟨mi2, l6', ?_, r2, r3⟩
    rw [q_94_44]
    simp (disch := (first | with_reducible exact is_1 | with_reducible exact zi_at is_1 (by omega) (by omega) | with_reducible exact is_3 | with_reducible exact zi_at is_3 (by omega) (by omega) | with_reducible exact is_4 | with_reducible exact zi_at is_4 (by omega) (by omega) | with_reducible exact (zBx_is bx105) | with_reducible exact zi_at (zBx_is bx105) (by omega) (by omega) | ((with_reducible refine zct_le ?_) <;> exact Nat.le_of_ble_eq_true rfl) | with_reducible exact zh_0 | with_reducible exact zh_1 | with_reducible exact zh_b | omega)) only [q_94_46, q_94_47, q_94_50r, q_94_50n, q_94_51, q_94_54, q_94_57, q_94_59, q_94_60, q_94_61, q_94_63, q_94_64, q_94_65, q_94_66, q_94_67, q_94_70, q_94_72r, q_94_72n, q_94_73, q_94_76, q_94_78, q_94_80, q_94_82, q_94_85, q_94_88, vf_s, vf_n, zk2_none, zk2_int, zk2_ref, zk2_null, zk2_long, zct_nil, zct_i, zct_l, zct_r, zct_n, Option.bind_some, Option.toList_some, Option.toList_none, List.cons_append, List.nil_append, zor_l, zor_r, if_true, if_false, ↓reduceIte, zi_lit, zi_of, zi_add, zi_mul, zi_sub, zi_nat, zi_leT, zi_leF, zi_ltT, zi_ltF, zi_eqT, zi_eqF, zif_0z, zif_bz, zi_01l, zi_01r, not_true_eq_false, not_false_eq_true, Nat.reduceAdd, Nat.reduceMul, Nat.reduceSub, rf_1_2, rf_3_0, rf_1_10, ep, m6, m2]
    exact r1
theorem s_94 (h : ST mi g lo hi u NN KK VV) (he : e < 4) (hn : 0 < NN e) (ha : a ≤ 255) (hb : b ≤ 1) : Qr Ls 94 [.int (zi e), .int (zi a), .int (zi b)] (.long (trV (topE (spv lo hi (zi a)) (spv lo hi (zi a)) u (KK e) (VV e) (NN e)) b)) mi mj g := by
  have hsp := sp_e he
  obtain ⟨e1, e3, e4, e5⟩ := ex_yes (Ls := Ls) h he hn
  obtain ⟨mi1, l6', r0, f1, f2⟩ := l_94 (Ls := Ls) (g := g) (mi := mi) (mj := mj) (lo := lo) (hi := hi) (y := zi a) (o := 8 + 3 * e) (fun k hk => h.2.2.2.1 k hk) 4 0 rfl mi (fun _ _ _ => rfl) (fun j hj => by omega) (some (.int (zi e))) (some (.int (zi b))) none
  have hf1 := Kp.two (by omega) (by omega) f1
  have hs1 := h.kp hf1 h.1
  obtain ⟨mi2, mj2, g2, o, r1, r2, r3, r4, r5⟩ := ce_ev (Ls := Ls) (mj := mj) (m := NN e) hs1.2 h.1 he hn (by omega) (by omega) bx105 (fun k hk => (f2 k hk).1) (fun k hk => (f2 k hk).2) (spv_in h.2.1)
  have q5 : mi1 3 2 = zi u := by rw [f1 3 (by omega) (by omega), e5]
  have q3 : mi1 (8 + 3 * e) 2 = zi (NN e) := by rw [f1 (8 + 3 * e) (by omega) (by omega), e3]
  generalize topE (spv lo hi (zi a)) (spv lo hi (zi a)) u (KK e) (VV e) (NN e) = T at r4
  have hs109 := m_109i (Ls := Ls) (g := g) (mi := mi) (mj := mj) hb
  refine ⟨mi2, mj2, g2, ?_, hf1.tr r5.k, r2⟩
  unfold trV
  rcases (show b = 0 ∨ b = 1 by omega) with rfl | rfl
  · have m106 := m_106l (Ls := Ls) (g := g2) r3 r4
    simp (disch := (first | with_reducible exact is_1 | with_reducible exact zi_at is_1 (by omega) (by omega) | with_reducible exact is_3 | with_reducible exact zi_at is_3 (by omega) (by omega) | with_reducible exact is_27 | with_reducible exact zi_at is_27 (by omega) (by omega) | with_reducible exact (zSp_is hsp) | with_reducible exact zi_at (zSp_is hsp) (by omega) (by omega) | ((with_reducible refine zct_le ?_) <;> exact Nat.le_of_ble_eq_true rfl) | with_reducible exact zh_0 | with_reducible exact zh_1 | with_reducible exact zh_b | omega)) only [e_94, q_94_0r, q_94_0n, q_94_1, q_94_2, q_94_5r, q_94_5n, q_94_7r, q_94_7n, q_94_9n, q_94_9r, q_94_12, q_94_13, q_94_16, q_94_17, q_94_18, q_94_21, q_94_22, q_94_25, q_94_28, q_94_29, q_94_32, q_94_35, q_94_37, q_94_40, q_94_41, q_94_42, vf_s, vf_n, zk2_none, zk2_int, zk2_ref, zk2_null, zk2_long, zct_nil, zct_i, zct_l, zct_r, zct_n, Option.bind_some, Option.toList_some, Option.toList_none, List.cons_append, List.nil_append, zor_l, zor_r, if_true, if_false, ↓reduceIte, zi_lit, zi_of, zi_add, zi_mul, zi_sub, zi_nat, zi_leT, zi_leF, zi_ltT, zi_ltF, zi_eqT, zi_eqF, zif_0z, zif_bz, zi_01l, zi_01r, not_true_eq_false, not_false_eq_true, Nat.reduceAdd, Nat.reduceMul, Nat.reduceSub, e1, hs109]
    rw [r0]
    simp (disch := (first | with_reducible exact is_1 | with_reducible exact zi_at is_1 (by omega) (by omega) | with_reducible exact is_3 | with_reducible exact zi_at is_3 (by omega) (by omega) | with_reducible exact is_27 | with_reducible exact zi_at is_27 (by omega) (by omega) | with_reducible exact (zSp_is hsp) | with_reducible exact zi_at (zSp_is hsp) (by omega) (by omega) | ((with_reducible refine zct_le ?_) <;> exact Nat.le_of_ble_eq_true rfl) | with_reducible exact zh_0 | with_reducible exact zh_1 | with_reducible exact zh_b | omega)) only [q_94_91r, q_94_91n, q_94_92, q_94_95r, q_94_95n, q_94_97r, q_94_97n, q_94_99, q_94_102r, q_94_102n, q_94_103, q_94_106r, q_94_106n, q_94_107, q_94_110, q_94_113, q_94_116, q_94_117, q_94_120, vf_s, vf_n, zk2_none, zk2_int, zk2_ref, zk2_null, zk2_long, zct_nil, zct_i, zct_l, zct_r, zct_n, Option.bind_some, Option.toList_some, Option.toList_none, List.cons_append, List.nil_append, zor_l, zor_r, if_true, if_false, ↓reduceIte, zi_lit, zi_of, zi_add, zi_mul, zi_sub, zi_nat, zi_leT, zi_leF, zi_ltT, zi_ltF, zi_eqT, zi_eqF, zif_0z, zif_bz, zi_01l, zi_01r, not_true_eq_false, not_false_eq_true, Nat.reduceAdd, Nat.reduceMul, Nat.reduceSub, rf_1_2, rf_1_6, rf_1_10, rf_3_0, q3, q5, r1, m106]
    rfl
  · have m106 := m_106h (Ls := Ls) (g := g2) r3 r4
    simp (disch := (first | with_reducible exact is_1 | with_reducible exact zi_at is_1 (by omega) (by omega) | with_reducible exact is_3 | with_reducible exact zi_at is_3 (by omega) (by omega) | with_reducible exact is_27 | with_reducible exact zi_at is_27 (by omega) (by omega) | with_reducible exact (zSp_is hsp) | with_reducible exact zi_at (zSp_is hsp) (by omega) (by omega) | ((with_reducible refine zct_le ?_) <;> exact Nat.le_of_ble_eq_true rfl) | with_reducible exact zh_0 | with_reducible exact zh_1 | with_reducible exact zh_b | omega)) only [e_94, q_94_0r, q_94_0n, q_94_1, q_94_2, q_94_5r, q_94_5n, q_94_7r, q_94_7n, q_94_9n, q_94_9r, q_94_12, q_94_13, q_94_16, q_94_17, q_94_18, q_94_21, q_94_22, q_94_25, q_94_28, q_94_29, q_94_32, q_94_35, q_94_37, q_94_40, q_94_41, q_94_42, vf_s, vf_n, zk2_none, zk2_int, zk2_ref, zk2_null, zk2_long, zct_nil, zct_i, zct_l, zct_r, zct_n, Option.bind_some, Option.toList_some, Option.toList_none, List.cons_append, List.nil_append, zor_l, zor_r, if_true, if_false, ↓reduceIte, zi_lit, zi_of, zi_add, zi_mul, zi_sub, zi_nat, zi_leT, zi_leF, zi_ltT, zi_ltF, zi_eqT, zi_eqF, zif_0z, zif_bz, zi_01l, zi_01r, not_true_eq_false, not_false_eq_true, Nat.reduceAdd, Nat.reduceMul, Nat.reduceSub, e1, hs109]
    rw [r0]
    simp (disch := (first | with_reducible exact is_1 | with_reducible exact zi_at is_1 (by omega) (by omega) | with_reducible exact is_3 | with_reducible exact zi_at is_3 (by omega) (by omega) | with_reducible exact is_27 | with_reducible exact zi_at is_27 (by omega) (by omega) | with_reducible exact (zSp_is hsp) | with_reducible exact zi_at (zSp_is hsp) (by omega) (by omega) | ((with_reducible refine zct_le ?_) <;> exact Nat.le_of_ble_eq_true rfl) | with_reducible exact zh_0 | with_reducible exact zh_1 | with_reducible exact zh_b | omega)) only [q_94_91r, q_94_91n, q_94_92, q_94_95r, q_94_95n, q_94_97r, q_94_97n, q_94_99, q_94_102r, q_94_102n, q_94_103, q_94_106r, q_94_106n, q_94_107, q_94_110, q_94_113, q_94_116, q_94_117, q_94_120, vf_s, vf_n, zk2_none, zk2_int, zk2_ref, zk2_null, zk2_long, zct_nil, zct_i, zct_l, zct_r, zct_n, Option.bind_some, Option.toList_some, Option.toList_none, List.cons_append, List.nil_append, zor_l, zor_r, if_true, if_false, ↓reduceIte, zi_lit, zi_of, zi_add, zi_mul, zi_sub, zi_nat, zi_leT, zi_leF, zi_ltT, zi_ltF, zi_eqT, zi_eqF, zif_0z, zif_bz, zi_01l, zi_01r, not_true_eq_false, not_false_eq_true, Nat.reduceAdd, Nat.reduceMul, Nat.reduceSub, rf_1_2, rf_1_6, rf_1_10, rf_3_0, q3, q5, r1, m106]
    rfl
theorem cd_ev (hs : stC mi 3 lo hi u NN KK VV) (hg : gOk g) (he : e < 4) (hn : 0 < NN e) (he2 : e' < 4) (hn2 : 0 < NN e') :
    ∃ mi1 mj1 g1 o', zCall 46 [.ref 27, .ref (8 + 3 * e), .ref (8 + 3 * e'), .ref 4, .int (zi u)] (SH Ls) mi mj (RF g) = some (some (.ref o'), SH Ls, mi1, mj1, RF g1) ∧ gOk g1 ∧ zFm o' ∧ cE mi1 mj1 o' (topE lo hi u (catK (KK e) (KK e') (NN e) (NN e')) (catV (VV e) (VV e') (NN e) (NN e')) (NN e + NN e' + 1)) ∧ FrE mi mj mi1 mj1 := by
  obtain ⟨s1, s2, s3, s4, s6⟩ := hs
  obtain ⟨b1, b2, b4, b5⟩ := s6 e he
  obtain ⟨w1, w2, w3⟩ := b5 hn
  obtain ⟨b1', b2', b4', b5'⟩ := s6 e' he2
  obtain ⟨w1', w2', w3'⟩ := b5' hn2
  obtain ⟨hw, hd⟩ := cat_wf w1 w1' w3 w3'
  have hv := cat_v w2 w2'
  have hO := exOk_of (u := u) s1 s2 hw hv
  obtain ⟨mi1, mj1, g1, r1, r2, r3⟩ := m_46 (Ls := Ls) (mj := mj) (sp_e he) (sp_e he2) b1 b1' hg ⟨s2, bx4, fun k hk => (s3 k hk).1, fun k hk => (s3 k hk).2, hw, hO.2.2⟩ (by rw [show 8 + 3 * e = 3 + 5 + 3 * e by omega]; exact b2) (by rw [show 8 + 3 * e' = 3 + 5 + 3 * e' by omega]; exact b2') (fun k hk => by rw [show 8 + 3 * e + 1 = 3 + 6 + 3 * e by omega, catK_1 hk]; exact (b4 k hk).1) (fun k hk => by rw [show 8 + 3 * e + 2 = 3 + 7 + 3 * e by omega, catV_1 hk]; exact (b4 k hk).2) (fun k hk => by rw [show 8 + 3 * e' + 1 = 3 + 6 + 3 * e' by omega, catK_2 hk]; exact (b4' k hk).1) (fun k hk => by rw [show 8 + 3 * e' + 2 = 3 + 7 + 3 * e' by omega, catV_2 hk]; exact (b4' k hk).2) catK_3 catV_3 (by rw [cat_d1 (Nat.le_refl _), w3]; omega) (by rw [hd]; omega)
  rw [hd] at r1
  refine ⟨mi1, mj1, g1, _, r1, r2.1, (r2.1 _ (by omega)).1, ?_, r3⟩
  have := r2.2.1 0 (by rw [hd]; omega)
  rw [dep_top hd]
  exact this
theorem s_95 (h : ST mi g lo hi u NN KK VV) (he : e < 4) (hn : 0 < NN e) (he' : e' < 4) (hn' : 0 < NN e') : Qr Ls 95 [.int (zi e), .int (zi e')] (.int (cpV (topE lo hi u (catK (KK e) (KK e') (NN e) (NN e')) (catV (VV e) (VV e') (NN e) (NN e')) (NN e + NN e' + 1)))) mi mj g := by
  obtain ⟨e1, e3, e4, e5⟩ := ex_yes (Ls := Ls) h he hn
  obtain ⟨d1, d3, d4, d5⟩ := ex_yes (Ls := Ls) h he' hn'
  obtain ⟨mi1, mj1, g1, o, r1, r2, r3, r4, r5⟩ := cd_ev (Ls := Ls) (mj := mj) h.2 h.1 he hn he' hn'
  generalize topE lo hi u (catK (KK e) (KK e') (NN e) (NN e')) (catV (VV e) (VV e') (NN e) (NN e')) (NN e + NN e' + 1) = T at r4
  refine ⟨mi1, mj1, g1, ?_, r5.k, r2⟩
  unfold cpV
  by_cases c : T.1 = zi 0
  · obtain ⟨s1, s2, s3, s4⟩ := r4.2 c
    have hw : mi1 o 0 = zi 0 := r4.1.trans c
    rw [if_pos c]
    simp (disch := (first | with_reducible exact is_1 | with_reducible exact zi_at is_1 (by omega) (by omega) | with_reducible exact is_3 | with_reducible exact zi_at is_3 (by omega) (by omega) | with_reducible exact is_27 | with_reducible exact zi_at is_27 (by omega) (by omega) | with_reducible exact (zFm_is r3) | with_reducible exact zi_at (zFm_is r3) (by omega) (by omega) | ((with_reducible refine zct_le ?_) <;> exact Nat.le_of_ble_eq_true rfl) | with_reducible exact zh_0 | with_reducible exact zh_1 | with_reducible exact zh_b | omega)) only [e_95, q_95_0r, q_95_0n, q_95_1, q_95_2, q_95_5r, q_95_5n, q_95_6r, q_95_6n, q_95_7, q_95_8, q_95_11r, q_95_11n, q_95_13r, q_95_13n, q_95_14n, q_95_14r, q_95_17r, q_95_17n, q_95_19n, q_95_19r, q_95_22, q_95_23, q_95_24r, q_95_24n, q_95_25, q_95_28r, q_95_28n, q_95_29r, q_95_29n, q_95_31r, q_95_31n, q_95_32, q_95_35, q_95_38r, q_95_38n, q_95_39, q_95_42, q_95_45, q_95_48r, q_95_48n, q_95_50r, q_95_50n, q_95_52, q_95_55, q_95_58, q_95_60, q_95_61r, q_95_61n, q_95_63, q_95_66, q_95_67, q_95_68, q_95_71, q_95_72, q_95_73r, q_95_73n, q_95_75, q_95_78, q_95_79, q_95_80, q_95_83, q_95_84, q_95_85r, q_95_85n, q_95_87, q_95_90, q_95_91, q_95_92, q_95_95r, q_95_95n, q_95_97, q_95_100, q_95_101, q_95_102, q_95_105, q_95_106, q_95_109, q_95_110, vf_s, vf_n, zk2_none, zk2_int, zk2_ref, zk2_null, zk2_long, zct_nil, zct_i, zct_l, zct_r, zct_n, Option.bind_some, Option.toList_some, Option.toList_none, List.cons_append, List.nil_append, zor_l, zor_r, if_true, if_false, ↓reduceIte, zi_lit, zi_of, zi_add, zi_mul, zi_sub, zi_nat, zi_leT, zi_leF, zi_ltT, zi_ltF, zi_eqT, zi_eqF, zif_0z, zif_bz, zi_01l, zi_01r, not_true_eq_false, not_false_eq_true, Nat.reduceAdd, Nat.reduceMul, Nat.reduceSub, rf_1_2, rf_1_6, rf_3_0, e1, d1, e5, r1, hw, s3, s4, ite_not]
    split
    · split
      · split
        · split <;> rfl
        · rfl
      · rfl
    · rfl
  · have hw : ¬ mi1 o 0 = zi 0 := fun q => c (r4.1.symm.trans q)
    rw [if_neg c]
    simp (disch := (first | with_reducible exact is_1 | with_reducible exact zi_at is_1 (by omega) (by omega) | with_reducible exact is_3 | with_reducible exact zi_at is_3 (by omega) (by omega) | with_reducible exact is_27 | with_reducible exact zi_at is_27 (by omega) (by omega) | with_reducible exact (zFm_is r3) | with_reducible exact zi_at (zFm_is r3) (by omega) (by omega) | ((with_reducible refine zct_le ?_) <;> exact Nat.le_of_ble_eq_true rfl) | with_reducible exact zh_0 | with_reducible exact zh_1 | with_reducible exact zh_b | omega)) only [e_95, q_95_0r, q_95_0n, q_95_1, q_95_2, q_95_5r, q_95_5n, q_95_6r, q_95_6n, q_95_7, q_95_8, q_95_11r, q_95_11n, q_95_13r, q_95_13n, q_95_14n, q_95_14r, q_95_17r, q_95_17n, q_95_19n, q_95_19r, q_95_22, q_95_23, q_95_24r, q_95_24n, q_95_25, q_95_28r, q_95_28n, q_95_29r, q_95_29n, q_95_31r, q_95_31n, q_95_32, q_95_35, q_95_38r, q_95_38n, q_95_39, q_95_42, q_95_45, q_95_48r, q_95_48n, q_95_50r, q_95_50n, q_95_52, q_95_55, q_95_58, q_95_60, q_95_61r, q_95_61n, q_95_63, q_95_66, q_95_67, q_95_68, q_95_71, q_95_72, q_95_73r, q_95_73n, q_95_75, q_95_78, q_95_79, q_95_80, q_95_83, q_95_84, q_95_85r, q_95_85n, q_95_87, q_95_90, q_95_91, q_95_92, q_95_95r, q_95_95n, q_95_97, q_95_100, q_95_101, q_95_102, q_95_105, q_95_106, q_95_109, q_95_110, vf_s, vf_n, zk2_none, zk2_int, zk2_ref, zk2_null, zk2_long, zct_nil, zct_i, zct_l, zct_r, zct_n, Option.bind_some, Option.toList_some, Option.toList_none, List.cons_append, List.nil_append, zor_l, zor_r, if_true, if_false, ↓reduceIte, zi_lit, zi_of, zi_add, zi_mul, zi_sub, zi_nat, zi_leT, zi_leF, zi_ltT, zi_ltF, zi_eqT, zi_eqF, zif_0z, zif_bz, zi_01l, zi_01r, not_true_eq_false, not_false_eq_true, Nat.reduceAdd, Nat.reduceMul, Nat.reduceSub, rf_1_2, rf_1_6, rf_3_0, e1, d1, e5, r1, hw]
end
