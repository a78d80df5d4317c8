/-! ===== what stands between two calls ===== -/
section
variable {x : Int32} {a : Nat}
theorem xz_ltT (h : x.toInt < (a : Int)) (ha : a < 2147483648) : (x < zi a) = True := by rw [Int32.lt_iff_toInt_lt, zi_toInt ha]; exact eq_true h
theorem xz_ltF (h : (a : Int) ≤ x.toInt) (ha : a < 2147483648) : (x < zi a) = False := by rw [Int32.lt_iff_toInt_lt, zi_toInt ha]; exact eq_false (by omega)
theorem zx_ltT (h : (a : Int) < x.toInt) (ha : a < 2147483648) : (zi a < x) = True := by rw [Int32.lt_iff_toInt_lt, zi_toInt ha]; exact eq_true h
theorem zx_ltF (h : x.toInt ≤ (a : Int)) (ha : a < 2147483648) : (zi a < x) = False := by rw [Int32.lt_iff_toInt_lt, zi_toInt ha]; exact eq_false (by omega)
theorem xz_leT (h : x.toInt ≤ (a : Int)) (ha : a < 2147483648) : (x ≤ zi a) = True := by rw [Int32.le_iff_toInt_le, zi_toInt ha]; exact eq_true h
theorem xz_leF (h : (a : Int) < x.toInt) (ha : a < 2147483648) : (x ≤ zi a) = False := by rw [Int32.le_iff_toInt_le, zi_toInt ha]; exact eq_false (by omega)
theorem zx_leT (h : (a : Int) ≤ x.toInt) (ha : a < 2147483648) : (zi a ≤ x) = True := by rw [Int32.le_iff_toInt_le, zi_toInt ha]; exact eq_true h
theorem zx_leF (h : x.toInt < (a : Int)) (ha : a < 2147483648) : (zi a ≤ x) = False := by rw [Int32.le_iff_toInt_le, zi_toInt ha]; exact eq_false (by omega)
theorem xz_eqF (h : x.toInt < (a : Int) ∨ (a : Int) < x.toInt) (ha : a < 2147483648) : (x = zi a) = False := by rw [← Int32.toInt_inj, zi_toInt ha]; exact eq_false (by omega)
end
/-- an argument is a place up to n, or it isn't -/
theorem arg3 (x : Int32) (n : Nat) (hn : n < 2147483648) : (∃ a, a ≤ n ∧ x = zi a) ∨ x.toInt < 0 ∨ (n : Int) < x.toInt := by
  rcases Int.lt_or_le x.toInt 0 with h | h
  · exact Or.inr (Or.inl h)
  · rcases Int.lt_or_le (n : Int) x.toInt with h2 | h2
    · exact Or.inr (Or.inr h2)
    · refine Or.inl ⟨x.toInt.toNat, by omega, zi_inj ?_⟩
      rw [zi_toInt (by omega)]
      omega
def exC (mi : zI) (c e n : Nat) (K : Nat → Nat) (V : Nat → Int32) : Prop := n ≤ 60 ∧ mi (c + 5 + 3 * e) 2 = zi n ∧ (∀ k, k < n → mi (c + 6 + 3 * e) k = zi (K k) ∧ mi (c + 7 + 3 * e) k = V k) ∧ (0 < n → exOne K V n)
/-- what a state of the class holds -/
def stC (mi : zI) (c : Nat) (lo hi : Nat → Int32) (u : Nat) (NN : Nat → Nat) (KK : Nat → Nat → Nat) (VV : Nat → Nat → Int32) : Prop := boxIn lo hi ∧ u ≤ 8 ∧ (∀ k, k < 4 → mi (c + 2) k = lo k ∧ mi (c + 3) k = hi k) ∧ mi c 2 = zi u ∧ ∀ e, e < 4 → exC mi c e (NN e) (KK e) (VV e)
/-- what a question leaves alone -/
def Kp (mi mi' : zI) : Prop := ∀ a, a < 22 ∨ (102 ≤ a ∧ a ≤ 104) ∨ (114 ≤ a ∧ a < 148) → mi' a = mi a
theorem Kp.rf {mi : zI} : Kp mi mi := fun _ _ => rfl
theorem Kp.tr {mi mi1 mi2 : zI} (h : Kp mi mi1) (h2 : Kp mi1 mi2) : Kp mi mi2 := fun a ha => (h2 a ha).trans (h a ha)
theorem FrE.k {mi mi' : zI} {mj mj' : zJ} (h : FrE mi mj mi' mj') : Kp mi mi' := fun a ha => h.1 a (by omega)
theorem Kp.two {mi mi' : zI} {p q : Nat} (hp : ¬ (p < 22 ∨ (102 ≤ p ∧ p ≤ 104) ∨ (114 ≤ p ∧ p < 148))) (hq : ¬ (q < 22 ∨ (102 ≤ q ∧ q ≤ 104) ∨ (114 ≤ q ∧ q < 148))) (h : ∀ a, ¬ a = p → ¬ a = q → mi' a = mi a) : Kp mi mi' := fun a ha => h a (by omega) (by omega)
theorem stC.fr {mi mi' : zI} {c u : Nat} {lo hi : Nat → Int32} {NN : Nat → Nat} {KK : Nat → Nat → Nat} {VV : Nat → Nat → Int32} (h : stC mi c lo hi u NN KK VV) (h1 : ∀ a, c ≤ a → a ≤ c + 16 → mi' a = mi a) : stC mi' c lo hi u NN KK VV := by
  obtain ⟨a1, a2, a3, a4, a6⟩ := h
  refine ⟨a1, a2, fun k hk => ?_, by rw [h1 c (by omega) (by omega)]; exact a4, fun e he => ?_⟩
  · rw [h1 (c + 2) (by omega) (by omega), h1 (c + 3) (by omega) (by omega)]; exact a3 k hk
  · obtain ⟨b1, b2, b4, b5⟩ := a6 e he
    refine ⟨b1, by rw [h1 _ (by omega) (by omega)]; exact b2, fun k hk => ?_, b5⟩
    rw [h1 (c + 6 + 3 * e) (by omega) (by omega), h1 (c + 7 + 3 * e) (by omega) (by omega)]
    exact b4 k hk
/-- the object between two calls: its state now -/
def ST (mi : zI) (g : Nat → Nat) (lo hi : Nat → Int32) (u : Nat) (NN : Nat → Nat) (KK : Nat → Nat → Nat) (VV : Nat → Nat → Int32) : Prop := gOk g ∧ stC mi 3 lo hi u NN KK VV
theorem ST.kp {mi mi' : zI} {g g' : Nat → Nat} {u : Nat} {lo hi : Nat → Int32} {NN : Nat → Nat} {KK : Nat → Nat → Nat} {VV : Nat → Nat → Int32} (h : ST mi g lo hi u NN KK VV) (hk : Kp mi mi') (hg : gOk g') : ST mi' g' lo hi u NN KK VV := ⟨hg, h.2.fr fun a _ _ => hk a (by omega)⟩
section
variable {Ls : Nat} {g : Nat → Nat} {mi : zI} {mj : zJ} {x y z : Int32} {a b e n p q k : Nat} {v w : Value} {i1 : Int32} {u1 : Int64}
theorem m_107 : zCall 107 [.int x] (SH Ls) mi mj (RF g) = some (some (.long (-1000000000000000000 + x.toInt64)), SH Ls, mi, mj, RF g) := by
  simp (disch := (first | ((with_reducible refine zct_le ?_) <;> exact Nat.le_of_ble_eq_true rfl) | with_reducible exact zh_0 | with_reducible exact zh_1 | with_reducible exact zh_b | omega)) only [e_107, q_107_0, q_107_3, q_107_4, q_107_5, q_107_6, vf_s, vf_n, zk2_none, zk2_int, zk2_ref, zk2_null, zk2_long, zct_nil, zct_i, zct_l, zct_r, zct_n, Option.bind_some, Option.toList_some, Option.toList_none, List.cons_append, List.nil_append, zor_l, zor_r, if_true, if_false, ↓reduceIte]
theorem m_108 : zCall 108 [.int x] (SH Ls) mi mj (RF g) = some (some (.int (if 0 ≤ x.toInt ∧ x.toInt ≤ 3 then zi 1 else zi 0)), SH Ls, mi, mj, RF g) := by
  rcases arg3 x 3 (by omega) with ⟨a, ha, rfl⟩ | h | h
  · have e := zi_toInt (a := a) (by omega)
    rw [if_pos (by omega)]
    simp (disch := (first | ((with_reducible refine zct_le ?_) <;> exact Nat.le_of_ble_eq_true rfl) | with_reducible exact zh_0 | with_reducible exact zh_1 | with_reducible exact zh_b | omega)) only [e_108, q_108_0, q_108_1, q_108_4, q_108_5, q_108_6, q_108_9, q_108_10, q_108_13, q_108_14, vf_s, vf_n, zk2_none, zk2_int, zk2_ref, zk2_null, zk2_long, zct_nil, zct_i, zct_l, zct_r, zct_n, Option.bind_some, Option.toList_some, Option.toList_none, List.cons_append, List.nil_append, zor_l, zor_r, if_true, if_false, ↓reduceIte, zi_lit, zi_of, zi_add, zi_mul, zi_sub, zi_nat, zi_leT, zi_leF, zi_ltT, zi_ltF, zi_eqT, zi_eqF, zif_0z, zif_bz, zi_01l, zi_01r, not_true_eq_false, not_false_eq_true, Nat.reduceAdd, Nat.reduceMul, Nat.reduceSub]
  · rw [if_neg (by omega)]
    simp (disch := (first | ((with_reducible refine zct_le ?_) <;> exact Nat.le_of_ble_eq_true rfl) | with_reducible exact zh_0 | with_reducible exact zh_1 | with_reducible exact zh_b | omega)) only [e_108, q_108_0, q_108_1, q_108_4, q_108_5, q_108_6, q_108_9, q_108_10, q_108_13, q_108_14, vf_s, vf_n, zk2_none, zk2_int, zk2_ref, zk2_null, zk2_long, zct_nil, zct_i, zct_l, zct_r, zct_n, Option.bind_some, Option.toList_some, Option.toList_none, List.cons_append, List.nil_append, zor_l, zor_r, if_true, if_false, ↓reduceIte, zi_lit, zi_of, zi_add, zi_mul, zi_sub, zi_nat, zi_leT, zi_leF, zi_ltT, zi_ltF, zi_eqT, zi_eqF, zif_0z, zif_bz, zi_01l, zi_01r, not_true_eq_false, not_false_eq_true, Nat.reduceAdd, Nat.reduceMul, Nat.reduceSub, xz_ltT, xz_ltF, zx_ltT, zx_ltF, xz_leT, xz_leF, zx_leT, zx_leF, xz_eqF, and_true, true_and, and_false, false_and, and_self]
  · rw [if_neg (by omega)]
    simp (disch := (first | ((with_reducible refine zct_le ?_) <;> exact Nat.le_of_ble_eq_true rfl) | with_reducible exact zh_0 | with_reducible exact zh_1 | with_reducible exact zh_b | omega)) only [e_108, q_108_0, q_108_1, q_108_4, q_108_5, q_108_6, q_108_9, q_108_10, q_108_13, q_108_14, vf_s, vf_n, zk2_none, zk2_int, zk2_ref, zk2_null, zk2_long, zct_nil, zct_i, zct_l, zct_r, zct_n, Option.bind_some, Option.toList_some, Option.toList_none, List.cons_append, List.nil_append, zor_l, zor_r, if_true, if_false, ↓reduceIte, zi_lit, zi_of, zi_add, zi_mul, zi_sub, zi_nat, zi_leT, zi_leF, zi_ltT, zi_ltF, zi_eqT, zi_eqF, zif_0z, zif_bz, zi_01l, zi_01r, not_true_eq_false, not_false_eq_true, Nat.reduceAdd, Nat.reduceMul, Nat.reduceSub, xz_ltT, xz_ltF, zx_ltT, zx_ltF, xz_leT, xz_leF, zx_leT, zx_leF, xz_eqF, and_true, true_and, and_false, false_and, and_self]
theorem m_109 : zCall 109 [.int x] (SH Ls) mi mj (RF g) = some (some (.int (if x = zi 0 ∨ x = zi 1 then zi 1 else zi 0)), SH Ls, mi, mj, RF g) := by
  simp (disch := (first | ((with_reducible refine zct_le ?_) <;> exact Nat.le_of_ble_eq_true rfl) | with_reducible exact zh_0 | with_reducible exact zh_1 | with_reducible exact zh_b | omega)) only [e_109, q_109_0, q_109_1, q_109_4, q_109_5, q_109_6, q_109_9, q_109_10, q_109_13, q_109_14, vf_s, vf_n, zk2_none, zk2_int, zk2_ref, zk2_null, zk2_long, zct_nil, zct_i, zct_l, zct_r, zct_n, Option.bind_some, Option.toList_some, Option.toList_none, List.cons_append, List.nil_append, zor_l, zor_r, if_true, if_false, ↓reduceIte, zi_lit, zi_of, zi_add, zi_mul, zi_sub, zi_nat, zi_leT, zi_leF, zi_ltT, zi_ltF, zi_eqT, zi_eqF, zif_0z, zif_bz, zi_01l, zi_01r, not_true_eq_false, not_false_eq_true, Nat.reduceAdd, Nat.reduceMul, Nat.reduceSub]
  by_cases h : x = zi 0
  · subst h; simp
  · by_cases h2 : x = zi 1
    · subst h2; simp
    · simp [h, h2]
theorem m_103x (h : x.toInt < 0 ∨ 3 < x.toInt) : zCall 103 [.ref 1, .int x] (SH Ls) mi mj (RF g) = some (some .null, SH Ls, mi, mj, RF g) := by
  rcases h with h | h
  · simp (disch := (first | ((with_reducible refine zct_le ?_) <;> exact Nat.le_of_ble_eq_true rfl) | with_reducible exact zh_0 | with_reducible exact zh_1 | with_reducible exact zh_b | omega)) only [e_103, q_103_0, q_103_1, q_103_4, q_103_5, q_103_6, q_103_9, q_103_10r, q_103_10n, q_103_11r, q_103_11n, q_103_12, q_103_15, q_103_18, q_103_19t7, q_103_19t10, q_103_19t11, q_103_20r, q_103_20n, q_103_21r, q_103_21n, q_103_22, q_103_25, q_103_28r, q_103_28n, q_103_29, q_103_32, q_103_33r, q_103_33n, vf_s, vf_n, zk2_none, zk2_int, zk2_ref, zk2_null, zk2_long, zct_nil, zct_i, zct_l, zct_r, zct_n, Option.bind_some, Option.toList_some, Option.toList_none, List.cons_append, List.nil_append, zor_l, zor_r, if_true, if_false, ↓reduceIte, zi_lit, zi_of, zi_add, zi_mul, zi_sub, zi_nat, zi_leT, zi_leF, zi_ltT, zi_ltF, zi_eqT, zi_eqF, zif_0z, zif_bz, zi_01l, zi_01r, not_true_eq_false, not_false_eq_true, Nat.reduceAdd, Nat.reduceMul, Nat.reduceSub, xz_ltT, xz_ltF, zx_ltT, zx_ltF, xz_leT, xz_leF, zx_leT, zx_leF, xz_eqF, and_true, true_and, and_false, false_and, and_self]
  · simp (disch := (first | ((with_reducible refine zct_le ?_) <;> exact Nat.le_of_ble_eq_true rfl) | with_reducible exact zh_0 | with_reducible exact zh_1 | with_reducible exact zh_b | omega)) only [e_103, q_103_0, q_103_1, q_103_4, q_103_5, q_103_6, q_103_9, q_103_10r, q_103_10n, q_103_11r, q_103_11n, q_103_12, q_103_15, q_103_18, q_103_19t7, q_103_19t10, q_103_19t11, q_103_20r, q_103_20n, q_103_21r, q_103_21n, q_103_22, q_103_25, q_103_28r, q_103_28n, q_103_29, q_103_32, q_103_33r, q_103_33n, vf_s, vf_n, zk2_none, zk2_int, zk2_ref, zk2_null, zk2_long, zct_nil, zct_i, zct_l, zct_r, zct_n, Option.bind_some, Option.toList_some, Option.toList_none, List.cons_append, List.nil_append, zor_l, zor_r, if_true, if_false, ↓reduceIte, zi_lit, zi_of, zi_add, zi_mul, zi_sub, zi_nat, zi_leT, zi_leF, zi_ltT, zi_ltF, zi_eqT, zi_eqF, zif_0z, zif_bz, zi_01l, zi_01r, not_true_eq_false, not_false_eq_true, Nat.reduceAdd, Nat.reduceMul, Nat.reduceSub, xz_ltT, xz_ltF, zx_ltT, zx_ltF, xz_leT, xz_leF, zx_leT, zx_leF, xz_eqF, and_true, true_and, and_false, false_and, and_self]
theorem rf_7 (he : e < 4) : RF g 7 e = some (8 + 3 * e) := by
  rcases (show e = 0 ∨ e = 1 ∨ e = 2 ∨ e = 3 by omega) with rfl | rfl | rfl | rfl <;> rfl
theorem sp_e (he : e < 4) : zSp (8 + 3 * e) := by
  rcases (show e = 0 ∨ e = 1 ∨ e = 2 ∨ e = 3 by omega) with rfl | rfl | rfl | rfl <;> simp [zSp]
theorem m_103 (he : e < 4) (hn : mi (8 + 3 * e) 2 = zi n) (hn2 : n ≤ 60) : zCall 103 [.ref 1, .int (zi e)] (SH Ls) mi mj (RF g) = some (some (if n = 0 then .null else .ref (8 + 3 * e)), SH Ls, mi, mj, RF g) := by
  have hs := sp_e he
  by_cases h : n = 0
  · subst h
    simp (disch := (first | with_reducible exact is_1 | with_reducible exact zi_at is_1 (by omega) (by omega) | with_reducible exact is_3 | with_reducible exact zi_at is_3 (by omega) (by omega) | with_reducible exact is_7 | with_reducible exact zi_at is_7 (by omega) (by omega) | with_reducible exact (zSp_is hs) | with_reducible exact zi_at (zSp_is hs) (by omega) (by omega) | ((with_reducible refine zct_le ?_) <;> exact Nat.le_of_ble_eq_true rfl) | with_reducible exact zh_0 | with_reducible exact zh_1 | with_reducible exact zh_b | omega)) only [e_103, q_103_0, q_103_1, q_103_4, q_103_5, q_103_6, q_103_9, q_103_10r, q_103_10n, q_103_11r, q_103_11n, q_103_12, q_103_15, q_103_18, q_103_19t7, q_103_19t10, q_103_19t11, q_103_20r, q_103_20n, q_103_21r, q_103_21n, q_103_22, q_103_25, q_103_28r, q_103_28n, q_103_29, q_103_32, q_103_33r, q_103_33n, vf_s, vf_n, zk2_none, zk2_int, zk2_ref, zk2_null, zk2_long, zct_nil, zct_i, zct_l, zct_r, zct_n, Option.bind_some, Option.toList_some, Option.toList_none, List.cons_append, List.nil_append, zor_l, zor_r, if_true, if_false, ↓reduceIte, zi_lit, zi_of, zi_add, zi_mul, zi_sub, zi_nat, zi_leT, zi_leF, zi_ltT, zi_ltF, zi_eqT, zi_eqF, zif_0z, zif_bz, zi_01l, zi_01r, not_true_eq_false, not_false_eq_true, Nat.reduceAdd, Nat.reduceMul, Nat.reduceSub, rf_1_2, rf_3_1, rf_7 he, hn]
  · simp (disch := (first | with_reducible exact is_1 | with_reducible exact zi_at is_1 (by omega) (by omega) | with_reducible exact is_3 | with_reducible exact zi_at is_3 (by omega) (by omega) | with_reducible exact is_7 | with_reducible exact zi_at is_7 (by omega) (by omega) | with_reducible exact (zSp_is hs) | with_reducible exact zi_at (zSp_is hs) (by omega) (by omega) | ((with_reducible refine zct_le ?_) <;> exact Nat.le_of_ble_eq_true rfl) | with_reducible exact zh_0 | with_reducible exact zh_1 | with_reducible exact zh_b | omega)) only [e_103, q_103_0, q_103_1, q_103_4, q_103_5, q_103_6, q_103_9, q_103_10r, q_103_10n, q_103_11r, q_103_11n, q_103_12, q_103_15, q_103_18, q_103_19t7, q_103_19t10, q_103_19t11, q_103_20r, q_103_20n, q_103_21r, q_103_21n, q_103_22, q_103_25, q_103_28r, q_103_28n, q_103_29, q_103_32, q_103_33r, q_103_33n, vf_s, vf_n, zk2_none, zk2_int, zk2_ref, zk2_null, zk2_long, zct_nil, zct_i, zct_l, zct_r, zct_n, Option.bind_some, Option.toList_some, Option.toList_none, List.cons_append, List.nil_append, zor_l, zor_r, if_true, if_false, ↓reduceIte, zi_lit, zi_of, zi_add, zi_mul, zi_sub, zi_nat, zi_leT, zi_leF, zi_ltT, zi_ltF, zi_eqT, zi_eqF, zif_0z, zif_bz, zi_01l, zi_01r, not_true_eq_false, not_false_eq_true, Nat.reduceAdd, Nat.reduceMul, Nat.reduceSub, rf_1_2, rf_3_1, rf_7 he, hn, h]
end
