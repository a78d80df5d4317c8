/-! ===== calls (12): save, restore ===== -/
section
variable {Ls : Nat} {g : Nat → Nat} {mi mi' : zI} {mj mj' : zJ} {x y z : Int32} {a b e n p q k c m u s b' c' m' : Nat} {v w : Value} {lo hi lo' hi' : Nat → Int32} {NN : Nat → Nat} {KK : Nat → Nat → Nat} {VV : Nat → Nat → Int32} {T : En} {o : Nat} {K : Nat → Nat}
theorem l_197 (hs : s < 2) (n : Nat) : ∀ k, k + n = 493 → ∀ mi1 : zI, (∀ a, ¬ a = 150 → mi1 a = mi a) → (∀ j, j < k → mi1 150 (493 * s + j) = mi 149 j) → (∀ j, j < 493 * s ∨ 493 * s + 493 ≤ j → mi1 150 j = mi 150 j) → ∃ mi2, zRun 197 12 [some (.ref 148), some (.int (zi s)), some (.int (zi k))] [] (SH Ls) mi1 mj (RF g) = zRun 197 43 [some (.ref 148), some (.int (zi s)), some (.int (zi 493))] [] (SH Ls) mi2 mj (RF g) ∧ (∀ a, ¬ a = 150 → mi2 a = mi a) ∧ (∀ j, j < 493 → mi2 150 (493 * s + j) = mi 149 j) ∧ (∀ j, j < 493 * s ∨ 493 * s + 493 ≤ j → mi2 150 j = mi 150 j) := by
  induction n with
  | zero =>
    intro k hk mi1 h1 h2 h3
    obtain rfl : k = 493 := by omega
    refine ⟨mi1, ?_, h1, h2, h3⟩
    rw [q_197_12]
    simp (disch := (first | ((with_reducible refine zct_le ?_) <;> exact Nat.le_of_ble_eq_true rfl) | with_reducible exact zh_0 | with_reducible exact zh_1 | with_reducible exact zh_b | omega)) only [q_197_13, q_197_16, q_197_19r, q_197_19n, q_197_20, q_197_23, q_197_26, q_197_27, q_197_28, q_197_29, q_197_30r, q_197_30n, q_197_31, q_197_34, q_197_35, q_197_36, q_197_37, q_197_40, vf_s, vf_n, zk2_none, zk2_int, zk2_ref, zk2_null, zk2_long, zct_nil, zct_i, zct_l, zct_r, zct_n, Option.bind_some, Option.toList_some, Option.toList_none, List.cons_append, List.nil_append, zor_l, zor_r, if_true, if_false, ↓reduceIte, zi_lit, zi_of, zi_add, zi_mul, zi_sub, zi_nat, zi_leT, zi_leF, zi_ltT, zi_ltF, zi_eqT, zi_eqF, zif_0z, zif_bz, zi_01l, zi_01r, not_true_eq_false, not_false_eq_true, Nat.reduceAdd, Nat.reduceMul, Nat.reduceSub]
  | succ n ih =>
    intro k hk mi1 h1 h2 h3
    obtain ⟨mi2, r1, r2⟩ := ih (k + 1) (by omega) (zup mi1 150 (493 * s + k) (mi 149 k)) (fun a ha => by rw [zup_ne ha, h1 a ha]) (fun j hj => by
      by_cases c : j = k
      · subst c; rw [zg_s]
      · rw [zg_j (by omega)]; exact h2 j (by omega)) (fun j hj => by rw [zg_j (by omega)]; exact h3 j hj)
    refine ⟨mi2, ?_, r2⟩
    rw [q_197_12]
    simp (disch := (first | with_reducible exact is_148 | with_reducible exact zi_at is_148 (by omega) (by omega) | with_reducible exact is_149 | with_reducible exact zi_at is_149 (by omega) (by omega) | with_reducible exact is_150 | with_reducible exact zi_at is_150 (by omega) (by omega) | ((with_reducible refine zct_le ?_) <;> exact Nat.le_of_ble_eq_true rfl) | with_reducible exact zh_0 | with_reducible exact zh_1 | with_reducible exact zh_b | omega)) only [q_197_13, q_197_16, q_197_19r, q_197_19n, q_197_20, q_197_23, q_197_26, q_197_27, q_197_28, q_197_29, q_197_30r, q_197_30n, q_197_31, q_197_34, q_197_35, q_197_36, q_197_37, q_197_40, vf_s, vf_n, zk2_none, zk2_int, zk2_ref, zk2_null, zk2_long, zct_nil, zct_i, zct_l, zct_r, zct_n, Option.bind_some, Option.toList_some, Option.toList_none, List.cons_append, List.nil_append, zor_l, zor_r, if_true, if_false, ↓reduceIte, zi_lit, zi_of, zi_add, zi_mul, zi_sub, zi_nat, zi_leT, zi_leF, zi_ltT, zi_ltF, zi_eqT, zi_eqF, zif_0z, zif_bz, zi_01l, zi_01r, not_true_eq_false, not_false_eq_true, Nat.reduceAdd, Nat.reduceMul, Nat.reduceSub, rf_148_0, rf_148_1, h1 149 (by omega)]
    exact r1
theorem l_198 (hs : s < 2) (n : Nat) : ∀ k, k + n = 493 → ∀ mi1 : zI, (∀ a, ¬ a = 149 → mi1 a = mi a) → (∀ j, j < k → mi1 149 j = mi 150 (493 * s + j)) → ∃ mi2, zRun 198 24 [some (.ref 148), some (.int (zi s)), some (.int (zi k))] [] (SH Ls) mi1 mj (RF g) = zRun 198 55 [some (.ref 148), some (.int (zi s)), some (.int (zi 493))] [] (SH Ls) mi2 mj (RF g) ∧ (∀ a, ¬ a = 149 → mi2 a = mi a) ∧ (∀ j, j < 493 → mi2 149 j = mi 150 (493 * s + j)) := by
  induction n with
  | zero =>
    intro k hk mi1 h1 h2
    obtain rfl : k = 493 := by omega
    refine ⟨mi1, ?_, h1, h2⟩
    rw [q_198_24]
    simp (disch := (first | ((with_reducible refine zct_le ?_) <;> exact Nat.le_of_ble_eq_true rfl) | with_reducible exact zh_0 | with_reducible exact zh_1 | with_reducible exact zh_b | omega)) only [q_198_25, q_198_28, q_198_31r, q_198_31n, q_198_32, q_198_35, q_198_36r, q_198_36n, q_198_37, q_198_40, q_198_43, q_198_44, q_198_45, q_198_46, q_198_47, q_198_48, q_198_49, q_198_52, vf_s, vf_n, zk2_none, zk2_int, zk2_ref, zk2_null, zk2_long, zct_nil, zct_i, zct_l, zct_r, zct_n, Option.bind_some, Option.toList_some, Option.toList_none, List.cons_append, List.nil_append, zor_l, zor_r, if_true, if_false, ↓reduceIte, zi_lit, zi_of, zi_add, zi_mul, zi_sub, zi_nat, zi_leT, zi_leF, zi_ltT, zi_ltF, zi_eqT, zi_eqF, zif_0z, zif_bz, zi_01l, zi_01r, not_true_eq_false, not_false_eq_true, Nat.reduceAdd, Nat.reduceMul, Nat.reduceSub]
  | succ n ih =>
    intro k hk mi1 h1 h2
    obtain ⟨mi2, r1, r2⟩ := ih (k + 1) (by omega) (zup mi1 149 k (mi 150 (493 * s + k))) (fun a ha => by rw [zup_ne ha, h1 a ha]) (fun j hj => by
      by_cases c : j = k
      · subst c; rw [zg_s]
      · rw [zg_j (by omega)]; exact h2 j (by omega))
    refine ⟨mi2, ?_, r2⟩
    rw [q_198_24]
    simp (disch := (first | with_reducible exact is_148 | with_reducible exact zi_at is_148 (by omega) (by omega) | with_reducible exact is_149 | with_reducible exact zi_at is_149 (by omega) (by omega) | with_reducible exact is_150 | with_reducible exact zi_at is_150 (by omega) (by omega) | ((with_reducible refine zct_le ?_) <;> exact Nat.le_of_ble_eq_true rfl) | with_reducible exact zh_0 | with_reducible exact zh_1 | with_reducible exact zh_b | omega)) only [q_198_25, q_198_28, q_198_31r, q_198_31n, q_198_32, q_198_35, q_198_36r, q_198_36n, q_198_37, q_198_40, q_198_43, q_198_44, q_198_45, q_198_46, q_198_47, q_198_48, q_198_49, q_198_52, vf_s, vf_n, zk2_none, zk2_int, zk2_ref, zk2_null, zk2_long, zct_nil, zct_i, zct_l, zct_r, zct_n, Option.bind_some, Option.toList_some, Option.toList_none, List.cons_append, List.nil_append, zor_l, zor_r, if_true, if_false, ↓reduceIte, zi_lit, zi_of, zi_add, zi_mul, zi_sub, zi_nat, zi_leT, zi_leF, zi_ltT, zi_ltF, zi_eqT, zi_eqF, zif_0z, zif_bz, zi_01l, zi_01r, not_true_eq_false, not_false_eq_true, Nat.reduceAdd, Nat.reduceMul, Nat.reduceSub, rf_148_0, rf_148_1, h1 150 (by omega)]
    exact r1
theorem zSt_sl (hs : s < 2) : zSt (114 + 17 * s) := by
  rcases (show s = 0 ∨ s = 1 by omega) with rfl | rfl
  · exact Or.inr (Or.inl rfl)
  · exact Or.inr (Or.inr rfl)
theorem rf_20 (hs : s < 2) : RF g 20 s = some (114 + 17 * s) := by
  rcases (show s = 0 ∨ s = 1 by omega) with rfl | rfl <;> rfl
end
