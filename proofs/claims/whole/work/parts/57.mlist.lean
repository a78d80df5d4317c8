/-! ===== lists of boxes (3): the model's ===== -/
def mxA (mi : zI) (b : Bx) : Prop := ∀ k, k < 4 → mi 158 k = b.1 k ∧ mi 159 k = b.2 k
def mLs (mi : zI) (n : Nat) (B : Nat → Bx) : Prop := mi 148 22 = zi n ∧ ∀ j, j < n → ∀ k, k < 4 → mi 163 (8 * j + k) = (B j).1 k ∧ mi 163 (8 * j + 4 + k) = (B j).2 k
theorem bsn_0 {W : Nat → Int64} (h : ∀ k, k < 4 → W k = 0) (n : Nat) (hn : n ≤ 4) : bsn W n = (4, 0) := by
  induction n with
  | zero => rfl
  | succ n ih =>
    have e := ih (by omega)
    rw [bsn, if_neg (by rw [e, h n (by omega)]; decide)]
    exact e
theorem zmax_s {u v : Int64} (h : v < u) : zmax u v = u := by
  unfold zmax; rw [if_neg (by rw [zj_lt] at h ⊢; omega)]
theorem zmax_t {u v : Int64} (h : ¬ v < u) : zmax u v = v := by
  unfold zmax
  by_cases c : u < v
  · rw [if_pos c]
  · rw [if_neg c]; exact zj_inj (by rw [zj_lt] at h c; omega)
theorem i32_wid {a b : Int32} : (b = a + zi 1) = (b - a = zi 1) := by
  refine propext ⟨fun h => ?_, fun h => ?_⟩
  · rw [h, Int32.add_comm, Int32.add_sub_cancel]
  · rw [← h, Int32.add_comm, Int32.sub_add_cancel]
section
variable {Ls : Nat} {g : Nat → Nat} {mi mi' : zI} {mj mj' : zJ} {x y z : Int32} {a b e n p q k c m u s : Nat} {v w : Value} {T : En} {o f : Nat} {B : Nat → Bx} {bx : Bx}
theorem l_180 (hq : q ≤ 209) (n : Nat) : ∀ k, k + n = 4 → ∀ mi1 : zI, (∀ a, a < 163 ∨ 163 < a → mi1 a = mi a) → (∀ j, j < k → mi1 163 (8 * q + j) = mi 158 j ∧ mi1 163 (8 * q + 4 + j) = mi 159 j) → (∀ i, i < 8 * q ∨ 8 * q + 8 ≤ i → mi1 163 i = mi 163 i) → ∃ mi2, zRun 180 2 [some (.ref 148), some (.int (zi q)), some (.int (zi k))] [] (SH Ls) mi1 mj (RF g) = some (none, SH Ls, mi2, mj, RF g) ∧ (∀ a, a < 163 ∨ 163 < a → mi2 a = mi a) ∧ (∀ j, j < 4 → mi2 163 (8 * q + j) = mi 158 j ∧ mi2 163 (8 * q + 4 + j) = mi 159 j) ∧ (∀ i, i < 8 * q ∨ 8 * q + 8 ≤ i → mi2 163 i = mi 163 i) := by
  induction n with
  | zero =>
    intro k hk mi1 h1 h2 h3
    obtain rfl : k = 4 := by omega
    refine ⟨mi1, ?_, h1, h2, h3⟩
    rw [q_180_2]
    simp (disch := (first | ((with_reducible refine zct_le ?_) <;> exact Nat.le_of_ble_eq_true rfl) | with_reducible exact zh_0 | with_reducible exact zh_1 | with_reducible exact zh_b | omega)) only [q_180_3, q_180_4, q_180_7r, q_180_7n, q_180_8, q_180_11, q_180_13, q_180_14, q_180_15, q_180_16, q_180_17r, q_180_17n, q_180_18, q_180_21, q_180_22, q_180_23, q_180_24r, q_180_24n, q_180_25, q_180_28, q_180_30, q_180_31, q_180_32, q_180_33, q_180_34, q_180_35, q_180_36r, q_180_36n, q_180_37, q_180_40, q_180_41, q_180_42, q_180_43, q_180_46, q_180_49, vf_s, vf_n, zk2_none, zk2_int, zk2_ref, zk2_null, zk2_long, zct_nil, zct_i, zct_l, zct_r, zct_n, Option.bind_some, Option.toList_some, Option.toList_none, List.cons_append, List.nil_append, zor_l, zor_r, if_true, if_false, ↓reduceIte, zi_lit, zi_of, zi_add, zi_mul, zi_sub, zi_nat, zi_leT, zi_leF, zi_ltT, zi_ltF, zi_eqT, zi_eqF, zif_0z, zif_bz, zi_01l, zi_01r, not_true_eq_false, not_false_eq_true, Nat.reduceAdd, Nat.reduceMul, Nat.reduceSub]
  | succ n ih =>
    intro k hk mi1 h1 h2 h3
    obtain ⟨mi2, r1, r2, r3, r4⟩ := ih (k + 1) (by omega) (zup (zup mi1 163 (8 * q + k) (mi 158 k)) 163 (8 * q + 4 + k) (mi 159 k)) (fun a ha => by rw [zup_ne (by omega), zup_ne (by omega), h1 a ha]) (fun j hj => by
      by_cases c : j = k
      · subst c; simp (disch := omega) only [zg_s, zg_o, zg_j, zg_r, zg_ro, zg_d, yfl_o, and_self]
      · simp (disch := omega) only [zg_s, zg_o, zg_j, zg_r, zg_ro, zg_d, yfl_o]; exact h2 j (by omega)) (fun i hi => by simp (disch := omega) only [zg_s, zg_o, zg_j, zg_r, zg_ro, zg_d, yfl_o]; exact h3 i hi)
    refine ⟨mi2, ?_, r2, r3, r4⟩
    have e1 := h1 158 (by omega)
    have e2 := h1 159 (by omega)
    rw [q_180_2]
    simp (disch := (first | with_reducible exact is_148 | with_reducible exact zi_at is_148 (by omega) (by omega) | with_reducible exact is_158 | with_reducible exact zi_at is_158 (by omega) (by omega) | with_reducible exact is_159 | with_reducible exact zi_at is_159 (by omega) (by omega) | with_reducible exact is_163 | with_reducible exact zi_at is_163 (by omega) (by omega) | ((with_reducible refine zct_le ?_) <;> exact Nat.le_of_ble_eq_true rfl) | with_reducible exact zh_0 | with_reducible exact zh_1 | with_reducible exact zh_b | omega)) only [q_180_3, q_180_4, q_180_7r, q_180_7n, q_180_8, q_180_11, q_180_13, q_180_14, q_180_15, q_180_16, q_180_17r, q_180_17n, q_180_18, q_180_21, q_180_22, q_180_23, q_180_24r, q_180_24n, q_180_25, q_180_28, q_180_30, q_180_31, q_180_32, q_180_33, q_180_34, q_180_35, q_180_36r, q_180_36n, q_180_37, q_180_40, q_180_41, q_180_42, q_180_43, q_180_46, q_180_49, vf_s, vf_n, zk2_none, zk2_int, zk2_ref, zk2_null, zk2_long, zct_nil, zct_i, zct_l, zct_r, zct_n, Option.bind_some, Option.toList_some, Option.toList_none, List.cons_append, List.nil_append, zor_l, zor_r, if_true, if_false, ↓reduceIte, zi_lit, zi_of, zi_add, zi_mul, zi_sub, zi_nat, zi_leT, zi_leF, zi_ltT, zi_ltF, zi_eqT, zi_eqF, zif_0z, zif_bz, zi_01l, zi_01r, not_true_eq_false, not_false_eq_true, Nat.reduceAdd, Nat.reduceMul, Nat.reduceSub, zg_s, zg_o, zg_j, zg_r, zg_ro, zg_d, yfl_o, rf_148_16, rf_148_17, rf_148_21, e1, e2]
    exact r1
theorem m_180 (hq : q ≤ 209) : ∃ mi2, zCall 180 [.ref 148, .int (zi q)] (SH Ls) mi mj (RF g) = some (none, SH Ls, mi2, mj, RF g) ∧ (∀ a, a < 163 ∨ 163 < a → mi2 a = mi a) ∧ (∀ j, j < 4 → mi2 163 (8 * q + j) = mi 158 j ∧ mi2 163 (8 * q + 4 + j) = mi 159 j) ∧ (∀ i, i < 8 * q ∨ 8 * q + 8 ≤ i → mi2 163 i = mi 163 i) := by
  obtain ⟨mi2, r1, r2⟩ := l_180 (Ls := Ls) (g := g) (mi := mi) (mj := mj) hq 4 0 rfl mi (fun _ _ => rfl) (fun j hj => by omega) (fun _ _ => rfl)
  refine ⟨mi2, ?_, r2⟩
  simp (disch := (first | ((with_reducible refine zct_le ?_) <;> exact Nat.le_of_ble_eq_true rfl) | with_reducible exact zh_0 | with_reducible exact zh_1 | with_reducible exact zh_b | omega)) only [e_180, q_180_0, q_180_1, vf_s, vf_n, zk2_none, zk2_int, zk2_ref, zk2_null, zk2_long, zct_nil, zct_i, zct_l, zct_r, zct_n, Option.bind_some, Option.toList_some, Option.toList_none, List.cons_append, List.nil_append, zor_l, zor_r, if_true, if_false, ↓reduceIte, zi_lit, zi_of, zi_add, zi_mul, zi_sub, zi_nat, zi_leT, zi_leF, zi_ltT, zi_ltF, zi_eqT, zi_eqF, zif_0z, zif_bz, zi_01l, zi_01r, not_true_eq_false, not_false_eq_true, Nat.reduceAdd, Nat.reduceMul, Nat.reduceSub]
  exact r1
theorem m_180L (hq : q ≤ 209) (hb : mxA mi bx) (hL : ∀ j, j < n → ∀ k, k < 4 → mi 163 (8 * j + k) = (B j).1 k ∧ mi 163 (8 * j + 4 + k) = (B j).2 k) (hn : ∀ j, j < m → j < n ∨ j = q) : ∃ mi2, zCall 180 [.ref 148, .int (zi q)] (SH Ls) mi mj (RF g) = some (none, SH Ls, mi2, mj, RF g) ∧ (∀ a, a < 163 ∨ 163 < a → mi2 a = mi a) ∧ (∀ j, j < m → ∀ k, k < 4 → mi2 163 (8 * j + k) = (upL B q bx j).1 k ∧ mi2 163 (8 * j + 4 + k) = (upL B q bx j).2 k) := by
  obtain ⟨mi2, r1, r2, r3, r4⟩ := m_180 (Ls := Ls) (g := g) (mi := mi) (mj := mj) hq
  refine ⟨mi2, r1, r2, fun j hj k hk => ?_⟩
  unfold upL
  by_cases c : j = q
  · subst c
    rw [if_pos rfl, (r3 k hk).1, (r3 k hk).2]
    exact hb k hk
  · rw [if_neg c, r4 _ (by omega), r4 _ (by omega)]
    exact hL j (by have := hn j hj; omega) k hk
theorem l_181 (hq : q ≤ 209) (n : Nat) : ∀ k, k + n = 4 → ∀ mi1 : zI, (∀ a, a < 158 ∨ 159 < a → mi1 a = mi a) → (∀ j, j < k → mi1 158 j = mi 163 (8 * q + j) ∧ mi1 159 j = mi 163 (8 * q + 4 + j)) → ∃ mi2, zRun 181 2 [some (.ref 148), some (.int (zi q)), some (.int (zi k))] [] (SH Ls) mi1 mj (RF g) = some (none, SH Ls, mi2, mj, RF g) ∧ (∀ a, a < 158 ∨ 159 < a → mi2 a = mi a) ∧ (∀ j, j < 4 → mi2 158 j = mi 163 (8 * q + j) ∧ mi2 159 j = mi 163 (8 * q + 4 + j)) := by
  induction n with
  | zero =>
    intro k hk mi1 h1 h2
    obtain rfl : k = 4 := by omega
    refine ⟨mi1, ?_, h1, h2⟩
    rw [q_181_2]
    simp (disch := (first | ((with_reducible refine zct_le ?_) <;> exact Nat.le_of_ble_eq_true rfl) | with_reducible exact zh_0 | with_reducible exact zh_1 | with_reducible exact zh_b | omega)) only [q_181_3, q_181_4, q_181_7r, q_181_7n, q_181_8, q_181_11, q_181_12r, q_181_12n, q_181_13, q_181_16, q_181_18, q_181_19, q_181_20, q_181_21, q_181_22, q_181_23, q_181_24r, q_181_24n, q_181_25, q_181_28, q_181_29r, q_181_29n, q_181_30, q_181_33, q_181_35, q_181_36, q_181_37, q_181_38, q_181_39, q_181_40, q_181_41, q_181_42, q_181_43, q_181_46, q_181_49, vf_s, vf_n, zk2_none, zk2_int, zk2_ref, zk2_null, zk2_long, zct_nil, zct_i, zct_l, zct_r, zct_n, Option.bind_some, Option.toList_some, Option.toList_none, List.cons_append, List.nil_append, zor_l, zor_r, if_true, if_false, ↓reduceIte, zi_lit, zi_of, zi_add, zi_mul, zi_sub, zi_nat, zi_leT, zi_leF, zi_ltT, zi_ltF, zi_eqT, zi_eqF, zif_0z, zif_bz, zi_01l, zi_01r, not_true_eq_false, not_false_eq_true, Nat.reduceAdd, Nat.reduceMul, Nat.reduceSub]
  | succ n ih =>
    intro k hk mi1 h1 h2
    obtain ⟨mi2, r1, r2, r3⟩ := ih (k + 1) (by omega) (zup (zup mi1 158 k (mi 163 (8 * q + k))) 159 k (mi 163 (8 * q + 4 + k))) (fun a ha => by rw [zup_ne (by omega), zup_ne (by omega), h1 a ha]) (fun j hj => by
      by_cases c : j = k
      · subst c; simp (disch := omega) only [zg_s, zg_o, zg_j, zg_r, zg_ro, zg_d, yfl_o, and_self]
      · simp (disch := omega) only [zg_s, zg_o, zg_j, zg_r, zg_ro, zg_d, yfl_o]; exact h2 j (by omega))
    refine ⟨mi2, ?_, r2, r3⟩
    have e1 := h1 163 (by omega)
    rw [q_181_2]
    simp (disch := (first | with_reducible exact is_148 | with_reducible exact zi_at is_148 (by omega) (by omega) | with_reducible exact is_158 | with_reducible exact zi_at is_158 (by omega) (by omega) | with_reducible exact is_159 | with_reducible exact zi_at is_159 (by omega) (by omega) | with_reducible exact is_163 | with_reducible exact zi_at is_163 (by omega) (by omega) | ((with_reducible refine zct_le ?_) <;> exact Nat.le_of_ble_eq_true rfl) | with_reducible exact zh_0 | with_reducible exact zh_1 | with_reducible exact zh_b | omega)) only [q_181_3, q_181_4, q_181_7r, q_181_7n, q_181_8, q_181_11, q_181_12r, q_181_12n, q_181_13, q_181_16, q_181_18, q_181_19, q_181_20, q_181_21, q_181_22, q_181_23, q_181_24r, q_181_24n, q_181_25, q_181_28, q_181_29r, q_181_29n, q_181_30, q_181_33, q_181_35, q_181_36, q_181_37, q_181_38, q_181_39, q_181_40, q_181_41, q_181_42, q_181_43, q_181_46, q_181_49, vf_s, vf_n, zk2_none, zk2_int, zk2_ref, zk2_null, zk2_long, zct_nil, zct_i, zct_l, zct_r, zct_n, Option.bind_some, Option.toList_some, Option.toList_none, List.cons_append, List.nil_append, zor_l, zor_r, if_true, if_false, ↓reduceIte, zi_lit, zi_of, zi_add, zi_mul, zi_sub, zi_nat, zi_leT, zi_leF, zi_ltT, zi_ltF, zi_eqT, zi_eqF, zif_0z, zif_bz, zi_01l, zi_01r, not_true_eq_false, not_false_eq_true, Nat.reduceAdd, Nat.reduceMul, Nat.reduceSub, zg_s, zg_o, zg_j, zg_r, zg_ro, zg_d, yfl_o, rf_148_16, rf_148_17, rf_148_21, e1]
    exact r1
theorem m_181 (hq : q ≤ 209) (hL : ∀ k, k < 4 → mi 163 (8 * q + k) = bx.1 k ∧ mi 163 (8 * q + 4 + k) = bx.2 k) : ∃ mi2, zCall 181 [.ref 148, .int (zi q)] (SH Ls) mi mj (RF g) = some (none, SH Ls, mi2, mj, RF g) ∧ (∀ a, a < 158 ∨ 159 < a → mi2 a = mi a) ∧ mxA mi2 bx := by
  obtain ⟨mi2, r1, r2, r3⟩ := l_181 (Ls := Ls) (g := g) (mi := mi) (mj := mj) hq 4 0 rfl mi (fun _ _ => rfl) (fun j hj => by omega)
  refine ⟨mi2, ?_, r2, fun k hk => ?_⟩
  · simp (disch := (first | ((with_reducible refine zct_le ?_) <;> exact Nat.le_of_ble_eq_true rfl) | with_reducible exact zh_0 | with_reducible exact zh_1 | with_reducible exact zh_b | omega)) only [e_181, q_181_0, q_181_1, vf_s, vf_n, zk2_none, zk2_int, zk2_ref, zk2_null, zk2_long, zct_nil, zct_i, zct_l, zct_r, zct_n, Option.bind_some, Option.toList_some, Option.toList_none, List.cons_append, List.nil_append, zor_l, zor_r, if_true, if_false, ↓reduceIte, zi_lit, zi_of, zi_add, zi_mul, zi_sub, zi_nat, zi_leT, zi_leF, zi_ltT, zi_ltF, zi_eqT, zi_eqF, zif_0z, zif_bz, zi_01l, zi_01r, not_true_eq_false, not_false_eq_true, Nat.reduceAdd, Nat.reduceMul, Nat.reduceSub]
    exact r1
  · rw [(r3 k hk).1, (r3 k hk).2]; exact hL k hk
theorem l_182a (hb : mxA mi bx) (hE : mE mj 0 T) (hz : T.1 = zi 0) (n : Nat) : ∀ k, k + n = 4 → ∀ l5 l6 l7, ∃ l5' l6' l7', zRun 182 8 [some (.ref 148), some (.int (bst (-zi 6) (spW bx T) k).1), some (.long (bst (-zi 6) (spW bx T) k).2), none, some (.int (zi k)), l5, l6, l7] [] (SH Ls) mi mj (RF g) = zRun 182 84 [some (.ref 148), some (.int (bst (-zi 6) (spW bx T) 4).1), some (.long (bst (-zi 6) (spW bx T) 4).2), none, some (.int (zi 4)), l5', l6', l7'] [] (SH Ls) mi mj (RF g) := by
  induction n with
  | zero =>
    intro k hk l5 l6 l7
    obtain rfl : k = 4 := by omega
    refine ⟨l5, l6, l7, ?_⟩
    rw [q_182_8]
    simp (disch := (first | ((with_reducible refine zct_le ?_) <;> exact Nat.le_of_ble_eq_true rfl) | with_reducible exact zh_0 | with_reducible exact zh_1 | with_reducible exact zh_b | omega)) only [q_182_10, q_182_11, q_182_14r, q_182_14n, q_182_15, q_182_16, q_182_19, q_182_22r, q_182_22n, q_182_23, q_182_26, q_182_28, q_182_29r, q_182_29n, q_182_30, q_182_33, q_182_35, q_182_36, q_182_39r, q_182_39n, q_182_40, q_182_43, q_182_44, q_182_46, q_182_47, q_182_48, q_182_51, q_182_54, q_182_55, q_182_57, q_182_59, q_182_60, q_182_61, q_182_64, q_182_66, q_182_69, q_182_70, q_182_71, q_182_73, q_182_74, q_182_77, q_182_78, q_182_81, vf_s, vf_n, zk2_none, zk2_int, zk2_ref, zk2_null, zk2_long, zct_nil, zct_i, zct_l, zct_r, zct_n, Option.bind_some, Option.toList_some, Option.toList_none, List.cons_append, List.nil_append, zor_l, zor_r, if_true, if_false, ↓reduceIte, zi_lit, zi_of, zi_add, zi_mul, zi_sub, zi_nat, zi_leT, zi_leF, zi_ltT, zi_ltF, zi_eqT, zi_eqF, zif_0z, zif_bz, zi_01l, zi_01r, not_true_eq_false, not_false_eq_true, Nat.reduceAdd, Nat.reduceMul, Nat.reduceSub]
  | succ n ih =>
    intro k hk l5 l6 l7
    have m141 := m_141e (Ls := Ls) (g := g) (mi := mi) (f := 0) (by omega) hE
    rw [if_pos hz] at m141
    obtain ⟨-, -, -, -, -, u1⟩ := row0 hE hz
    have u2 := u1 k (by omega)
    have e0 : (if mi 159 k ≤ mi 158 k then (0 : Int64) else zabs (T.2 (k + 1))) = spW bx T k := by
      unfold spW wt
      rw [if_pos hz, (hb k (by omega)).1, (hb k (by omega)).2]
      by_cases c : bx.1 k < bx.2 k
      · rw [if_pos c, if_neg (lg_lt_not32 c)]
      · rw [if_neg c, if_pos (lg_lt_not_le32 c)]
    obtain ⟨l5', l6', l7', r1⟩ := ih (k + 1) (by omega) (some (.long (spW bx T k))) none l7
    refine ⟨l5', l6', l7', ?_⟩
    rw [← r1, q_182_8]
    simp (disch := (first | with_reducible exact is_148 | with_reducible exact zi_at is_148 (by omega) (by omega) | with_reducible exact is_155 | with_reducible exact zi_at is_155 (by omega) (by omega) | with_reducible exact is_158 | with_reducible exact zi_at is_158 (by omega) (by omega) | with_reducible exact is_159 | with_reducible exact zi_at is_159 (by omega) (by omega) | ((with_reducible refine zct_le ?_) <;> exact Nat.le_of_ble_eq_true rfl) | with_reducible exact zh_0 | with_reducible exact zh_1 | with_reducible exact zh_b | omega)) only [q_182_10, q_182_11, q_182_14r, q_182_14n, q_182_15, q_182_16, q_182_19, q_182_22r, q_182_22n, q_182_23, q_182_26, q_182_28, q_182_29r, q_182_29n, q_182_30, q_182_33, q_182_35, q_182_36, q_182_39r, q_182_39n, q_182_40, q_182_43, q_182_44, q_182_46, q_182_47, q_182_48, q_182_51, q_182_54, vf_s, vf_n, zk2_none, zk2_int, zk2_ref, zk2_null, zk2_long, zct_nil, zct_i, zct_l, zct_r, zct_n, Option.bind_some, Option.toList_some, Option.toList_none, List.cons_append, List.nil_append, zor_l, zor_r, if_true, if_false, ↓reduceIte, zi_lit, zi_of, zi_add, zi_mul, zi_sub, zi_nat, zi_leT, zi_leF, zi_ltT, zi_ltF, zi_eqT, zi_eqF, zif_0z, zif_bz, zi_01l, zi_01r, not_true_eq_false, not_false_eq_true, Nat.reduceAdd, Nat.reduceMul, Nat.reduceSub, rf_148_10, rf_148_16, rf_148_17, m141, m_137, u2]
    rw [mg_J, e0]
    by_cases c : (bst (-zi 6) (spW bx T) k).2 < spW bx T k
    · simp (disch := (first | with_reducible exact is_148 | with_reducible exact zi_at is_148 (by omega) (by omega) | with_reducible exact is_155 | with_reducible exact zi_at is_155 (by omega) (by omega) | with_reducible exact is_158 | with_reducible exact zi_at is_158 (by omega) (by omega) | with_reducible exact is_159 | with_reducible exact zi_at is_159 (by omega) (by omega) | ((with_reducible refine zct_le ?_) <;> exact Nat.le_of_ble_eq_true rfl) | with_reducible exact zh_0 | with_reducible exact zh_1 | with_reducible exact zh_b | omega)) only [q_182_55, q_182_57, q_182_59, q_182_60, q_182_61, q_182_64, q_182_66, q_182_69, q_182_70, q_182_71, q_182_73, q_182_74, q_182_77, q_182_78, q_182_81, vf_s, vf_n, zk2_none, zk2_int, zk2_ref, zk2_null, zk2_long, zct_nil, zct_i, zct_l, zct_r, zct_n, Option.bind_some, Option.toList_some, Option.toList_none, List.cons_append, List.nil_append, zor_l, zor_r, if_true, if_false, ↓reduceIte, zi_lit, zi_of, zi_add, zi_mul, zi_sub, zi_nat, zi_leT, zi_leF, zi_ltT, zi_ltF, zi_eqT, zi_eqF, zif_0z, zif_bz, zi_01l, zi_01r, not_true_eq_false, not_false_eq_true, Nat.reduceAdd, Nat.reduceMul, Nat.reduceSub, m_151, zmax_s c, bst_s c]
      rw [if_neg (lg_lt_not_le c)]
    · simp (disch := (first | with_reducible exact is_148 | with_reducible exact zi_at is_148 (by omega) (by omega) | with_reducible exact is_155 | with_reducible exact zi_at is_155 (by omega) (by omega) | with_reducible exact is_158 | with_reducible exact zi_at is_158 (by omega) (by omega) | with_reducible exact is_159 | with_reducible exact zi_at is_159 (by omega) (by omega) | ((with_reducible refine zct_le ?_) <;> exact Nat.le_of_ble_eq_true rfl) | with_reducible exact zh_0 | with_reducible exact zh_1 | with_reducible exact zh_b | omega)) only [q_182_55, q_182_57, q_182_59, q_182_60, q_182_61, q_182_64, q_182_66, q_182_69, q_182_70, q_182_71, q_182_73, q_182_74, q_182_77, q_182_78, q_182_81, vf_s, vf_n, zk2_none, zk2_int, zk2_ref, zk2_null, zk2_long, zct_nil, zct_i, zct_l, zct_r, zct_n, Option.bind_some, Option.toList_some, Option.toList_none, List.cons_append, List.nil_append, zor_l, zor_r, if_true, if_false, ↓reduceIte, zi_lit, zi_of, zi_add, zi_mul, zi_sub, zi_nat, zi_leT, zi_leF, zi_ltT, zi_ltF, zi_eqT, zi_eqF, zif_0z, zif_bz, zi_01l, zi_01r, not_true_eq_false, not_false_eq_true, Nat.reduceAdd, Nat.reduceMul, Nat.reduceSub, m_151, zmax_t c, bst_t c]
      rw [if_pos (by rw [zj_le]; rw [zj_lt] at c; omega)]
theorem l_182b (hb : mxA mi bx) (n : Nat) : ∀ k, k + n = 4 → ∀ l6 l7, zRun 182 98 [some (.ref 148), some (.int (bst (-zi 6) (spD bx) k).1), some (.long (bst (-zi 6) (spD bx) k).2), none, some (.int (zi 1)), some (.int (zi k)), l6, l7] [] (SH Ls) mi mj (RF g) = some (some (.int (bst (-zi 6) (spD bx) 4).1), SH Ls, mi, mj, RF g) := by
  induction n with
  | zero =>
    intro k hk l6 l7
    obtain rfl : k = 4 := by omega
    rw [q_182_98]
    simp (disch := (first | ((with_reducible refine zct_le ?_) <;> exact Nat.le_of_ble_eq_true rfl) | with_reducible exact zh_0 | with_reducible exact zh_1 | with_reducible exact zh_b | omega)) only [q_182_100, q_182_101, q_182_104, q_182_106, q_182_109r, q_182_109n, q_182_110, q_182_113, q_182_115, q_182_116r, q_182_116n, q_182_117, q_182_120, q_182_122, q_182_123, q_182_124, q_182_125, q_182_127, q_182_129, q_182_130, q_182_131, q_182_134, q_182_136, q_182_139, q_182_140, q_182_141, q_182_143, q_182_144, q_182_147, q_182_148, q_182_151, q_182_154, q_182_155, vf_s, vf_n, zk2_none, zk2_int, zk2_ref, zk2_null, zk2_long, zct_nil, zct_i, zct_l, zct_r, zct_n, Option.bind_some, Option.toList_some, Option.toList_none, List.cons_append, List.nil_append, zor_l, zor_r, if_true, if_false, ↓reduceIte, zi_lit, zi_of, zi_add, zi_mul, zi_sub, zi_nat, zi_leT, zi_leF, zi_ltT, zi_ltF, zi_eqT, zi_eqF, zif_0z, zif_bz, zi_01l, zi_01r, not_true_eq_false, not_false_eq_true, Nat.reduceAdd, Nat.reduceMul, Nat.reduceSub]
  | succ n ih =>
    intro k hk l6 l7
    have e0 : (mi 159 k - mi 158 k).toInt64 = spD bx k := by rw [(hb k (by omega)).1, (hb k (by omega)).2]; rfl
    have := ih (k + 1) (by omega) (some (.long (spD bx k))) none
    rw [q_182_98]
    by_cases c : (bst (-zi 6) (spD bx) k).2 < spD bx k
    · rw [bst_s c] at this
      simp (disch := (first | with_reducible exact is_148 | with_reducible exact zi_at is_148 (by omega) (by omega) | with_reducible exact is_155 | with_reducible exact zi_at is_155 (by omega) (by omega) | with_reducible exact is_158 | with_reducible exact zi_at is_158 (by omega) (by omega) | with_reducible exact is_159 | with_reducible exact zi_at is_159 (by omega) (by omega) | ((with_reducible refine zct_le ?_) <;> exact Nat.le_of_ble_eq_true rfl) | with_reducible exact zh_0 | with_reducible exact zh_1 | with_reducible exact zh_b | omega)) only [q_182_100, q_182_101, q_182_104, q_182_106, q_182_109r, q_182_109n, q_182_110, q_182_113, q_182_115, q_182_116r, q_182_116n, q_182_117, q_182_120, q_182_122, q_182_123, q_182_124, q_182_125, q_182_127, q_182_129, q_182_130, q_182_131, q_182_134, q_182_136, q_182_139, q_182_140, q_182_141, q_182_143, q_182_144, q_182_147, q_182_148, q_182_151, q_182_154, q_182_155, vf_s, vf_n, zk2_none, zk2_int, zk2_ref, zk2_null, zk2_long, zct_nil, zct_i, zct_l, zct_r, zct_n, Option.bind_some, Option.toList_some, Option.toList_none, List.cons_append, List.nil_append, zor_l, zor_r, if_true, if_false, ↓reduceIte, zi_lit, zi_of, zi_add, zi_mul, zi_sub, zi_nat, zi_leT, zi_leF, zi_ltT, zi_ltF, zi_eqT, zi_eqF, zif_0z, zif_bz, zi_01l, zi_01r, not_true_eq_false, not_false_eq_true, Nat.reduceAdd, Nat.reduceMul, Nat.reduceSub, rf_148_10, rf_148_16, rf_148_17, e0, m_151, zmax_s c]
      rw [if_neg (lg_lt_not_le c)]
      exact this
    · rw [bst_t c] at this
      simp (disch := (first | with_reducible exact is_148 | with_reducible exact zi_at is_148 (by omega) (by omega) | with_reducible exact is_155 | with_reducible exact zi_at is_155 (by omega) (by omega) | with_reducible exact is_158 | with_reducible exact zi_at is_158 (by omega) (by omega) | with_reducible exact is_159 | with_reducible exact zi_at is_159 (by omega) (by omega) | ((with_reducible refine zct_le ?_) <;> exact Nat.le_of_ble_eq_true rfl) | with_reducible exact zh_0 | with_reducible exact zh_1 | with_reducible exact zh_b | omega)) only [q_182_100, q_182_101, q_182_104, q_182_106, q_182_109r, q_182_109n, q_182_110, q_182_113, q_182_115, q_182_116r, q_182_116n, q_182_117, q_182_120, q_182_122, q_182_123, q_182_124, q_182_125, q_182_127, q_182_129, q_182_130, q_182_131, q_182_134, q_182_136, q_182_139, q_182_140, q_182_141, q_182_143, q_182_144, q_182_147, q_182_148, q_182_151, q_182_154, q_182_155, vf_s, vf_n, zk2_none, zk2_int, zk2_ref, zk2_null, zk2_long, zct_nil, zct_i, zct_l, zct_r, zct_n, Option.bind_some, Option.toList_some, Option.toList_none, List.cons_append, List.nil_append, zor_l, zor_r, if_true, if_false, ↓reduceIte, zi_lit, zi_of, zi_add, zi_mul, zi_sub, zi_nat, zi_leT, zi_leF, zi_ltT, zi_ltF, zi_eqT, zi_eqF, zif_0z, zif_bz, zi_01l, zi_01r, not_true_eq_false, not_false_eq_true, Nat.reduceAdd, Nat.reduceMul, Nat.reduceSub, rf_148_10, rf_148_16, rf_148_17, e0, m_151, zmax_t c]
      rw [if_pos (by rw [zj_le]; rw [zj_lt] at c; omega)]
      exact this
theorem m_182 (hb : mxA mi bx) (hE : mE mj 0 T) : zCall 182 [.ref 148] (SH Ls) mi mj (RF g) = some (some (.int (if spl bx T < 4 then zi (spl bx T) else -zi 6)), SH Ls, mi, mj, RF g) := by
  have e1 : bst (-zi 6) (spW bx T) 0 = (-zi 6, 0) := rfl
  have e2 : bst (-zi 6) (spD bx) 0 = (-zi 6, 0) := rfl
  by_cases hz : T.1 = zi 0
  · obtain ⟨l5, l6, l7, r1⟩ := l_182a (Ls := Ls) (g := g) hb hE hz 4 0 rfl none none none
    have r2 := l_182b (Ls := Ls) (g := g) (mj := mj) hb 4 0 rfl l6 l7
    rw [e1, bst_n _ _ 4 (by omega)] at r1
    rw [e2, bst_n _ _ 4 (by omega)] at r2
    have a1 := bsn_lt (spW bx T) 4 (by omega)
    simp (disch := (first | ((with_reducible refine zct_le ?_) <;> exact Nat.le_of_ble_eq_true rfl) | with_reducible exact zh_0 | with_reducible exact zh_1 | with_reducible exact zh_b | omega)) only [e_182, q_182_0, q_182_2, q_182_3, q_182_4, q_182_5, q_182_6, vf_s, vf_n, zk2_none, zk2_int, zk2_ref, zk2_null, zk2_long, zct_nil, zct_i, zct_l, zct_r, zct_n, Option.bind_some, Option.toList_some, Option.toList_none, List.cons_append, List.nil_append, zor_l, zor_r, if_true, if_false, ↓reduceIte, zi_lit, zi_of, zi_add, zi_mul, zi_sub, zi_nat, zi_leT, zi_leF, zi_ltT, zi_ltF, zi_eqT, zi_eqF, zif_0z, zif_bz, zi_01l, zi_01r, not_true_eq_false, not_false_eq_true, Nat.reduceAdd, Nat.reduceMul, Nat.reduceSub]
    rw [r1]
    unfold spl
    by_cases c : (bsn (spW bx T) 4).1 < 4
    · rw [if_pos c, if_pos c, if_pos c]
      simp (disch := (first | ((with_reducible refine zct_le ?_) <;> exact Nat.le_of_ble_eq_true rfl) | with_reducible exact zh_0 | with_reducible exact zh_1 | with_reducible exact zh_b | omega)) only [q_182_84, q_182_85, q_182_88, q_182_89, q_182_92, q_182_93, q_182_95, q_182_96, q_182_98, q_182_100, q_182_101, q_182_104, q_182_106, q_182_109r, q_182_109n, q_182_110, q_182_113, q_182_115, q_182_116r, q_182_116n, q_182_117, q_182_120, q_182_122, q_182_123, q_182_124, q_182_125, q_182_127, q_182_129, q_182_130, q_182_131, q_182_134, q_182_136, q_182_139, q_182_140, q_182_141, q_182_143, q_182_144, q_182_147, q_182_148, q_182_151, q_182_154, q_182_155, vf_s, vf_n, zk2_none, zk2_int, zk2_ref, zk2_null, zk2_long, zct_nil, zct_i, zct_l, zct_r, zct_n, Option.bind_some, Option.toList_some, Option.toList_none, List.cons_append, List.nil_append, zor_l, zor_r, if_true, if_false, ↓reduceIte, zi_lit, zi_of, zi_add, zi_mul, zi_sub, zi_nat, zi_leT, zi_leF, zi_ltT, zi_ltF, zi_eqT, zi_eqF, zif_0z, zif_bz, zi_01l, zi_01r, not_true_eq_false, not_false_eq_true, Nat.reduceAdd, Nat.reduceMul, Nat.reduceSub]
    · have c2 : bsn (spW bx T) 4 = (4, 0) := by rcases a1 with h | h; exact absurd h c; exact h
      rw [if_neg c, if_neg c, c2]
      simp (disch := (first | ((with_reducible refine zct_le ?_) <;> exact Nat.le_of_ble_eq_true rfl) | with_reducible exact zh_0 | with_reducible exact zh_1 | with_reducible exact zh_b | omega)) only [q_182_84, q_182_85, q_182_88, q_182_89, q_182_92, q_182_93, q_182_95, q_182_96, vf_s, vf_n, zk2_none, zk2_int, zk2_ref, zk2_null, zk2_long, zct_nil, zct_i, zct_l, zct_r, zct_n, Option.bind_some, Option.toList_some, Option.toList_none, List.cons_append, List.nil_append, zor_l, zor_r, if_true, if_false, ↓reduceIte, zi_lit, zi_of, zi_add, zi_mul, zi_sub, zi_nat, zi_leT, zi_leF, zi_ltT, zi_ltF, zi_eqT, zi_eqF, zif_0z, zif_bz, zi_01l, zi_01r, not_true_eq_false, not_false_eq_true, Nat.reduceAdd, Nat.reduceMul, Nat.reduceSub, sp_n6, zm_le6]
      exact r2
  · have m141 := m_141e (Ls := Ls) (g := g) (mi := mi) (f := 0) (by omega) hE
    rw [if_neg hz] at m141
    have e3 := bsn_0 (W := spW bx T) (fun k _ => by unfold spW wt; rw [if_neg hz]; split <;> rfl) 4 (by omega)
    have r2 := l_182b (Ls := Ls) (g := g) (mj := mj) hb 4 0 rfl none none
    rw [e2, bst_n _ _ 4 (by omega)] at r2
    simp (disch := (first | ((with_reducible refine zct_le ?_) <;> exact Nat.le_of_ble_eq_true rfl) | with_reducible exact zh_0 | with_reducible exact zh_1 | with_reducible exact zh_b | omega)) only [e_182, q_182_0, q_182_2, q_182_3, q_182_4, q_182_5, q_182_6, vf_s, vf_n, zk2_none, zk2_int, zk2_ref, zk2_null, zk2_long, zct_nil, zct_i, zct_l, zct_r, zct_n, Option.bind_some, Option.toList_some, Option.toList_none, List.cons_append, List.nil_append, zor_l, zor_r, if_true, if_false, ↓reduceIte, zi_lit, zi_of, zi_add, zi_mul, zi_sub, zi_nat, zi_leT, zi_leF, zi_ltT, zi_ltF, zi_eqT, zi_eqF, zif_0z, zif_bz, zi_01l, zi_01r, not_true_eq_false, not_false_eq_true, Nat.reduceAdd, Nat.reduceMul, Nat.reduceSub]
    rw [q_182_8]
    unfold spl
    rw [e3, if_neg (show ¬ (4, (0 : Int64)).1 < 4 by decide)]
    simp (disch := (first | with_reducible exact is_148 | with_reducible exact zi_at is_148 (by omega) (by omega) | ((with_reducible refine zct_le ?_) <;> exact Nat.le_of_ble_eq_true rfl) | with_reducible exact zh_0 | with_reducible exact zh_1 | with_reducible exact zh_b | omega)) only [q_182_10, q_182_11, q_182_14r, q_182_14n, q_182_15, q_182_16, q_182_19, q_182_22r, q_182_22n, q_182_23, q_182_26, q_182_28, q_182_29r, q_182_29n, q_182_30, q_182_33, q_182_35, q_182_36, q_182_39r, q_182_39n, q_182_40, q_182_43, q_182_44, q_182_46, q_182_47, q_182_48, q_182_51, q_182_54, q_182_55, q_182_57, q_182_59, q_182_60, q_182_61, q_182_64, q_182_66, q_182_69, q_182_70, q_182_71, q_182_73, q_182_74, q_182_77, q_182_78, q_182_81, q_182_84, q_182_85, q_182_88, q_182_89, q_182_92, q_182_93, q_182_95, q_182_96, vf_s, vf_n, zk2_none, zk2_int, zk2_ref, zk2_null, zk2_long, zct_nil, zct_i, zct_l, zct_r, zct_n, Option.bind_some, Option.toList_some, Option.toList_none, List.cons_append, List.nil_append, zor_l, zor_r, if_true, if_false, ↓reduceIte, zi_lit, zi_of, zi_add, zi_mul, zi_sub, zi_nat, zi_leT, zi_leF, zi_ltT, zi_ltF, zi_eqT, zi_eqF, zif_0z, zif_bz, zi_01l, zi_01r, not_true_eq_false, not_false_eq_true, Nat.reduceAdd, Nat.reduceMul, Nat.reduceSub, m141, sp_n6, zm_le6]
    exact r2
theorem m_183u (hb : mxA mi bx) (hs : s < 4) : ∃ mi2, zCall 183 [.ref 148, .int (zi s), .int (zi 0)] (SH Ls) mi mj (RF g) = some (none, SH Ls, mi2, mj, RF g) ∧ mxA mi2 (upB bx s) ∧ (∀ a, ¬ a = 148 → ¬ a = 158 → mi2 a = mi a) ∧ (∀ j, ¬ j = 23 → mi2 148 j = mi 148 j) := by
  obtain ⟨h1, h2⟩ := hb s hs
  have e0 : (bx.1 s + bx.2 s) >>> (zi 1 &&& zi 31) = mdB bx s := rfl
  refine ⟨zup (zup mi 148 23 (mdB bx s)) 158 s (if bx.2 s - bx.1 s = zi 1 then bx.2 s else mdB bx s), ?_, fun k hk => ?_, fun a ha ha2 => ?_, fun j hj => ?_⟩
  · simp (disch := (first | with_reducible exact is_148 | with_reducible exact zi_at is_148 (by omega) (by omega) | with_reducible exact is_158 | with_reducible exact zi_at is_158 (by omega) (by omega) | with_reducible exact is_159 | with_reducible exact zi_at is_159 (by omega) (by omega) | ((with_reducible refine zct_le ?_) <;> exact Nat.le_of_ble_eq_true rfl) | with_reducible exact zh_0 | with_reducible exact zh_1 | with_reducible exact zh_b | omega)) only [e_183, q_183_0r, q_183_0n, q_183_1, q_183_4, q_183_5, q_183_6, q_183_7r, q_183_7n, q_183_8, q_183_11, q_183_12, q_183_13, q_183_15r, q_183_15n, q_183_16, q_183_17, q_183_19, q_183_20, q_183_21, q_183_22, q_183_25, q_183_26, q_183_29r, q_183_29n, q_183_30, q_183_33, q_183_34r, q_183_34n, q_183_35, q_183_38, q_183_39, q_183_42r, q_183_42n, q_183_43, q_183_46, q_183_47, q_183_49, q_183_50, q_183_51, q_183_52, q_183_55, q_183_57, q_183_60r, q_183_60n, q_183_61, q_183_64, q_183_65, vf_s, vf_n, zk2_none, zk2_int, zk2_ref, zk2_null, zk2_long, zct_nil, zct_i, zct_l, zct_r, zct_n, Option.bind_some, Option.toList_some, Option.toList_none, List.cons_append, List.nil_append, zor_l, zor_r, if_true, if_false, ↓reduceIte, zi_lit, zi_of, zi_add, zi_mul, zi_sub, zi_nat, zi_leT, zi_leF, zi_ltT, zi_ltF, zi_eqT, zi_eqF, zif_0z, zif_bz, zi_01l, zi_01r, not_true_eq_false, not_false_eq_true, Nat.reduceAdd, Nat.reduceMul, Nat.reduceSub, zg_s, zg_o, zg_j, zg_r, zg_ro, zg_d, yfl_o, rf_148_16, rf_148_17, h1, h2, e0, i32_wid, ite_not]
    split <;> rfl
  · rw [zup_ne (o' := 159) (by omega), zup_ne (o' := 159) (by omega)]
    refine ⟨?_, (hb k hk).2⟩
    show _ = if k = s then _ else bx.1 k
    by_cases c : k = s
    · subst c; rw [zg_s, if_pos rfl]
    · rw [zg_j (by omega), if_neg c, zup_ne (by omega)]; exact (hb k hk).1
  · rw [zup_ne (by omega), zup_ne (by omega)]
  · rw [zup_ne (by omega), zg_j (by omega)]
theorem m_183l (hb : mxA mi bx) (hs : s < 4) : ∃ mi2, zCall 183 [.ref 148, .int (zi s), .int (zi 1)] (SH Ls) mi mj (RF g) = some (none, SH Ls, mi2, mj, RF g) ∧ mxA mi2 (lwB bx s) ∧ (∀ a, ¬ a = 148 → ¬ a = 159 → mi2 a = mi a) ∧ (∀ j, ¬ j = 23 → mi2 148 j = mi 148 j) := by
  obtain ⟨h1, h2⟩ := hb s hs
  have e0 : (bx.1 s + bx.2 s) >>> (zi 1 &&& zi 31) = mdB bx s := rfl
  refine ⟨zup (zup mi 148 23 (mdB bx s)) 159 s (mdB bx s), ?_, fun k hk => ?_, fun a ha ha2 => ?_, fun j hj => ?_⟩
  · simp (disch := (first | with_reducible exact is_148 | with_reducible exact zi_at is_148 (by omega) (by omega) | with_reducible exact is_158 | with_reducible exact zi_at is_158 (by omega) (by omega) | with_reducible exact is_159 | with_reducible exact zi_at is_159 (by omega) (by omega) | ((with_reducible refine zct_le ?_) <;> exact Nat.le_of_ble_eq_true rfl) | with_reducible exact zh_0 | with_reducible exact zh_1 | with_reducible exact zh_b | omega)) only [e_183, q_183_0r, q_183_0n, q_183_1, q_183_4, q_183_5, q_183_6, q_183_7r, q_183_7n, q_183_8, q_183_11, q_183_12, q_183_13, q_183_15r, q_183_15n, q_183_16, q_183_17, q_183_19, q_183_20, q_183_21, q_183_22, q_183_25, q_183_26, q_183_29r, q_183_29n, q_183_30, q_183_33, q_183_34r, q_183_34n, q_183_35, q_183_38, q_183_39, q_183_42r, q_183_42n, q_183_43, q_183_46, q_183_47, q_183_49, q_183_50, q_183_51, q_183_52, q_183_55, q_183_57, q_183_60r, q_183_60n, q_183_61, q_183_64, q_183_65, vf_s, vf_n, zk2_none, zk2_int, zk2_ref, zk2_null, zk2_long, zct_nil, zct_i, zct_l, zct_r, zct_n, Option.bind_some, Option.toList_some, Option.toList_none, List.cons_append, List.nil_append, zor_l, zor_r, if_true, if_false, ↓reduceIte, zi_lit, zi_of, zi_add, zi_mul, zi_sub, zi_nat, zi_leT, zi_leF, zi_ltT, zi_ltF, zi_eqT, zi_eqF, zif_0z, zif_bz, zi_01l, zi_01r, not_true_eq_false, not_false_eq_true, Nat.reduceAdd, Nat.reduceMul, Nat.reduceSub, zg_s, zg_o, zg_j, zg_r, zg_ro, zg_d, yfl_o, rf_148_16, rf_148_17, h1, h2, e0]
  · rw [zup_ne (o' := 158) (by omega), zup_ne (o' := 158) (by omega)]
    refine ⟨(hb k hk).1, ?_⟩
    show _ = if k = s then _ else bx.2 k
    by_cases c : k = s
    · subst c; rw [zg_s, if_pos rfl]
    · rw [zg_j (by omega), if_neg c, zup_ne (by omega)]; exact (hb k hk).2
  · rw [zup_ne (by omega), zup_ne (by omega)]
  · rw [zup_ne (by omega), zg_j (by omega)]
end
