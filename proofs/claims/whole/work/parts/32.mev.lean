/-! ===== the model: evaluations ===== -/
theorem nar_0 : vp_nar .boolean (zi 0) = zi 0 := by decide
theorem nar_1 : vp_nar .boolean (zi 1) = zi 1 := by decide
/-- the form after so many steps -/
def topE (lo hi : Nat → Int32) (u : Nat) (K : Nat → Nat) (V : Nat → Int32) (n : Nat) : En := stk lo hi u K V n (dep K n - 1)
def trA (mi : zI) (mj : zJ) (j : Nat) (e : En) : Prop := mi 162 j = (if e.1 = zi 0 then zi 0 else zi 1) ∧ (e.1 = zi 0 → mj 160 j = flow e.2 ∧ mj 161 j = fhigh e.2)
def mrB (mi : zI) (mj : zJ) (lo hi : Nat → Int32) (u : Nat) (K : Nat → Nat) (V : Nat → Int32) (i : Nat) : Prop := mi 148 11 = zi (dep K i) ∧ mi 148 12 = fw (stk lo hi u K V i) (dep K i) ∧ mS mj (dep K i) (stk lo hi u K V i) ∧ ∀ j, j < i → trA mi mj j (topE lo hi u K V (j + 1))
/-- what the model's runs leave alone -/
def FrN (mi : zI) (mj : zJ) (mi' : zI) (mj' : zJ) : Prop := (∀ a, ¬ a = 148 → ¬ a = 156 → ¬ a = 157 → ¬ a = 162 → mi' a = mi a) ∧ (∀ j, ¬ j = 11 → ¬ j = 12 → ¬ j = 15 → mi' 148 j = mi 148 j) ∧ (∀ a, ¬ a = 155 → ¬ a = 160 → ¬ a = 161 → mj' a = mj a)
theorem FrN.rf {mi : zI} {mj : zJ} : FrN mi mj mi mj := ⟨fun _ _ _ _ _ => rfl, fun _ _ _ _ => rfl, fun _ _ _ _ => rfl⟩
theorem FrN.tr {mi mi1 mi2 : zI} {mj mj1 mj2 : zJ} (h : FrN mi mj mi1 mj1) (h2 : FrN mi1 mj1 mi2 mj2) : FrN mi mj mi2 mj2 :=
  ⟨fun a h1 h3 h4 h5 => (h2.1 a h1 h3 h4 h5).trans (h.1 a h1 h3 h4 h5), fun j h1 h3 h4 => (h2.2.1 j h1 h3 h4).trans (h.2.1 j h1 h3 h4), fun a h1 h3 h4 => (h2.2.2 a h1 h3 h4).trans (h.2.2 a h1 h3 h4)⟩
def boxIn (lo hi : Nat → Int32) : Prop := ∀ k, k < 4 → -100000 ≤ (lo k).toInt ∧ (lo k).toInt ≤ (hi k).toInt ∧ (hi k).toInt ≤ 100000
def valIn (K : Nat → Nat) (V : Nat → Int32) (n : Nat) : Prop := ∀ k, k < n → K k = 0 → 0 ≤ (V k).toInt ∧ (V k).toInt ≤ 99999
/-- what a run of the model needs -/
def mrA (mi : zI) (lo hi : Nat → Int32) (u : Nat) (K : Nat → Nat) (V : Nat → Int32) (n : Nat) : Prop := mi 148 15 = zi n ∧ n ≤ 121 ∧ mi 149 8 = zi u ∧ u ≤ 8 ∧ (∀ k, k < 4 → mi 158 k = lo k) ∧ (∀ k, k < 4 → mi 159 k = hi k) ∧ boxIn lo hi ∧ (∀ k, k < n → mi 156 k = zi (K k)) ∧ (∀ k, k < n → K k = 0 → mi 157 k = V k) ∧ valIn K V n ∧ wfK K n ∧ gdS lo hi u K V n ∧ (∀ k, k < n → 1 ≤ dep K (k + 1))
theorem dep_1 {K : Nat → Nat} {n : Nat} : 1 ≤ dep K (n + 1) := by rw [dep]; omega
section
variable {Ls : Nat} {g : Nat → Nat} {mi : zI} {mj : zJ} {i1 i2 : Int32} {f o p q k n d s b x y u r N : Nat} {v w r0 : Int64} {Z : Option zRes} {F G X Y : FF} {e e1 e2 : En} {E : Nat → En} {lo hi V : Nat → Int32} {K : Nat → Nat} {vv : Int32}
theorem m_163 : ∃ mi', zCall 163 [.ref 148] (SH Ls) mi mj (RF g) = some (none, SH Ls, mi', mj, RF g) ∧ (∀ k, k < 4 → mi' 158 k = mi 149 k) ∧ (∀ k, k < 4 → mi' 159 k = mi 149 (4 + k)) ∧ (∀ a, ¬ a = 158 → ¬ a = 159 → mi' a = mi a) := by
  refine ⟨zup (zup (zup (zup (zup (zup (zup (zup mi 158 0 (mi 149 0)) 159 0 (mi 149 4)) 158 1 (mi 149 1)) 159 1 (mi 149 5)) 158 2 (mi 149 2)) 159 2 (mi 149 6)) 158 3 (mi 149 3)) 159 3 (mi 149 7), ?_, ?_, ?_, ?_⟩
  · simp (disch := (first | with_reducible exact is_148 | with_reducible exact zi_at is_148 (by omega) (by omega) | with_reducible exact is_149 | with_reducible exact zi_at is_149 (by omega) (by omega) | with_reducible exact is_158 | with_reducible exact zi_at is_158 (by omega) (by omega) | with_reducible exact is_159 | with_reducible exact zi_at is_159 (by omega) (by omega) | ((with_reducible refine zct_le ?_) <;> exact Nat.le_of_ble_eq_true rfl) | with_reducible exact zh_0 | with_reducible exact zh_1 | with_reducible exact zh_b | omega)) only [e_163, q_163_0, q_163_1, q_163_3, q_163_4, q_163_7r, q_163_7n, q_163_8, q_163_11, q_163_12r, q_163_12n, q_163_13, q_163_16, q_163_17, q_163_18, q_163_19, q_163_20, q_163_21r, q_163_21n, q_163_22, q_163_25, q_163_26r, q_163_26n, q_163_27, q_163_30, q_163_31, q_163_32, q_163_33, q_163_34, q_163_35, q_163_38, q_163_41, q_163_2, vf_s, vf_n, zk2_none, zk2_int, zk2_ref, zk2_null, zk2_long, zct_nil, zct_i, zct_l, zct_r, zct_n, Option.bind_some, Option.toList_some, Option.toList_none, List.cons_append, List.nil_append, zor_l, zor_r, if_true, if_false, ↓reduceIte, zi_lit, zi_of, zi_add, zi_mul, zi_sub, zi_nat, zi_leT, zi_leF, zi_ltT, zi_ltF, zi_eqT, zi_eqF, zif_0z, zif_bz, zi_01l, zi_01r, not_true_eq_false, not_false_eq_true, Nat.reduceAdd, Nat.reduceMul, Nat.reduceSub, zg_s, zg_o, zg_j, zg_r, zg_ro, zg_d, yfl_o, rf_148_0, rf_148_16, rf_148_17]
  · intro k hk
    rcases (show k = 0 ∨ k = 1 ∨ k = 2 ∨ k = 3 by omega) with rfl | rfl | rfl | rfl
    all_goals simp (disch := omega) only [zg_s, zg_o, zg_j, zg_r, zg_ro, zg_d, yfl_o]
  · intro k hk
    rcases (show k = 0 ∨ k = 1 ∨ k = 2 ∨ k = 3 by omega) with rfl | rfl | rfl | rfl
    all_goals simp (disch := omega) only [zg_s, zg_o, zg_j, zg_r, zg_ro, zg_d, yfl_o, Nat.reduceAdd]
  · intro a h1 h2
    simp (disch := omega) only [zg_s, zg_o, zg_j, zg_r, zg_ro, zg_d, yfl_o]
theorem l_162 (hb : b < 4) (hN : N ≤ 60) (hr : r ≤ 60) (n : Nat) : ∀ i, i + n = N → ∀ mi : zI, mi 149 (9 + b) = zi N → mi 148 15 = zi (r + i) →
    ∃ mi', zRun 162 2 [some (.ref 148), some (.int (zi b)), some (.int (zi i))] [] (SH Ls) mi mj (RF g) = some (none, SH Ls, mi', mj, RF g) ∧ mi' 148 15 = zi (r + N) ∧ (∀ k, i ≤ k → k < N → mi' 156 (r + k) = mi 149 (13 + 60 * b + k) ∧ mi' 157 (r + k) = mi 149 (253 + 60 * b + k)) ∧ (∀ j, j < r + i → mi' 156 j = mi 156 j ∧ mi' 157 j = mi 157 j) ∧ (∀ a, ¬ a = 148 → ¬ a = 156 → ¬ a = 157 → mi' a = mi a) ∧ (∀ j, ¬ j = 15 → mi' 148 j = mi 148 j) := by
  induction n with
  | zero =>
    intro i hi mi h1 h2
    obtain rfl : i = N := by omega
    refine ⟨mi, ?_, h2, fun k h3 h4 => by omega, fun _ _ => ⟨rfl, rfl⟩, fun _ _ _ _ => rfl, fun _ _ => rfl⟩
    rw [q_162_2]
    simp (disch := (first | with_reducible exact is_148 | with_reducible exact zi_at is_148 (by omega) (by omega) | with_reducible exact is_149 | with_reducible exact zi_at is_149 (by omega) (by omega) | ((with_reducible refine zct_le ?_) <;> exact Nat.le_of_ble_eq_true rfl) | with_reducible exact zh_0 | with_reducible exact zh_1 | with_reducible exact zh_b | omega)) only [q_162_3r, q_162_3n, q_162_4, q_162_7, q_162_9, q_162_10, q_162_11, q_162_12, q_162_15r, q_162_15n, q_162_16, q_162_19r, q_162_19n, q_162_20, q_162_23r, q_162_23n, q_162_24, q_162_27, q_162_29, q_162_31, q_162_32, q_162_33, q_162_34, q_162_35, q_162_36, q_162_37, q_162_38r, q_162_38n, q_162_39, q_162_42r, q_162_42n, q_162_43, q_162_46r, q_162_46n, q_162_47, q_162_50, q_162_53, q_162_55, q_162_56, q_162_57, q_162_58, q_162_59, q_162_60, q_162_61, q_162_62r, q_162_62n, q_162_63r, q_162_63i, q_162_64, q_162_67, q_162_68, q_162_69, q_162_72, q_162_75, q_162_78, vf_s, vf_n, zk2_none, zk2_int, zk2_ref, zk2_null, zk2_long, zct_nil, zct_i, zct_l, zct_r, zct_n, Option.bind_some, Option.toList_some, Option.toList_none, List.cons_append, List.nil_append, zor_l, zor_r, if_true, if_false, ↓reduceIte, zi_lit, zi_of, zi_add, zi_mul, zi_sub, zi_nat, zi_leT, zi_leF, zi_ltT, zi_ltF, zi_eqT, zi_eqF, zif_0z, zif_bz, zi_01l, zi_01r, not_true_eq_false, not_false_eq_true, Nat.reduceAdd, Nat.reduceMul, Nat.reduceSub, rf_148_0, h1]
  | succ n ih =>
    intro i hi mi h1 h2
    obtain ⟨mi', r1, r2, r3, r4, r5, r6⟩ := ih (i + 1) (by omega) (zup (zup (zup mi 156 (r + i) (mi 149 (13 + 60 * b + i))) 157 (r + i) (mi 149 (253 + 60 * b + i))) 148 15 (zi (r + i + 1))) (by simp (disch := omega) only [zg_s, zg_o, zg_j, zg_r, zg_ro, zg_d, yfl_o]; exact h1) (by rw [zg_s, Nat.add_assoc])
    refine ⟨mi', ?_, r2, fun k h3 h4 => ?_, fun j hj => ?_, fun a g1 g2 g3 => ?_, fun j hj => ?_⟩
    · rw [q_162_2]
      simp (disch := (first | with_reducible exact is_148 | with_reducible exact zi_at is_148 (by omega) (by omega) | with_reducible exact is_149 | with_reducible exact zi_at is_149 (by omega) (by omega) | with_reducible exact is_156 | with_reducible exact zi_at is_156 (by omega) (by omega) | with_reducible exact is_157 | with_reducible exact zi_at is_157 (by omega) (by omega) | ((with_reducible refine zct_le ?_) <;> exact Nat.le_of_ble_eq_true rfl) | with_reducible exact zh_0 | with_reducible exact zh_1 | with_reducible exact zh_b | omega)) only [q_162_3r, q_162_3n, q_162_4, q_162_7, q_162_9, q_162_10, q_162_11, q_162_12, q_162_15r, q_162_15n, q_162_16, q_162_19r, q_162_19n, q_162_20, q_162_23r, q_162_23n, q_162_24, q_162_27, q_162_29, q_162_31, q_162_32, q_162_33, q_162_34, q_162_35, q_162_36, q_162_37, q_162_38r, q_162_38n, q_162_39, q_162_42r, q_162_42n, q_162_43, q_162_46r, q_162_46n, q_162_47, q_162_50, q_162_53, q_162_55, q_162_56, q_162_57, q_162_58, q_162_59, q_162_60, q_162_61, q_162_62r, q_162_62n, q_162_63r, q_162_63i, q_162_64, q_162_67, q_162_68, q_162_69, q_162_72, q_162_75, q_162_78, vf_s, vf_n, zk2_none, zk2_int, zk2_ref, zk2_null, zk2_long, zct_nil, zct_i, zct_l, zct_r, zct_n, Option.bind_some, Option.toList_some, Option.toList_none, List.cons_append, List.nil_append, zor_l, zor_r, if_true, if_false, ↓reduceIte, zi_lit, zi_of, zi_add, zi_mul, zi_sub, zi_nat, zi_leT, zi_leF, zi_ltT, zi_ltF, zi_eqT, zi_eqF, zif_0z, zif_bz, zi_01l, zi_01r, not_true_eq_false, not_false_eq_true, Nat.reduceAdd, Nat.reduceMul, Nat.reduceSub, zg_s, zg_o, zg_j, zg_r, zg_ro, zg_d, yfl_o, rf_148_0, rf_148_13, rf_148_14, h1, h2]
      exact r1
    · by_cases c : k = i
      · subst c
        have := r4 (r + k) (by omega)
        simp (disch := omega) only [zg_s, zg_o, zg_j, zg_r, zg_ro, zg_d, yfl_o] at this
        exact this
      · have := r3 k (by omega) h4
        simp (disch := omega) only [zg_s, zg_o, zg_j, zg_r, zg_ro, zg_d, yfl_o] at this
        exact this
    · have := r4 j (by omega)
      simp (disch := omega) only [zg_s, zg_o, zg_j, zg_r, zg_ro, zg_d, yfl_o] at this
      exact this
    · rw [r5 a g1 g2 g3, zup_ne g1, zup_ne g3, zup_ne g2]
    · rw [r6 j hj]
      simp (disch := omega) only [zg_s, zg_o, zg_j, zg_r, zg_ro, zg_d, yfl_o]
theorem m_162 (hb : b < 4) (hN : N ≤ 60) (hr : r ≤ 60) (h1 : mi 149 (9 + b) = zi N) (h2 : mi 148 15 = zi r) :
    ∃ mi', zCall 162 [.ref 148, .int (zi b)] (SH Ls) mi mj (RF g) = some (none, SH Ls, mi', mj, RF g) ∧ mi' 148 15 = zi (r + N) ∧ (∀ k, k < N → mi' 156 (r + k) = mi 149 (13 + 60 * b + k) ∧ mi' 157 (r + k) = mi 149 (253 + 60 * b + k)) ∧ (∀ j, j < r → mi' 156 j = mi 156 j ∧ mi' 157 j = mi 157 j) ∧ (∀ a, ¬ a = 148 → ¬ a = 156 → ¬ a = 157 → mi' a = mi a) ∧ (∀ j, ¬ j = 15 → mi' 148 j = mi 148 j) := by
  obtain ⟨mi', r1, r2, r3, r4⟩ := l_162 (Ls := Ls) (g := g) (mj := mj) hb hN hr N 0 (by omega) mi h1 h2
  refine ⟨mi', ?_, r2, fun k hk => r3 k (by omega) hk, r4⟩
  simp (disch := (first | ((with_reducible refine zct_le ?_) <;> exact Nat.le_of_ble_eq_true rfl) | with_reducible exact zh_0 | with_reducible exact zh_1 | with_reducible exact zh_b | omega)) only [e_162, q_162_0, q_162_1, vf_s, vf_n, zk2_none, zk2_int, zk2_ref, zk2_null, zk2_long, zct_nil, zct_i, zct_l, zct_r, zct_n, Option.bind_some, Option.toList_some, Option.toList_none, List.cons_append, List.nil_append, zor_l, zor_r, if_true, if_false, ↓reduceIte, zi_lit, zi_of, zi_add, zi_mul, zi_sub, zi_nat, zi_leT, zi_leF, zi_ltT, zi_ltF, zi_eqT, zi_eqF, zif_0z, zif_bz, zi_01l, zi_01r, not_true_eq_false, not_false_eq_true, Nat.reduceAdd, Nat.reduceMul, Nat.reduceSub]
  exact r1
theorem trA.fr {mi' : zI} {mj' : zJ} {j : Nat} (h : trA mi mj j e) (h1 : mi' 162 j = mi 162 j) (h2 : mj' 160 j = mj 160 j) (h3 : mj' 161 j = mj 161 j) : trA mi' mj' j e := by
  unfold trA
  rw [h1, h2, h3]
  exact h
/-- the end of a step of a run: what is traced -/
theorem l_169t (hd : mi 148 11 = zi (x + 1)) (hx : x < 99) (hk : k < 121) (hE : mE mj x e) :
    ∃ mi' mj', (∀ l2 l3, zRun 169 64 [some (.ref 148), some (.int (zi k)), l2, l3] [] (SH Ls) mi mj (RF g) = zRun 169 12 [some (.ref 148), some (.int (zi (k + 1))), zk2 l2, some (.int (zi x))] [] (SH Ls) mi' mj' (RF g)) ∧ trA mi' mj' k e ∧ (∀ a, ¬ a = 162 → mi' a = mi a) ∧ (∀ j, ¬ j = k → mi' 162 j = mi 162 j ∧ mj' 160 j = mj 160 j ∧ mj' 161 j = mj 161 j) ∧ (∀ a, ¬ a = 160 → ¬ a = 161 → mj' a = mj a) := by
  have hx1 : x < 100 := by omega
  have m1 := m_141e (Ls := Ls) (g := g) (mi := mi) hx1 hE
  by_cases hz : e.1 = zi 0
  · rw [if_pos hz] at m1
    have er := (hE.1 hz).1
    have m2 := m_139 (Ls := Ls) (g := g) (mi := zup mi 162 k (zi 0)) (mj := mj) hx1
    have er2 : rf (zup mj 160 k (flow e.2)) x = rf mj x := rf_ext fun _ _ => by rw [zup_ne (by omega)]
    have m3 := m_140 (Ls := Ls) (g := g) (mi := zup mi 162 k (zi 0)) (mj := zup mj 160 k (flow e.2)) hx1
    rw [er] at m2
    rw [er2, er] at m3
    refine ⟨zup mi 162 k (zi 0), zup (zup mj 160 k (flow e.2)) 161 k (fhigh e.2), ?_, ⟨by rw [if_pos hz, zg_s], fun _ => ⟨by rw [zup_ne (by omega), zg_s], zg_s⟩⟩, fun a ha => zup_ne ha, fun j hj => ⟨zg_j (by omega), ?_, ?_⟩, fun a h1 h2 => by rw [zup_ne h2, zup_ne h1]⟩
    · intro l2 l3
      simp (disch := (first | with_reducible exact is_148 | with_reducible exact zi_at is_148 (by omega) (by omega) | with_reducible exact is_160 | with_reducible exact zi_at is_160 (by omega) (by omega) | with_reducible exact is_161 | with_reducible exact zi_at is_161 (by omega) (by omega) | with_reducible exact is_162 | with_reducible exact zi_at is_162 (by omega) (by omega) | ((with_reducible refine zct_le ?_) <;> exact Nat.le_of_ble_eq_true rfl) | with_reducible exact zh_0 | with_reducible exact zh_1 | with_reducible exact zh_b | omega)) only [q_169_64r, q_169_64n, q_169_65, q_169_68, q_169_69, q_169_70, q_169_71r, q_169_71n, q_169_72, q_169_75, q_169_76r, q_169_76n, q_169_77, q_169_78, q_169_81, q_169_82r, q_169_82n, q_169_83, q_169_86, q_169_87r, q_169_87n, q_169_88, q_169_91, q_169_92, q_169_93, q_169_96, q_169_97, q_169_100r, q_169_100n, q_169_101, q_169_102, q_169_105, q_169_106r, q_169_106n, q_169_107, q_169_110, q_169_111r, q_169_111n, q_169_112, q_169_115, q_169_116, q_169_117, q_169_120, q_169_121, q_169_124r, q_169_124n, q_169_125, q_169_126, q_169_129, q_169_130, q_169_133, vf_s, vf_n, zk2_none, zk2_int, zk2_ref, zk2_null, zk2_long, zct_nil, zct_i, zct_l, zct_r, zct_n, Option.bind_some, Option.toList_some, Option.toList_none, List.cons_append, List.nil_append, zor_l, zor_r, if_true, if_false, ↓reduceIte, zi_lit, zi_of, zi_add, zi_mul, zi_sub, zi_nat, zi_leT, zi_leF, zi_ltT, zi_ltF, zi_eqT, zi_eqF, zif_0z, zif_bz, zi_01l, zi_01r, not_true_eq_false, not_false_eq_true, Nat.reduceAdd, Nat.reduceMul, Nat.reduceSub, zg_s, zg_o, zg_j, zg_r, zg_ro, zg_d, yfl_o, rf_148_18, rf_148_19, rf_148_20, hd, Nat.add_sub_cancel, m1, nar_0, m2, m3]
    · simp (disch := omega) only [zg_s, zg_o, zg_j, zg_r, zg_ro, zg_d, yfl_o]
    · simp (disch := omega) only [zg_s, zg_o, zg_j, zg_r, zg_ro, zg_d, yfl_o]
  · rw [if_neg hz] at m1
    refine ⟨zup mi 162 k (zi 1), zup (zup mj 160 k 0) 161 k 0, ?_, ⟨by rw [if_neg hz, zg_s], fun q => absurd q hz⟩, fun a ha => zup_ne ha, fun j hj => ⟨zg_j (by omega), ?_, ?_⟩, fun a h1 h2 => by rw [zup_ne h2, zup_ne h1]⟩
    · intro l2 l3
      simp (disch := (first | with_reducible exact is_148 | with_reducible exact zi_at is_148 (by omega) (by omega) | with_reducible exact is_160 | with_reducible exact zi_at is_160 (by omega) (by omega) | with_reducible exact is_161 | with_reducible exact zi_at is_161 (by omega) (by omega) | with_reducible exact is_162 | with_reducible exact zi_at is_162 (by omega) (by omega) | ((with_reducible refine zct_le ?_) <;> exact Nat.le_of_ble_eq_true rfl) | with_reducible exact zh_0 | with_reducible exact zh_1 | with_reducible exact zh_b | omega)) only [q_169_64r, q_169_64n, q_169_65, q_169_68, q_169_69, q_169_70, q_169_71r, q_169_71n, q_169_72, q_169_75, q_169_76r, q_169_76n, q_169_77, q_169_78, q_169_81, q_169_82r, q_169_82n, q_169_83, q_169_86, q_169_87r, q_169_87n, q_169_88, q_169_91, q_169_92, q_169_93, q_169_96, q_169_97, q_169_100r, q_169_100n, q_169_101, q_169_102, q_169_105, q_169_106r, q_169_106n, q_169_107, q_169_110, q_169_111r, q_169_111n, q_169_112, q_169_115, q_169_116, q_169_117, q_169_120, q_169_121, q_169_124r, q_169_124n, q_169_125, q_169_126, q_169_129, q_169_130, q_169_133, vf_s, vf_n, zk2_none, zk2_int, zk2_ref, zk2_null, zk2_long, zct_nil, zct_i, zct_l, zct_r, zct_n, Option.bind_some, Option.toList_some, Option.toList_none, List.cons_append, List.nil_append, zor_l, zor_r, if_true, if_false, ↓reduceIte, zi_lit, zi_of, zi_add, zi_mul, zi_sub, zi_nat, zi_leT, zi_leF, zi_ltT, zi_ltF, zi_eqT, zi_eqF, zif_0z, zif_bz, zi_01l, zi_01r, not_true_eq_false, not_false_eq_true, Nat.reduceAdd, Nat.reduceMul, Nat.reduceSub, zg_s, zg_o, zg_j, zg_r, zg_ro, zg_d, yfl_o, rf_148_18, rf_148_19, rf_148_20, hd, Nat.add_sub_cancel, m1, nar_1]
    · simp (disch := omega) only [zg_s, zg_o, zg_j, zg_r, zg_ro, zg_d, yfl_o]
    · simp (disch := omega) only [zg_s, zg_o, zg_j, zg_r, zg_ro, zg_d, yfl_o]
end
