/-! ===== the forms of the model (5): names, inputs, numbers ===== -/
def mS (mj : zJ) (d : Nat) (E : Nat → En) : Prop := ∀ i, i < d → mE mj i (E i)
theorem zm6 : (-zi 6 < zi 0) = True := by decide
section
variable {Ls : Nat} {g : Nat → Nat} {mi : zI} {mj : zJ} {i1 i2 : Int32} {f o p q k n d s b x y u : Nat} {v w r0 : Int64} {Z : Option zRes} {F G X Y : FF} {e e1 e2 : En} {E : Nat → En}
theorem wt_mE (h : mE mj f e) (hs : s < 12) : zabs (mj 155 (17 * f + 1 + s)) = wt e s := by
  unfold wt
  by_cases hz : e.1 = zi 0
  · rw [if_pos hz, ← (h.1 hz).1, rf_c hs]
  · rw [if_neg hz, Nat.add_assoc, (h.2 hz).2 (1 + s) (by omega), zabs_0]
theorem l_159a (hS : mS mj d E) (hs : s < 12) (hd : mi 148 11 = zi d) (hd2 : d < 100) {l1 l2 l3 : Option Value} (n : Nat) : ∀ i, i + n = d → zRun 159 63 [some (.ref 148), l1, l2, l3, none, some (.int (zi s)), some (.long (wsm E s i)), none, some (.int (zi i))] [] (SH Ls) mi mj (RF g) = zRun 159 101 [some (.ref 148), l1, l2, l3, none, some (.int (zi s)), some (.long (wsm E s d)), none, some (.int (zi d))] [] (SH Ls) mi mj (RF g) := by
  induction n with
  | zero =>
    intro i hi
    obtain rfl : i = d := by omega
    rw [q_159_63]
    simp (disch := (first | with_reducible exact is_148 | with_reducible exact zi_at is_148 (by omega) (by omega) | ((with_reducible refine zct_le ?_) <;> exact Nat.le_of_ble_eq_true rfl) | with_reducible exact zh_0 | with_reducible exact zh_1 | with_reducible exact zh_b | omega)) only [q_159_65r, q_159_65n, q_159_66, q_159_69, vf_s, vf_n, zk2_none, zk2_int, zk2_ref, zk2_null, zk2_long, zct_nil, zct_i, zct_l, zct_r, zct_n, Option.bind_some, Option.toList_some, Option.toList_none, List.cons_append, List.nil_append, zor_l, zor_r, if_true, if_false, ↓reduceIte, zi_lit, zi_of, zi_add, zi_mul, zi_sub, zi_nat, zi_leT, zi_leF, zi_ltT, zi_ltF, zi_eqT, zi_eqF, zif_0z, zif_bz, zi_01l, zi_01r, not_true_eq_false, not_false_eq_true, Nat.reduceAdd, Nat.reduceMul, Nat.reduceSub, hd]
  | succ n ih =>
    intro i hi
    rw [q_159_63]
    simp (disch := (first | with_reducible exact is_148 | with_reducible exact zi_at is_148 (by omega) (by omega) | with_reducible exact is_155 | with_reducible exact zi_at is_155 (by omega) (by omega) | ((with_reducible refine zct_le ?_) <;> exact Nat.le_of_ble_eq_true rfl) | with_reducible exact zh_0 | with_reducible exact zh_1 | with_reducible exact zh_b | omega)) only [q_159_65r, q_159_65n, q_159_66, q_159_69, q_159_72, q_159_74r, q_159_74n, q_159_75, q_159_78, q_159_80, q_159_82, q_159_83, q_159_84, q_159_85, q_159_87, q_159_88, q_159_89, q_159_92, q_159_93, q_159_95, q_159_98, vf_s, vf_n, zk2_none, zk2_int, zk2_ref, zk2_null, zk2_long, zct_nil, zct_i, zct_l, zct_r, zct_n, Option.bind_some, Option.toList_some, Option.toList_none, List.cons_append, List.nil_append, zor_l, zor_r, if_true, if_false, ↓reduceIte, zi_lit, zi_of, zi_add, zi_mul, zi_sub, zi_nat, zi_leT, zi_leF, zi_ltT, zi_ltF, zi_eqT, zi_eqF, zif_0z, zif_bz, zi_01l, zi_01r, not_true_eq_false, not_false_eq_true, Nat.reduceAdd, Nat.reduceMul, Nat.reduceSub, hd, rf_148_10, m_137, wt_mE (hS i (by omega)) hs]
    exact ih (i + 1) (by omega)
theorem l_159a0 (hS : mS mj d E) (hs : s < 12) (hd : mi 148 11 = zi d) (hd2 : d < 100) {l1 l2 l3 : Option Value} : zRun 159 63 [some (.ref 148), l1, l2, l3, none, some (.int (zi s)), some (.long 0), none, some (.int (zi 0))] [] (SH Ls) mi mj (RF g) = zRun 159 101 [some (.ref 148), l1, l2, l3, none, some (.int (zi s)), some (.long (wsm E s d)), none, some (.int (zi d))] [] (SH Ls) mi mj (RF g) := l_159a hS hs hd hd2 d 0 (by omega)
theorem l_159b (hS : mS mj d E) (hd : mi 148 11 = zi d) (hd2 : d < 100) (hu : mi 149 8 = zi u) (hu8 : u ≤ 8) {z : Int32}
    (hZ : ∀ l6 l8, zRun 159 124 [some (.ref 148), some (.int z), some (.int (zi (chs (fun s => wsm E s d) (u - 1)))), some (.long (wsm E (chs (fun s => wsm E s d) (u - 1)) d)), none, some (.int (zi (4 + u))), l6, none, l8] [] (SH Ls) mi mj (RF g) = Z)
    (hu1 : 1 ≤ u) (n : Nat) : ∀ k, k + n = u - 1 → ∀ l6 l8, zRun 159 43 [some (.ref 148), some (.int z), some (.int (zi (chs (fun s => wsm E s d) k))), some (.long (wsm E (chs (fun s => wsm E s d) k) d)), none, some (.int (zi (5 + k))), l6, none, l8] [] (SH Ls) mi mj (RF g) = Z := by
  induction n with
  | zero =>
    intro k hk l6 l8
    obtain rfl : k = u - 1 := by omega
    rw [q_159_43]
    simp (disch := (first | with_reducible exact is_148 | with_reducible exact zi_at is_148 (by omega) (by omega) | with_reducible exact is_149 | with_reducible exact zi_at is_149 (by omega) (by omega) | ((with_reducible refine zct_le ?_) <;> exact Nat.le_of_ble_eq_true rfl) | with_reducible exact zh_0 | with_reducible exact zh_1 | with_reducible exact zh_b | omega)) only [q_159_45, q_159_46r, q_159_46n, q_159_47, q_159_50, q_159_52, q_159_53, q_159_54, vf_s, vf_n, zk2_none, zk2_int, zk2_ref, zk2_null, zk2_long, zct_nil, zct_i, zct_l, zct_r, zct_n, Option.bind_some, Option.toList_some, Option.toList_none, List.cons_append, List.nil_append, zor_l, zor_r, if_true, if_false, ↓reduceIte, zi_lit, zi_of, zi_add, zi_mul, zi_sub, zi_nat, zi_leT, zi_leF, zi_ltT, zi_ltF, zi_eqT, zi_eqF, zif_0z, zif_bz, zi_01l, zi_01r, not_true_eq_false, not_false_eq_true, Nat.reduceAdd, Nat.reduceMul, Nat.reduceSub, hu, rf_148_0]
    rw [show 5 + (u - 1) = 4 + u by omega]
    exact hZ l6 l8
  | succ n ih =>
    intro k hk l6 l8
    have hc := chs_lt (fun s => wsm E s d) k
    rw [q_159_43]
    simp (disch := (first | with_reducible exact is_148 | with_reducible exact zi_at is_148 (by omega) (by omega) | with_reducible exact is_149 | with_reducible exact zi_at is_149 (by omega) (by omega) | ((with_reducible refine zct_le ?_) <;> exact Nat.le_of_ble_eq_true rfl) | with_reducible exact zh_0 | with_reducible exact zh_1 | with_reducible exact zh_b | omega)) only [q_159_45, q_159_46r, q_159_46n, q_159_47, q_159_50, q_159_52, q_159_53, q_159_54, q_159_57, q_159_58, q_159_60, q_159_61, vf_s, vf_n, zk2_none, zk2_int, zk2_ref, zk2_null, zk2_long, zct_nil, zct_i, zct_l, zct_r, zct_n, Option.bind_some, Option.toList_some, Option.toList_none, List.cons_append, List.nil_append, zor_l, zor_r, if_true, if_false, ↓reduceIte, zi_lit, zi_of, zi_add, zi_mul, zi_sub, zi_nat, zi_leT, zi_leF, zi_ltT, zi_ltF, zi_eqT, zi_eqF, zif_0z, zif_bz, zi_01l, zi_01r, not_true_eq_false, not_false_eq_true, Nat.reduceAdd, Nat.reduceMul, Nat.reduceSub, hu, rf_148_0]
    rw [l_159a0 hS (show 5 + k < 12 by omega) hd hd2]
    simp (disch := (first | with_reducible exact is_148 | with_reducible exact zi_at is_148 (by omega) (by omega) | with_reducible exact is_149 | with_reducible exact zi_at is_149 (by omega) (by omega) | ((with_reducible refine zct_le ?_) <;> exact Nat.le_of_ble_eq_true rfl) | with_reducible exact zh_0 | with_reducible exact zh_1 | with_reducible exact zh_b | omega)) only [q_159_101, q_159_102, q_159_105, q_159_107, q_159_108, q_159_109, q_159_112, q_159_114, q_159_115, q_159_117, q_159_118, q_159_121, vf_s, vf_n, zk2_none, zk2_int, zk2_ref, zk2_null, zk2_long, zct_nil, zct_i, zct_l, zct_r, zct_n, Option.bind_some, Option.toList_some, Option.toList_none, List.cons_append, List.nil_append, zor_l, zor_r, if_true, if_false, ↓reduceIte, zi_lit, zi_of, zi_add, zi_mul, zi_sub, zi_nat, zi_leT, zi_leF, zi_ltT, zi_ltF, zi_eqT, zi_eqF, zif_0z, zif_bz, zi_01l, zi_01r, not_true_eq_false, not_false_eq_true, Nat.reduceAdd, Nat.reduceMul, Nat.reduceSub]
    by_cases h : wsm E (5 + k) d < wsm E (chs (fun s => wsm E s d) k) d
    · have e1 : chs (fun s => wsm E s d) (k + 1) = 5 + k := by rw [chs, if_pos h]
      have := ih (k + 1) (by omega) (some (.long (wsm E (5 + k) d))) (some (.int (zi d)))
      rw [e1] at this
      rw [if_neg (lg_lt_not_le h)]
      exact this
    · have e1 : chs (fun s => wsm E s d) (k + 1) = chs (fun s => wsm E s d) k := by rw [chs, if_neg h]
      have := ih (k + 1) (by omega) (some (.long (wsm E (5 + k) d))) (some (.int (zi d)))
      rw [e1] at this
      rw [if_pos (by rw [zj_le]; rw [zj_lt] at h; omega)]
      exact this
theorem mE_cd (h : mE mj f e) (hs : s < 12) : mE (zup (zup mj 155 (17 * f + 13) (mj 155 (17 * f + 13) + wt e s)) 155 (17 * f + 1 + s) 0) f (cdE e s) := by
  refine ⟨fun hz => ⟨?_, ?_⟩, fun hz => ⟨?_, fun k hk => ?_⟩⟩
  · have hz : e.1 = zi 0 := hz
    obtain ⟨h1, h2⟩ := h.1 hz
    show _ = fCd e.2 (wt e s) s
    rw [← h1]
    unfold fCd
    refine rf_of ?_ (fun k hk => ?_) ?_ ?_ ?_
    · simp (disch := omega) only [zg_s, zg_o, zg_j, zg_r, zg_ro, zg_d, yfl_o, rf_0]
    · by_cases c : k = s
      · subst c; rw [zg_s, if_pos rfl]
      · rw [if_neg c, rf_c hk]
        simp (disch := omega) only [zg_s, zg_o, zg_j, zg_r, zg_ro, zg_d, yfl_o]
    · simp (disch := omega) only [zg_s, zg_o, zg_j, zg_r, zg_ro, zg_d, yfl_o, rf_13]
    · simp (disch := omega) only [zg_s, zg_o, zg_j, zg_r, zg_ro, zg_d, yfl_o, rf_14]
    · simp (disch := omega) only [zg_s, zg_o, zg_j, zg_r, zg_ro, zg_d, yfl_o, rf_15]
  · have hz : e.1 = zi 0 := hz
    simp (disch := omega) only [zg_s, zg_o, zg_j, zg_r, zg_ro, zg_d, yfl_o]
    exact (h.1 hz).2
  · have hz : ¬ e.1 = zi 0 := hz
    simp (disch := omega) only [zg_s, zg_o, zg_j, zg_r, zg_ro, zg_d, yfl_o]
    exact (h.2 hz).1
  · have hz : ¬ e.1 = zi 0 := hz
    have hw := h.2 hz
    have w0 : wt e s = 0 := if_neg hz
    by_cases c : k = 1 + s
    · subst c; rw [← Nat.add_assoc, zg_s]
    · by_cases c2 : k = 13
      · subst c2
        rw [zg_j (by omega), zg_s, hw.2 13 (by omega), w0]
        rfl
      · rw [zg_j (by omega), zg_j (by omega)]
        exact hw.2 k hk
theorem mE_ne (h : mE mj f e) {j : Nat} (hj : j < 17 * f ∨ 17 * f + 17 ≤ j) : mE (zup mj 155 j v) f e := by
  refine ⟨fun hz => ⟨?_, ?_⟩, fun hz => ⟨?_, fun k hk => ?_⟩⟩
  · rw [rf_ext fun k hk => zg_j (by omega)]; exact (h.1 hz).1
  · rw [zg_j (by omega)]; exact (h.1 hz).2
  · rw [zg_j (by omega)]; exact (h.2 hz).1
  · rw [zg_j (by omega)]; exact (h.2 hz).2 k hk
theorem l_159c (hs : s < 12) (hd : mi 148 11 = zi d) (hd2 : d < 100) {l1 l3 : Option Value} (n : Nat) : ∀ i, i + n = d → ∀ mj : zJ, (∀ j, j < d → mE mj j (if j < i then cdE (E j) s else E j)) →
    ∃ mj', (∀ l6 l8, zRun 159 127 [some (.ref 148), l1, some (.int (zi s)), l3, none, some (.int (zi i)), l6, none, l8] [] (SH Ls) mi mj (RF g) = (if n = 0 then zRun 159 187 [some (.ref 148), l1, some (.int (zi s)), l3, none, some (.int (zi d)), l6, none, l8] [] (SH Ls) mi mj' (RF g) else zRun 159 187 [some (.ref 148), l1, some (.int (zi s)), l3, none, some (.int (zi d)), some (.int (zi (17 * (d - 1) + 1 + s))), none, l8] [] (SH Ls) mi mj' (RF g))) ∧ mS mj' d (fun j => cdE (E j) s) ∧ (∀ a, ¬ a = 155 → mj' a = mj a) := by
  induction n with
  | zero =>
    intro i hi mj hE
    obtain rfl : i = d := by omega
    refine ⟨mj, fun l6 l8 => ?_, fun j hj => ?_, fun _ _ => rfl⟩
    · rw [q_159_127, if_pos rfl]
      simp (disch := (first | with_reducible exact is_148 | with_reducible exact zi_at is_148 (by omega) (by omega) | ((with_reducible refine zct_le ?_) <;> exact Nat.le_of_ble_eq_true rfl) | with_reducible exact zh_0 | with_reducible exact zh_1 | with_reducible exact zh_b | omega)) only [q_159_129r, q_159_129n, q_159_130, q_159_133, vf_s, vf_n, zk2_none, zk2_int, zk2_ref, zk2_null, zk2_long, zct_nil, zct_i, zct_l, zct_r, zct_n, Option.bind_some, Option.toList_some, Option.toList_none, List.cons_append, List.nil_append, zor_l, zor_r, if_true, if_false, ↓reduceIte, zi_lit, zi_of, zi_add, zi_mul, zi_sub, zi_nat, zi_leT, zi_leF, zi_ltT, zi_ltF, zi_eqT, zi_eqF, zif_0z, zif_bz, zi_01l, zi_01r, not_true_eq_false, not_false_eq_true, Nat.reduceAdd, Nat.reduceMul, Nat.reduceSub, hd]
    · have := hE j hj
      rw [if_pos hj] at this
      exact this
  | succ n ih =>
    intro i hi mj hE
    have hEi := hE i (by omega)
    rw [if_neg (by omega)] at hEi
    obtain ⟨mj', h3, h4, h5⟩ := ih (i + 1) (by omega) (zup (zup mj 155 (17 * i + 13) (mj 155 (17 * i + 13) + wt (E i) s)) 155 (17 * i + 1 + s) 0) (by
      intro j hj
      by_cases c : j = i
      · subst c
        rw [if_pos (by omega)]
        exact mE_cd hEi hs
      · have := mE_ne (v := 0) (j := 17 * i + 1 + s) (mE_ne (v := mj 155 (17 * i + 13) + wt (E i) s) (j := 17 * i + 13) (hE j hj) (by omega)) (by omega)
        by_cases c2 : j < i
        · rw [if_pos c2] at this
          rw [if_pos (by omega)]
          exact this
        · rw [if_neg c2] at this
          rw [if_neg (by omega)]
          exact this)
    refine ⟨mj', fun l6 l8 => ?_, h4, fun a ha => ?_⟩
    · rw [q_159_127, if_neg (by omega)]
      simp (disch := (first | with_reducible exact is_148 | with_reducible exact zi_at is_148 (by omega) (by omega) | with_reducible exact is_155 | with_reducible exact zi_at is_155 (by omega) (by omega) | ((with_reducible refine zct_le ?_) <;> exact Nat.le_of_ble_eq_true rfl) | with_reducible exact zh_0 | with_reducible exact zh_1 | with_reducible exact zh_b | omega)) only [q_159_129r, q_159_129n, q_159_130, q_159_133, q_159_136, q_159_138, q_159_140, q_159_141, q_159_142, q_159_143, q_159_144, q_159_145, q_159_147r, q_159_147n, q_159_148, q_159_151, q_159_153, q_159_155, q_159_156, q_159_158, q_159_159, q_159_160, q_159_161r, q_159_161n, q_159_162, q_159_165, q_159_167, q_159_168, q_159_171, q_159_172, q_159_173r, q_159_173n, q_159_174, q_159_177, q_159_179, q_159_180, q_159_181, q_159_184, vf_s, vf_n, zk2_none, zk2_int, zk2_ref, zk2_null, zk2_long, zct_nil, zct_i, zct_l, zct_r, zct_n, Option.bind_some, Option.toList_some, Option.toList_none, List.cons_append, List.nil_append, zor_l, zor_r, if_true, if_false, ↓reduceIte, zi_lit, zi_of, zi_add, zi_mul, zi_sub, zi_nat, zi_leT, zi_leF, zi_ltT, zi_ltF, zi_eqT, zi_eqF, zif_0z, zif_bz, zi_01l, zi_01r, not_true_eq_false, not_false_eq_true, Nat.reduceAdd, Nat.reduceMul, Nat.reduceSub, hd, rf_148_10, m_137, wt_mE hEi hs]
      rw [h3]
      by_cases c : n = 0
      · rw [if_pos c]
        have : i = d - 1 := by omega
        rw [this]
      · rw [if_neg c]
    · rw [h5 a ha, zup_ne ha, zup_ne ha]
theorem m_159 (hS : mS mj d E) (hd : mi 148 11 = zi d) (h1 : 1 ≤ d) (hd2 : d < 100) (hu : mi 149 8 = zi u) (hu8 : u ≤ 8) (hz : (E (d - 1)).1 = zi 0) (hp : 0 ≤ (E (d - 1)).2 13) :
    ∃ mj', zCall 159 [.ref 148] (SH Ls) mi mj (RF g) = some (none, SH Ls, mi, mj', RF g) ∧ mS mj' d (if 0 < (E (d - 1)).2 13 ∧ 1 ≤ u then nmS E d u else E) ∧ (∀ a, ¬ a = 155 → mj' a = mj a) := by
  have e13 : mj 155 (17 * (d - 1) + 13) = (E (d - 1)).2 13 := by
    have := ((hS (d - 1) (by omega)).1 hz).1
    rw [← this]; rfl
  by_cases cu : 1 ≤ u
  · by_cases cl : 0 < (E (d - 1)).2 13
    · have cl' : ¬ (E (d - 1)).2 13 = 0 := fun h => by rw [h] at cl; exact absurd cl (by decide)
      rw [if_pos ⟨cl, cu⟩]
      have hs : chs (fun s => wsm E s d) (u - 1) < 12 := by have := chs_lt (fun s => wsm E s d) (u - 1); omega
      generalize hs' : chs (fun s => wsm E s d) (u - 1) = s at hs
      obtain ⟨mj1, h3, h4, h5⟩ := l_159c (Ls := Ls) (g := g) (E := E) (l1 := some (.int (zi (d - 1)))) (l3 := some (.long (wsm E s d))) hs hd hd2 d 0 (by omega) mj (fun j hj => by rw [if_neg (by omega)]; exact hS j hj)
      refine ⟨zup (zup mj1 155 (17 * (d - 1) + 1 + s) (mj1 155 (17 * (d - 1) + 13))) 155 (17 * (d - 1) + 13) 0, ?_, ?_, ?_⟩
      · simp (disch := (first | with_reducible exact is_148 | with_reducible exact zi_at is_148 (by omega) (by omega) | with_reducible exact is_149 | with_reducible exact zi_at is_149 (by omega) (by omega) | with_reducible exact is_155 | with_reducible exact zi_at is_155 (by omega) (by omega) | ((with_reducible refine zct_le ?_) <;> exact Nat.le_of_ble_eq_true rfl) | with_reducible exact zh_0 | with_reducible exact zh_1 | with_reducible exact zh_b | omega)) only [e_159, q_159_0r, q_159_0n, q_159_1, q_159_4, q_159_5, q_159_6, q_159_7r, q_159_7n, q_159_8, q_159_11, q_159_13, q_159_14, q_159_17r, q_159_17n, q_159_18, q_159_21, q_159_23, q_159_24, q_159_25, q_159_27, q_159_28, q_159_29, q_159_30, q_159_31, q_159_34, q_159_35, q_159_37, q_159_38, q_159_39, q_159_40, q_159_41, vf_s, vf_n, zk2_none, zk2_int, zk2_ref, zk2_null, zk2_long, zct_nil, zct_i, zct_l, zct_r, zct_n, Option.bind_some, Option.toList_some, Option.toList_none, List.cons_append, List.nil_append, zor_l, zor_r, if_true, if_false, ↓reduceIte, zi_lit, zi_of, zi_add, zi_mul, zi_sub, zi_nat, zi_leT, zi_leF, zi_ltT, zi_ltF, zi_eqT, zi_eqF, zif_0z, zif_bz, zi_01l, zi_01r, not_true_eq_false, not_false_eq_true, Nat.reduceAdd, Nat.reduceMul, Nat.reduceSub, hd, hu, rf_148_0, rf_148_10, e13, cl']
        rw [q_159_43]
        simp (disch := (first | with_reducible exact is_148 | with_reducible exact zi_at is_148 (by omega) (by omega) | with_reducible exact is_149 | with_reducible exact zi_at is_149 (by omega) (by omega) | ((with_reducible refine zct_le ?_) <;> exact Nat.le_of_ble_eq_true rfl) | with_reducible exact zh_0 | with_reducible exact zh_1 | with_reducible exact zh_b | omega)) only [q_159_45, q_159_46r, q_159_46n, q_159_47, q_159_50, q_159_52, q_159_53, q_159_54, q_159_57, q_159_58, q_159_60, q_159_61, vf_s, vf_n, zk2_none, zk2_int, zk2_ref, zk2_null, zk2_long, zct_nil, zct_i, zct_l, zct_r, zct_n, Option.bind_some, Option.toList_some, Option.toList_none, List.cons_append, List.nil_append, zor_l, zor_r, if_true, if_false, ↓reduceIte, zi_lit, zi_of, zi_add, zi_mul, zi_sub, zi_nat, zi_leT, zi_leF, zi_ltT, zi_ltF, zi_eqT, zi_eqF, zif_0z, zif_bz, zi_01l, zi_01r, not_true_eq_false, not_false_eq_true, Nat.reduceAdd, Nat.reduceMul, Nat.reduceSub, hu, rf_148_0]
        rw [l_159a0 hS (show 4 < 12 by omega) hd hd2]
        simp (disch := (first | with_reducible exact is_148 | with_reducible exact zi_at is_148 (by omega) (by omega) | with_reducible exact is_149 | with_reducible exact zi_at is_149 (by omega) (by omega) | ((with_reducible refine zct_le ?_) <;> exact Nat.le_of_ble_eq_true rfl) | with_reducible exact zh_0 | with_reducible exact zh_1 | with_reducible exact zh_b | omega)) only [q_159_101, q_159_102, q_159_105, q_159_107, q_159_108, q_159_109, q_159_112, q_159_114, q_159_115, q_159_117, q_159_118, q_159_121, vf_s, vf_n, zk2_none, zk2_int, zk2_ref, zk2_null, zk2_long, zct_nil, zct_i, zct_l, zct_r, zct_n, Option.bind_some, Option.toList_some, Option.toList_none, List.cons_append, List.nil_append, zor_l, zor_r, if_true, if_false, ↓reduceIte, zi_lit, zi_of, zi_add, zi_mul, zi_sub, zi_nat, zi_leT, zi_leF, zi_ltT, zi_ltF, zi_eqT, zi_eqF, zif_0z, zif_bz, zi_01l, zi_01r, not_true_eq_false, not_false_eq_true, Nat.reduceAdd, Nat.reduceMul, Nat.reduceSub, zm6]
        refine l_159b (E := E) hS hd hd2 hu hu8 (fun l6 l8 => ?_) cu (u - 1) 0 (by omega) _ _
        rw [hs']
        simp (disch := (first | with_reducible exact is_148 | with_reducible exact zi_at is_148 (by omega) (by omega) | with_reducible exact is_149 | with_reducible exact zi_at is_149 (by omega) (by omega) | ((with_reducible refine zct_le ?_) <;> exact Nat.le_of_ble_eq_true rfl) | with_reducible exact zh_0 | with_reducible exact zh_1 | with_reducible exact zh_b | omega)) only [q_159_124, q_159_125, vf_s, vf_n, zk2_none, zk2_int, zk2_ref, zk2_null, zk2_long, zct_nil, zct_i, zct_l, zct_r, zct_n, Option.bind_some, Option.toList_some, Option.toList_none, List.cons_append, List.nil_append, zor_l, zor_r, if_true, if_false, ↓reduceIte, zi_lit, zi_of, zi_add, zi_mul, zi_sub, zi_nat, zi_leT, zi_leF, zi_ltT, zi_ltF, zi_eqT, zi_eqF, zif_0z, zif_bz, zi_01l, zi_01r, not_true_eq_false, not_false_eq_true, Nat.reduceAdd, Nat.reduceMul, Nat.reduceSub]
        rw [h3, if_neg (by omega)]
        simp (disch := (first | with_reducible exact is_148 | with_reducible exact zi_at is_148 (by omega) (by omega) | with_reducible exact is_149 | with_reducible exact zi_at is_149 (by omega) (by omega) | with_reducible exact is_155 | with_reducible exact zi_at is_155 (by omega) (by omega) | ((with_reducible refine zct_le ?_) <;> exact Nat.le_of_ble_eq_true rfl) | with_reducible exact zh_0 | with_reducible exact zh_1 | with_reducible exact zh_b | omega)) only [q_159_187r, q_159_187n, q_159_188, q_159_191, q_159_193, q_159_194, q_159_195, q_159_196, q_159_197, q_159_198, q_159_199r, q_159_199n, q_159_200, q_159_203, q_159_205, q_159_206, q_159_207, q_159_209, q_159_210, q_159_211, q_159_212r, q_159_212n, q_159_213, q_159_216, q_159_218, q_159_219, q_159_220, q_159_222, q_159_223, q_159_224, q_159_225, vf_s, vf_n, zk2_none, zk2_int, zk2_ref, zk2_null, zk2_long, zct_nil, zct_i, zct_l, zct_r, zct_n, Option.bind_some, Option.toList_some, Option.toList_none, List.cons_append, List.nil_append, zor_l, zor_r, if_true, if_false, ↓reduceIte, zi_lit, zi_of, zi_add, zi_mul, zi_sub, zi_nat, zi_leT, zi_leF, zi_ltT, zi_ltF, zi_eqT, zi_eqF, zif_0z, zif_bz, zi_01l, zi_01r, not_true_eq_false, not_false_eq_true, Nat.reduceAdd, Nat.reduceMul, Nat.reduceSub, zg_s, zg_o, zg_j, zg_r, zg_ro, zg_d, yfl_o, rf_148_10]
      · intro i hi
        unfold nmS
        rw [hs']
        have hE := h4 i hi
        by_cases c : i = d - 1
        · subst c
          rw [if_pos rfl]
          refine ⟨fun _ => ⟨?_, ?_⟩, fun q => absurd hz q⟩
          · obtain ⟨k1, k2⟩ := hE.1 hz
            show _ = fNm (cdE (E (d - 1)) s).2 s
            rw [← k1]
            unfold fNm
            refine rf_of ?_ (fun k hk => ?_) ?_ ?_ ?_
            · simp (disch := omega) only [zg_s, zg_o, zg_j, zg_r, zg_ro, zg_d, yfl_o, rf_0]
            · by_cases c : k = s
              · subst c; rw [zg_j (by omega), zg_s, if_pos rfl]; rfl
              · rw [if_neg c, rf_c hk]
                simp (disch := omega) only [zg_s, zg_o, zg_j, zg_r, zg_ro, zg_d, yfl_o]
            · simp (disch := omega) only [zg_s, zg_o, zg_j, zg_r, zg_ro, zg_d, yfl_o]
            · simp (disch := omega) only [zg_s, zg_o, zg_j, zg_r, zg_ro, zg_d, yfl_o, rf_14]
            · simp (disch := omega) only [zg_s, zg_o, zg_j, zg_r, zg_ro, zg_d, yfl_o, rf_15]
          · simp (disch := omega) only [zg_s, zg_o, zg_j, zg_r, zg_ro, zg_d, yfl_o]
            exact (hE.1 hz).2
        · rw [if_neg c]
          exact mE_ne (mE_ne hE (by omega)) (by omega)
      · intro a ha
        rw [zup_ne ha, zup_ne ha, h5 a ha]
    · rw [if_neg (fun q => cl q.1)]
      have cl' : (E (d - 1)).2 13 = 0 := by
        rw [zj_le] at hp
        rw [zj_lt] at cl
        exact zj_inj (by omega)
      refine ⟨mj, ?_, hS, fun _ _ => rfl⟩
      simp (disch := (first | with_reducible exact is_148 | with_reducible exact zi_at is_148 (by omega) (by omega) | with_reducible exact is_149 | with_reducible exact zi_at is_149 (by omega) (by omega) | with_reducible exact is_155 | with_reducible exact zi_at is_155 (by omega) (by omega) | ((with_reducible refine zct_le ?_) <;> exact Nat.le_of_ble_eq_true rfl) | with_reducible exact zh_0 | with_reducible exact zh_1 | with_reducible exact zh_b | omega)) only [e_159, q_159_0r, q_159_0n, q_159_1, q_159_4, q_159_5, q_159_6, q_159_7r, q_159_7n, q_159_8, q_159_11, q_159_13, q_159_14, q_159_17r, q_159_17n, q_159_18, q_159_21, q_159_23, q_159_24, q_159_25, q_159_27, q_159_28, q_159_29, q_159_30, q_159_31, q_159_34, q_159_35, q_159_37, q_159_38, q_159_39, q_159_40, q_159_41, vf_s, vf_n, zk2_none, zk2_int, zk2_ref, zk2_null, zk2_long, zct_nil, zct_i, zct_l, zct_r, zct_n, Option.bind_some, Option.toList_some, Option.toList_none, List.cons_append, List.nil_append, zor_l, zor_r, if_true, if_false, ↓reduceIte, zi_lit, zi_of, zi_add, zi_mul, zi_sub, zi_nat, zi_leT, zi_leF, zi_ltT, zi_ltF, zi_eqT, zi_eqF, zif_0z, zif_bz, zi_01l, zi_01r, not_true_eq_false, not_false_eq_true, Nat.reduceAdd, Nat.reduceMul, Nat.reduceSub, hd, hu, rf_148_0, rf_148_10, e13, cl']
  · rw [if_neg (fun q => cu q.2)]
    obtain rfl : u = 0 := by omega
    refine ⟨mj, ?_, hS, fun _ _ => rfl⟩
    simp (disch := (first | with_reducible exact is_148 | with_reducible exact zi_at is_148 (by omega) (by omega) | with_reducible exact is_149 | with_reducible exact zi_at is_149 (by omega) (by omega) | with_reducible exact is_155 | with_reducible exact zi_at is_155 (by omega) (by omega) | ((with_reducible refine zct_le ?_) <;> exact Nat.le_of_ble_eq_true rfl) | with_reducible exact zh_0 | with_reducible exact zh_1 | with_reducible exact zh_b | omega)) only [e_159, q_159_0r, q_159_0n, q_159_1, q_159_4, q_159_5, q_159_6, q_159_7r, q_159_7n, q_159_8, q_159_11, q_159_13, q_159_14, q_159_17r, q_159_17n, q_159_18, q_159_21, q_159_23, q_159_24, q_159_25, q_159_27, q_159_28, q_159_29, q_159_30, q_159_31, q_159_34, q_159_35, q_159_37, q_159_38, q_159_39, q_159_40, q_159_41, vf_s, vf_n, zk2_none, zk2_int, zk2_ref, zk2_null, zk2_long, zct_nil, zct_i, zct_l, zct_r, zct_n, Option.bind_some, Option.toList_some, Option.toList_none, List.cons_append, List.nil_append, zor_l, zor_r, if_true, if_false, ↓reduceIte, zi_lit, zi_of, zi_add, zi_mul, zi_sub, zi_nat, zi_leT, zi_leF, zi_ltT, zi_ltF, zi_eqT, zi_eqF, zif_0z, zif_bz, zi_01l, zi_01r, not_true_eq_false, not_false_eq_true, Nat.reduceAdd, Nat.reduceMul, Nat.reduceSub, hd, hu, rf_148_0, rf_148_10]
end
