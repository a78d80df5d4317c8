/-! ===== the forms of the model (2) ===== -/
theorem rf_of {mj : zJ} {f : Nat} {c e l u : Int64} {a : Nat → Int64} (h0 : mj 155 (17 * f) = c) (hc : ∀ k, k < 12 → mj 155 (17 * f + 1 + k) = a k) (h1 : mj 155 (17 * f + 13) = e) (h2 : mj 155 (17 * f + 14) = l) (h3 : mj 155 (17 * f + 15) = u) : rf mj f = fMk c a e l u := by
  unfold rf
  rw [h0, h1, h2, h3]
  exact fMk_eq hc
theorem rf_ext {mj mj' : zJ} {f : Nat} (h : ∀ k, k < 16 → mj' 155 (17 * f + k) = mj 155 (17 * f + k)) : rf mj' f = rf mj f := by
  refine rf_of (h 0 (by omega)) (fun k hk => ?_) (h 13 (by omega)) (h 14 (by omega)) (h 15 (by omega))
  have := h (1 + k) (by omega)
  rw [← Nat.add_assoc] at this
  exact this
theorem rf_can {mj : zJ} {f : Nat} : fCan (rf mj f) := fCan_mk
theorem rf_c {mj : zJ} {f k : Nat} (h : k < 12) : rf mj f (k + 1) = mj 155 (17 * f + 1 + k) := fMk_c h
theorem rf_0 {mj : zJ} {f : Nat} : rf mj f 0 = mj 155 (17 * f) := rfl
theorem rf_13 {mj : zJ} {f : Nat} : rf mj f 13 = mj 155 (17 * f + 13) := rfl
theorem rf_14 {mj : zJ} {f : Nat} : rf mj f 14 = mj 155 (17 * f + 14) := rfl
theorem rf_15 {mj : zJ} {f : Nat} : rf mj f 15 = mj 155 (17 * f + 15) := rfl
/-- a row is this form -/
def mOk (mj : zJ) (f : Nat) (F : FF) : Prop := rf mj f = F ∧ mj 155 (17 * f + 16) = 0
def mWi (mj : zJ) (f : Nat) : Prop := mj 155 (17 * f + 16) = 1 ∧ ∀ k, k < 16 → mj 155 (17 * f + k) = 0
theorem mOk.fr {mj mj' : zJ} {f x : Nat} {F : FF} (h : mOk mj f F) (hf : f < x) (fr : FrR x mj mj') : mOk mj' f F :=
  ⟨by rw [rf_ext fun k hk => fr.2 _ (by omega)]; exact h.1, by rw [fr.2 _ (by omega)]; exact h.2⟩
theorem mWi.fr {mj mj' : zJ} {f x : Nat} (h : mWi mj f) (hf : f < x) (fr : FrR x mj mj') : mWi mj' f :=
  ⟨by rw [fr.2 _ (by omega)]; exact h.1, fun k hk => by rw [fr.2 _ (by omega)]; exact h.2 k hk⟩
/-- bounds that products need -/
def fBd (F : FF) : Prop := (∀ k, k < 16 → -1000000000 ≤ (F k).toInt ∧ (F k).toInt ≤ 1000000000) ∧ 0 ≤ (F 13).toInt ∧ 0 ≤ (frad F 12).toInt ∧ (frad F 12).toInt ≤ 1000000000
theorem fOk.bd {F : FF} (h : fOk F) : fBd F := ⟨h.1, h.2.1, h.2.2.1, h.2.2.2.1⟩
theorem mul_bd {a b : Int} (h1 : -1000000000 ≤ a) (h2 : a ≤ 1000000000) (h3 : -1000000000 ≤ b) (h4 : b ≤ 1000000000) : -1000000000000000000 ≤ a * b ∧ a * b ≤ 1000000000000000000 := by
  have h : (a * b).natAbs ≤ 1000000000 * 1000000000 := by
    rw [Int.natAbs_mul]
    exact Nat.mul_le_mul (by omega) (by omega)
  omega
theorem zj_mulB {u v : Int64} (h1 : -1000000000 ≤ u.toInt) (h2 : u.toInt ≤ 1000000000) (h3 : -1000000000 ≤ v.toInt) (h4 : v.toInt ≤ 1000000000) : (u * v).toInt = u.toInt * v.toInt ∧ -1000000000000000000 ≤ (u * v).toInt ∧ (u * v).toInt ≤ 1000000000000000000 := by
  have := mul_bd h1 h2 h3 h4
  have e : (u * v).toInt = u.toInt * v.toInt := zj_mul (by omega) (by omega)
  exact ⟨e, by omega, by omega⟩
theorem zabs_B {u : Int64} (h1 : -1000000000 ≤ u.toInt) (h2 : u.toInt ≤ 1000000000) : 0 ≤ (zabs u).toInt ∧ (zabs u).toInt ≤ 1000000000 := by
  rw [zabs_i (by omega)]
  split <;> omega
theorem mulB1 {x y : FF} (hx : fBd x) (hy : fBd y) : (zabs (x 0) * y 13 + zabs (y 0) * x 13 + frad x 12 * frad y 12).toInt ≤ 9000000000000000000 := by
  obtain ⟨x1, x2, x3, x4⟩ := hx
  obtain ⟨y1, y2, y3, y4⟩ := hy
  have a := zabs_B (x1 0 (by omega)).1 (x1 0 (by omega)).2
  have b := zabs_B (y1 0 (by omega)).1 (y1 0 (by omega)).2
  have p1 := zj_mulB (u := zabs (x 0)) (v := y 13) (by omega) (by omega) (by omega) (y1 13 (by omega)).2
  have p2 := zj_mulB (u := zabs (y 0)) (v := x 13) (by omega) (by omega) (by omega) (x1 13 (by omega)).2
  have p3 := zj_mulB (u := frad x 12) (v := frad y 12) (by omega) (by omega) (by omega) (by omega)
  have e1 : (zabs (x 0) * y 13 + zabs (y 0) * x 13).toInt = (zabs (x 0) * y 13).toInt + (zabs (y 0) * x 13).toInt := zj_add (by omega) (by omega)
  rw [zj_add (by omega) (by omega)]
  omega
theorem zmax_le {u v : Int64} {n : Int} (h1 : u.toInt ≤ n) (h2 : v.toInt ≤ n) : (zmax u v).toInt ≤ n := by
  unfold zmax
  split <;> assumption
theorem mulB2 {x y : FF} (hx : fBd x) (hy : fBd y) : (zmax (zmax (x 14 * y 14) (x 14 * y 15)) (zmax (x 15 * y 14) (x 15 * y 15))).toInt ≤ 9000000000000000000 := by
  obtain ⟨x1, -⟩ := hx
  obtain ⟨y1, -⟩ := hy
  have a := x1 14 (by omega)
  have b := x1 15 (by omega)
  have c := y1 14 (by omega)
  have d := y1 15 (by omega)
  have p1 := zj_mulB a.1 a.2 c.1 c.2
  have p2 := zj_mulB a.1 a.2 d.1 d.2
  have p3 := zj_mulB b.1 b.2 c.1 c.2
  have p4 := zj_mulB b.1 b.2 d.1 d.2
  exact zmax_le (zmax_le (by omega) (by omega)) (zmax_le (by omega) (by omega))
theorem fsum_r {h : Nat → Int64} {a r : Int64} (n : Nat) : fsum h (a + r) n = a + fsum h r n := by
  induction n with
  | zero => rfl
  | succ n ih => rw [fsum, fsum, ih, Int64.add_assoc]
theorem fsum_end {h : Nat → Int64} {a r : Int64} (n : Nat) : fsum h a n + r = a + fsum h r n := by
  have e1 : fsum h a n = a + fsum h 0 n := by rw [← fsum_r, Int64.add_zero]
  have e2 : fsum h r n = r + fsum h 0 n := by rw [← fsum_r, Int64.add_zero]
  rw [e1, e2, Int64.add_assoc, Int64.add_comm (fsum h 0 n) r]
theorem k256_ne : ¬ (256 : Int64) = 0 := by decide
theorem k512_ne : ¬ (512 : Int64) = 0 := by decide
theorem k2_ne : ¬ (2 : Int64) = 0 := by decide
theorem k100_ne : ¬ (100 : Int64) = 0 := by decide
theorem zr8_d {u : Int64} : (if u.toInt % 256 = 0 then (0 : Int64) else 1) = zr8 u := rfl
theorem zr9_d {u : Int64} : (if u.toInt % 512 = 0 then (0 : Int64) else 1) = zr9 u := rfl
section
variable {Ls : Nat} {g : Nat → Nat} {mi : zI} {mj : zJ} {i1 i2 : Int32} {f o p q k n d s b x y : Nat} {u v w r0 : Int64} {Z : Option zRes} {F G X Y : FF}
theorem m_144 (hf : f < 100) : ∃ mj', zCall 144 [.ref 148, .int (zi f), .int i1] (SH Ls) mi mj (RF g) = some (none, SH Ls, zup mi 148 12 (if mi 148 12 = zi 0 then i1 else mi 148 12), mj', RF g) ∧ mWi mj' f ∧ FrR f mj mj' := by
  refine ⟨zup (yfo mj 155 (17 * f) 17 fun _ => 0) 155 (17 * f + 16) 1, ?_, ⟨zg_s, fun k hk => ?_⟩, (FrR.fo (by omega)).tr (FrR.up (by omega))⟩
  · simp (disch := (first | with_reducible exact is_148 | with_reducible exact zi_at is_148 (by omega) (by omega) | with_reducible exact is_155 | with_reducible exact zi_at is_155 (by omega) (by omega) | ((with_reducible refine zct_le ?_) <;> exact Nat.le_of_ble_eq_true rfl) | with_reducible exact zh_0 | with_reducible exact zh_1 | with_reducible exact zh_b | omega)) only [e_144, q_144_0r, q_144_0n, q_144_1, q_144_2, q_144_5r, q_144_5n, q_144_6, q_144_9, q_144_11, q_144_12, q_144_13, q_144_15, q_144_16, q_144_17, q_144_18r, q_144_18n, q_144_19r, q_144_19n, q_144_20, q_144_23, q_144_26, q_144_27, q_144_30r, q_144_30n, q_144_31, vf_s, vf_n, zk2_none, zk2_int, zk2_ref, zk2_null, zk2_long, zct_nil, zct_i, zct_l, zct_r, zct_n, Option.bind_some, Option.toList_some, Option.toList_none, List.cons_append, List.nil_append, zor_l, zor_r, if_true, if_false, ↓reduceIte, zi_lit, zi_of, zi_add, zi_mul, zi_sub, zi_nat, zi_leT, zi_leF, zi_ltT, zi_ltF, zi_eqT, zi_eqF, zif_0z, zif_bz, zi_01l, zi_01r, not_true_eq_false, not_false_eq_true, Nat.reduceAdd, Nat.reduceMul, Nat.reduceSub, rf_148_10, m_142 hf]
    by_cases h : mi 148 12 = zi 0
    · simp (disch := (first | with_reducible exact is_148 | with_reducible exact zi_at is_148 (by omega) (by omega) | with_reducible exact is_155 | with_reducible exact zi_at is_155 (by omega) (by omega) | ((with_reducible refine zct_le ?_) <;> exact Nat.le_of_ble_eq_true rfl) | with_reducible exact zh_0 | with_reducible exact zh_1 | with_reducible exact zh_b | omega)) only [h, e_144, q_144_0r, q_144_0n, q_144_1, q_144_2, q_144_5r, q_144_5n, q_144_6, q_144_9, q_144_11, q_144_12, q_144_13, q_144_15, q_144_16, q_144_17, q_144_18r, q_144_18n, q_144_19r, q_144_19n, q_144_20, q_144_23, q_144_26, q_144_27, q_144_30r, q_144_30n, q_144_31, q_144_34, q_144_37, vf_s, vf_n, zk2_none, zk2_int, zk2_ref, zk2_null, zk2_long, zct_nil, zct_i, zct_l, zct_r, zct_n, Option.bind_some, Option.toList_some, Option.toList_none, List.cons_append, List.nil_append, zor_l, zor_r, if_true, if_false, ↓reduceIte, zi_lit, zi_of, zi_add, zi_mul, zi_sub, zi_nat, zi_leT, zi_leF, zi_ltT, zi_ltF, zi_eqT, zi_eqF, zif_0z, zif_bz, zi_01l, zi_01r, not_true_eq_false, not_false_eq_true, Nat.reduceAdd, Nat.reduceMul, Nat.reduceSub]
    · simp (disch := (first | with_reducible exact is_148 | with_reducible exact zi_at is_148 (by omega) (by omega) | with_reducible exact is_155 | with_reducible exact zi_at is_155 (by omega) (by omega) | ((with_reducible refine zct_le ?_) <;> exact Nat.le_of_ble_eq_true rfl) | with_reducible exact zh_0 | with_reducible exact zh_1 | with_reducible exact zh_b | omega)) only [h, e_144, q_144_0r, q_144_0n, q_144_1, q_144_2, q_144_5r, q_144_5n, q_144_6, q_144_9, q_144_11, q_144_12, q_144_13, q_144_15, q_144_16, q_144_17, q_144_18r, q_144_18n, q_144_19r, q_144_19n, q_144_20, q_144_23, q_144_26, q_144_27, q_144_30r, q_144_30n, q_144_31, q_144_34, q_144_37, vf_s, vf_n, zk2_none, zk2_int, zk2_ref, zk2_null, zk2_long, zct_nil, zct_i, zct_l, zct_r, zct_n, Option.bind_some, Option.toList_some, Option.toList_none, List.cons_append, List.nil_append, zor_l, zor_r, if_true, if_false, ↓reduceIte, zi_lit, zi_of, zi_add, zi_mul, zi_sub, zi_nat, zi_leT, zi_leF, zi_ltT, zi_ltF, zi_eqT, zi_eqF, zif_0z, zif_bz, zi_01l, zi_01r, not_true_eq_false, not_false_eq_true, Nat.reduceAdd, Nat.reduceMul, Nat.reduceSub]
  · rw [zg_j (by omega), yfo_in (by omega)]
theorem m_145 (hf : f < 100) : ∃ mj', zCall 145 [.ref 148, .int (zi f), .long u, .long v] (SH Ls) mi mj (RF g) = some (none, SH Ls, mi, mj', RF g) ∧ mOk mj' f (fPl u v) ∧ FrR f mj mj' := by
  refine ⟨zup (zup (zup (zup (yfo mj 155 (17 * f) 17 fun _ => 0) 155 (17 * f) (zs1 (u + v))) 155 (17 * f + 13) (zmax (v - zs1 (u + v)) (zs1 (u + v) - u))) 155 (17 * f + 14) u) 155 (17 * f + 15) v, ?_, ⟨?_, ?_⟩, ?_⟩
  · simp (disch := (first | with_reducible exact is_148 | with_reducible exact zi_at is_148 (by omega) (by omega) | with_reducible exact is_155 | with_reducible exact zi_at is_155 (by omega) (by omega) | ((with_reducible refine zct_le ?_) <;> exact Nat.le_of_ble_eq_true rfl) | with_reducible exact zh_0 | with_reducible exact zh_1 | with_reducible exact zh_b | omega)) only [e_145, q_145_0r, q_145_0n, q_145_1, q_145_2, q_145_5, q_145_6, q_145_8, q_145_9, q_145_10, q_145_11, q_145_13r, q_145_13n, q_145_14, q_145_17, q_145_19, q_145_20, q_145_21, q_145_22, q_145_23, q_145_25, q_145_26r, q_145_26n, q_145_27, q_145_30, q_145_32, q_145_33, q_145_34, q_145_36, q_145_37, q_145_39, q_145_41, q_145_42, q_145_44, q_145_45, q_145_46, q_145_47, q_145_50, q_145_52, q_145_54, q_145_55, q_145_58, q_145_60, q_145_61, vf_s, vf_n, zk2_none, zk2_int, zk2_ref, zk2_null, zk2_long, zct_nil, zct_i, zct_l, zct_r, zct_n, Option.bind_some, Option.toList_some, Option.toList_none, List.cons_append, List.nil_append, zor_l, zor_r, if_true, if_false, ↓reduceIte, zi_lit, zi_of, zi_add, zi_mul, zi_sub, zi_nat, zi_leT, zi_leF, zi_ltT, zi_ltF, zi_eqT, zi_eqF, zif_0z, zif_bz, zi_01l, zi_01r, not_true_eq_false, not_false_eq_true, Nat.reduceAdd, Nat.reduceMul, Nat.reduceSub, rf_148_10, m_142 hf, zs1_f, Nat.add_zero]
    rw [mg_J]
    have : (if v - zs1 (u + v) ≤ zs1 (u + v) - u then zs1 (u + v) - u else v - zs1 (u + v)) = zmax (v - zs1 (u + v)) (zs1 (u + v) - u) := by
      generalize v - zs1 (u + v) = a
      generalize zs1 (u + v) - u = c
      unfold zmax
      rcases lg_tri a c with h | h | h
      · rw [if_pos h, if_pos (by rw [zj_le]; rw [zj_lt] at h; omega)]
      · subst h; split <;> split <;> rfl
      · rw [if_neg (lg_lt_not_le h), if_neg (lg_lt_not h)]
    rw [this]
    simp (disch := (first | with_reducible exact is_148 | with_reducible exact zi_at is_148 (by omega) (by omega) | with_reducible exact is_155 | with_reducible exact zi_at is_155 (by omega) (by omega) | ((with_reducible refine zct_le ?_) <;> exact Nat.le_of_ble_eq_true rfl) | with_reducible exact zh_0 | with_reducible exact zh_1 | with_reducible exact zh_b | omega)) only [q_145_62, q_145_63r, q_145_63n, q_145_64, q_145_67, q_145_69, q_145_70, q_145_71, q_145_73, q_145_74, q_145_75, q_145_76r, q_145_76n, q_145_77, q_145_80, q_145_82, q_145_83, q_145_84, q_145_86, q_145_87, q_145_89, q_145_90, vf_s, vf_n, zk2_none, zk2_int, zk2_ref, zk2_null, zk2_long, zct_nil, zct_i, zct_l, zct_r, zct_n, Option.bind_some, Option.toList_some, Option.toList_none, List.cons_append, List.nil_append, zor_l, zor_r, if_true, if_false, ↓reduceIte, zi_lit, zi_of, zi_add, zi_mul, zi_sub, zi_nat, zi_leT, zi_leF, zi_ltT, zi_ltF, zi_eqT, zi_eqF, zif_0z, zif_bz, zi_01l, zi_01r, not_true_eq_false, not_false_eq_true, Nat.reduceAdd, Nat.reduceMul, Nat.reduceSub, rf_148_10]
  · refine rf_of ?_ (fun k hk => ?_) ?_ ?_ ?_
    · simp (disch := omega) only [zg_s, zg_o, zg_j, zg_r, zg_ro, zg_d, yfl_o]
    · simp (disch := omega) only [zg_s, zg_o, zg_j, zg_r, zg_ro, zg_d, yfl_o]
      rw [Nat.add_assoc, yfo_in (by omega)]
    · simp (disch := omega) only [zg_s, zg_o, zg_j, zg_r, zg_ro, zg_d, yfl_o]
    · simp (disch := omega) only [zg_s, zg_o, zg_j, zg_r, zg_ro, zg_d, yfl_o]
    · simp (disch := omega) only [zg_s, zg_o, zg_j, zg_r, zg_ro, zg_d, yfl_o]
  · simp (disch := omega) only [zg_s, zg_o, zg_j, zg_r, zg_ro, zg_d, yfl_o]
    rw [yfo_in (by omega)]
  · exact (((FrR.fo (by omega)).tr (FrR.up (by omega))).tr (FrR.up (by omega))).tr ((FrR.up (by omega)).tr (FrR.up (by omega)))
theorem l_146 (hf : f < 100) (n : Nat) : ∀ k, k + n = 13 → zRun 146 7 [some (.ref 148), some (.int (zi f)), some (.int (zi (17 * f))), some (.int (zi k)), none] [] (SH Ls) mi (yfo mj 155 (17 * f) k fun k => -mj 155 (17 * f + k)) (RF g) = zRun 146 36 [some (.ref 148), some (.int (zi f)), some (.int (zi (17 * f))), some (.int (zi 13)), none] [] (SH Ls) mi (yfo mj 155 (17 * f) 13 fun k => -mj 155 (17 * f + k)) (RF g) := by
  induction n with
  | zero =>
    intro k hk
    obtain rfl : k = 13 := by omega
    rw [q_146_7]
    simp (disch := (first | ((with_reducible refine zct_le ?_) <;> exact Nat.le_of_ble_eq_true rfl) | with_reducible exact zh_0 | with_reducible exact zh_1 | with_reducible exact zh_b | omega)) only [q_146_8, q_146_10, q_146_13r, q_146_13n, q_146_14, q_146_17, q_146_18, q_146_19, q_146_20r, q_146_20n, q_146_21, q_146_24, q_146_25, q_146_26, q_146_27, q_146_28, q_146_29, q_146_30, q_146_33, vf_s, vf_n, zk2_none, zk2_int, zk2_ref, zk2_null, zk2_long, zct_nil, zct_i, zct_l, zct_r, zct_n, Option.bind_some, Option.toList_some, Option.toList_none, List.cons_append, List.nil_append, zor_l, zor_r, if_true, if_false, ↓reduceIte, zi_lit, zi_of, zi_add, zi_mul, zi_sub, zi_nat, zi_leT, zi_leF, zi_ltT, zi_ltF, zi_eqT, zi_eqF, zif_0z, zif_bz, zi_01l, zi_01r, not_true_eq_false, not_false_eq_true, Nat.reduceAdd, Nat.reduceMul, Nat.reduceSub]
  | succ n ih =>
    intro k hk
    rw [q_146_7]
    simp (disch := (first | with_reducible exact is_148 | with_reducible exact zi_at is_148 (by omega) (by omega) | with_reducible exact is_155 | with_reducible exact zi_at is_155 (by omega) (by omega) | ((with_reducible refine zct_le ?_) <;> exact Nat.le_of_ble_eq_true rfl) | with_reducible exact zh_0 | with_reducible exact zh_1 | with_reducible exact zh_b | omega)) only [q_146_8, q_146_10, q_146_13r, q_146_13n, q_146_14, q_146_17, q_146_18, q_146_19, q_146_20r, q_146_20n, q_146_21, q_146_24, q_146_25, q_146_26, q_146_27, q_146_28, q_146_29, q_146_30, q_146_33, vf_s, vf_n, zk2_none, zk2_int, zk2_ref, zk2_null, zk2_long, zct_nil, zct_i, zct_l, zct_r, zct_n, Option.bind_some, Option.toList_some, Option.toList_none, List.cons_append, List.nil_append, zor_l, zor_r, if_true, if_false, ↓reduceIte, zi_lit, zi_of, zi_add, zi_mul, zi_sub, zi_nat, zi_leT, zi_leF, zi_ltT, zi_ltF, zi_eqT, zi_eqF, zif_0z, zif_bz, zi_01l, zi_01r, not_true_eq_false, not_false_eq_true, Nat.reduceAdd, Nat.reduceMul, Nat.reduceSub, rf_148_10, yfo_out]
    rw [yfo_s rfl]
    exact ih (k + 1) (by omega)
theorem m_146 (hf : f < 100) : ∃ mj', zCall 146 [.ref 148, .int (zi f)] (SH Ls) mi mj (RF g) = some (none, SH Ls, mi, mj', RF g) ∧ rf mj' f = fNeg (rf mj f) ∧ mj' 155 (17 * f + 16) = mj 155 (17 * f + 16) ∧ FrR f mj mj' := by
  refine ⟨zup (zup (yfo mj 155 (17 * f) 13 fun k => -mj 155 (17 * f + k)) 155 (17 * f + 14) (-mj 155 (17 * f + 15))) 155 (17 * f + 15) (-mj 155 (17 * f + 14)), ?_, ?_, ?_, ?_⟩
  · simp (disch := (first | ((with_reducible refine zct_le ?_) <;> exact Nat.le_of_ble_eq_true rfl) | with_reducible exact zh_0 | with_reducible exact zh_1 | with_reducible exact zh_b | omega)) only [e_146, q_146_0, q_146_2, q_146_3, q_146_4, q_146_5, q_146_6, vf_s, vf_n, zk2_none, zk2_int, zk2_ref, zk2_null, zk2_long, zct_nil, zct_i, zct_l, zct_r, zct_n, Option.bind_some, Option.toList_some, Option.toList_none, List.cons_append, List.nil_append, zor_l, zor_r, if_true, if_false, ↓reduceIte, zi_lit, zi_of, zi_add, zi_mul, zi_sub, zi_nat, zi_leT, zi_leF, zi_ltT, zi_ltF, zi_eqT, zi_eqF, zif_0z, zif_bz, zi_01l, zi_01r, not_true_eq_false, not_false_eq_true, Nat.reduceAdd, Nat.reduceMul, Nat.reduceSub]
    have := l_146 (Ls := Ls) (g := g) (mi := mi) (mj := mj) hf 13 0 rfl
    rw [yfo_0] at this
    rw [this]
    simp (disch := (first | with_reducible exact is_148 | with_reducible exact zi_at is_148 (by omega) (by omega) | with_reducible exact is_155 | with_reducible exact zi_at is_155 (by omega) (by omega) | ((with_reducible refine zct_le ?_) <;> exact Nat.le_of_ble_eq_true rfl) | with_reducible exact zh_0 | with_reducible exact zh_1 | with_reducible exact zh_b | omega)) only [q_146_36r, q_146_36n, q_146_37, q_146_40, q_146_41, q_146_43, q_146_44, q_146_45, q_146_46r, q_146_46n, q_146_47, q_146_50, q_146_51, q_146_53, q_146_54r, q_146_54n, q_146_55, q_146_58, q_146_59, q_146_61, q_146_62, q_146_63, q_146_64, q_146_65r, q_146_65n, q_146_66, q_146_69, q_146_70, q_146_72, q_146_73, q_146_74, q_146_75, q_146_76, vf_s, vf_n, zk2_none, zk2_int, zk2_ref, zk2_null, zk2_long, zct_nil, zct_i, zct_l, zct_r, zct_n, Option.bind_some, Option.toList_some, Option.toList_none, List.cons_append, List.nil_append, zor_l, zor_r, if_true, if_false, ↓reduceIte, zi_lit, zi_of, zi_add, zi_mul, zi_sub, zi_nat, zi_leT, zi_leF, zi_ltT, zi_ltF, zi_eqT, zi_eqF, zif_0z, zif_bz, zi_01l, zi_01r, not_true_eq_false, not_false_eq_true, Nat.reduceAdd, Nat.reduceMul, Nat.reduceSub, zg_s, zg_o, zg_j, zg_r, zg_ro, zg_d, yfl_o, rf_148_10, yfo_out]
  · unfold fNeg
    refine rf_of ?_ (fun k hk => ?_) ?_ ?_ ?_
    · simp (disch := omega) only [zg_s, zg_o, zg_j, zg_r, zg_ro, zg_d, yfl_o, rf_0]
      have := yfo_in (f := mj) (o := 155) (b := 17 * f) (k := 13) (h := fun k => -mj 155 (17 * f + k)) (j := 0) (by omega)
      exact this
    · simp (disch := omega) only [zg_s, zg_o, zg_j, zg_r, zg_ro, zg_d, yfl_o]
      rw [Nat.add_assoc, yfo_in (by omega), rf_c hk, Nat.add_assoc]
    · simp (disch := omega) only [zg_s, zg_o, zg_j, zg_r, zg_ro, zg_d, yfl_o, yfo_out, rf_13]
    · simp (disch := omega) only [zg_s, zg_o, zg_j, zg_r, zg_ro, zg_d, yfl_o, rf_15]
    · simp (disch := omega) only [zg_s, zg_o, zg_j, zg_r, zg_ro, zg_d, yfl_o, rf_14]
  · simp (disch := omega) only [zg_s, zg_o, zg_j, zg_r, zg_ro, zg_d, yfl_o, yfo_out]
  · exact (FrR.fo (by omega)).tr ((FrR.up (by omega)).tr (FrR.up (by omega)))
theorem l_149 (hx : x < 100) (hy : y < 100) (hne : x < y) (n : Nat) : ∀ k, k + n = 16 → ∀ l3, zRun 149 24 [some (.ref 148), some (.int (zi x)), some (.int (zi y)), l3, some (.int (zi (17 * x))), some (.int (zi (17 * y))), some (.int (zi k))] [] (SH Ls) mi (yfo mj 155 (17 * x) k fun k => mj 155 (17 * x + k) + mj 155 (17 * y + k)) (RF g) = some (none, SH Ls, mi, yfo mj 155 (17 * x) 16 fun k => mj 155 (17 * x + k) + mj 155 (17 * y + k), RF g) := by
  induction n with
  | zero =>
    intro k hk l3
    obtain rfl : k = 16 := by omega
    rw [q_149_24]
    simp (disch := (first | ((with_reducible refine zct_le ?_) <;> exact Nat.le_of_ble_eq_true rfl) | with_reducible exact zh_0 | with_reducible exact zh_1 | with_reducible exact zh_b | omega)) only [q_149_26, q_149_28, q_149_31r, q_149_31n, q_149_32, q_149_35, q_149_37, q_149_39, q_149_40, q_149_41, q_149_42r, q_149_42n, q_149_43, q_149_46, q_149_48, q_149_50, q_149_51, q_149_52, q_149_53, q_149_54, q_149_57, q_149_60, vf_s, vf_n, zk2_none, zk2_int, zk2_ref, zk2_null, zk2_long, zct_nil, zct_i, zct_l, zct_r, zct_n, Option.bind_some, Option.toList_some, Option.toList_none, List.cons_append, List.nil_append, zor_l, zor_r, if_true, if_false, ↓reduceIte, zi_lit, zi_of, zi_add, zi_mul, zi_sub, zi_nat, zi_leT, zi_leF, zi_ltT, zi_ltF, zi_eqT, zi_eqF, zif_0z, zif_bz, zi_01l, zi_01r, not_true_eq_false, not_false_eq_true, Nat.reduceAdd, Nat.reduceMul, Nat.reduceSub]
  | succ n ih =>
    intro k hk l3
    rw [q_149_24]
    simp (disch := (first | with_reducible exact is_148 | with_reducible exact zi_at is_148 (by omega) (by omega) | with_reducible exact is_155 | with_reducible exact zi_at is_155 (by omega) (by omega) | ((with_reducible refine zct_le ?_) <;> exact Nat.le_of_ble_eq_true rfl) | with_reducible exact zh_0 | with_reducible exact zh_1 | with_reducible exact zh_b | omega)) only [q_149_26, q_149_28, q_149_31r, q_149_31n, q_149_32, q_149_35, q_149_37, q_149_39, q_149_40, q_149_41, q_149_42r, q_149_42n, q_149_43, q_149_46, q_149_48, q_149_50, q_149_51, q_149_52, q_149_53, q_149_54, q_149_57, q_149_60, vf_s, vf_n, zk2_none, zk2_int, zk2_ref, zk2_null, zk2_long, zct_nil, zct_i, zct_l, zct_r, zct_n, Option.bind_some, Option.toList_some, Option.toList_none, List.cons_append, List.nil_append, zor_l, zor_r, if_true, if_false, ↓reduceIte, zi_lit, zi_of, zi_add, zi_mul, zi_sub, zi_nat, zi_leT, zi_leF, zi_ltT, zi_ltF, zi_eqT, zi_eqF, zif_0z, zif_bz, zi_01l, zi_01r, not_true_eq_false, not_false_eq_true, Nat.reduceAdd, Nat.reduceMul, Nat.reduceSub, rf_148_10, yfo_out]
    rw [yfo_s rfl]
    exact ih (k + 1) (by omega) l3
theorem row_add (hne : x < y) : rf (yfo mj 155 (17 * x) 16 fun k => mj 155 (17 * x + k) + mj 155 (17 * y + k)) x = fAdd (rf mj x) (rf mj y) := by
  unfold fAdd
  refine rf_of ?_ (fun k hk => ?_) ?_ ?_ ?_
  · have := yfo_in (f := mj) (o := 155) (b := 17 * x) (k := 16) (h := fun k => mj 155 (17 * x + k) + mj 155 (17 * y + k)) (j := 0) (by omega)
    exact this
  · rw [Nat.add_assoc, yfo_in (by omega), rf_c hk, rf_c hk, Nat.add_assoc, Nat.add_assoc]
  · rw [yfo_in (by omega)]; rfl
  · rw [yfo_in (by omega)]; rfl
  · rw [yfo_in (by omega)]; rfl
theorem m_149 (hx : x < 100) (hy : y < 100) (hne : x < y) (hX : mOk mj x X) (hY : mOk mj y Y) (hb : n = 0 ∨ n = 1) : ∃ mj', zCall 149 [.ref 148, .int (zi x), .int (zi y), .int (zi n)] (SH Ls) mi mj (RF g) = some (none, SH Ls, mi, mj', RF g) ∧ mOk mj' x (if n = 0 then fAdd X Y else fSub X Y) ∧ FrR x mj mj' := by
  obtain ⟨rfl, x2⟩ := hX
  obtain ⟨rfl, y2⟩ := hY
  rcases hb with rfl | rfl
  · refine ⟨yfo mj 155 (17 * x) 16 fun k => mj 155 (17 * x + k) + mj 155 (17 * y + k), ?_, ⟨?_, ?_⟩, FrR.fo (Nat.le_refl _)⟩
    · simp (disch := (first | with_reducible exact is_148 | with_reducible exact zi_at is_148 (by omega) (by omega) | ((with_reducible refine zct_le ?_) <;> exact Nat.le_of_ble_eq_true rfl) | with_reducible exact zh_0 | with_reducible exact zh_1 | with_reducible exact zh_b | omega)) only [e_149, q_149_0, q_149_2, q_149_3, q_149_4, q_149_6, q_149_7, q_149_10r, q_149_10n, q_149_11, q_149_12, q_149_15, q_149_17, q_149_18, q_149_19, q_149_21, q_149_22, vf_s, vf_n, zk2_none, zk2_int, zk2_ref, zk2_null, zk2_long, zct_nil, zct_i, zct_l, zct_r, zct_n, Option.bind_some, Option.toList_some, Option.toList_none, List.cons_append, List.nil_append, zor_l, zor_r, if_true, if_false, ↓reduceIte, zi_lit, zi_of, zi_add, zi_mul, zi_sub, zi_nat, zi_leT, zi_leF, zi_ltT, zi_ltF, zi_eqT, zi_eqF, zif_0z, zif_bz, zi_01l, zi_01r, not_true_eq_false, not_false_eq_true, Nat.reduceAdd, Nat.reduceMul, Nat.reduceSub]
      have := l_149 (Ls := Ls) (g := g) (mi := mi) (mj := mj) hx hy hne 16 0 rfl (some (.int (zi 0)))
      rw [yfo_0] at this
      exact this
    · rw [if_pos rfl]
      exact row_add hne
    · rw [yfo_out (by omega), x2]
  · obtain ⟨mj1, r1, r2, r3, r4⟩ := m_146 (Ls := Ls) (g := g) (mi := mi) (mj := mj) hy
    have eX : rf mj1 x = rf mj x := rf_ext fun k hk => r4.2 _ (by omega)
    refine ⟨yfo mj1 155 (17 * x) 16 fun k => mj1 155 (17 * x + k) + mj1 155 (17 * y + k), ?_, ⟨?_, ?_⟩, ?_⟩
    · simp (disch := (first | with_reducible exact is_148 | with_reducible exact zi_at is_148 (by omega) (by omega) | ((with_reducible refine zct_le ?_) <;> exact Nat.le_of_ble_eq_true rfl) | with_reducible exact zh_0 | with_reducible exact zh_1 | with_reducible exact zh_b | omega)) only [e_149, q_149_0, q_149_2, q_149_3, q_149_4, q_149_6, q_149_7, q_149_10r, q_149_10n, q_149_11, q_149_12, q_149_15, q_149_17, q_149_18, q_149_19, q_149_21, q_149_22, vf_s, vf_n, zk2_none, zk2_int, zk2_ref, zk2_null, zk2_long, zct_nil, zct_i, zct_l, zct_r, zct_n, Option.bind_some, Option.toList_some, Option.toList_none, List.cons_append, List.nil_append, zor_l, zor_r, if_true, if_false, ↓reduceIte, zi_lit, zi_of, zi_add, zi_mul, zi_sub, zi_nat, zi_leT, zi_leF, zi_ltT, zi_ltF, zi_eqT, zi_eqF, zif_0z, zif_bz, zi_01l, zi_01r, not_true_eq_false, not_false_eq_true, Nat.reduceAdd, Nat.reduceMul, Nat.reduceSub, r1]
      have := l_149 (Ls := Ls) (g := g) (mi := mi) (mj := mj1) hx hy hne 16 0 rfl (some (.int (zi 1)))
      rw [yfo_0] at this
      exact this
    · rw [if_neg (by omega), row_add hne, eX, r2]
      unfold fAdd fSub fNeg
      simp only [fMk_0, fMk_13, fMk_14, fMk_15, Int64.sub_eq_add_neg]
      exact fMk_eq fun k hk => by rw [fMk_c hk]
    · rw [yfo_out (by omega), r4.2 _ (by omega), x2]
    · exact FrR.tr ⟨r4.1, fun j hj => r4.2 j (by omega)⟩ (FrR.fo (Nat.le_refl _))
end
