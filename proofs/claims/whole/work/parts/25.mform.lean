/-! ===== the forms of the model ===== -/
/-- a row that is filled from a place on -/
def yfo {α : Type} (f : Nat → Nat → α) (o b k : Nat) (h : Nat → α) : Nat → Nat → α := zrw f o (fun j => if b ≤ j ∧ j < b + k then h (j - b) else f o j)
section
variable {α : Type} {f : Nat → Nat → α} {o o' b j k : Nat} {v : α} {h : Nat → α}
theorem yfo_0 : yfo f o b 0 h = f := by
  funext a c
  unfold yfo zrw
  split
  · rename_i e
    subst e
    show (if b ≤ c ∧ c < b + 0 then h (c - b) else f a c) = f a c
    rw [if_neg (by omega)]
  · rfl
theorem yfo_s (hv : v = h k) : zup (yfo f o b k h) o (b + k) v = yfo f o b (k + 1) h := by
  subst hv
  funext a c
  unfold yfo zrw zup
  by_cases ha : a = o
  · subst ha
    simp only [if_true, true_and]
    by_cases hc : c = b + k
    · subst hc
      rw [if_pos rfl, if_pos (by omega), show b + k - b = k by omega]
    · rw [if_neg hc]
      by_cases h1 : b ≤ c ∧ c < b + k
      · rw [if_pos h1, if_pos (by omega)]
      · rw [if_neg h1, if_neg (by omega)]
  · simp [ha]
theorem yfo_o (hne : o' < o ∨ o < o') : yfo f o b k h o' = f o' := zrw_ne (by omega)
theorem yfo_in (hj : j < k) : yfo f o b k h o (b + j) = h j := by
  unfold yfo
  rw [zrw_eq]
  show (if b ≤ b + j ∧ b + j < b + k then h (b + j - b) else f o (b + j)) = h j
  rw [if_pos (by omega), show b + j - b = j by omega]
theorem yfo_out (hj : j < b ∨ b + k ≤ j) : yfo f o b k h o j = f o j := by
  unfold yfo
  rw [zrw_eq]
  show (if b ≤ j ∧ j < b + k then h (j - b) else f o j) = f o j
  rw [if_neg (by omega)]
end
def rf (mj : zJ) (f : Nat) : FF := fMk (mj 155 (17 * f)) (fun k => mj 155 (17 * f + 1 + k)) (mj 155 (17 * f + 13)) (mj 155 (17 * f + 14)) (mj 155 (17 * f + 15))
/-- nothing but rows from one on is changed -/
def FrR (x : Nat) (mj mj' : zJ) : Prop := (∀ a, ¬ a = 155 → mj' a = mj a) ∧ (∀ j, j < 17 * x → mj' 155 j = mj 155 j)
theorem FrR.rf {x : Nat} {mj : zJ} : FrR x mj mj := ⟨fun _ _ => rfl, fun _ _ => rfl⟩
theorem FrR.tr {x : Nat} {mj mj1 mj2 : zJ} (h : FrR x mj mj1) (h2 : FrR x mj1 mj2) : FrR x mj mj2 := ⟨fun a ha => (h2.1 a ha).trans (h.1 a ha), fun j hj => (h2.2 j hj).trans (h.2 j hj)⟩
theorem FrR.up {x j : Nat} {mj : zJ} {v : Int64} (h : 17 * x ≤ j) : FrR x mj (zup mj 155 j v) := ⟨fun a ha => zup_ne ha, fun i hi => zg_j (by omega)⟩
theorem FrR.fo {x b k : Nat} {mj : zJ} {h : Nat → Int64} (hb : 17 * x ≤ b) : FrR x mj (yfo mj 155 b k h) := ⟨fun a ha => yfo_o (by omega), fun i hi => yfo_out (by omega)⟩
section
variable {sh : zSh} {mi : zI} {mj : zJ} {mr : zR} {x y z : Int32} {u v : Int64}
theorem m_111 : zCall 111 [.int x, .int y, .int z] sh mi mj mr = some (some (.int (if y ≤ x ∧ x ≤ z then zi 1 else zi 0)), sh, mi, mj, mr) := by
  simp (disch := (first | ((with_reducible refine zct_le ?_) <;> exact Nat.le_of_ble_eq_true rfl) | with_reducible exact zh_0 | with_reducible exact zh_1 | with_reducible exact zh_b | omega)) only [e_111, q_111_0, q_111_1, q_111_2, q_111_5, q_111_6, q_111_7, q_111_10, q_111_11, q_111_14, q_111_15, vf_s, vf_n, zk2_none, zk2_int, zk2_ref, zk2_null, zk2_long, zct_nil, zct_i, zct_l, zct_r, zct_n, Option.bind_some, Option.toList_some, Option.toList_none, List.cons_append, List.nil_append, zor_l, zor_r, if_true, if_false, ↓reduceIte, zi_lit, zi_of, zi_add, zi_mul, zi_sub, zi_nat, zi_leT, zi_leF, zi_ltT, zi_ltF, zi_eqT, zi_eqF, zif_0z, zif_bz, zi_01l, zi_01r, not_true_eq_false, not_false_eq_true, Nat.reduceAdd, Nat.reduceMul, Nat.reduceSub]
  by_cases h1 : x < y
  · have : ¬ y ≤ x := by rw [Int32.le_iff_toInt_le]; rw [Int32.lt_iff_toInt_lt] at h1; omega
    simp [h1, this]
  · have h1' : y ≤ x := by rw [Int32.le_iff_toInt_le]; rw [Int32.lt_iff_toInt_lt] at h1; omega
    by_cases h2 : z < x
    · have : ¬ x ≤ z := by rw [Int32.le_iff_toInt_le]; rw [Int32.lt_iff_toInt_lt] at h2; omega
      simp [h1, h2, this]
    · have h2' : x ≤ z := by rw [Int32.le_iff_toInt_le]; rw [Int32.lt_iff_toInt_lt] at h2; omega
      simp [h1, h2, h1', h2']
theorem m_112 : zCall 112 [.int x] sh mi mj mr = some (some (.int (if zi 0 ≤ x ∧ x ≤ zi 3 then zi 1 else zi 0)), sh, mi, mj, mr) := by
  simp (disch := (first | ((with_reducible refine zct_le ?_) <;> exact Nat.le_of_ble_eq_true rfl) | with_reducible exact zh_0 | with_reducible exact zh_1 | with_reducible exact zh_b | omega)) only [e_112, q_112_0, q_112_1, q_112_2, q_112_3, q_112_6, vf_s, vf_n, zk2_none, zk2_int, zk2_ref, zk2_null, zk2_long, zct_nil, zct_i, zct_l, zct_r, zct_n, Option.bind_some, Option.toList_some, Option.toList_none, List.cons_append, List.nil_append, zor_l, zor_r, if_true, if_false, ↓reduceIte, zi_lit, zi_of, zi_add, zi_mul, zi_sub, zi_nat, zi_leT, zi_leF, zi_ltT, zi_ltF, zi_eqT, zi_eqF, zif_0z, zif_bz, zi_01l, zi_01r, not_true_eq_false, not_false_eq_true, Nat.reduceAdd, Nat.reduceMul, Nat.reduceSub, m_111]
theorem m_114 : zCall 114 [.int x] sh mi mj mr = some (some (.int (if zi 0 ≤ x ∧ x ≤ zi 1 then zi 1 else zi 0)), sh, mi, mj, mr) := by
  simp (disch := (first | ((with_reducible refine zct_le ?_) <;> exact Nat.le_of_ble_eq_true rfl) | with_reducible exact zh_0 | with_reducible exact zh_1 | with_reducible exact zh_b | omega)) only [e_114, q_114_0, q_114_1, q_114_2, q_114_3, q_114_6, vf_s, vf_n, zk2_none, zk2_int, zk2_ref, zk2_null, zk2_long, zct_nil, zct_i, zct_l, zct_r, zct_n, Option.bind_some, Option.toList_some, Option.toList_none, List.cons_append, List.nil_append, zor_l, zor_r, if_true, if_false, ↓reduceIte, zi_lit, zi_of, zi_add, zi_mul, zi_sub, zi_nat, zi_leT, zi_leF, zi_ltT, zi_ltF, zi_eqT, zi_eqF, zif_0z, zif_bz, zi_01l, zi_01r, not_true_eq_false, not_false_eq_true, Nat.reduceAdd, Nat.reduceMul, Nat.reduceSub, m_111]
theorem m_120 : zCall 120 [.int x] sh mi mj mr = some (some (.int (if zi 48 ≤ x ∧ x ≤ zi 57 then zi 1 else zi 0)), sh, mi, mj, mr) := by
  simp (disch := (first | ((with_reducible refine zct_le ?_) <;> exact Nat.le_of_ble_eq_true rfl) | with_reducible exact zh_0 | with_reducible exact zh_1 | with_reducible exact zh_b | omega)) only [e_120, q_120_0, q_120_1, q_120_3, q_120_5, q_120_8, vf_s, vf_n, zk2_none, zk2_int, zk2_ref, zk2_null, zk2_long, zct_nil, zct_i, zct_l, zct_r, zct_n, Option.bind_some, Option.toList_some, Option.toList_none, List.cons_append, List.nil_append, zor_l, zor_r, if_true, if_false, ↓reduceIte, zi_lit, zi_of, zi_add, zi_mul, zi_sub, zi_nat, zi_leT, zi_leF, zi_ltT, zi_ltF, zi_eqT, zi_eqF, zif_0z, zif_bz, zi_01l, zi_01r, not_true_eq_false, not_false_eq_true, Nat.reduceAdd, Nat.reduceMul, Nat.reduceSub, m_111]
theorem m_137 : zCall 137 [.long u] sh mi mj mr = some (some (.long (zabs u)), sh, mi, mj, mr) := by
  simp (disch := (first | ((with_reducible refine zct_le ?_) <;> exact Nat.le_of_ble_eq_true rfl) | with_reducible exact zh_0 | with_reducible exact zh_1 | with_reducible exact zh_b | omega)) only [e_137, q_137_0, q_137_1, q_137_2, q_137_3, q_137_6, q_137_7, q_137_8, q_137_11, q_137_12, vf_s, vf_n, zk2_none, zk2_int, zk2_ref, zk2_null, zk2_long, zct_nil, zct_i, zct_l, zct_r, zct_n, Option.bind_some, Option.toList_some, Option.toList_none, List.cons_append, List.nil_append, zor_l, zor_r, if_true, if_false, ↓reduceIte, zabs]
  split <;> rfl
theorem m_150 : zCall 150 [.long u, .long v] sh mi mj mr = some (some (.long (zmin u v)), sh, mi, mj, mr) := by
  simp (disch := (first | ((with_reducible refine zct_le ?_) <;> exact Nat.le_of_ble_eq_true rfl) | with_reducible exact zh_0 | with_reducible exact zh_1 | with_reducible exact zh_b | omega)) only [e_150, q_150_0, q_150_1, q_150_2, q_150_3, q_150_6, q_150_7, q_150_10, q_150_11, vf_s, vf_n, zk2_none, zk2_int, zk2_ref, zk2_null, zk2_long, zct_nil, zct_i, zct_l, zct_r, zct_n, Option.bind_some, Option.toList_some, Option.toList_none, List.cons_append, List.nil_append, zor_l, zor_r, if_true, if_false, ↓reduceIte]
  rw [rt_J]
  have : (if v ≤ u then v else u) = zmin u v := by
    unfold zmin
    rcases lg_tri u v with h | h | h
    · rw [if_neg (lg_lt_not_le h), if_neg (lg_lt_not h)]
    · subst h; split <;> split <;> rfl
    · rw [if_pos h, if_pos (by rw [zj_le]; rw [zj_lt] at h; omega)]
  rw [this]
theorem m_151 : zCall 151 [.long u, .long v] sh mi mj mr = some (some (.long (zmax u v)), sh, mi, mj, mr) := by
  simp (disch := (first | ((with_reducible refine zct_le ?_) <;> exact Nat.le_of_ble_eq_true rfl) | with_reducible exact zh_0 | with_reducible exact zh_1 | with_reducible exact zh_b | omega)) only [e_151, q_151_0, q_151_1, q_151_2, q_151_3, q_151_6, q_151_7, q_151_10, q_151_11, vf_s, vf_n, zk2_none, zk2_int, zk2_ref, zk2_null, zk2_long, zct_nil, zct_i, zct_l, zct_r, zct_n, Option.bind_some, Option.toList_some, Option.toList_none, List.cons_append, List.nil_append, zor_l, zor_r, if_true, if_false, ↓reduceIte]
  rw [rt_J]
  have : (if u ≤ v then v else u) = zmax u v := by
    unfold zmax
    rcases lg_tri u v with h | h | h
    · rw [if_pos h, if_pos (by rw [zj_le]; rw [zj_lt] at h; omega)]
    · subst h; split <;> split <;> rfl
    · rw [if_neg (lg_lt_not_le h), if_neg (lg_lt_not h)]
  rw [this]
theorem m_147 (h : ¬ v = 0) : zCall 147 [.long u, .long v] sh mi mj mr = some (some (.long (zfdiv u v)), sh, mi, mj, mr) := by
  simp (disch := (first | with_reducible exact h | with_reducible exact zi_at h (by omega) (by omega) | ((with_reducible refine zct_le ?_) <;> exact Nat.le_of_ble_eq_true rfl) | with_reducible exact zh_0 | with_reducible exact zh_1 | with_reducible exact zh_b | omega)) only [e_147, q_147_0, q_147_1, q_147_2, q_147_3, q_147_5, q_147_7, q_147_8, q_147_9, q_147_10, q_147_11, q_147_14, q_147_15, q_147_16, q_147_17, q_147_20, q_147_21, q_147_24, q_147_25, q_147_26, q_147_27, q_147_28, q_147_31, q_147_32, q_147_35, q_147_36, q_147_39, q_147_41, q_147_42, q_147_43, q_147_46, q_147_48, vf_s, vf_n, zk2_none, zk2_int, zk2_ref, zk2_null, zk2_long, zct_nil, zct_i, zct_l, zct_r, zct_n, Option.bind_some, Option.toList_some, Option.toList_none, List.cons_append, List.nil_append, zor_l, zor_r, if_true, if_false, ↓reduceIte, zi_lit, zi_of, zi_add, zi_mul, zi_sub, zi_nat, zi_leT, zi_leF, zi_ltT, zi_ltF, zi_eqT, zi_eqF, zif_0z, zif_bz, zi_01l, zi_01r, not_true_eq_false, not_false_eq_true, Nat.reduceAdd, Nat.reduceMul, Nat.reduceSub]
  rw [zfdiv_alt]
  by_cases h1 : u / v * v = u
  · simp [h1]
  · by_cases h2 : 0 ≤ u <;> by_cases h3 : 0 ≤ v <;> simp [h1, h2, h3] <;> decide
theorem m_148 (h : ¬ v = 0) : zCall 148 [.long u, .long v] sh mi mj mr = some (some (.long (zcdiv u v)), sh, mi, mj, mr) := by
  simp (disch := (first | with_reducible exact h | with_reducible exact zi_at h (by omega) (by omega) | ((with_reducible refine zct_le ?_) <;> exact Nat.le_of_ble_eq_true rfl) | with_reducible exact zh_0 | with_reducible exact zh_1 | with_reducible exact zh_b | omega)) only [e_148, q_148_0, q_148_1, q_148_2, q_148_3, q_148_5, q_148_7, q_148_8, q_148_9, q_148_10, q_148_11, q_148_14, q_148_15, q_148_16, q_148_17, q_148_20, q_148_21, q_148_24, q_148_25, q_148_26, q_148_27, q_148_28, q_148_31, q_148_32, q_148_35, q_148_36, q_148_39, q_148_41, q_148_42, q_148_43, q_148_46, q_148_48, vf_s, vf_n, zk2_none, zk2_int, zk2_ref, zk2_null, zk2_long, zct_nil, zct_i, zct_l, zct_r, zct_n, Option.bind_some, Option.toList_some, Option.toList_none, List.cons_append, List.nil_append, zor_l, zor_r, if_true, if_false, ↓reduceIte, zi_lit, zi_of, zi_add, zi_mul, zi_sub, zi_nat, zi_leT, zi_leF, zi_ltT, zi_ltF, zi_eqT, zi_eqF, zif_0z, zif_bz, zi_01l, zi_01r, not_true_eq_false, not_false_eq_true, Nat.reduceAdd, Nat.reduceMul, Nat.reduceSub]
  unfold zcdiv
  by_cases h1 : u / v * v = u
  · simp [h1]
  · by_cases h2 : 0 ≤ u <;> by_cases h3 : 0 ≤ v <;> simp [h1, h2, h3] <;> decide
theorem m_160 : zCall 160 [.long u] sh mi mj mr = some (some (.int (if zbig u then zi 1 else zi 0)), sh, mi, mj, mr) := by
  simp (disch := (first | ((with_reducible refine zct_le ?_) <;> exact Nat.le_of_ble_eq_true rfl) | with_reducible exact zh_0 | with_reducible exact zh_1 | with_reducible exact zh_b | omega)) only [e_160, q_160_0, q_160_1, q_160_4, q_160_5, q_160_8, q_160_9, q_160_12, q_160_13, q_160_16, q_160_17, q_160_20, q_160_21, vf_s, vf_n, zk2_none, zk2_int, zk2_ref, zk2_null, zk2_long, zct_nil, zct_i, zct_l, zct_r, zct_n, Option.bind_some, Option.toList_some, Option.toList_none, List.cons_append, List.nil_append, zor_l, zor_r, if_true, if_false, ↓reduceIte, zi_lit, zi_of, zi_add, zi_mul, zi_sub, zi_nat, zi_leT, zi_leF, zi_ltT, zi_ltF, zi_eqT, zi_eqF, zif_0z, zif_bz, zi_01l, zi_01r, not_true_eq_false, not_false_eq_true, Nat.reduceAdd, Nat.reduceMul, Nat.reduceSub]
  by_cases h1 : 1000000000 < u
  · simp [h1]
  · by_cases h2 : u < -1000000000
    · have := lg_lt_not_le h2
      simp [h1, h2, this]
    · have : -1000000000 ≤ u := by
        rw [zj_le]; rw [zj_lt] at h2; omega
      simp [h1, h2, this, show ¬ zbig u from fun h => h.elim h1 h2]
end
section
variable {Ls : Nat} {g : Nat → Nat} {mi : zI} {mj : zJ} {x y z : Int32} {f o p q k n d s b u : Nat} {v w : Int64} {Z : Option zRes}
theorem rf_148_10' : RF g 148 10 = some 155 := rf_148_10
theorem l_138 (hf : f < 100) (n : Nat) : ∀ k, k + n = 12 → zRun 138 16 [some (.ref 148), some (.int (zi f)), some (.long (frad (rf mj f) k)), none, some (.int (zi k))] [] (SH Ls) mi mj (RF g) = some (some (.long (frad (rf mj f) 12)), SH Ls, mi, mj, RF g) := by
  induction n with
  | zero =>
    intro k hk
    obtain rfl : k = 12 := by omega
    rw [q_138_16]
    simp (disch := (first | ((with_reducible refine zct_le ?_) <;> exact Nat.le_of_ble_eq_true rfl) | with_reducible exact zh_0 | with_reducible exact zh_1 | with_reducible exact zh_b | omega)) only [q_138_18, q_138_20, q_138_23, q_138_24r, q_138_24n, q_138_25, q_138_28, q_138_30, q_138_31, q_138_32, q_138_33, q_138_34, q_138_36, q_138_37, q_138_38, q_138_41, q_138_42, q_138_43, q_138_46, q_138_49, q_138_50, vf_s, vf_n, zk2_none, zk2_int, zk2_ref, zk2_null, zk2_long, zct_nil, zct_i, zct_l, zct_r, zct_n, Option.bind_some, Option.toList_some, Option.toList_none, List.cons_append, List.nil_append, zor_l, zor_r, if_true, if_false, ↓reduceIte, zi_lit, zi_of, zi_add, zi_mul, zi_sub, zi_nat, zi_leT, zi_leF, zi_ltT, zi_ltF, zi_eqT, zi_eqF, zif_0z, zif_bz, zi_01l, zi_01r, not_true_eq_false, not_false_eq_true, Nat.reduceAdd, Nat.reduceMul, Nat.reduceSub]
  | succ n ih =>
    intro k hk
    rw [q_138_16]
    simp (disch := (first | with_reducible exact is_148 | with_reducible exact zi_at is_148 (by omega) (by omega) | with_reducible exact is_155 | with_reducible exact zi_at is_155 (by omega) (by omega) | ((with_reducible refine zct_le ?_) <;> exact Nat.le_of_ble_eq_true rfl) | with_reducible exact zh_0 | with_reducible exact zh_1 | with_reducible exact zh_b | omega)) only [q_138_18, q_138_20, q_138_23, q_138_24r, q_138_24n, q_138_25, q_138_28, q_138_30, q_138_31, q_138_32, q_138_33, q_138_34, q_138_36, q_138_37, q_138_38, q_138_41, q_138_42, q_138_43, q_138_46, q_138_49, q_138_50, vf_s, vf_n, zk2_none, zk2_int, zk2_ref, zk2_null, zk2_long, zct_nil, zct_i, zct_l, zct_r, zct_n, Option.bind_some, Option.toList_some, Option.toList_none, List.cons_append, List.nil_append, zor_l, zor_r, if_true, if_false, ↓reduceIte, zi_lit, zi_of, zi_add, zi_mul, zi_sub, zi_nat, zi_leT, zi_leF, zi_ltT, zi_ltF, zi_eqT, zi_eqF, zif_0z, zif_bz, zi_01l, zi_01r, not_true_eq_false, not_false_eq_true, Nat.reduceAdd, Nat.reduceMul, Nat.reduceSub, rf_148_10, m_137]
    have := ih (k + 1) (by omega)
    rw [frad, show rf mj f (k + 1) = mj 155 (17 * f + 1 + k) from fMk_c (by omega)] at this
    exact this
theorem m_138 (hf : f < 100) : zCall 138 [.ref 148, .int (zi f)] (SH Ls) mi mj (RF g) = some (some (.long (frad (rf mj f) 12)), SH Ls, mi, mj, RF g) := by
  simp (disch := (first | with_reducible exact is_148 | with_reducible exact zi_at is_148 (by omega) (by omega) | with_reducible exact is_155 | with_reducible exact zi_at is_155 (by omega) (by omega) | ((with_reducible refine zct_le ?_) <;> exact Nat.le_of_ble_eq_true rfl) | with_reducible exact zh_0 | with_reducible exact zh_1 | with_reducible exact zh_b | omega)) only [e_138, q_138_0r, q_138_0n, q_138_1, q_138_4, q_138_6, q_138_7, q_138_8, q_138_10, q_138_11, q_138_12, q_138_13, q_138_14, vf_s, vf_n, zk2_none, zk2_int, zk2_ref, zk2_null, zk2_long, zct_nil, zct_i, zct_l, zct_r, zct_n, Option.bind_some, Option.toList_some, Option.toList_none, List.cons_append, List.nil_append, zor_l, zor_r, if_true, if_false, ↓reduceIte, zi_lit, zi_of, zi_add, zi_mul, zi_sub, zi_nat, zi_leT, zi_leF, zi_ltT, zi_ltF, zi_eqT, zi_eqF, zif_0z, zif_bz, zi_01l, zi_01r, not_true_eq_false, not_false_eq_true, Nat.reduceAdd, Nat.reduceMul, Nat.reduceSub, rf_148_10]
  exact l_138 hf 12 0 rfl
theorem m_139 (hf : f < 100) : zCall 139 [.ref 148, .int (zi f)] (SH Ls) mi mj (RF g) = some (some (.long (flow (rf mj f))), SH Ls, mi, mj, RF g) := by
  simp (disch := (first | with_reducible exact is_148 | with_reducible exact zi_at is_148 (by omega) (by omega) | with_reducible exact is_155 | with_reducible exact zi_at is_155 (by omega) (by omega) | ((with_reducible refine zct_le ?_) <;> exact Nat.le_of_ble_eq_true rfl) | with_reducible exact zh_0 | with_reducible exact zh_1 | with_reducible exact zh_b | omega)) only [e_139, q_139_0r, q_139_0n, q_139_1, q_139_4, q_139_6, q_139_7, q_139_8, q_139_9, q_139_10, q_139_11r, q_139_11n, q_139_12, q_139_13, q_139_16, q_139_17, q_139_18, q_139_19r, q_139_19n, q_139_20, q_139_23, q_139_25, q_139_26, q_139_27, q_139_29, q_139_30, q_139_31, q_139_32, q_139_35, q_139_36, q_139_39r, q_139_39n, q_139_40, q_139_43, q_139_45, q_139_46, q_139_47, q_139_49, q_139_50, q_139_51, vf_s, vf_n, zk2_none, zk2_int, zk2_ref, zk2_null, zk2_long, zct_nil, zct_i, zct_l, zct_r, zct_n, Option.bind_some, Option.toList_some, Option.toList_none, List.cons_append, List.nil_append, zor_l, zor_r, if_true, if_false, ↓reduceIte, zi_lit, zi_of, zi_add, zi_mul, zi_sub, zi_nat, zi_leT, zi_leF, zi_ltT, zi_ltF, zi_eqT, zi_eqF, zif_0z, zif_bz, zi_01l, zi_01r, not_true_eq_false, not_false_eq_true, Nat.reduceAdd, Nat.reduceMul, Nat.reduceSub, rf_148_10, m_138 hf, Nat.add_zero]
  rw [rt_J]
  have : (if mj 155 (17 * f) - frad (rf mj f) 12 ≤ mj 155 (17 * f + 14) then mj 155 (17 * f + 14) else mj 155 (17 * f) - frad (rf mj f) 12) = flow (rf mj f) := by
    unfold flow
    show _ = zmax (mj 155 (17 * f) - frad (rf mj f) 12) (mj 155 (17 * f + 14))
    generalize mj 155 (17 * f) - frad (rf mj f) 12 = a
    generalize mj 155 (17 * f + 14) = c
    unfold zmax
    rcases lg_tri a c with h | h | h
    · rw [if_pos h, if_pos (by rw [zj_le]; rw [zj_lt] at h; omega)]
    · subst h; split <;> split <;> rfl
    · rw [if_neg (lg_lt_not_le h), if_neg (lg_lt_not h)]
  rw [this]
theorem m_140 (hf : f < 100) : zCall 140 [.ref 148, .int (zi f)] (SH Ls) mi mj (RF g) = some (some (.long (fhigh (rf mj f))), SH Ls, mi, mj, RF g) := by
  simp (disch := (first | with_reducible exact is_148 | with_reducible exact zi_at is_148 (by omega) (by omega) | with_reducible exact is_155 | with_reducible exact zi_at is_155 (by omega) (by omega) | ((with_reducible refine zct_le ?_) <;> exact Nat.le_of_ble_eq_true rfl) | with_reducible exact zh_0 | with_reducible exact zh_1 | with_reducible exact zh_b | omega)) only [e_140, q_140_0r, q_140_0n, q_140_1, q_140_4, q_140_6, q_140_7, q_140_8, q_140_9, q_140_10, q_140_11r, q_140_11n, q_140_12, q_140_13, q_140_16, q_140_17, q_140_18, q_140_19r, q_140_19n, q_140_20, q_140_23, q_140_25, q_140_26, q_140_27, q_140_29, q_140_30, q_140_31, q_140_32, q_140_35, q_140_36, q_140_39r, q_140_39n, q_140_40, q_140_43, q_140_45, q_140_46, q_140_47, q_140_49, q_140_50, q_140_51, vf_s, vf_n, zk2_none, zk2_int, zk2_ref, zk2_null, zk2_long, zct_nil, zct_i, zct_l, zct_r, zct_n, Option.bind_some, Option.toList_some, Option.toList_none, List.cons_append, List.nil_append, zor_l, zor_r, if_true, if_false, ↓reduceIte, zi_lit, zi_of, zi_add, zi_mul, zi_sub, zi_nat, zi_leT, zi_leF, zi_ltT, zi_ltF, zi_eqT, zi_eqF, zif_0z, zif_bz, zi_01l, zi_01r, not_true_eq_false, not_false_eq_true, Nat.reduceAdd, Nat.reduceMul, Nat.reduceSub, rf_148_10, m_138 hf, Nat.add_zero]
  rw [rt_J]
  have : (if mj 155 (17 * f + 15) ≤ mj 155 (17 * f) + frad (rf mj f) 12 then mj 155 (17 * f + 15) else mj 155 (17 * f) + frad (rf mj f) 12) = fhigh (rf mj f) := by
    unfold fhigh
    show _ = zmin (mj 155 (17 * f) + frad (rf mj f) 12) (mj 155 (17 * f + 15))
    generalize mj 155 (17 * f) + frad (rf mj f) 12 = a
    generalize mj 155 (17 * f + 15) = c
    unfold zmin
    rcases lg_tri a c with h | h | h
    · rw [if_neg (lg_lt_not_le h), if_neg (lg_lt_not h)]
    · subst h; split <;> split <;> rfl
    · rw [if_pos h, if_pos (by rw [zj_le]; rw [zj_lt] at h; omega)]
  rw [this]
theorem m_141 (hf : f < 100) : zCall 141 [.ref 148, .int (zi f)] (SH Ls) mi mj (RF g) = some (some (.int (if mj 155 (17 * f + 16) = 0 then zi 0 else zi 1)), SH Ls, mi, mj, RF g) := by
  simp (disch := (first | with_reducible exact is_148 | with_reducible exact zi_at is_148 (by omega) (by omega) | with_reducible exact is_155 | with_reducible exact zi_at is_155 (by omega) (by omega) | ((with_reducible refine zct_le ?_) <;> exact Nat.le_of_ble_eq_true rfl) | with_reducible exact zh_0 | with_reducible exact zh_1 | with_reducible exact zh_b | omega)) only [e_141, q_141_0r, q_141_0n, q_141_1, q_141_4, q_141_6, q_141_7, q_141_8, q_141_10, q_141_11, q_141_12, q_141_13, q_141_14, q_141_17, q_141_18, q_141_21, q_141_22, vf_s, vf_n, zk2_none, zk2_int, zk2_ref, zk2_null, zk2_long, zct_nil, zct_i, zct_l, zct_r, zct_n, Option.bind_some, Option.toList_some, Option.toList_none, List.cons_append, List.nil_append, zor_l, zor_r, if_true, if_false, ↓reduceIte, zi_lit, zi_of, zi_add, zi_mul, zi_sub, zi_nat, zi_leT, zi_leF, zi_ltT, zi_ltF, zi_eqT, zi_eqF, zif_0z, zif_bz, zi_01l, zi_01r, not_true_eq_false, not_false_eq_true, Nat.reduceAdd, Nat.reduceMul, Nat.reduceSub, rf_148_10]
  rw [rt_I]
theorem l_142 (hf : f < 100) (n : Nat) : ∀ k, k + n = 17 → zRun 142 2 [some (.ref 148), some (.int (zi f)), some (.int (zi k))] [] (SH Ls) mi (yfo mj 155 (17 * f) k fun _ => 0) (RF g) = some (none, SH Ls, mi, yfo mj 155 (17 * f) 17 fun _ => 0, RF g) := by
  induction n with
  | zero =>
    intro k hk
    obtain rfl : k = 17 := by omega
    rw [q_142_2]
    simp (disch := (first | ((with_reducible refine zct_le ?_) <;> exact Nat.le_of_ble_eq_true rfl) | with_reducible exact zh_0 | with_reducible exact zh_1 | with_reducible exact zh_b | omega)) only [q_142_3, q_142_5, q_142_8r, q_142_8n, q_142_9, q_142_12, q_142_14, q_142_15, q_142_16, q_142_17, q_142_18, q_142_19, q_142_20, q_142_23, q_142_26, vf_s, vf_n, zk2_none, zk2_int, zk2_ref, zk2_null, zk2_long, zct_nil, zct_i, zct_l, zct_r, zct_n, Option.bind_some, Option.toList_some, Option.toList_none, List.cons_append, List.nil_append, zor_l, zor_r, if_true, if_false, ↓reduceIte, zi_lit, zi_of, zi_add, zi_mul, zi_sub, zi_nat, zi_leT, zi_leF, zi_ltT, zi_ltF, zi_eqT, zi_eqF, zif_0z, zif_bz, zi_01l, zi_01r, not_true_eq_false, not_false_eq_true, Nat.reduceAdd, Nat.reduceMul, Nat.reduceSub]
  | succ n ih =>
    intro k hk
    rw [q_142_2]
    simp (disch := (first | with_reducible exact is_148 | with_reducible exact zi_at is_148 (by omega) (by omega) | with_reducible exact is_155 | with_reducible exact zi_at is_155 (by omega) (by omega) | ((with_reducible refine zct_le ?_) <;> exact Nat.le_of_ble_eq_true rfl) | with_reducible exact zh_0 | with_reducible exact zh_1 | with_reducible exact zh_b | omega)) only [q_142_3, q_142_5, q_142_8r, q_142_8n, q_142_9, q_142_12, q_142_14, q_142_15, q_142_16, q_142_17, q_142_18, q_142_19, q_142_20, q_142_23, q_142_26, vf_s, vf_n, zk2_none, zk2_int, zk2_ref, zk2_null, zk2_long, zct_nil, zct_i, zct_l, zct_r, zct_n, Option.bind_some, Option.toList_some, Option.toList_none, List.cons_append, List.nil_append, zor_l, zor_r, if_true, if_false, ↓reduceIte, zi_lit, zi_of, zi_add, zi_mul, zi_sub, zi_nat, zi_leT, zi_leF, zi_ltT, zi_ltF, zi_eqT, zi_eqF, zif_0z, zif_bz, zi_01l, zi_01r, not_true_eq_false, not_false_eq_true, Nat.reduceAdd, Nat.reduceMul, Nat.reduceSub, rf_148_10]
    rw [yfo_s rfl]
    exact ih (k + 1) (by omega)
theorem m_142 (hf : f < 100) : zCall 142 [.ref 148, .int (zi f)] (SH Ls) mi mj (RF g) = some (none, SH Ls, mi, yfo mj 155 (17 * f) 17 fun _ => 0, RF g) := by
  simp (disch := (first | ((with_reducible refine zct_le ?_) <;> exact Nat.le_of_ble_eq_true rfl) | with_reducible exact zh_0 | with_reducible exact zh_1 | with_reducible exact zh_b | omega)) only [e_142, q_142_0, q_142_1, vf_s, vf_n, zk2_none, zk2_int, zk2_ref, zk2_null, zk2_long, zct_nil, zct_i, zct_l, zct_r, zct_n, Option.bind_some, Option.toList_some, Option.toList_none, List.cons_append, List.nil_append, zor_l, zor_r, if_true, if_false, ↓reduceIte, zi_lit, zi_of, zi_add, zi_mul, zi_sub, zi_nat, zi_leT, zi_leF, zi_ltT, zi_ltF, zi_eqT, zi_eqF, zif_0z, zif_bz, zi_01l, zi_01r, not_true_eq_false, not_false_eq_true, Nat.reduceAdd, Nat.reduceMul, Nat.reduceSub]
  have := l_142 (Ls := Ls) (g := g) (mi := mi) (mj := mj) hf 17 0 rfl
  rw [yfo_0] at this
  exact this
theorem l_143 (hf : f < 100) (hq : q < 100) (hne : ¬ f = q) (n : Nat) : ∀ k, k + n = 17 → zRun 143 2 [some (.ref 148), some (.int (zi f)), some (.int (zi q)), some (.int (zi k))] [] (SH Ls) mi (yfo mj 155 (17 * q) k fun k => mj 155 (17 * f + k)) (RF g) = some (none, SH Ls, mi, yfo mj 155 (17 * q) 17 fun k => mj 155 (17 * f + k), RF g) := by
  induction n with
  | zero =>
    intro k hk
    obtain rfl : k = 17 := by omega
    rw [q_143_2]
    simp (disch := (first | ((with_reducible refine zct_le ?_) <;> exact Nat.le_of_ble_eq_true rfl) | with_reducible exact zh_0 | with_reducible exact zh_1 | with_reducible exact zh_b | omega)) only [q_143_3, q_143_5, q_143_8r, q_143_8n, q_143_9, q_143_12, q_143_14, q_143_15, q_143_16, q_143_17, q_143_18r, q_143_18n, q_143_19, q_143_22, q_143_24, q_143_25, q_143_26, q_143_27, q_143_28, q_143_29, q_143_30, q_143_33, q_143_36, vf_s, vf_n, zk2_none, zk2_int, zk2_ref, zk2_null, zk2_long, zct_nil, zct_i, zct_l, zct_r, zct_n, Option.bind_some, Option.toList_some, Option.toList_none, List.cons_append, List.nil_append, zor_l, zor_r, if_true, if_false, ↓reduceIte, zi_lit, zi_of, zi_add, zi_mul, zi_sub, zi_nat, zi_leT, zi_leF, zi_ltT, zi_ltF, zi_eqT, zi_eqF, zif_0z, zif_bz, zi_01l, zi_01r, not_true_eq_false, not_false_eq_true, Nat.reduceAdd, Nat.reduceMul, Nat.reduceSub]
  | succ n ih =>
    intro k hk
    rw [q_143_2]
    simp (disch := (first | with_reducible exact is_148 | with_reducible exact zi_at is_148 (by omega) (by omega) | with_reducible exact is_155 | with_reducible exact zi_at is_155 (by omega) (by omega) | ((with_reducible refine zct_le ?_) <;> exact Nat.le_of_ble_eq_true rfl) | with_reducible exact zh_0 | with_reducible exact zh_1 | with_reducible exact zh_b | omega)) only [q_143_3, q_143_5, q_143_8r, q_143_8n, q_143_9, q_143_12, q_143_14, q_143_15, q_143_16, q_143_17, q_143_18r, q_143_18n, q_143_19, q_143_22, q_143_24, q_143_25, q_143_26, q_143_27, q_143_28, q_143_29, q_143_30, q_143_33, q_143_36, vf_s, vf_n, zk2_none, zk2_int, zk2_ref, zk2_null, zk2_long, zct_nil, zct_i, zct_l, zct_r, zct_n, Option.bind_some, Option.toList_some, Option.toList_none, List.cons_append, List.nil_append, zor_l, zor_r, if_true, if_false, ↓reduceIte, zi_lit, zi_of, zi_add, zi_mul, zi_sub, zi_nat, zi_leT, zi_leF, zi_ltT, zi_ltF, zi_eqT, zi_eqF, zif_0z, zif_bz, zi_01l, zi_01r, not_true_eq_false, not_false_eq_true, Nat.reduceAdd, Nat.reduceMul, Nat.reduceSub, rf_148_10, yfo_out]
    rw [yfo_s rfl]
    exact ih (k + 1) (by omega)
theorem m_143 (hf : f < 100) (hq : q < 100) (hne : ¬ f = q) : zCall 143 [.ref 148, .int (zi f), .int (zi q)] (SH Ls) mi mj (RF g) = some (none, SH Ls, mi, yfo mj 155 (17 * q) 17 fun k => mj 155 (17 * f + k), RF g) := by
  simp (disch := (first | ((with_reducible refine zct_le ?_) <;> exact Nat.le_of_ble_eq_true rfl) | with_reducible exact zh_0 | with_reducible exact zh_1 | with_reducible exact zh_b | omega)) only [e_143, q_143_0, q_143_1, vf_s, vf_n, zk2_none, zk2_int, zk2_ref, zk2_null, zk2_long, zct_nil, zct_i, zct_l, zct_r, zct_n, Option.bind_some, Option.toList_some, Option.toList_none, List.cons_append, List.nil_append, zor_l, zor_r, if_true, if_false, ↓reduceIte, zi_lit, zi_of, zi_add, zi_mul, zi_sub, zi_nat, zi_leT, zi_leF, zi_ltT, zi_ltF, zi_eqT, zi_eqF, zif_0z, zif_bz, zi_01l, zi_01r, not_true_eq_false, not_false_eq_true, Nat.reduceAdd, Nat.reduceMul, Nat.reduceSub]
  have := l_143 (Ls := Ls) (g := g) (mi := mi) (mj := mj) hf hq hne 17 0 rfl
  rw [yfo_0] at this
  exact this
end
