/-! ===== reading (3): the class ===== -/
def stkI (mi : zI) (o : Nat) (cd : Nat → Int32) : List Nat → Prop
  | [] => True
  | a :: W => mi o W.length = cd a ∧ stkI mi o cd W
theorem stkI.fr {mi mi' : zI} {o : Nat} {cd : Nat → Int32} (W : List Nat) : (∀ j, j < W.length → mi' o j = mi o j) → stkI mi o cd W → stkI mi' o cd W := by
  induction W with
  | nil => exact fun _ _ => trivial
  | cons a W ih =>
    intro h1 h2
    rw [List.length_cons] at h1
    exact ⟨(h1 W.length (by omega)).trans h2.1, ih (fun j hj => h1 j (by omega)) h2.2⟩
def cRd (mi : zI) (s : Rd) : Prop := mi 23 2 = zi s.n ∧ (∀ k, k < s.n → mi 24 k = zi (s.K k) ∧ mi 25 k = zi (s.V k)) ∧ mi 22 2 = zi s.W.length ∧ stkI mi 26 zi s.W ∧ mi 22 3 = zi s.p ∧ mi 22 4 = zi s.q
def FrA (mi mi' : zI) : Prop := ∀ a, a < 22 ∨ 26 < a → mi' a = mi a
theorem FrA.tr {mi mi1 mi2 : zI} (h : FrA mi mi1) (h2 : FrA mi1 mi2) : FrA mi mi2 := fun a ha => (h2 a ha).trans (h a ha)
theorem FrA.rf {mi : zI} : FrA mi mi := fun _ _ => rfl
section
variable {Ls : Nat} {g : Nat → Nat} {mi mi' : zI} {mj : zJ} {s s' : Rd} {a b c k n v x p : Nat} {W : List Nat} {K : Nat → Nat}
theorem i32_nlr {a b : Int32} (h : ¬ a ≤ b) : b < a := by rw [Int32.lt_iff_toInt_lt]; rw [Int32.le_iff_toInt_le] at h; omega
theorem cpl_wt (W : List Nat) : ∀ (s : Rd) U, cpl b W (s.wt U) = cpl b W s := by
  induction W with
  | nil => exact fun _ _ => rfl
  | cons a W ih =>
    intro s U
    rw [cpl, cpl]
    by_cases c : b ≤ bdg a
    · rw [if_pos c, if_pos c]; exact ih (s.ap a) U
    · rw [if_neg c, if_neg c]; rfl
theorem FrA.u {o j : Nat} {z : Int32} (ho : 22 ≤ o ∧ o ≤ 26) : FrA mi (zup mi o j z) := fun a ha => zup_ne (by omega)
theorem cRd_ap (h : cRd mi s) : cRd (zup (zup (zup mi 24 s.n (zi k)) 25 s.n (zi 0)) 23 2 (zi (s.n + 1))) (s.ap k) := by
  obtain ⟨h1, h2, h3, h4, h5, h6⟩ := h
  refine ⟨zg_s, fun i hi => ?_, by simp (disch := omega) only [zg_s, zg_o, zg_j, zg_r, zg_ro, zg_d, yfl_o]; exact h3, stkI.fr _ (fun j _ => by simp (disch := omega) only [zg_s, zg_o, zg_j, zg_r, zg_ro, zg_d, yfl_o]) h4, by simp (disch := omega) only [zg_s, zg_o, zg_j, zg_r, zg_ro, zg_d, yfl_o]; exact h5, by simp (disch := omega) only [zg_s, zg_o, zg_j, zg_r, zg_ro, zg_d, yfl_o]; exact h6⟩
  have hi' : i < s.n + 1 := hi
  show _ = zi (if i = s.n then k else s.K i) ∧ _ = zi (if i = s.n then 0 else s.V i)
  by_cases c : i = s.n
  · subst c
    rw [if_pos rfl, if_pos rfl]
    simp (disch := omega) only [zg_s, zg_o, zg_j, zg_r, zg_ro, zg_d, yfl_o, and_self]
  · rw [if_neg c, if_neg c]
    simp (disch := omega) only [zg_s, zg_o, zg_j, zg_r, zg_ro, zg_d, yfl_o]
    exact h2 i (by omega)
theorem cRd_st (h : cRd mi s) : cRd (zup mi 22 3 (zi p)) (s.st p) := by
  obtain ⟨h1, h2, h3, h4, h5, h6⟩ := h
  exact ⟨by simp (disch := omega) only [zg_s, zg_o, zg_j, zg_r, zg_ro, zg_d, yfl_o]; exact h1, fun i hi => by simp (disch := omega) only [zg_s, zg_o, zg_j, zg_r, zg_ro, zg_d, yfl_o]; exact h2 i hi, by simp (disch := omega) only [zg_s, zg_o, zg_j, zg_r, zg_ro, zg_d, yfl_o]; exact h3, stkI.fr _ (fun j _ => by simp (disch := omega) only [zg_s, zg_o, zg_j, zg_r, zg_ro, zg_d, yfl_o]) h4, zg_s, by simp (disch := omega) only [zg_s, zg_o, zg_j, zg_r, zg_ro, zg_d, yfl_o]; exact h6⟩
theorem cRd_ho (h : cRd mi s) : cRd (zup (zup (zup mi 26 s.W.length (zi a)) 22 2 (zi (s.W.length + 1))) 22 3 (zi p)) (s.ho a p) := by
  obtain ⟨h1, h2, h3, h4, h5, h6⟩ := h
  refine ⟨by simp (disch := omega) only [zg_s, zg_o, zg_j, zg_r, zg_ro, zg_d, yfl_o]; exact h1, fun i hi => by simp (disch := omega) only [zg_s, zg_o, zg_j, zg_r, zg_ro, zg_d, yfl_o]; exact h2 i hi, by simp (disch := omega) only [zg_s, zg_o, zg_j, zg_r, zg_ro, zg_d, yfl_o]; rfl, ⟨?_, stkI.fr _ (fun j _ => by simp (disch := omega) only [zg_s, zg_o, zg_j, zg_r, zg_ro, zg_d, yfl_o]) h4⟩, zg_s, by simp (disch := omega) only [zg_s, zg_o, zg_j, zg_r, zg_ro, zg_d, yfl_o]; exact h6⟩
  simp (disch := omega) only [zg_s, zg_o, zg_j, zg_r, zg_ro, zg_d, yfl_o]
theorem cRd_wt (h : cRd mi s) (hW : s.W = a :: W) : cRd (zup mi 22 2 (zi W.length)) (s.wt W) := by
  obtain ⟨h1, h2, h3, h4, h5, h6⟩ := h
  rw [hW] at h4
  exact ⟨by simp (disch := omega) only [zg_s, zg_o, zg_j, zg_r, zg_ro, zg_d, yfl_o]; exact h1, fun i hi => by simp (disch := omega) only [zg_s, zg_o, zg_j, zg_r, zg_ro, zg_d, yfl_o]; exact h2 i hi, zg_s, stkI.fr _ (fun j _ => by simp (disch := omega) only [zg_s, zg_o, zg_j, zg_r, zg_ro, zg_d, yfl_o]) h4.2, by simp (disch := omega) only [zg_s, zg_o, zg_j, zg_r, zg_ro, zg_d, yfl_o]; exact h5, by simp (disch := omega) only [zg_s, zg_o, zg_j, zg_r, zg_ro, zg_d, yfl_o]; exact h6⟩
theorem m_75 (h : cRd mi s) (hn : s.n < 60) : zCall 75 [.ref 23, .int (zi k), .int (zi 0)] (SH Ls) mi mj (RF g) = some (none, SH Ls, zup (zup (zup mi 24 s.n (zi k)) 25 s.n (zi 0)) 23 2 (zi (s.n + 1)), mj, RF g) := by
  have h1 := h.1
  simp (disch := (first | with_reducible exact is_23 | with_reducible exact zi_at is_23 (by omega) (by omega) | with_reducible exact is_24 | with_reducible exact zi_at is_24 (by omega) (by omega) | with_reducible exact is_25 | with_reducible exact zi_at is_25 (by omega) (by omega) | ((with_reducible refine zct_le ?_) <;> exact Nat.le_of_ble_eq_true rfl) | with_reducible exact zh_0 | with_reducible exact zh_1 | with_reducible exact zh_b | omega)) only [e_75, q_75_0r, q_75_0n, q_75_1, q_75_4, q_75_6, q_75_9, q_75_10r, q_75_10n, q_75_11, q_75_14r, q_75_14n, q_75_15, q_75_18, q_75_19, q_75_20r, q_75_20n, q_75_21, q_75_24r, q_75_24n, q_75_25, q_75_28, q_75_29, q_75_30r, q_75_30n, q_75_31r, q_75_31i, q_75_32, q_75_35, q_75_36, q_75_37, q_75_40, vf_s, vf_n, zk2_none, zk2_int, zk2_ref, zk2_null, zk2_long, zct_nil, zct_i, zct_l, zct_r, zct_n, Option.bind_some, Option.toList_some, Option.toList_none, List.cons_append, List.nil_append, zor_l, zor_r, if_true, if_false, ↓reduceIte, zi_lit, zi_of, zi_add, zi_mul, zi_sub, zi_nat, zi_leT, zi_leF, zi_ltT, zi_ltF, zi_eqT, zi_eqF, zif_0z, zif_bz, zi_01l, zi_01r, not_true_eq_false, not_false_eq_true, Nat.reduceAdd, Nat.reduceMul, Nat.reduceSub, zg_s, zg_o, zg_j, zg_r, zg_ro, zg_d, yfl_o, rf_23_0, rf_23_1, h1]
theorem m_75a (h : cRd mi s) (hn : s.n < 60) : ∃ mi', zCall 75 [.ref 23, .int (zi k), .int (zi 0)] (SH Ls) mi mj (RF g) = some (none, SH Ls, mi', mj, RF g) ∧ cRd mi' (s.ap k) ∧ FrA mi mi' := ⟨_, m_75 h hn, cRd_ap h, fun a ha => by simp (disch := omega) only [zg_s, zg_o, zg_j, zg_r, zg_ro, zg_d, yfl_o]⟩
theorem m_76 (h : cRd mi s) (hn : 1 ≤ s.n) (hn2 : s.n ≤ 60) : zCall 76 [.ref 23] (SH Ls) mi mj (RF g) = some (some (.int (zi (s.V (s.n - 1)))), SH Ls, mi, mj, RF g) := by
  have h1 := h.1
  have h2 := (h.2.1 (s.n - 1) (by omega)).2
  simp (disch := (first | with_reducible exact is_23 | with_reducible exact zi_at is_23 (by omega) (by omega) | with_reducible exact is_25 | with_reducible exact zi_at is_25 (by omega) (by omega) | ((with_reducible refine zct_le ?_) <;> exact Nat.le_of_ble_eq_true rfl) | with_reducible exact zh_0 | with_reducible exact zh_1 | with_reducible exact zh_b | omega)) only [e_76, q_76_0r, q_76_0n, q_76_1, q_76_4, q_76_7r, q_76_7n, q_76_8, q_76_11r, q_76_11n, q_76_12, q_76_15, q_76_16, q_76_17, q_76_18, q_76_21, q_76_22, vf_s, vf_n, zk2_none, zk2_int, zk2_ref, zk2_null, zk2_long, zct_nil, zct_i, zct_l, zct_r, zct_n, Option.bind_some, Option.toList_some, Option.toList_none, List.cons_append, List.nil_append, zor_l, zor_r, if_true, if_false, ↓reduceIte, zi_lit, zi_of, zi_add, zi_mul, zi_sub, zi_nat, zi_leT, zi_leF, zi_ltT, zi_ltF, zi_eqT, zi_eqF, zif_0z, zif_bz, zi_01l, zi_01r, not_true_eq_false, not_false_eq_true, Nat.reduceAdd, Nat.reduceMul, Nat.reduceSub, zg_s, zg_o, zg_j, zg_r, zg_ro, zg_d, yfl_o, rf_23_1, h1, h2]
theorem m_77 (h : cRd mi s) (hn : 1 ≤ s.n) (hn2 : s.n ≤ 60) : zCall 77 [.ref 23, .int (zi v)] (SH Ls) mi mj (RF g) = some (none, SH Ls, zup mi 25 (s.n - 1) (zi v), mj, RF g) := by
  have h1 := h.1
  simp (disch := (first | with_reducible exact is_23 | with_reducible exact zi_at is_23 (by omega) (by omega) | with_reducible exact is_25 | with_reducible exact zi_at is_25 (by omega) (by omega) | ((with_reducible refine zct_le ?_) <;> exact Nat.le_of_ble_eq_true rfl) | with_reducible exact zh_0 | with_reducible exact zh_1 | with_reducible exact zh_b | omega)) only [e_77, q_77_0r, q_77_0n, q_77_1, q_77_4, q_77_7r, q_77_7n, q_77_8, q_77_11r, q_77_11n, q_77_12, q_77_15, q_77_16, q_77_17, q_77_18, q_77_19, vf_s, vf_n, zk2_none, zk2_int, zk2_ref, zk2_null, zk2_long, zct_nil, zct_i, zct_l, zct_r, zct_n, Option.bind_some, Option.toList_some, Option.toList_none, List.cons_append, List.nil_append, zor_l, zor_r, if_true, if_false, ↓reduceIte, zi_lit, zi_of, zi_add, zi_mul, zi_sub, zi_nat, zi_leT, zi_leF, zi_ltT, zi_ltF, zi_eqT, zi_eqF, zif_0z, zif_bz, zi_01l, zi_01r, not_true_eq_false, not_false_eq_true, Nat.reduceAdd, Nat.reduceMul, Nat.reduceSub, zg_s, zg_o, zg_j, zg_r, zg_ro, zg_d, yfl_o, rf_23_1, h1]
theorem cRd_sv (h : cRd mi s) : cRd (zup (zup mi 25 (s.n - 1) (zi v)) 22 3 (zi p)) (s.sv v p) := by
  obtain ⟨h1, h2, h3, h4, h5, h6⟩ := h
  refine ⟨by simp (disch := omega) only [zg_s, zg_o, zg_j, zg_r, zg_ro, zg_d, yfl_o]; exact h1, fun i hi => ?_, by simp (disch := omega) only [zg_s, zg_o, zg_j, zg_r, zg_ro, zg_d, yfl_o]; exact h3, stkI.fr _ (fun j _ => by simp (disch := omega) only [zg_s, zg_o, zg_j, zg_r, zg_ro, zg_d, yfl_o]) h4, zg_s, by simp (disch := omega) only [zg_s, zg_o, zg_j, zg_r, zg_ro, zg_d, yfl_o]; exact h6⟩
  show _ = zi (s.K i) ∧ _ = zi (if i = s.n - 1 then v else s.V i)
  by_cases c : i = s.n - 1
  · subst c
    rw [if_pos rfl]
    simp (disch := omega) only [zg_s, zg_o, zg_j, zg_r, zg_ro, zg_d, yfl_o, and_true]
    exact (h2 _ hi).1
  · rw [if_neg c]
    simp (disch := omega) only [zg_s, zg_o, zg_j, zg_r, zg_ro, zg_d, yfl_o]
    exact h2 i hi
theorem m_59 (h : cRd mi s) (hn : 1 ≤ s.n) (hn2 : s.n ≤ 60) (hx : 48 ≤ x) : ∃ mi', zCall 59 [.ref 22, .int (zi x), .int (zi v), .int (zi p)] (SH Ls) mi mj (RF g) = some (some (.int (zi 1)), SH Ls, mi', mj, RF g) ∧ cRd mi' (s.sv (s.V (s.n - 1) + (x - 48) * v) p) ∧ FrA mi mi' := by
  have m76 := m_76 (Ls := Ls) (g := g) (mj := mj) h hn hn2
  have m77 := m_77 (Ls := Ls) (g := g) (mj := mj) (v := s.V (s.n - 1) + (x - 48) * v) h hn hn2
  refine ⟨_, ?_, cRd_sv h, fun a ha => by simp (disch := omega) only [zg_s, zg_o, zg_j, zg_r, zg_ro, zg_d, yfl_o]⟩
  simp (disch := (first | with_reducible exact is_22 | with_reducible exact zi_at is_22 (by omega) (by omega) | with_reducible exact is_23 | with_reducible exact zi_at is_23 (by omega) (by omega) | ((with_reducible refine zct_le ?_) <;> exact Nat.le_of_ble_eq_true rfl) | with_reducible exact zh_0 | with_reducible exact zh_1 | with_reducible exact zh_b | omega)) only [e_59, q_59_0r, q_59_0n, q_59_1, q_59_4r, q_59_4n, q_59_5, q_59_8, q_59_11, q_59_12, q_59_14, q_59_15, q_59_16, q_59_17, q_59_18, q_59_21r, q_59_21n, q_59_22, q_59_23, q_59_26, q_59_27, vf_s, vf_n, zk2_none, zk2_int, zk2_ref, zk2_null, zk2_long, zct_nil, zct_i, zct_l, zct_r, zct_n, Option.bind_some, Option.toList_some, Option.toList_none, List.cons_append, List.nil_append, zor_l, zor_r, if_true, if_false, ↓reduceIte, zi_lit, zi_of, zi_add, zi_mul, zi_sub, zi_nat, zi_leT, zi_leF, zi_ltT, zi_ltF, zi_eqT, zi_eqF, zif_0z, zif_bz, zi_01l, zi_01r, not_true_eq_false, not_false_eq_true, Nat.reduceAdd, Nat.reduceMul, Nat.reduceSub, rf_22_0, m76, m77]
theorem m_69 : zCall 69 [.int (zi x)] (SH Ls) mi mj (RF g) = some (some (.int (if zi 48 ≤ zi x ∧ zi x ≤ zi 57 then zi 1 else zi 0)), SH Ls, mi, mj, RF g) := by
  by_cases c1 : zi 48 ≤ zi x
  · have c1' : ¬ zi x < zi 48 := fun q => by rw [Int32.lt_iff_toInt_lt] at q; rw [Int32.le_iff_toInt_le] at c1; omega
    by_cases c2 : zi x ≤ zi 57
    · have c2' : ¬ zi 57 < zi x := fun q => by rw [Int32.lt_iff_toInt_lt] at q; rw [Int32.le_iff_toInt_le] at c2; omega
      rw [if_pos ⟨c1, c2⟩]
      simp (disch := (first | ((with_reducible refine zct_le ?_) <;> exact Nat.le_of_ble_eq_true rfl) | with_reducible exact zh_0 | with_reducible exact zh_1 | with_reducible exact zh_b | omega)) only [e_69, q_69_0, q_69_1, q_69_3, q_69_6, q_69_7, q_69_9, q_69_12, q_69_13, q_69_16, q_69_17, vf_s, vf_n, zk2_none, zk2_int, zk2_ref, zk2_null, zk2_long, zct_nil, zct_i, zct_l, zct_r, zct_n, Option.bind_some, Option.toList_some, Option.toList_none, List.cons_append, List.nil_append, zor_l, zor_r, if_true, if_false, ↓reduceIte, zi_lit, zi_of, c1', c2', c1, c2]
    · have c2' : zi 57 < zi x := i32_nlr c2
      rw [if_neg (fun q => c2 q.2)]
      simp (disch := (first | ((with_reducible refine zct_le ?_) <;> exact Nat.le_of_ble_eq_true rfl) | with_reducible exact zh_0 | with_reducible exact zh_1 | with_reducible exact zh_b | omega)) only [e_69, q_69_0, q_69_1, q_69_3, q_69_6, q_69_7, q_69_9, q_69_12, q_69_13, q_69_16, q_69_17, vf_s, vf_n, zk2_none, zk2_int, zk2_ref, zk2_null, zk2_long, zct_nil, zct_i, zct_l, zct_r, zct_n, Option.bind_some, Option.toList_some, Option.toList_none, List.cons_append, List.nil_append, zor_l, zor_r, if_true, if_false, ↓reduceIte, zi_lit, zi_of, c1', c2', c1]
  · have c1' : zi x < zi 48 := i32_nlr c1
    rw [if_neg (fun q => c1 q.1)]
    simp (disch := (first | ((with_reducible refine zct_le ?_) <;> exact Nat.le_of_ble_eq_true rfl) | with_reducible exact zh_0 | with_reducible exact zh_1 | with_reducible exact zh_b | omega)) only [e_69, q_69_0, q_69_1, q_69_3, q_69_6, q_69_7, q_69_9, q_69_12, q_69_13, q_69_16, q_69_17, vf_s, vf_n, zk2_none, zk2_int, zk2_ref, zk2_null, zk2_long, zct_nil, zct_i, zct_l, zct_r, zct_n, Option.bind_some, Option.toList_some, Option.toList_none, List.cons_append, List.nil_append, zor_l, zor_r, if_true, if_false, ↓reduceIte, zi_lit, zi_of, c1']
theorem m_69y (h1 : 48 ≤ x) (h2 : x ≤ 57) : zCall 69 [.int (zi x)] (SH Ls) mi mj (RF g) = some (some (.int (zi 1)), SH Ls, mi, mj, RF g) := by
  rw [m_69, if_pos ⟨by rw [zi_le (by omega) (by omega)]; exact h1, by rw [zi_le (by omega) (by omega)]; exact h2⟩]
theorem m_69n (h0 : x < 2147483648) (h : ¬ (48 ≤ x ∧ x ≤ 57)) : zCall 69 [.int (zi x)] (SH Ls) mi mj (RF g) = some (some (.int (zi 0)), SH Ls, mi, mj, RF g) := by
  rw [m_69, if_neg (fun q => h ⟨by have := q.1; rwa [zi_le (by omega) (by omega)] at this, by have := q.2; rwa [zi_le (by omega) (by omega)] at this⟩)]
theorem m_68 (ha : okA a) : zCall 68 [.int (zi a)] (SH Ls) mi mj (RF g) = some (some (.int (zi (bdg a))), SH Ls, mi, mj, RF g) := by
  unfold okA at ha
  rcases ha with rfl | rfl | rfl | rfl | rfl | rfl | rfl | rfl | rfl | rfl | rfl | rfl
  all_goals
    simp (disch := (first | ((with_reducible refine zct_le ?_) <;> exact Nat.le_of_ble_eq_true rfl) | with_reducible exact zh_0 | with_reducible exact zh_1 | with_reducible exact zh_b | omega)) only [e_68, q_68_0, q_68_1, q_68_3, q_68_6, q_68_7, q_68_9, q_68_12, q_68_13, q_68_14, q_68_15, q_68_16, q_68_19, q_68_20, q_68_22, q_68_25, q_68_26, q_68_28, q_68_31, q_68_32, q_68_35, q_68_36, vf_s, vf_n, zk2_none, zk2_int, zk2_ref, zk2_null, zk2_long, zct_nil, zct_i, zct_l, zct_r, zct_n, Option.bind_some, Option.toList_some, Option.toList_none, List.cons_append, List.nil_append, zor_l, zor_r, if_true, if_false, ↓reduceIte, zi_lit, zi_of, zi_add, zi_mul, zi_sub, zi_nat, zi_leT, zi_leF, zi_ltT, zi_ltF, zi_eqT, zi_eqF, zif_0z, zif_bz, zi_01l, zi_01r, not_true_eq_false, not_false_eq_true, Nat.reduceAdd, Nat.reduceMul, Nat.reduceSub]
    rfl
theorem l_67 (hb : 1 ≤ b) (hb2 : b ≤ 2) (W : List Nat) : ∀ s mi, s.W = W → cRd mi s → (∀ a ∈ W, okA a) → W.length ≤ 48 → s.n + pnd W ≤ 60 → ∃ mi', zRun 67 0 [some (.ref 22), some (.int (zi b))] [] (SH Ls) mi mj (RF g) = some (none, SH Ls, mi', mj, RF g) ∧ cRd mi' (cpl b W s) ∧ FrA mi mi' := by
  induction W with
  | nil =>
    intro s mi hW h h1 h2 h3
    have h4 := h.2.2.1
    rw [hW] at h4
    have h4' : mi 22 2 = zi 0 := h4
    refine ⟨mi, ?_, ?_, FrA.rf⟩
    · rw [q_67_0r]
      simp (disch := (first | with_reducible exact is_22 | with_reducible exact zi_at is_22 (by omega) (by omega) | ((with_reducible refine zct_le ?_) <;> exact Nat.le_of_ble_eq_true rfl) | with_reducible exact zh_0 | with_reducible exact zh_1 | with_reducible exact zh_b | omega)) only [q_67_1, q_67_4, q_67_7r, q_67_7n, q_67_8, q_67_11r, q_67_11n, q_67_12, q_67_15, q_67_16, q_67_17, q_67_18, q_67_21, q_67_22, q_67_25r, q_67_25n, q_67_26r, q_67_26i, q_67_27, q_67_30, q_67_31, q_67_32, q_67_35r, q_67_35n, q_67_36, q_67_39r, q_67_39n, q_67_40, q_67_43r, q_67_43n, q_67_44, q_67_47, q_67_48, q_67_49, q_67_52, q_67_55, vf_s, vf_n, zk2_none, zk2_int, zk2_ref, zk2_null, zk2_long, zct_nil, zct_i, zct_l, zct_r, zct_n, Option.bind_some, Option.toList_some, Option.toList_none, List.cons_append, List.nil_append, zor_l, zor_r, if_true, if_false, ↓reduceIte, zi_lit, zi_of, zi_add, zi_mul, zi_sub, zi_nat, zi_leT, zi_leF, zi_ltT, zi_ltF, zi_eqT, zi_eqF, zif_0z, zif_bz, zi_01l, zi_01r, not_true_eq_false, not_false_eq_true, Nat.reduceAdd, Nat.reduceMul, Nat.reduceSub, h4']
    · have e : s = s.wt [] := by
        show s = Rd.mk s.p [] s.q s.n s.K s.V
        rw [← hW]; rfl
      rw [cpl, ← e]; exact h
  | cons a W ih =>
    intro s mi hW h h1 h2 h3
    have h4 := h.2.2.1
    have h5 := h.2.2.2.1
    rw [hW] at h4 h5
    have h4' : mi 22 2 = zi (W.length + 1) := h4
    have h5' : mi 26 W.length = zi a := h5.1
    rw [List.length_cons] at h2
    have m68 := m_68 (Ls := Ls) (g := g) (mi := mi) (mj := mj) (h1 a List.mem_cons_self)
    have hbd : bdg a ≤ 2 := by unfold bdg; split; omega; split <;> omega
    by_cases c : b ≤ bdg a
    · obtain ⟨o1, o2, o3, o4⟩ := opn_k (bdg_k (a := a) (by omega))
      have hpn : pnd (a :: W) = 1 + pnd W := by show (if a = 16 then 0 else 1) + pnd W = _; rw [if_neg o3]
      have w1 := cRd_wt h hW
      have m75 := m_75 (Ls := Ls) (g := g) (mj := mj) (k := a) w1 (by show s.n < 60; omega)
      obtain ⟨mi', r1, r2, r3⟩ := ih ((s.wt W).ap a) _ rfl (cRd_ap (k := a) w1) (fun a ha => h1 a (List.mem_cons_of_mem _ ha)) (by omega) (by show s.n + 1 + pnd W ≤ 60; omega)
      have e : cpl b (a :: W) s = cpl b W ((s.wt W).ap a) := by
        rw [cpl, if_pos c]
        exact (cpl_wt W (s.ap a) W).symm
      refine ⟨mi', ?_, by rw [e]; exact r2, FrA.tr (fun a ha => by simp (disch := omega) only [zg_s, zg_o, zg_j, zg_r, zg_ro, zg_d, yfl_o]) r3⟩
      rw [q_67_0r]
      simp (disch := (first | with_reducible exact is_22 | with_reducible exact zi_at is_22 (by omega) (by omega) | with_reducible exact is_23 | with_reducible exact zi_at is_23 (by omega) (by omega) | with_reducible exact is_26 | with_reducible exact zi_at is_26 (by omega) (by omega) | ((with_reducible refine zct_le ?_) <;> exact Nat.le_of_ble_eq_true rfl) | with_reducible exact zh_0 | with_reducible exact zh_1 | with_reducible exact zh_b | omega)) only [q_67_1, q_67_4, q_67_7r, q_67_7n, q_67_8, q_67_11r, q_67_11n, q_67_12, q_67_15, q_67_16, q_67_17, q_67_18, q_67_21, q_67_22, q_67_25r, q_67_25n, q_67_26r, q_67_26i, q_67_27, q_67_30, q_67_31, q_67_32, q_67_35r, q_67_35n, q_67_36, q_67_39r, q_67_39n, q_67_40, q_67_43r, q_67_43n, q_67_44, q_67_47, q_67_48, q_67_49, q_67_52, q_67_55, vf_s, vf_n, zk2_none, zk2_int, zk2_ref, zk2_null, zk2_long, zct_nil, zct_i, zct_l, zct_r, zct_n, Option.bind_some, Option.toList_some, Option.toList_none, List.cons_append, List.nil_append, zor_l, zor_r, if_true, if_false, ↓reduceIte, zi_lit, zi_of, zi_add, zi_mul, zi_sub, zi_nat, zi_leT, zi_leF, zi_ltT, zi_ltF, zi_eqT, zi_eqF, zif_0z, zif_bz, zi_01l, zi_01r, not_true_eq_false, not_false_eq_true, Nat.reduceAdd, Nat.reduceMul, Nat.reduceSub, zg_s, zg_o, zg_j, zg_r, zg_ro, zg_d, yfl_o, rf_22_0, rf_22_1, h4', h5', Nat.add_sub_cancel, m68, m75]
      exact r1
    · refine ⟨mi, ?_, ?_, FrA.rf⟩
      · rw [q_67_0r]
        simp (disch := (first | with_reducible exact is_22 | with_reducible exact zi_at is_22 (by omega) (by omega) | with_reducible exact is_23 | with_reducible exact zi_at is_23 (by omega) (by omega) | with_reducible exact is_26 | with_reducible exact zi_at is_26 (by omega) (by omega) | ((with_reducible refine zct_le ?_) <;> exact Nat.le_of_ble_eq_true rfl) | with_reducible exact zh_0 | with_reducible exact zh_1 | with_reducible exact zh_b | omega)) only [q_67_1, q_67_4, q_67_7r, q_67_7n, q_67_8, q_67_11r, q_67_11n, q_67_12, q_67_15, q_67_16, q_67_17, q_67_18, q_67_21, q_67_22, q_67_25r, q_67_25n, q_67_26r, q_67_26i, q_67_27, q_67_30, q_67_31, q_67_32, q_67_35r, q_67_35n, q_67_36, q_67_39r, q_67_39n, q_67_40, q_67_43r, q_67_43n, q_67_44, q_67_47, q_67_48, q_67_49, q_67_52, q_67_55, vf_s, vf_n, zk2_none, zk2_int, zk2_ref, zk2_null, zk2_long, zct_nil, zct_i, zct_l, zct_r, zct_n, Option.bind_some, Option.toList_some, Option.toList_none, List.cons_append, List.nil_append, zor_l, zor_r, if_true, if_false, ↓reduceIte, zi_lit, zi_of, zi_add, zi_mul, zi_sub, zi_nat, zi_leT, zi_leF, zi_ltT, zi_ltF, zi_eqT, zi_eqF, zif_0z, zif_bz, zi_01l, zi_01r, not_true_eq_false, not_false_eq_true, Nat.reduceAdd, Nat.reduceMul, Nat.reduceSub, zg_s, zg_o, zg_j, zg_r, zg_ro, zg_d, yfl_o, rf_22_0, rf_22_1, h4', h5', Nat.add_sub_cancel, m68]
      · have e : s = s.wt (a :: W) := by
          show s = Rd.mk s.p (a :: W) s.q s.n s.K s.V
          rw [← hW]; rfl
        rw [cpl, if_neg c, ← e]; exact h
theorem m_67 (hb : 1 ≤ b) (hb2 : b ≤ 2) (h : cRd mi s) (hW : ∀ a ∈ s.W, okA a) (hl : s.W.length ≤ 48) (hn : s.n + pnd s.W ≤ 60) : ∃ mi', zCall 67 [.ref 22, .int (zi b)] (SH Ls) mi mj (RF g) = some (none, SH Ls, mi', mj, RF g) ∧ cRd mi' (cpl b s.W s) ∧ FrA mi mi' := by
  obtain ⟨mi', r1, r2⟩ := l_67 (Ls := Ls) (g := g) (mj := mj) hb hb2 s.W s mi rfl h hW hl hn
  refine ⟨mi', ?_, r2⟩
  rw [e_67]
  exact r1
theorem m_66 (h : cRd mi s) (hl : s.W.length < 48) : ∃ mi', zCall 66 [.ref 22, .int (zi a), .int (zi p)] (SH Ls) mi mj (RF g) = some (some (.int (zi 1)), SH Ls, mi', mj, RF g) ∧ cRd mi' (s.ho a p) ∧ FrA mi mi' := by
  have h3 := h.2.2.1
  refine ⟨_, ?_, cRd_ho h, fun a ha => by simp (disch := omega) only [zg_s, zg_o, zg_j, zg_r, zg_ro, zg_d, yfl_o]⟩
  simp (disch := (first | with_reducible exact is_22 | with_reducible exact zi_at is_22 (by omega) (by omega) | with_reducible exact is_26 | with_reducible exact zi_at is_26 (by omega) (by omega) | ((with_reducible refine zct_le ?_) <;> exact Nat.le_of_ble_eq_true rfl) | with_reducible exact zh_0 | with_reducible exact zh_1 | with_reducible exact zh_b | omega)) only [e_66, q_66_0r, q_66_0n, q_66_1, q_66_4r, q_66_4n, q_66_5, q_66_8, q_66_9, q_66_12, q_66_13, q_66_14r, q_66_14n, q_66_15, q_66_18r, q_66_18n, q_66_19, q_66_22, q_66_23, q_66_24r, q_66_24n, q_66_25r, q_66_25i, q_66_26, q_66_29, q_66_30, q_66_31, q_66_34r, q_66_34n, q_66_35, q_66_36, q_66_39, q_66_40, vf_s, vf_n, zk2_none, zk2_int, zk2_ref, zk2_null, zk2_long, zct_nil, zct_i, zct_l, zct_r, zct_n, Option.bind_some, Option.toList_some, Option.toList_none, List.cons_append, List.nil_append, zor_l, zor_r, if_true, if_false, ↓reduceIte, zi_lit, zi_of, zi_add, zi_mul, zi_sub, zi_nat, zi_leT, zi_leF, zi_ltT, zi_ltF, zi_eqT, zi_eqF, zif_0z, zif_bz, zi_01l, zi_01r, not_true_eq_false, not_false_eq_true, Nat.reduceAdd, Nat.reduceMul, Nat.reduceSub, zg_s, zg_o, zg_j, zg_r, zg_ro, zg_d, yfl_o, rf_22_1, h3]
theorem m_63 (h : cRd mi s) : ∃ mi', zCall 63 [.ref 22, .int (zi a)] (SH Ls) mi mj (RF g) = some (some (.int (zi 1)), SH Ls, mi', mj, RF g) ∧ cRd mi' (s.op a) ∧ FrA mi mi' := by
  obtain ⟨h1, h2, h3, h4, h5, h6⟩ := h
  refine ⟨zup (zup mi 22 4 (zi a)) 22 3 (zi 2), ?_, ⟨by simp (disch := omega) only [zg_s, zg_o, zg_j, zg_r, zg_ro, zg_d, yfl_o]; exact h1, fun i hi => by simp (disch := omega) only [zg_s, zg_o, zg_j, zg_r, zg_ro, zg_d, yfl_o]; exact h2 i hi, by simp (disch := omega) only [zg_s, zg_o, zg_j, zg_r, zg_ro, zg_d, yfl_o]; exact h3, stkI.fr _ (fun j _ => by simp (disch := omega) only [zg_s, zg_o, zg_j, zg_r, zg_ro, zg_d, yfl_o]) h4, zg_s, by simp (disch := omega) only [zg_s, zg_o, zg_j, zg_r, zg_ro, zg_d, yfl_o]; rfl⟩, fun a ha => by simp (disch := omega) only [zg_s, zg_o, zg_j, zg_r, zg_ro, zg_d, yfl_o]⟩
  simp (disch := (first | with_reducible exact is_22 | with_reducible exact zi_at is_22 (by omega) (by omega) | ((with_reducible refine zct_le ?_) <;> exact Nat.le_of_ble_eq_true rfl) | with_reducible exact zh_0 | with_reducible exact zh_1 | with_reducible exact zh_b | omega)) only [e_63, q_63_0r, q_63_0n, q_63_1, q_63_2, q_63_5r, q_63_5n, q_63_6, q_63_7, q_63_10, q_63_11, vf_s, vf_n, zk2_none, zk2_int, zk2_ref, zk2_null, zk2_long, zct_nil, zct_i, zct_l, zct_r, zct_n, Option.bind_some, Option.toList_some, Option.toList_none, List.cons_append, List.nil_append, zor_l, zor_r, if_true, if_false, ↓reduceIte, zi_lit, zi_of, zi_add, zi_mul, zi_sub, zi_nat, zi_leT, zi_leF, zi_ltT, zi_ltF, zi_eqT, zi_eqF, zif_0z, zif_bz, zi_01l, zi_01r, not_true_eq_false, not_false_eq_true, Nat.reduceAdd, Nat.reduceMul, Nat.reduceSub]
end
