/-! ===== reading (7): the model lays the steps ===== -/
def cdM (a : Nat) : Int32 := if a = 16 then -zi 6 else if a = 12 then -zi 112 else if a = 13 then -zi 113 else if a = 14 ∨ a = 46 then -zi 114 else if a = 15 ∨ a = 47 then -zi 115 else zi a
def stM (a : Nat) : Nat := if a = 9 ∨ a = 11 then 3 else if a = 7 then 2 else if a = 5 ∨ a = 6 then 1 else 0
def lR (mi : zI) (e : Nat) (s : Rd) : Prop := mi 148 9 = zi e ∧ mi 149 (9 + e) = zi s.n ∧ (∀ k, k < s.n → mi 149 (13 + 60 * e + k) = zi (s.K k) ∧ mi 149 (253 + 60 * e + k) = zi (s.V k)) ∧ mi 148 8 = zi s.W.length ∧ stkI mi 154 cdM s.W
def FrL (e : Nat) (mi mi' : zI) : Prop := (∀ a, ¬ a = 148 → ¬ a = 149 → ¬ a = 154 → mi' a = mi a) ∧ (∀ j, ¬ j = 8 → mi' 148 j = mi 148 j) ∧ ∀ j, ¬ j = 9 + e → (j < 13 + 60 * e ∨ 73 + 60 * e ≤ j) → (j < 253 + 60 * e ∨ 313 + 60 * e ≤ j) → mi' 149 j = mi 149 j
theorem FrL.rf {e : Nat} {mi : zI} : FrL e mi mi := ⟨fun _ _ _ _ => rfl, fun _ _ => rfl, fun _ _ _ _ => rfl⟩
theorem FrL.tr {e : Nat} {mi mi1 mi2 : zI} (h : FrL e mi mi1) (h2 : FrL e mi1 mi2) : FrL e mi mi2 := ⟨fun a x y z => (h2.1 a x y z).trans (h.1 a x y z), fun j hj => (h2.2.1 j hj).trans (h.2.1 j hj), fun j x y z => (h2.2.2 j x y z).trans (h.2.2 j x y z)⟩
section
variable {Ls : Nat} {g : Nat → Nat} {mi mi' : zI} {mj : zJ} {s s' t sf : Rd} {a b c k n v x p j i q0 q e val : Nat} {W U : List Nat} {P : Nat → Nat}
theorem m_126 (he : e < 4) (h : lR mi e s) (hn : s.n < 60) (hW : s'.W = s.W) (h1 : s'.n = s.n + 1) (hK : ∀ i, i < s.n → s'.K i = s.K i ∧ s'.V i = s.V i) (hk : s'.K s.n = k) (hv : s'.V s.n = v) : ∃ mi', zCall 126 [.ref 148, .int (zi k), .int (zi v)] (SH Ls) mi mj (RF g) = some (none, SH Ls, mi', mj, RF g) ∧ lR mi' e s' ∧ FrL e mi mi' := by
  obtain ⟨h0, h2, h3, h4, h5⟩ := h
  refine ⟨zup (zup (zup mi 149 (13 + 60 * e + s.n) (zi k)) 149 (253 + 60 * e + s.n) (zi v)) 149 (9 + e) (zi (s.n + 1)), ?_, ⟨by simp (disch := omega) only [zg_s, zg_o, zg_j, zg_r, zg_ro, zg_d, yfl_o]; exact h0, by rw [h1]; exact zg_s, fun i hi => ?_, by rw [hW]; simp (disch := omega) only [zg_s, zg_o, zg_j, zg_r, zg_ro, zg_d, yfl_o]; exact h4, by rw [hW]; exact stkI.fr _ (fun j _ => by simp (disch := omega) only [zg_s, zg_o, zg_j, zg_r, zg_ro, zg_d, yfl_o]) h5⟩, fun a x y z => by rw [zup_ne y, zup_ne y, zup_ne y], fun j hj => by simp (disch := omega) only [zg_s, zg_o, zg_j, zg_r, zg_ro, zg_d, yfl_o], fun j x y z => by simp (disch := omega) only [zg_s, zg_o, zg_j, zg_r, zg_ro, zg_d, yfl_o]⟩
  · simp (disch := (first | with_reducible exact is_148 | with_reducible exact zi_at is_148 (by omega) (by omega) | with_reducible exact is_149 | with_reducible exact zi_at is_149 (by omega) (by omega) | ((with_reducible refine zct_le ?_) <;> exact Nat.le_of_ble_eq_true rfl) | with_reducible exact zh_0 | with_reducible exact zh_1 | with_reducible exact zh_b | omega)) only [e_126, q_126_0r, q_126_0n, q_126_1, q_126_4, q_126_6r, q_126_6n, q_126_7, q_126_10, q_126_11, q_126_12, q_126_13r, q_126_13n, q_126_14, q_126_17, q_126_19, q_126_21r, q_126_21n, q_126_22, q_126_25, q_126_26, q_126_27, q_126_28, q_126_29, q_126_30, q_126_31r, q_126_31n, q_126_32, q_126_35, q_126_38, q_126_40r, q_126_40n, q_126_41, q_126_44, q_126_45, q_126_46, q_126_47, q_126_48, q_126_49, q_126_50r, q_126_50n, q_126_51, q_126_54, q_126_56r, q_126_56n, q_126_57, q_126_60, q_126_61, q_126_62, q_126_63, q_126_64, q_126_65, q_126_66, vf_s, vf_n, zk2_none, zk2_int, zk2_ref, zk2_null, zk2_long, zct_nil, zct_i, zct_l, zct_r, zct_n, Option.bind_some, Option.toList_some, Option.toList_none, List.cons_append, List.nil_append, zor_l, zor_r, if_true, if_false, ↓reduceIte, zi_lit, zi_of, zi_add, zi_mul, zi_sub, zi_nat, zi_leT, zi_leF, zi_ltT, zi_ltF, zi_eqT, zi_eqF, zif_0z, zif_bz, zi_01l, zi_01r, not_true_eq_false, not_false_eq_true, Nat.reduceAdd, Nat.reduceMul, Nat.reduceSub, zg_s, zg_o, zg_j, zg_r, zg_ro, zg_d, yfl_o, rf_148_0, h0, h2]
  · rw [h1] at hi
    by_cases c : i = s.n
    · subst c
      rw [hk, hv]
      simp (disch := omega) only [zg_s, zg_o, zg_j, zg_r, zg_ro, zg_d, yfl_o, and_self]
    · obtain ⟨k1, k2⟩ := hK i (by omega)
      rw [k1, k2]
      simp (disch := omega) only [zg_s, zg_o, zg_j, zg_r, zg_ro, zg_d, yfl_o]
      exact h3 i (by omega)
theorem m_126a (he : e < 4) (h : lR mi e s) (hn : s.n < 60) : ∃ mi', zCall 126 [.ref 148, .int (zi k), .int (zi 0)] (SH Ls) mi mj (RF g) = some (none, SH Ls, mi', mj, RF g) ∧ lR mi' e (s.ap k) ∧ FrL e mi mi' := m_126 (s' := s.ap k) he h hn rfl rfl (fun i hi => ⟨if_neg (by omega), if_neg (by omega)⟩) (if_pos rfl) (if_pos rfl)
theorem m_127 (ha : okA a) : zCall 127 [.int (cdM a)] (SH Ls) mi mj (RF g) = some (some (.int (zi (stM a))), SH Ls, mi, mj, RF g) := by
  have k6 : ∀ b, b < 100 → (-zi 6 = zi b) = False := fun b hb => by rw [← Int32.toInt_inj, zi_toInt (by omega)]; exact eq_false (by have : (-zi 6).toInt = -6 := by decide
                                                                                                                                    omega)
  have k112 : ∀ b, b < 100 → (-zi 112 = zi b) = False := fun b hb => by rw [← Int32.toInt_inj, zi_toInt (by omega)]; exact eq_false (by have : (-zi 112).toInt = -112 := by decide
                                                                                                                                        omega)
  have k113 : ∀ b, b < 100 → (-zi 113 = zi b) = False := fun b hb => by rw [← Int32.toInt_inj, zi_toInt (by omega)]; exact eq_false (by have : (-zi 113).toInt = -113 := by decide
                                                                                                                                        omega)
  have k114 : ∀ b, b < 100 → (-zi 114 = zi b) = False := fun b hb => by rw [← Int32.toInt_inj, zi_toInt (by omega)]; exact eq_false (by have : (-zi 114).toInt = -114 := by decide
                                                                                                                                        omega)
  have k115 : ∀ b, b < 100 → (-zi 115 = zi b) = False := fun b hb => by rw [← Int32.toInt_inj, zi_toInt (by omega)]; exact eq_false (by have : (-zi 115).toInt = -115 := by decide
                                                                                                                                        omega)
  unfold okA at ha
  rcases ha with rfl | rfl | rfl | rfl | rfl | rfl | rfl | rfl | rfl | rfl | rfl | rfl
  · show zCall 127 [.int (zi 5)] _ _ _ _ = some (some (.int (zi 1)), _)
    simp (disch := (first | ((with_reducible refine zct_le ?_) <;> exact Nat.le_of_ble_eq_true rfl) | with_reducible exact zh_0 | with_reducible exact zh_1 | with_reducible exact zh_b | omega)) only [e_127, q_127_0, q_127_1, q_127_2, q_127_5, q_127_6, q_127_8, q_127_11, q_127_12, q_127_15, q_127_16, q_127_18, q_127_21, q_127_22, q_127_25, q_127_26, q_127_28, q_127_31, q_127_32, q_127_34, q_127_37, q_127_38, q_127_41, q_127_42, vf_s, vf_n, zk2_none, zk2_int, zk2_ref, zk2_null, zk2_long, zct_nil, zct_i, zct_l, zct_r, zct_n, Option.bind_some, Option.toList_some, Option.toList_none, List.cons_append, List.nil_append, zor_l, zor_r, if_true, if_false, ↓reduceIte, zi_lit, zi_of, zi_add, zi_mul, zi_sub, zi_nat, zi_leT, zi_leF, zi_ltT, zi_ltF, zi_eqT, zi_eqF, zif_0z, zif_bz, zi_01l, zi_01r, not_true_eq_false, not_false_eq_true, Nat.reduceAdd, Nat.reduceMul, Nat.reduceSub]
  · show zCall 127 [.int (zi 6)] _ _ _ _ = some (some (.int (zi 1)), _)
    simp (disch := (first | ((with_reducible refine zct_le ?_) <;> exact Nat.le_of_ble_eq_true rfl) | with_reducible exact zh_0 | with_reducible exact zh_1 | with_reducible exact zh_b | omega)) only [e_127, q_127_0, q_127_1, q_127_2, q_127_5, q_127_6, q_127_8, q_127_11, q_127_12, q_127_15, q_127_16, q_127_18, q_127_21, q_127_22, q_127_25, q_127_26, q_127_28, q_127_31, q_127_32, q_127_34, q_127_37, q_127_38, q_127_41, q_127_42, vf_s, vf_n, zk2_none, zk2_int, zk2_ref, zk2_null, zk2_long, zct_nil, zct_i, zct_l, zct_r, zct_n, Option.bind_some, Option.toList_some, Option.toList_none, List.cons_append, List.nil_append, zor_l, zor_r, if_true, if_false, ↓reduceIte, zi_lit, zi_of, zi_add, zi_mul, zi_sub, zi_nat, zi_leT, zi_leF, zi_ltT, zi_ltF, zi_eqT, zi_eqF, zif_0z, zif_bz, zi_01l, zi_01r, not_true_eq_false, not_false_eq_true, Nat.reduceAdd, Nat.reduceMul, Nat.reduceSub]
  · show zCall 127 [.int (zi 7)] _ _ _ _ = some (some (.int (zi 2)), _)
    simp (disch := (first | ((with_reducible refine zct_le ?_) <;> exact Nat.le_of_ble_eq_true rfl) | with_reducible exact zh_0 | with_reducible exact zh_1 | with_reducible exact zh_b | omega)) only [e_127, q_127_0, q_127_1, q_127_2, q_127_5, q_127_6, q_127_8, q_127_11, q_127_12, q_127_15, q_127_16, q_127_18, q_127_21, q_127_22, q_127_25, q_127_26, q_127_28, q_127_31, q_127_32, q_127_34, q_127_37, q_127_38, q_127_41, q_127_42, vf_s, vf_n, zk2_none, zk2_int, zk2_ref, zk2_null, zk2_long, zct_nil, zct_i, zct_l, zct_r, zct_n, Option.bind_some, Option.toList_some, Option.toList_none, List.cons_append, List.nil_append, zor_l, zor_r, if_true, if_false, ↓reduceIte, zi_lit, zi_of, zi_add, zi_mul, zi_sub, zi_nat, zi_leT, zi_leF, zi_ltT, zi_ltF, zi_eqT, zi_eqF, zif_0z, zif_bz, zi_01l, zi_01r, not_true_eq_false, not_false_eq_true, Nat.reduceAdd, Nat.reduceMul, Nat.reduceSub]
  · show zCall 127 [.int (zi 9)] _ _ _ _ = some (some (.int (zi 3)), _)
    simp (disch := (first | ((with_reducible refine zct_le ?_) <;> exact Nat.le_of_ble_eq_true rfl) | with_reducible exact zh_0 | with_reducible exact zh_1 | with_reducible exact zh_b | omega)) only [e_127, q_127_0, q_127_1, q_127_2, q_127_5, q_127_6, q_127_8, q_127_11, q_127_12, q_127_15, q_127_16, q_127_18, q_127_21, q_127_22, q_127_25, q_127_26, q_127_28, q_127_31, q_127_32, q_127_34, q_127_37, q_127_38, q_127_41, q_127_42, vf_s, vf_n, zk2_none, zk2_int, zk2_ref, zk2_null, zk2_long, zct_nil, zct_i, zct_l, zct_r, zct_n, Option.bind_some, Option.toList_some, Option.toList_none, List.cons_append, List.nil_append, zor_l, zor_r, if_true, if_false, ↓reduceIte, zi_lit, zi_of, zi_add, zi_mul, zi_sub, zi_nat, zi_leT, zi_leF, zi_ltT, zi_ltF, zi_eqT, zi_eqF, zif_0z, zif_bz, zi_01l, zi_01r, not_true_eq_false, not_false_eq_true, Nat.reduceAdd, Nat.reduceMul, Nat.reduceSub]
  · show zCall 127 [.int (zi 11)] _ _ _ _ = some (some (.int (zi 3)), _)
    simp (disch := (first | ((with_reducible refine zct_le ?_) <;> exact Nat.le_of_ble_eq_true rfl) | with_reducible exact zh_0 | with_reducible exact zh_1 | with_reducible exact zh_b | omega)) only [e_127, q_127_0, q_127_1, q_127_2, q_127_5, q_127_6, q_127_8, q_127_11, q_127_12, q_127_15, q_127_16, q_127_18, q_127_21, q_127_22, q_127_25, q_127_26, q_127_28, q_127_31, q_127_32, q_127_34, q_127_37, q_127_38, q_127_41, q_127_42, vf_s, vf_n, zk2_none, zk2_int, zk2_ref, zk2_null, zk2_long, zct_nil, zct_i, zct_l, zct_r, zct_n, Option.bind_some, Option.toList_some, Option.toList_none, List.cons_append, List.nil_append, zor_l, zor_r, if_true, if_false, ↓reduceIte, zi_lit, zi_of, zi_add, zi_mul, zi_sub, zi_nat, zi_leT, zi_leF, zi_ltT, zi_ltF, zi_eqT, zi_eqF, zif_0z, zif_bz, zi_01l, zi_01r, not_true_eq_false, not_false_eq_true, Nat.reduceAdd, Nat.reduceMul, Nat.reduceSub]
  · show zCall 127 [.int (-zi 112)] _ _ _ _ = some (some (.int (zi 0)), _)
    simp (disch := (first | ((with_reducible refine zct_le ?_) <;> exact Nat.le_of_ble_eq_true rfl) | with_reducible exact zh_0 | with_reducible exact zh_1 | with_reducible exact zh_b | omega)) only [e_127, q_127_0, q_127_1, q_127_2, q_127_5, q_127_6, q_127_8, q_127_11, q_127_12, q_127_15, q_127_16, q_127_18, q_127_21, q_127_22, q_127_25, q_127_26, q_127_28, q_127_31, q_127_32, q_127_34, q_127_37, q_127_38, q_127_41, q_127_42, vf_s, vf_n, zk2_none, zk2_int, zk2_ref, zk2_null, zk2_long, zct_nil, zct_i, zct_l, zct_r, zct_n, Option.bind_some, Option.toList_some, Option.toList_none, List.cons_append, List.nil_append, zor_l, zor_r, if_true, if_false, ↓reduceIte, zi_lit, zi_of, zi_add, zi_mul, zi_sub, zi_nat, zi_leT, zi_leF, zi_ltT, zi_ltF, zi_eqT, zi_eqF, zif_0z, zif_bz, zi_01l, zi_01r, not_true_eq_false, not_false_eq_true, Nat.reduceAdd, Nat.reduceMul, Nat.reduceSub, k112]
  · show zCall 127 [.int (-zi 113)] _ _ _ _ = some (some (.int (zi 0)), _)
    simp (disch := (first | ((with_reducible refine zct_le ?_) <;> exact Nat.le_of_ble_eq_true rfl) | with_reducible exact zh_0 | with_reducible exact zh_1 | with_reducible exact zh_b | omega)) only [e_127, q_127_0, q_127_1, q_127_2, q_127_5, q_127_6, q_127_8, q_127_11, q_127_12, q_127_15, q_127_16, q_127_18, q_127_21, q_127_22, q_127_25, q_127_26, q_127_28, q_127_31, q_127_32, q_127_34, q_127_37, q_127_38, q_127_41, q_127_42, vf_s, vf_n, zk2_none, zk2_int, zk2_ref, zk2_null, zk2_long, zct_nil, zct_i, zct_l, zct_r, zct_n, Option.bind_some, Option.toList_some, Option.toList_none, List.cons_append, List.nil_append, zor_l, zor_r, if_true, if_false, ↓reduceIte, zi_lit, zi_of, zi_add, zi_mul, zi_sub, zi_nat, zi_leT, zi_leF, zi_ltT, zi_ltF, zi_eqT, zi_eqF, zif_0z, zif_bz, zi_01l, zi_01r, not_true_eq_false, not_false_eq_true, Nat.reduceAdd, Nat.reduceMul, Nat.reduceSub, k113]
  · show zCall 127 [.int (-zi 114)] _ _ _ _ = some (some (.int (zi 0)), _)
    simp (disch := (first | ((with_reducible refine zct_le ?_) <;> exact Nat.le_of_ble_eq_true rfl) | with_reducible exact zh_0 | with_reducible exact zh_1 | with_reducible exact zh_b | omega)) only [e_127, q_127_0, q_127_1, q_127_2, q_127_5, q_127_6, q_127_8, q_127_11, q_127_12, q_127_15, q_127_16, q_127_18, q_127_21, q_127_22, q_127_25, q_127_26, q_127_28, q_127_31, q_127_32, q_127_34, q_127_37, q_127_38, q_127_41, q_127_42, vf_s, vf_n, zk2_none, zk2_int, zk2_ref, zk2_null, zk2_long, zct_nil, zct_i, zct_l, zct_r, zct_n, Option.bind_some, Option.toList_some, Option.toList_none, List.cons_append, List.nil_append, zor_l, zor_r, if_true, if_false, ↓reduceIte, zi_lit, zi_of, zi_add, zi_mul, zi_sub, zi_nat, zi_leT, zi_leF, zi_ltT, zi_ltF, zi_eqT, zi_eqF, zif_0z, zif_bz, zi_01l, zi_01r, not_true_eq_false, not_false_eq_true, Nat.reduceAdd, Nat.reduceMul, Nat.reduceSub, k114]
  · show zCall 127 [.int (-zi 115)] _ _ _ _ = some (some (.int (zi 0)), _)
    simp (disch := (first | ((with_reducible refine zct_le ?_) <;> exact Nat.le_of_ble_eq_true rfl) | with_reducible exact zh_0 | with_reducible exact zh_1 | with_reducible exact zh_b | omega)) only [e_127, q_127_0, q_127_1, q_127_2, q_127_5, q_127_6, q_127_8, q_127_11, q_127_12, q_127_15, q_127_16, q_127_18, q_127_21, q_127_22, q_127_25, q_127_26, q_127_28, q_127_31, q_127_32, q_127_34, q_127_37, q_127_38, q_127_41, q_127_42, vf_s, vf_n, zk2_none, zk2_int, zk2_ref, zk2_null, zk2_long, zct_nil, zct_i, zct_l, zct_r, zct_n, Option.bind_some, Option.toList_some, Option.toList_none, List.cons_append, List.nil_append, zor_l, zor_r, if_true, if_false, ↓reduceIte, zi_lit, zi_of, zi_add, zi_mul, zi_sub, zi_nat, zi_leT, zi_leF, zi_ltT, zi_ltF, zi_eqT, zi_eqF, zif_0z, zif_bz, zi_01l, zi_01r, not_true_eq_false, not_false_eq_true, Nat.reduceAdd, Nat.reduceMul, Nat.reduceSub, k115]
  · show zCall 127 [.int (-zi 6)] _ _ _ _ = some (some (.int (zi 0)), _)
    simp (disch := (first | ((with_reducible refine zct_le ?_) <;> exact Nat.le_of_ble_eq_true rfl) | with_reducible exact zh_0 | with_reducible exact zh_1 | with_reducible exact zh_b | omega)) only [e_127, q_127_0, q_127_1, q_127_2, q_127_5, q_127_6, q_127_8, q_127_11, q_127_12, q_127_15, q_127_16, q_127_18, q_127_21, q_127_22, q_127_25, q_127_26, q_127_28, q_127_31, q_127_32, q_127_34, q_127_37, q_127_38, q_127_41, q_127_42, vf_s, vf_n, zk2_none, zk2_int, zk2_ref, zk2_null, zk2_long, zct_nil, zct_i, zct_l, zct_r, zct_n, Option.bind_some, Option.toList_some, Option.toList_none, List.cons_append, List.nil_append, zor_l, zor_r, if_true, if_false, ↓reduceIte, zi_lit, zi_of, zi_add, zi_mul, zi_sub, zi_nat, zi_leT, zi_leF, zi_ltT, zi_ltF, zi_eqT, zi_eqF, zif_0z, zif_bz, zi_01l, zi_01r, not_true_eq_false, not_false_eq_true, Nat.reduceAdd, Nat.reduceMul, Nat.reduceSub, k6]
  · show zCall 127 [.int (-zi 114)] _ _ _ _ = some (some (.int (zi 0)), _)
    simp (disch := (first | ((with_reducible refine zct_le ?_) <;> exact Nat.le_of_ble_eq_true rfl) | with_reducible exact zh_0 | with_reducible exact zh_1 | with_reducible exact zh_b | omega)) only [e_127, q_127_0, q_127_1, q_127_2, q_127_5, q_127_6, q_127_8, q_127_11, q_127_12, q_127_15, q_127_16, q_127_18, q_127_21, q_127_22, q_127_25, q_127_26, q_127_28, q_127_31, q_127_32, q_127_34, q_127_37, q_127_38, q_127_41, q_127_42, vf_s, vf_n, zk2_none, zk2_int, zk2_ref, zk2_null, zk2_long, zct_nil, zct_i, zct_l, zct_r, zct_n, Option.bind_some, Option.toList_some, Option.toList_none, List.cons_append, List.nil_append, zor_l, zor_r, if_true, if_false, ↓reduceIte, zi_lit, zi_of, zi_add, zi_mul, zi_sub, zi_nat, zi_leT, zi_leF, zi_ltT, zi_ltF, zi_eqT, zi_eqF, zif_0z, zif_bz, zi_01l, zi_01r, not_true_eq_false, not_false_eq_true, Nat.reduceAdd, Nat.reduceMul, Nat.reduceSub, k114]
  · show zCall 127 [.int (-zi 115)] _ _ _ _ = some (some (.int (zi 0)), _)
    simp (disch := (first | ((with_reducible refine zct_le ?_) <;> exact Nat.le_of_ble_eq_true rfl) | with_reducible exact zh_0 | with_reducible exact zh_1 | with_reducible exact zh_b | omega)) only [e_127, q_127_0, q_127_1, q_127_2, q_127_5, q_127_6, q_127_8, q_127_11, q_127_12, q_127_15, q_127_16, q_127_18, q_127_21, q_127_22, q_127_25, q_127_26, q_127_28, q_127_31, q_127_32, q_127_34, q_127_37, q_127_38, q_127_41, q_127_42, vf_s, vf_n, zk2_none, zk2_int, zk2_ref, zk2_null, zk2_long, zct_nil, zct_i, zct_l, zct_r, zct_n, Option.bind_some, Option.toList_some, Option.toList_none, List.cons_append, List.nil_append, zor_l, zor_r, if_true, if_false, ↓reduceIte, zi_lit, zi_of, zi_add, zi_mul, zi_sub, zi_nat, zi_leT, zi_leF, zi_ltT, zi_ltF, zi_eqT, zi_eqF, zif_0z, zif_bz, zi_01l, zi_01r, not_true_eq_false, not_false_eq_true, Nat.reduceAdd, Nat.reduceMul, Nat.reduceSub, k115]
theorem stM_b (hb : (b = 1 ∧ k = 1) ∨ (b = 2 ∧ k = 3)) (ha : okA a) : (b ≤ bdg a ↔ k ≤ stM a) ∧ stM a ≤ 3 := by
  unfold okA at ha
  rcases hb with ⟨rfl, rfl⟩ | ⟨rfl, rfl⟩ <;> rcases ha with rfl | rfl | rfl | rfl | rfl | rfl | rfl | rfl | rfl | rfl | rfl | rfl <;> decide
theorem cdM_op (h : a = 5 ∨ a = 6 ∨ a = 7 ∨ a = 9 ∨ a = 11) : cdM a = zi a := by
  rcases h with rfl | rfl | rfl | rfl | rfl <;> rfl
theorem lR_wt (h : lR mi e s) (hW : s.W = a :: W) : lR (zup mi 148 8 (zi W.length)) e (s.wt W) := by
  obtain ⟨h0, h2, h3, h4, h5⟩ := h
  rw [hW] at h5
  exact ⟨by simp (disch := omega) only [zg_s, zg_o, zg_j, zg_r, zg_ro, zg_d, yfl_o]; exact h0, by simp (disch := omega) only [zg_s, zg_o, zg_j, zg_r, zg_ro, zg_d, yfl_o]; exact h2, fun i hi => by simp (disch := omega) only [zg_s, zg_o, zg_j, zg_r, zg_ro, zg_d, yfl_o]; exact h3 i hi, zg_s, stkI.fr _ (fun j _ => by simp (disch := omega) only [zg_s, zg_o, zg_j, zg_r, zg_ro, zg_d, yfl_o]) h5.2⟩
theorem FrL_8 {z : Int32} : FrL e mi (zup mi 148 8 z) := ⟨fun a x _ _ => zup_ne x, fun j hj => zg_j (by omega), fun j _ _ _ => by rw [zup_ne (by omega)]⟩
theorem l_128 (he : e < 4) (hb : (b = 1 ∧ k = 1) ∨ (b = 2 ∧ k = 3)) (W : List Nat) : ∀ s mi, s.W = W → lR mi e s → (∀ a ∈ W, okA a) → W.length ≤ 48 → s.n + pnd W ≤ 60 → ∃ mi', zRun 128 0 [some (.ref 148), some (.int (zi k))] [] (SH Ls) mi mj (RF g) = some (none, SH Ls, mi', mj, RF g) ∧ lR mi' e (cpl b W s) ∧ FrL e mi mi' := by
  have hb1 : 1 ≤ b ∧ b ≤ 2 ∧ k ≤ 3 ∧ 1 ≤ k := by omega
  induction W with
  | nil =>
    intro s mi hW h h1 h2 h3
    have h4 := h.2.2.2.1
    rw [hW] at h4
    have h4' : mi 148 8 = zi 0 := h4
    refine ⟨mi, ?_, ?_, FrL.rf⟩
    · rw [q_128_0r]
      simp (disch := (first | with_reducible exact is_148 | with_reducible exact zi_at is_148 (by omega) (by omega) | ((with_reducible refine zct_le ?_) <;> exact Nat.le_of_ble_eq_true rfl) | with_reducible exact zh_0 | with_reducible exact zh_1 | with_reducible exact zh_b | omega)) only [q_128_1, q_128_4, q_128_7r, q_128_7n, q_128_8, q_128_11r, q_128_11n, q_128_12, q_128_15, q_128_16, q_128_17, q_128_18, q_128_21, q_128_22, q_128_25r, q_128_25n, q_128_26r, q_128_26i, q_128_27, q_128_30, q_128_31, q_128_32, q_128_35r, q_128_35n, q_128_36r, q_128_36n, q_128_37, q_128_40r, q_128_40n, q_128_41, q_128_44, q_128_45, q_128_46, q_128_49, q_128_52, vf_s, vf_n, zk2_none, zk2_int, zk2_ref, zk2_null, zk2_long, zct_nil, zct_i, zct_l, zct_r, zct_n, Option.bind_some, Option.toList_some, Option.toList_none, List.cons_append, List.nil_append, zor_l, zor_r, if_true, if_false, ↓reduceIte, zi_lit, zi_of, zi_add, zi_mul, zi_sub, zi_nat, zi_leT, zi_leF, zi_ltT, zi_ltF, zi_eqT, zi_eqF, zif_0z, zif_bz, zi_01l, zi_01r, not_true_eq_false, not_false_eq_true, Nat.reduceAdd, Nat.reduceMul, Nat.reduceSub, h4']
    · have e : s = s.wt [] := by
        show s = Rd.mk s.p [] s.q s.n s.K s.V
        rw [← hW]; rfl
      rw [cpl, ← e]; exact h
  | cons a W ih =>
    intro s mi hW h h1 h2 h3
    have h4 := h.2.2.2.1
    have h5 := h.2.2.2.2
    rw [hW] at h4 h5
    have h4' : mi 148 8 = zi (W.length + 1) := h4
    have h5' : mi 154 W.length = cdM a := h5.1
    rw [List.length_cons] at h2
    have ha := h1 a List.mem_cons_self
    have m127 := m_127 (Ls := Ls) (g := g) (mi := mi) (mj := mj) ha
    obtain ⟨st1, st2⟩ := stM_b hb ha
    by_cases c : b ≤ bdg a
    · have ka := bdg_k (a := a) (by omega)
      obtain ⟨o1, o2, o3, o4⟩ := opn_k ka
      have hpn : pnd (a :: W) = 1 + pnd W := by show (if a = 16 then 0 else 1) + pnd W = _; rw [if_neg o3]
      have w1 := lR_wt h hW
      obtain ⟨mi2, t1, t2, t3⟩ := m_126a (Ls := Ls) (g := g) (mj := mj) (k := a) he w1 (by show s.n < 60; omega)
      obtain ⟨mi', r1, r2, r3⟩ := ih ((s.wt W).ap a) mi2 rfl t2 (fun a ha => h1 a (List.mem_cons_of_mem _ ha)) (by omega) (by show s.n + 1 + pnd W ≤ 60; omega)
      have e : cpl b (a :: W) s = cpl b W ((s.wt W).ap a) := by
        rw [cpl, if_pos c]
        exact (cpl_wt W (s.ap a) W).symm
      have c2 := st1.mp c
      have e5 := cdM_op ka
      refine ⟨mi', ?_, by rw [e]; exact r2, FrL_8.tr (t3.tr r3)⟩
      rw [q_128_0r]
      simp (disch := (first | with_reducible exact is_148 | with_reducible exact zi_at is_148 (by omega) (by omega) | with_reducible exact is_154 | with_reducible exact zi_at is_154 (by omega) (by omega) | ((with_reducible refine zct_le ?_) <;> exact Nat.le_of_ble_eq_true rfl) | with_reducible exact zh_0 | with_reducible exact zh_1 | with_reducible exact zh_b | omega)) only [q_128_1, q_128_4, q_128_7r, q_128_7n, q_128_8, q_128_11r, q_128_11n, q_128_12, q_128_15, q_128_16, q_128_17, q_128_18, q_128_21, q_128_22, q_128_25r, q_128_25n, q_128_26r, q_128_26i, q_128_27, q_128_30, q_128_31, q_128_32, q_128_35r, q_128_35n, q_128_36r, q_128_36n, q_128_37, q_128_40r, q_128_40n, q_128_41, q_128_44, q_128_45, q_128_46, q_128_49, q_128_52, vf_s, vf_n, zk2_none, zk2_int, zk2_ref, zk2_null, zk2_long, zct_nil, zct_i, zct_l, zct_r, zct_n, Option.bind_some, Option.toList_some, Option.toList_none, List.cons_append, List.nil_append, zor_l, zor_r, if_true, if_false, ↓reduceIte, zi_lit, zi_of, zi_add, zi_mul, zi_sub, zi_nat, zi_leT, zi_leF, zi_ltT, zi_ltF, zi_eqT, zi_eqF, zif_0z, zif_bz, zi_01l, zi_01r, not_true_eq_false, not_false_eq_true, Nat.reduceAdd, Nat.reduceMul, Nat.reduceSub, zg_s, zg_o, zg_j, zg_r, zg_ro, zg_d, yfl_o, rf_148_7, h4', h5', Nat.add_sub_cancel, m127]
      rw [e5, t1]
      simp only [vf_s, vf_n, zk2_none, zk2_int, zk2_ref, zk2_null, zk2_long, zct_nil, zct_i, zct_l, zct_r, zct_n, Option.bind_some, Option.toList_some, Option.toList_none, List.cons_append, List.nil_append, zor_l, zor_r, if_true, if_false, ↓reduceIte, q_128_49]
      exact r1
    · have c2 : ¬ k ≤ stM a := fun q => c (st1.mpr q)
      refine ⟨mi, ?_, ?_, FrL.rf⟩
      · rw [q_128_0r]
        simp (disch := (first | with_reducible exact is_148 | with_reducible exact zi_at is_148 (by omega) (by omega) | with_reducible exact is_154 | with_reducible exact zi_at is_154 (by omega) (by omega) | ((with_reducible refine zct_le ?_) <;> exact Nat.le_of_ble_eq_true rfl) | with_reducible exact zh_0 | with_reducible exact zh_1 | with_reducible exact zh_b | omega)) only [q_128_1, q_128_4, q_128_7r, q_128_7n, q_128_8, q_128_11r, q_128_11n, q_128_12, q_128_15, q_128_16, q_128_17, q_128_18, q_128_21, q_128_22, q_128_25r, q_128_25n, q_128_26r, q_128_26i, q_128_27, q_128_30, q_128_31, q_128_32, q_128_35r, q_128_35n, q_128_36r, q_128_36n, q_128_37, q_128_40r, q_128_40n, q_128_41, q_128_44, q_128_45, q_128_46, q_128_49, q_128_52, vf_s, vf_n, zk2_none, zk2_int, zk2_ref, zk2_null, zk2_long, zct_nil, zct_i, zct_l, zct_r, zct_n, Option.bind_some, Option.toList_some, Option.toList_none, List.cons_append, List.nil_append, zor_l, zor_r, if_true, if_false, ↓reduceIte, zi_lit, zi_of, zi_add, zi_mul, zi_sub, zi_nat, zi_leT, zi_leF, zi_ltT, zi_ltF, zi_eqT, zi_eqF, zif_0z, zif_bz, zi_01l, zi_01r, not_true_eq_false, not_false_eq_true, Nat.reduceAdd, Nat.reduceMul, Nat.reduceSub, zg_s, zg_o, zg_j, zg_r, zg_ro, zg_d, yfl_o, rf_148_7, h4', h5', Nat.add_sub_cancel, m127]
      · have e : s = s.wt (a :: W) := by
          show s = Rd.mk s.p (a :: W) s.q s.n s.K s.V
          rw [← hW]; rfl
        rw [cpl, if_neg c, ← e]; exact h
theorem m_128 (he : e < 4) (hb : (b = 1 ∧ k = 1) ∨ (b = 2 ∧ k = 3)) (h : lR mi e s) (hW : ∀ a ∈ s.W, okA a) (hl : s.W.length ≤ 48) (hn : s.n + pnd s.W ≤ 60) : ∃ mi', zCall 128 [.ref 148, .int (zi k)] (SH Ls) mi mj (RF g) = some (none, SH Ls, mi', mj, RF g) ∧ lR mi' e (cpl b s.W s) ∧ FrL e mi mi' := by
  obtain ⟨mi', r1, r2⟩ := l_128 (Ls := Ls) (g := g) (mj := mj) he hb s.W s mi rfl h hW hl hn
  refine ⟨mi', ?_, r2⟩
  rw [e_128]
  exact r1
theorem m_129 (h : lR mi e s) (hl : s.W.length < 48) : ∃ mi', zCall 129 [.ref 148, .int (cdM a)] (SH Ls) mi mj (RF g) = some (none, SH Ls, mi', mj, RF g) ∧ lR mi' e (s.ho a p) ∧ FrL e mi mi' := by
  obtain ⟨h0, h2, h3, h4, h5⟩ := h
  refine ⟨zup (zup mi 154 s.W.length (cdM a)) 148 8 (zi (s.W.length + 1)), ?_, ⟨by simp (disch := omega) only [zg_s, zg_o, zg_j, zg_r, zg_ro, zg_d, yfl_o]; exact h0, by simp (disch := omega) only [zg_s, zg_o, zg_j, zg_r, zg_ro, zg_d, yfl_o]; exact h2, fun i hi => by simp (disch := omega) only [zg_s, zg_o, zg_j, zg_r, zg_ro, zg_d, yfl_o]; exact h3 i hi, zg_s, ⟨by simp (disch := omega) only [zg_s, zg_o, zg_j, zg_r, zg_ro, zg_d, yfl_o], stkI.fr _ (fun j _ => by simp (disch := omega) only [zg_s, zg_o, zg_j, zg_r, zg_ro, zg_d, yfl_o]) h5⟩⟩, fun a x y z => by rw [zup_ne x, zup_ne z], fun j hj => by simp (disch := omega) only [zg_s, zg_o, zg_j, zg_r, zg_ro, zg_d, yfl_o], fun j x y z => by simp (disch := omega) only [zg_s, zg_o, zg_j, zg_r, zg_ro, zg_d, yfl_o]⟩
  simp (disch := (first | with_reducible exact is_148 | with_reducible exact zi_at is_148 (by omega) (by omega) | with_reducible exact is_154 | with_reducible exact zi_at is_154 (by omega) (by omega) | ((with_reducible refine zct_le ?_) <;> exact Nat.le_of_ble_eq_true rfl) | with_reducible exact zh_0 | with_reducible exact zh_1 | with_reducible exact zh_b | omega)) only [e_129, q_129_0r, q_129_0n, q_129_1, q_129_4r, q_129_4n, q_129_5, q_129_8, q_129_9, q_129_10r, q_129_10n, q_129_11r, q_129_11i, q_129_12, q_129_15, q_129_16, q_129_17, q_129_20, vf_s, vf_n, zk2_none, zk2_int, zk2_ref, zk2_null, zk2_long, zct_nil, zct_i, zct_l, zct_r, zct_n, Option.bind_some, Option.toList_some, Option.toList_none, List.cons_append, List.nil_append, zor_l, zor_r, if_true, if_false, ↓reduceIte, zi_lit, zi_of, zi_add, zi_mul, zi_sub, zi_nat, zi_leT, zi_leF, zi_ltT, zi_ltF, zi_eqT, zi_eqF, zif_0z, zif_bz, zi_01l, zi_01r, not_true_eq_false, not_false_eq_true, Nat.reduceAdd, Nat.reduceMul, Nat.reduceSub, zg_s, zg_o, zg_j, zg_r, zg_ro, zg_d, yfl_o, rf_148_7, h4]
theorem lR_st (h : lR mi e s) : lR mi e (s.st p) := h
theorem m_130 (he : e < 4) (h : lR mi e s) (hn : s.n + 3 ≤ 60) (ht : tkP s x = some s') : ∃ mi', zCall 130 [.ref 148, .int (zi x)] (SH Ls) mi mj (RF g) = some (none, SH Ls, mi', mj, RF g) ∧ lR mi' e s' ∧ FrL e mi mi' := by
  unfold tkP at ht
  split at ht
  · rename_i c
    obtain rfl := Option.some.inj ht
    subst c
    obtain ⟨mi1, r1, r2, r3⟩ := m_126a (Ls := Ls) (g := g) (mj := mj) (k := 10) he h (by omega)
    refine ⟨mi1, ?_, r2, r3⟩
    simp (disch := (first | with_reducible exact is_148 | with_reducible exact zi_at is_148 (by omega) (by omega) | ((with_reducible refine zct_le ?_) <;> exact Nat.le_of_ble_eq_true rfl) | with_reducible exact zh_0 | with_reducible exact zh_1 | with_reducible exact zh_b | omega)) only [e_130, q_130_0, q_130_1, q_130_3, q_130_6r, q_130_6n, q_130_7, q_130_9, q_130_10, q_130_13r, q_130_13n, q_130_14, q_130_16, q_130_17, q_130_20, q_130_21, q_130_23, q_130_26r, q_130_26n, q_130_27, q_130_29, q_130_30, q_130_33, q_130_36, q_130_37, q_130_39, q_130_42r, q_130_42n, q_130_43, q_130_45, q_130_46, q_130_49, vf_s, vf_n, zk2_none, zk2_int, zk2_ref, zk2_null, zk2_long, zct_nil, zct_i, zct_l, zct_r, zct_n, Option.bind_some, Option.toList_some, Option.toList_none, List.cons_append, List.nil_append, zor_l, zor_r, if_true, if_false, ↓reduceIte, zi_lit, zi_of, zi_add, zi_mul, zi_sub, zi_nat, zi_leT, zi_leF, zi_ltT, zi_ltF, zi_eqT, zi_eqF, zif_0z, zif_bz, zi_01l, zi_01r, not_true_eq_false, not_false_eq_true, Nat.reduceAdd, Nat.reduceMul, Nat.reduceSub, r1]
  · split at ht
    · rename_i c
      obtain rfl := Option.some.inj ht
      subst c
      obtain ⟨mi1, r1, r2, r3⟩ := m_126a (Ls := Ls) (g := g) (mj := mj) (k := 8) he h (by omega)
      obtain ⟨mi2, t1, t2, t3⟩ := m_126a (Ls := Ls) (g := g) (mj := mj) (k := 10) he r2 (by show s.n + 1 < 60; omega)
      obtain ⟨mi3, u1, u2, u3⟩ := m_126a (Ls := Ls) (g := g) (mj := mj) (k := 9) he t2 (by show s.n + 1 + 1 < 60; omega)
      refine ⟨mi3, ?_, u2, r3.tr (t3.tr u3)⟩
      simp (disch := (first | with_reducible exact is_148 | with_reducible exact zi_at is_148 (by omega) (by omega) | ((with_reducible refine zct_le ?_) <;> exact Nat.le_of_ble_eq_true rfl) | with_reducible exact zh_0 | with_reducible exact zh_1 | with_reducible exact zh_b | omega)) only [e_130, q_130_0, q_130_1, q_130_3, q_130_6r, q_130_6n, q_130_7, q_130_9, q_130_10, q_130_13r, q_130_13n, q_130_14, q_130_16, q_130_17, q_130_20, q_130_21, q_130_23, q_130_26r, q_130_26n, q_130_27, q_130_29, q_130_30, q_130_33, q_130_36, q_130_37, q_130_39, q_130_42r, q_130_42n, q_130_43, q_130_45, q_130_46, q_130_49, vf_s, vf_n, zk2_none, zk2_int, zk2_ref, zk2_null, zk2_long, zct_nil, zct_i, zct_l, zct_r, zct_n, Option.bind_some, Option.toList_some, Option.toList_none, List.cons_append, List.nil_append, zor_l, zor_r, if_true, if_false, ↓reduceIte, zi_lit, zi_of, zi_add, zi_mul, zi_sub, zi_nat, zi_leT, zi_leF, zi_ltT, zi_ltF, zi_eqT, zi_eqF, zif_0z, zif_bz, zi_01l, zi_01r, not_true_eq_false, not_false_eq_true, Nat.reduceAdd, Nat.reduceMul, Nat.reduceSub, r1, t1, u1]
    · split at ht
      · rename_i c
        obtain rfl := Option.some.inj ht
        subst c
        obtain ⟨mi1, r1, r2, r3⟩ := m_126a (Ls := Ls) (g := g) (mj := mj) (k := 10) he h (by omega)
        obtain ⟨mi2, t1, t2, t3⟩ := m_126a (Ls := Ls) (g := g) (mj := mj) (k := 10) he r2 (by show s.n + 1 < 60; omega)
        refine ⟨mi2, ?_, t2, r3.tr t3⟩
        simp (disch := (first | with_reducible exact is_148 | with_reducible exact zi_at is_148 (by omega) (by omega) | ((with_reducible refine zct_le ?_) <;> exact Nat.le_of_ble_eq_true rfl) | with_reducible exact zh_0 | with_reducible exact zh_1 | with_reducible exact zh_b | omega)) only [e_130, q_130_0, q_130_1, q_130_3, q_130_6r, q_130_6n, q_130_7, q_130_9, q_130_10, q_130_13r, q_130_13n, q_130_14, q_130_16, q_130_17, q_130_20, q_130_21, q_130_23, q_130_26r, q_130_26n, q_130_27, q_130_29, q_130_30, q_130_33, q_130_36, q_130_37, q_130_39, q_130_42r, q_130_42n, q_130_43, q_130_45, q_130_46, q_130_49, vf_s, vf_n, zk2_none, zk2_int, zk2_ref, zk2_null, zk2_long, zct_nil, zct_i, zct_l, zct_r, zct_n, Option.bind_some, Option.toList_some, Option.toList_none, List.cons_append, List.nil_append, zor_l, zor_r, if_true, if_false, ↓reduceIte, zi_lit, zi_of, zi_add, zi_mul, zi_sub, zi_nat, zi_leT, zi_leF, zi_ltT, zi_ltF, zi_eqT, zi_eqF, zif_0z, zif_bz, zi_01l, zi_01r, not_true_eq_false, not_false_eq_true, Nat.reduceAdd, Nat.reduceMul, Nat.reduceSub, r1, t1]
      · exact absurd ht (fun h => by cases h)
theorem rdS_s (n : Nat) : ∀ sf, rdS q0 P n = some sf → ∀ j, j ≤ n → ∃ s, rdS q0 P j = some s := by
  induction n with
  | zero =>
    intro sf h j hj
    obtain rfl : j = 0 := by omega
    exact ⟨sf, h⟩
  | succ n ih =>
    intro sf h j hj
    by_cases c : j = n + 1
    · subst c; exact ⟨sf, h⟩
    · rw [rdS] at h
      cases hr : rdS q0 P n with
      | none => rw [hr] at h; exact absurd h (fun h => by cases h)
      | some t => exact ih t hr j (by omega)
theorem rdS_t (h : rdS q0 P n = some sf) (hs : rdS q0 P i = some s) (hi : i < n) : ∃ s1, tk s (P i) = some s1 ∧ rdS q0 P (i + 1) = some s1 := by
  obtain ⟨s1, h1⟩ := rdS_s n sf h (i + 1) (by omega)
  refine ⟨s1, ?_, h1⟩
  rw [rdS, hs] at h1
  exact h1
end
