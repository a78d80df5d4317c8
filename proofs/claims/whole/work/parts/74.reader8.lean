/-! ===== reading (8): a number ===== -/
section
variable {Ls : Nat} {g : Nat → Nat} {mi mi' : zI} {mj : zJ} {s s' t sf : Rd} {a b c k n v x p j i q0 q e val : Nat} {W U : List Nat} {P : Nat → Nat}
/-- one more step, a number -/
def nbR (s t : Rd) (v : Nat) : Prop := t.W = s.W ∧ t.n = s.n + 1 ∧ (∀ i, i < s.n → t.K i = s.K i ∧ t.V i = s.V i) ∧ t.K s.n = 0 ∧ t.V s.n = v
theorem nbR_sv (h : nbR s t v) {v' : Nat} : nbR s (t.sv v' p) v' := by
  obtain ⟨h1, h2, h3, h4, h5⟩ := h
  refine ⟨h1, h2, fun i hi => ⟨(h3 i hi).1, ?_⟩, h4, ?_⟩
  · show (if i = t.n - 1 then v' else t.V i) = s.V i
    rw [if_neg (by omega)]; exact (h3 i hi).2
  · show (if s.n = t.n - 1 then v' else t.V s.n) = v'
    rw [if_pos (by omega)]
theorem nbR_l (h : nbR s t v) : t.V (t.n - 1) = v := by
  obtain ⟨h1, h2, h3, h4, h5⟩ := h
  rw [h2, Nat.add_sub_cancel]; exact h5
theorem l_132a (hn : n ≤ 48) (hm : mi 148 4 = zi n) (hP : ∀ k, k < n → mi 152 k = zi (P k) ∧ P k < 65536) (hsf : rdS q0 P n = some sf) (m : Nat) : ∀ j t val, n ≤ j + m → j ≤ n → rdS q0 P j = some t → t.p = 3 → nbR s t (100 * val) → val ≤ 999 → ∀ (l1 : Int32) l4, ∃ j' t' val', zRun 132 4 [some (.ref 148), some (.int l1), some (.int (zi j)), some (.int (zi val)), l4] [] (SH Ls) mi mj (RF g) = zRun 132 45 [some (.ref 148), some (.int l1), some (.int (zi j')), some (.int (zi val')), l4] [] (SH Ls) mi mj (RF g) ∧ j ≤ j' ∧ j' ≤ n ∧ rdS q0 P j' = some t' ∧ t'.p = 3 ∧ nbR s t' (100 * val') ∧ val' ≤ 999 ∧ (j' < n → ¬ (48 ≤ P j' ∧ P j' ≤ 57)) := by
  induction m with
  | zero =>
    intro j t val h1 h2 h3 h4 h5 h6 l1 l4
    obtain rfl : j = n := by omega
    refine ⟨j, t, val, ?_, Nat.le_refl _, Nat.le_refl _, h3, h4, h5, h6, fun h => by omega⟩
    rw [q_132_4]
    simp (disch := (first | with_reducible exact is_148 | with_reducible exact zi_at is_148 (by omega) (by omega) | ((with_reducible refine zct_le ?_) <;> exact Nat.le_of_ble_eq_true rfl) | with_reducible exact zh_0 | with_reducible exact zh_1 | with_reducible exact zh_b | omega)) only [q_132_5r, q_132_5n, q_132_6, q_132_9, q_132_12r, q_132_12n, q_132_13, q_132_16, q_132_17, q_132_18, q_132_21, q_132_24, q_132_26, q_132_27, q_132_28r, q_132_28n, q_132_29, q_132_32, q_132_33, q_132_34, q_132_35, q_132_37, q_132_38, q_132_39, q_132_42, vf_s, vf_n, zk2_none, zk2_int, zk2_ref, zk2_null, zk2_long, zct_nil, zct_i, zct_l, zct_r, zct_n, Option.bind_some, Option.toList_some, Option.toList_none, List.cons_append, List.nil_append, zor_l, zor_r, if_true, if_false, ↓reduceIte, zi_lit, zi_of, zi_add, zi_mul, zi_sub, zi_nat, zi_leT, zi_leF, zi_ltT, zi_ltF, zi_eqT, zi_eqF, zif_0z, zif_bz, zi_01l, zi_01r, not_true_eq_false, not_false_eq_true, Nat.reduceAdd, Nat.reduceMul, Nat.reduceSub, hm]
  | succ m ih =>
    intro j t val h1 h2 h3 h4 h5 h6 l1 l4
    by_cases c : j = n
    · subst c
      refine ⟨j, t, val, ?_, Nat.le_refl _, Nat.le_refl _, h3, h4, h5, h6, fun h => by omega⟩
      rw [q_132_4]
      simp (disch := (first | with_reducible exact is_148 | with_reducible exact zi_at is_148 (by omega) (by omega) | ((with_reducible refine zct_le ?_) <;> exact Nat.le_of_ble_eq_true rfl) | with_reducible exact zh_0 | with_reducible exact zh_1 | with_reducible exact zh_b | omega)) only [q_132_5r, q_132_5n, q_132_6, q_132_9, q_132_12r, q_132_12n, q_132_13, q_132_16, q_132_17, q_132_18, q_132_21, q_132_24, q_132_26, q_132_27, q_132_28r, q_132_28n, q_132_29, q_132_32, q_132_33, q_132_34, q_132_35, q_132_37, q_132_38, q_132_39, q_132_42, vf_s, vf_n, zk2_none, zk2_int, zk2_ref, zk2_null, zk2_long, zct_nil, zct_i, zct_l, zct_r, zct_n, Option.bind_some, Option.toList_some, Option.toList_none, List.cons_append, List.nil_append, zor_l, zor_r, if_true, if_false, ↓reduceIte, zi_lit, zi_of, zi_add, zi_mul, zi_sub, zi_nat, zi_leT, zi_leF, zi_ltT, zi_ltF, zi_eqT, zi_eqF, zif_0z, zif_bz, zi_01l, zi_01r, not_true_eq_false, not_false_eq_true, Nat.reduceAdd, Nat.reduceMul, Nat.reduceSub, hm]
    · obtain ⟨p1, p2⟩ := hP j (by omega)
      by_cases d : 48 ≤ P j ∧ P j ≤ 57
      · obtain ⟨t1, k1, k2⟩ := rdS_t hsf h3 (show j < n by omega)
        have e0 := nbR_l h5
        have e1 : tk t (P j) = tkW t (P j) := by
          unfold tk
          rw [if_neg (by omega), if_neg (by omega), if_neg (by omega), if_pos h4]
        rw [e1] at k1
        unfold tkW at k1
        rw [if_pos d, e0] at k1
        by_cases z : 100 * val = 0 ∨ 10000 ≤ 100 * val
        · rw [if_pos z] at k1; exact absurd k1 (fun h => by cases h)
        · rw [if_neg z] at k1
          have k3 := Option.some.inj k1
          have hv : 100 * val * 10 + (P j - 48) * 100 = 100 * (10 * val + P j - 48) := by omega
          rw [hv] at k3
          obtain ⟨j', t', val', r1, r2, r3⟩ := ih (j + 1) t1 (10 * val + P j - 48) (by omega) (by omega) k2 (by rw [← k3]; rfl) (by rw [← k3]; exact nbR_sv h5) (by omega) l1 l4
          refine ⟨j', t', val', ?_, by omega, r3⟩
          have m120 := m_120y (Ls := Ls) (g := g) (mi := mi) (mj := mj) d.1 d.2
          rw [q_132_4]
          simp (disch := (first | with_reducible exact is_148 | with_reducible exact zi_at is_148 (by omega) (by omega) | with_reducible exact is_152 | with_reducible exact zi_at is_152 (by omega) (by omega) | ((with_reducible refine zct_le ?_) <;> exact Nat.le_of_ble_eq_true rfl) | with_reducible exact zh_0 | with_reducible exact zh_1 | with_reducible exact zh_b | omega)) only [q_132_5r, q_132_5n, q_132_6, q_132_9, q_132_12r, q_132_12n, q_132_13, q_132_16, q_132_17, q_132_18, q_132_21, q_132_24, q_132_26, q_132_27, q_132_28r, q_132_28n, q_132_29, q_132_32, q_132_33, q_132_34, q_132_35, q_132_37, q_132_38, q_132_39, q_132_42, vf_s, vf_n, zk2_none, zk2_int, zk2_ref, zk2_null, zk2_long, zct_nil, zct_i, zct_l, zct_r, zct_n, Option.bind_some, Option.toList_some, Option.toList_none, List.cons_append, List.nil_append, zor_l, zor_r, if_true, if_false, ↓reduceIte, zi_lit, zi_of, zi_add, zi_mul, zi_sub, zi_nat, zi_leT, zi_leF, zi_ltT, zi_ltF, zi_eqT, zi_eqF, zif_0z, zif_bz, zi_01l, zi_01r, not_true_eq_false, not_false_eq_true, Nat.reduceAdd, Nat.reduceMul, Nat.reduceSub, rf_148_3, hm, p1, m120]
          exact r1
      · have m120 := m_120n (Ls := Ls) (g := g) (mi := mi) (mj := mj) (show P j < 2147483648 by omega) d
        refine ⟨j, t, val, ?_, Nat.le_refl _, by omega, h3, h4, h5, h6, fun _ => d⟩
        rw [q_132_4]
        simp (disch := (first | with_reducible exact is_148 | with_reducible exact zi_at is_148 (by omega) (by omega) | with_reducible exact is_152 | with_reducible exact zi_at is_152 (by omega) (by omega) | ((with_reducible refine zct_le ?_) <;> exact Nat.le_of_ble_eq_true rfl) | with_reducible exact zh_0 | with_reducible exact zh_1 | with_reducible exact zh_b | omega)) only [q_132_5r, q_132_5n, q_132_6, q_132_9, q_132_12r, q_132_12n, q_132_13, q_132_16, q_132_17, q_132_18, q_132_21, q_132_24, q_132_26, q_132_27, q_132_28r, q_132_28n, q_132_29, q_132_32, q_132_33, q_132_34, q_132_35, q_132_37, q_132_38, q_132_39, q_132_42, vf_s, vf_n, zk2_none, zk2_int, zk2_ref, zk2_null, zk2_long, zct_nil, zct_i, zct_l, zct_r, zct_n, Option.bind_some, Option.toList_some, Option.toList_none, List.cons_append, List.nil_append, zor_l, zor_r, if_true, if_false, ↓reduceIte, zi_lit, zi_of, zi_add, zi_mul, zi_sub, zi_nat, zi_leT, zi_leF, zi_ltT, zi_ltF, zi_eqT, zi_eqF, zif_0z, zif_bz, zi_01l, zi_01r, not_true_eq_false, not_false_eq_true, Nat.reduceAdd, Nat.reduceMul, Nat.reduceSub, rf_148_3, hm, p1, m120]
theorem zi_d10 : zi 100 / zi 10 = zi 10 := by decide
theorem zi_d1 : zi 10 / zi 10 = zi 1 := by decide
def bdR (n : Nat) (P : Nat → Nat) (s : Rd) (i : Nat) : Prop := (s.p = 0 ∨ s.p = 1 ∨ s.p = 3 ∨ s.p = 5 ∨ s.p = 6 ∨ s.p = 8) ∧ (s.p = 3 → i < n → ¬ (48 ≤ P i ∧ P i ≤ 57) ∧ ¬ P i = 46) ∧ (s.p = 5 → i < n → ¬ (48 ≤ P i ∧ P i ≤ 57))
theorem m_132 (he : e < 4) (hn : n ≤ 48) (hm : mi 148 4 = zi n) (hP : ∀ k, k < n → mi 152 k = zi (P k) ∧ P k < 65536) (hsf : rdS q0 P n = some sf) (hnb : ¬ rdB sf) (h : lR mi e s) (hs : rdS q0 P i = some s) (hi : i < n) (h0 : s.p = 0 ∨ s.p = 1) (hd : 48 ≤ P i ∧ P i ≤ 57) : ∃ mi' j t, zCall 132 [.ref 148, .int (zi i)] (SH Ls) mi mj (RF g) = some (some (.int (zi j)), SH Ls, mi', mj, RF g) ∧ i < j ∧ j ≤ n ∧ rdS q0 P j = some t ∧ lR mi' e t ∧ bdR n P t j ∧ ¬ t.p = 0 ∧ FrL e mi mi' := by
  have h10 : ¬ zi 10 = (0 : Int32) := by decide
  have hIs := rdS_I i (by omega) s hs
  have hsn : s.n < 60 := by have := rdI_n hIs (by omega); omega
  obtain ⟨t1, k1, k2⟩ := rdS_t hsf hs hi
  have e1 : tk s (P i) = some ((s.ap 0).sv ((P i - 48) * 100) 3) := by
    have : tkO s (P i) = some ((s.ap 0).sv ((P i - 48) * 100) 3) := by
      unfold tkO
      rw [if_neg (by omega), if_pos hd]
    unfold tk
    rcases h0 with q | q
    · rw [if_pos q, if_neg (by omega)]; exact this
    · rw [if_neg (by omega), if_pos q]; exact this
  rw [e1] at k1
  have k3 := Option.some.inj k1
  have hb1 : nbR s t1 (100 * (P i - 48)) := by
    rw [← k3, Nat.mul_comm]
    exact nbR_sv (s := s) (t := s.ap 0) (v := 0) ⟨rfl, rfl, fun i hi => ⟨if_neg (by omega), if_neg (by omega)⟩, if_pos rfl, if_pos rfl⟩
  obtain ⟨j, t, val, r1, r2, r3, r4, r5, r6, r7, r8⟩ := l_132a (Ls := Ls) (g := g) (mj := mj) hn hm hP hsf n (i + 1) t1 (P i - 48) (by omega) (by omega) k2 (by rw [← k3]; rfl) hb1 (by omega) (zi i) none
  obtain ⟨p1, p2⟩ := hP i hi
  have m120 := m_120y (Ls := Ls) (g := g) (mi := mi) (mj := mj) hd.1 hd.2
  have start : zCall 132 [.ref 148, .int (zi i)] (SH Ls) mi mj (RF g) = zRun 132 45 [some (.ref 148), some (.int (zi i)), some (.int (zi j)), some (.int (zi val)), none] [] (SH Ls) mi mj (RF g) := by
    simp (disch := (first | ((with_reducible refine zct_le ?_) <;> exact Nat.le_of_ble_eq_true rfl) | with_reducible exact zh_0 | with_reducible exact zh_1 | with_reducible exact zh_b | omega)) only [e_132, q_132_0, q_132_1, q_132_2, q_132_3, vf_s, vf_n, zk2_none, zk2_int, zk2_ref, zk2_null, zk2_long, zct_nil, zct_i, zct_l, zct_r, zct_n, Option.bind_some, Option.toList_some, Option.toList_none, List.cons_append, List.nil_append, zor_l, zor_r, if_true, if_false, ↓reduceIte, zi_lit, zi_of, zi_add, zi_mul, zi_sub, zi_nat, zi_leT, zi_leF, zi_ltT, zi_ltF, zi_eqT, zi_eqF, zif_0z, zif_bz, zi_01l, zi_01r, not_true_eq_false, not_false_eq_true, Nat.reduceAdd, Nat.reduceMul, Nat.reduceSub]
    rw [q_132_4]
    simp (disch := (first | with_reducible exact is_148 | with_reducible exact zi_at is_148 (by omega) (by omega) | with_reducible exact is_152 | with_reducible exact zi_at is_152 (by omega) (by omega) | ((with_reducible refine zct_le ?_) <;> exact Nat.le_of_ble_eq_true rfl) | with_reducible exact zh_0 | with_reducible exact zh_1 | with_reducible exact zh_b | omega)) only [q_132_5r, q_132_5n, q_132_6, q_132_9, q_132_12r, q_132_12n, q_132_13, q_132_16, q_132_17, q_132_18, q_132_21, q_132_24, q_132_26, q_132_27, q_132_28r, q_132_28n, q_132_29, q_132_32, q_132_33, q_132_34, q_132_35, q_132_37, q_132_38, q_132_39, q_132_42, vf_s, vf_n, zk2_none, zk2_int, zk2_ref, zk2_null, zk2_long, zct_nil, zct_i, zct_l, zct_r, zct_n, Option.bind_some, Option.toList_some, Option.toList_none, List.cons_append, List.nil_append, zor_l, zor_r, if_true, if_false, ↓reduceIte, zi_lit, zi_of, zi_add, zi_mul, zi_sub, zi_nat, zi_leT, zi_leF, zi_ltT, zi_ltF, zi_eqT, zi_eqF, zif_0z, zif_bz, zi_01l, zi_01r, not_true_eq_false, not_false_eq_true, Nat.reduceAdd, Nat.reduceMul, Nat.reduceSub, rf_148_3, hm, p1, m120, Nat.zero_add]
    exact r1
  rw [start]
  by_cases cj : j = n
  · subst cj
    obtain ⟨mi2, v1, v2, v3⟩ := m_126 (Ls := Ls) (g := g) (mj := mj) (k := 0) (v := val * 100) (s' := t) he h hsn r6.1 r6.2.1 r6.2.2.1 r6.2.2.2.1 (by rw [r6.2.2.2.2, Nat.mul_comm])
    refine ⟨mi2, j, t, ?_, by omega, Nat.le_refl _, r4, v2, ⟨by omega, fun _ h => by omega, fun _ h => by omega⟩, by omega, v3⟩
    simp (disch := (first | with_reducible exact is_148 | with_reducible exact zi_at is_148 (by omega) (by omega) | with_reducible exact is_152 | with_reducible exact zi_at is_152 (by omega) (by omega) | ((with_reducible refine zct_le ?_) <;> exact Nat.le_of_ble_eq_true rfl) | with_reducible exact zh_0 | with_reducible exact zh_1 | with_reducible exact zh_b | omega)) only [q_132_45, q_132_47, q_132_49, q_132_50r, q_132_50n, q_132_51, q_132_54, q_132_57r, q_132_57n, q_132_58, q_132_61, q_132_62, q_132_63, q_132_65, q_132_68, q_132_119r, q_132_119n, q_132_120, q_132_121, q_132_122, q_132_124, q_132_125, q_132_128, q_132_129, vf_s, vf_n, zk2_none, zk2_int, zk2_ref, zk2_null, zk2_long, zct_nil, zct_i, zct_l, zct_r, zct_n, Option.bind_some, Option.toList_some, Option.toList_none, List.cons_append, List.nil_append, zor_l, zor_r, if_true, if_false, ↓reduceIte, zi_lit, zi_of, zi_add, zi_mul, zi_sub, zi_nat, zi_leT, zi_leF, zi_ltT, zi_ltF, zi_eqT, zi_eqF, zif_0z, zif_bz, zi_01l, zi_01r, not_true_eq_false, not_false_eq_true, Nat.reduceAdd, Nat.reduceMul, Nat.reduceSub, rf_148_3, hm, v1]
  · obtain ⟨p3, p4⟩ := hP j (by omega)
    by_cases cd : P j = 46
    · obtain ⟨t2, k4, k5⟩ := rdS_t hsf r4 (show j < n by omega)
      have e2 : tk t (P j) = some (t.st 4) := by
        unfold tk tkW
        rw [if_neg (by omega), if_neg (by omega), if_neg (by omega), if_pos r5, if_neg (by omega), if_pos cd]
      rw [e2] at k4
      have k6 := Option.some.inj k4
      have hj1 : ¬ j + 1 = n := fun q => by
        rw [q] at k5
        rw [hsf] at k5
        have := Option.some.inj k5
        rw [this, ← k6] at hnb
        exact hnb (Or.inr (Or.inr (Or.inr (Or.inl rfl))))
      obtain ⟨p5, p6⟩ := hP (j + 1) (by omega)
      obtain ⟨t3, k7, k8⟩ := rdS_t hsf k5 (show j + 1 < n by omega)
      rw [← k6] at k7
      by_cases d2 : 48 ≤ P (j + 1) ∧ P (j + 1) ≤ 57
      · have e3 : tk (t.st 4) (P (j + 1)) = some ((t.st 4).sv (t.V (t.n - 1) + (P (j + 1) - 48) * 10) 5) := by
          unfold tk
          rw [if_neg (by show ¬ 4 = 0; omega), if_neg (by show ¬ 4 = 1; omega), if_neg (by show ¬ 4 = 2; omega), if_neg (by show ¬ 4 = 3; omega), if_pos (by rfl), if_pos d2]
          rfl
        rw [e3, nbR_l r6] at k7
        have k9 := Option.some.inj k7
        have hb3 : nbR s t3 ((10 * val + P (j + 1) - 48) * 10) := by
          have e4 : (10 * val + P (j + 1) - 48) * 10 = 100 * val + (P (j + 1) - 48) * 10 := by omega
          rw [← k9, e4]
          exact nbR_sv (t := t.st 4) (v := 100 * val) r6
        have m120a := m_120y (Ls := Ls) (g := g) (mi := mi) (mj := mj) d2.1 d2.2
        have hp3 : t3.p = 5 := by rw [← k9]; rfl
        by_cases c2 : j + 1 + 1 = n
        · obtain ⟨mi2, v1, v2, v3⟩ := m_126 (Ls := Ls) (g := g) (mj := mj) (k := 0) (v := (10 * val + P (j + 1) - 48) * 10) (s' := t3) he h hsn hb3.1 hb3.2.1 hb3.2.2.1 hb3.2.2.2.1 hb3.2.2.2.2
          refine ⟨mi2, j + 1 + 1, t3, ?_, by omega, by omega, k8, v2, ⟨by omega, fun _ h => by omega, fun _ h => by omega⟩, by omega, v3⟩
          simp (disch := (first | with_reducible exact h10 | with_reducible exact zi_at h10 (by omega) (by omega) | with_reducible exact is_148 | with_reducible exact zi_at is_148 (by omega) (by omega) | with_reducible exact is_152 | with_reducible exact zi_at is_152 (by omega) (by omega) | ((with_reducible refine zct_le ?_) <;> exact Nat.le_of_ble_eq_true rfl) | with_reducible exact zh_0 | with_reducible exact zh_1 | with_reducible exact zh_b | omega)) only [q_132_45, q_132_47, q_132_49, q_132_50r, q_132_50n, q_132_51, q_132_54, q_132_57r, q_132_57n, q_132_58, q_132_61, q_132_62, q_132_63, q_132_65, q_132_68, vf_s, vf_n, zk2_none, zk2_int, zk2_ref, zk2_null, zk2_long, zct_nil, zct_i, zct_l, zct_r, zct_n, Option.bind_some, Option.toList_some, Option.toList_none, List.cons_append, List.nil_append, zor_l, zor_r, if_true, if_false, ↓reduceIte, zi_lit, zi_of, zi_add, zi_mul, zi_sub, zi_nat, zi_leT, zi_leF, zi_ltT, zi_ltF, zi_eqT, zi_eqF, zif_0z, zif_bz, zi_01l, zi_01r, not_true_eq_false, not_false_eq_true, Nat.reduceAdd, Nat.reduceMul, Nat.reduceSub, rf_148_3, hm, p3, cd]
          rw [q_132_71]
          simp (disch := (first | with_reducible exact h10 | with_reducible exact zi_at h10 (by omega) (by omega) | with_reducible exact is_148 | with_reducible exact zi_at is_148 (by omega) (by omega) | with_reducible exact is_152 | with_reducible exact zi_at is_152 (by omega) (by omega) | ((with_reducible refine zct_le ?_) <;> exact Nat.le_of_ble_eq_true rfl) | with_reducible exact zh_0 | with_reducible exact zh_1 | with_reducible exact zh_b | omega)) only [q_132_72r, q_132_72n, q_132_73, q_132_76, q_132_79r, q_132_79n, q_132_80, q_132_83, q_132_84, q_132_85, q_132_88, q_132_91, q_132_93, q_132_94, q_132_95r, q_132_95n, q_132_96, q_132_99, q_132_100, q_132_101, q_132_102, q_132_104, q_132_105, q_132_106, q_132_108, q_132_110, q_132_111, q_132_113, q_132_116, vf_s, vf_n, zk2_none, zk2_int, zk2_ref, zk2_null, zk2_long, zct_nil, zct_i, zct_l, zct_r, zct_n, Option.bind_some, Option.toList_some, Option.toList_none, List.cons_append, List.nil_append, zor_l, zor_r, if_true, if_false, ↓reduceIte, zi_lit, zi_of, zi_add, zi_mul, zi_sub, zi_nat, zi_leT, zi_leF, zi_ltT, zi_ltF, zi_eqT, zi_eqF, zif_0z, zif_bz, zi_01l, zi_01r, not_true_eq_false, not_false_eq_true, Nat.reduceAdd, Nat.reduceMul, Nat.reduceSub, rf_148_3, hm, p5, m120a, zi_d10]
          rw [q_132_71]
          simp (disch := (first | with_reducible exact h10 | with_reducible exact zi_at h10 (by omega) (by omega) | with_reducible exact is_148 | with_reducible exact zi_at is_148 (by omega) (by omega) | with_reducible exact is_152 | with_reducible exact zi_at is_152 (by omega) (by omega) | ((with_reducible refine zct_le ?_) <;> exact Nat.le_of_ble_eq_true rfl) | with_reducible exact zh_0 | with_reducible exact zh_1 | with_reducible exact zh_b | omega)) only [q_132_72r, q_132_72n, q_132_73, q_132_76, q_132_79r, q_132_79n, q_132_80, q_132_83, q_132_84, q_132_85, q_132_88, q_132_91, q_132_93, q_132_94, q_132_95r, q_132_95n, q_132_96, q_132_99, q_132_100, q_132_101, q_132_102, q_132_104, q_132_105, q_132_106, q_132_108, q_132_110, q_132_111, q_132_113, q_132_116, q_132_119r, q_132_119n, q_132_120, q_132_121, q_132_122, q_132_124, q_132_125, q_132_128, q_132_129, vf_s, vf_n, zk2_none, zk2_int, zk2_ref, zk2_null, zk2_long, zct_nil, zct_i, zct_l, zct_r, zct_n, Option.bind_some, Option.toList_some, Option.toList_none, List.cons_append, List.nil_append, zor_l, zor_r, if_true, if_false, ↓reduceIte, zi_lit, zi_of, zi_add, zi_mul, zi_sub, zi_nat, zi_leT, zi_leF, zi_ltT, zi_ltF, zi_eqT, zi_eqF, zif_0z, zif_bz, zi_01l, zi_01r, not_true_eq_false, not_false_eq_true, Nat.reduceAdd, Nat.reduceMul, Nat.reduceSub, rf_148_3, hm, v1]
        · obtain ⟨p7, p8⟩ := hP (j + 1 + 1) (by omega)
          by_cases d3 : 48 ≤ P (j + 1 + 1) ∧ P (j + 1 + 1) ≤ 57
          · obtain ⟨t4, k10, k11⟩ := rdS_t hsf k8 (show j + 1 + 1 < n by omega)
            have e5 : tk t3 (P (j + 1 + 1)) = some (t3.sv (t3.V (t3.n - 1) + (P (j + 1 + 1) - 48)) 6) := by
              unfold tk
              rw [if_neg (by omega), if_neg (by omega), if_neg (by omega), if_neg (by omega), if_neg (by omega), if_pos hp3, if_pos d3]
            rw [e5, nbR_l hb3] at k10
            have k12 := Option.some.inj k10
            have hb4 : nbR s t4 ((10 * (10 * val + P (j + 1) - 48) + P (j + 1 + 1) - 48) * 1) := by
              have e6 : (10 * (10 * val + P (j + 1) - 48) + P (j + 1 + 1) - 48) * 1 = (10 * val + P (j + 1) - 48) * 10 + (P (j + 1 + 1) - 48) := by omega
              rw [← k12, e6]
              exact nbR_sv hb3
            have hp4 : t4.p = 6 := by rw [← k12]; rfl
            have m120b := m_120y (Ls := Ls) (g := g) (mi := mi) (mj := mj) d3.1 d3.2
            obtain ⟨mi2, v1, v2, v3⟩ := m_126 (Ls := Ls) (g := g) (mj := mj) (k := 0) (v := (10 * (10 * val + P (j + 1) - 48) + P (j + 1 + 1) - 48) * 1) (s' := t4) he h hsn hb4.1 hb4.2.1 hb4.2.2.1 hb4.2.2.2.1 hb4.2.2.2.2
            refine ⟨mi2, j + 1 + 1 + 1, t4, ?_, by omega, by omega, k11, v2, ⟨by omega, fun h => by omega, fun h => by omega⟩, by omega, v3⟩
            by_cases c3 : j + 1 + 1 + 1 = n
            · simp (disch := (first | with_reducible exact h10 | with_reducible exact zi_at h10 (by omega) (by omega) | with_reducible exact is_148 | with_reducible exact zi_at is_148 (by omega) (by omega) | with_reducible exact is_152 | with_reducible exact zi_at is_152 (by omega) (by omega) | ((with_reducible refine zct_le ?_) <;> exact Nat.le_of_ble_eq_true rfl) | with_reducible exact zh_0 | with_reducible exact zh_1 | with_reducible exact zh_b | omega)) only [q_132_45, q_132_47, q_132_49, q_132_50r, q_132_50n, q_132_51, q_132_54, q_132_57r, q_132_57n, q_132_58, q_132_61, q_132_62, q_132_63, q_132_65, q_132_68, vf_s, vf_n, zk2_none, zk2_int, zk2_ref, zk2_null, zk2_long, zct_nil, zct_i, zct_l, zct_r, zct_n, Option.bind_some, Option.toList_some, Option.toList_none, List.cons_append, List.nil_append, zor_l, zor_r, if_true, if_false, ↓reduceIte, zi_lit, zi_of, zi_add, zi_mul, zi_sub, zi_nat, zi_leT, zi_leF, zi_ltT, zi_ltF, zi_eqT, zi_eqF, zif_0z, zif_bz, zi_01l, zi_01r, not_true_eq_false, not_false_eq_true, Nat.reduceAdd, Nat.reduceMul, Nat.reduceSub, rf_148_3, hm, p3, cd]
              rw [q_132_71]
              simp (disch := (first | with_reducible exact h10 | with_reducible exact zi_at h10 (by omega) (by omega) | with_reducible exact is_148 | with_reducible exact zi_at is_148 (by omega) (by omega) | with_reducible exact is_152 | with_reducible exact zi_at is_152 (by omega) (by omega) | ((with_reducible refine zct_le ?_) <;> exact Nat.le_of_ble_eq_true rfl) | with_reducible exact zh_0 | with_reducible exact zh_1 | with_reducible exact zh_b | omega)) only [q_132_72r, q_132_72n, q_132_73, q_132_76, q_132_79r, q_132_79n, q_132_80, q_132_83, q_132_84, q_132_85, q_132_88, q_132_91, q_132_93, q_132_94, q_132_95r, q_132_95n, q_132_96, q_132_99, q_132_100, q_132_101, q_132_102, q_132_104, q_132_105, q_132_106, q_132_108, q_132_110, q_132_111, q_132_113, q_132_116, vf_s, vf_n, zk2_none, zk2_int, zk2_ref, zk2_null, zk2_long, zct_nil, zct_i, zct_l, zct_r, zct_n, Option.bind_some, Option.toList_some, Option.toList_none, List.cons_append, List.nil_append, zor_l, zor_r, if_true, if_false, ↓reduceIte, zi_lit, zi_of, zi_add, zi_mul, zi_sub, zi_nat, zi_leT, zi_leF, zi_ltT, zi_ltF, zi_eqT, zi_eqF, zif_0z, zif_bz, zi_01l, zi_01r, not_true_eq_false, not_false_eq_true, Nat.reduceAdd, Nat.reduceMul, Nat.reduceSub, rf_148_3, hm, p5, m120a, zi_d10]
              rw [q_132_71]
              simp (disch := (first | with_reducible exact h10 | with_reducible exact zi_at h10 (by omega) (by omega) | with_reducible exact is_148 | with_reducible exact zi_at is_148 (by omega) (by omega) | with_reducible exact is_152 | with_reducible exact zi_at is_152 (by omega) (by omega) | ((with_reducible refine zct_le ?_) <;> exact Nat.le_of_ble_eq_true rfl) | with_reducible exact zh_0 | with_reducible exact zh_1 | with_reducible exact zh_b | omega)) only [q_132_72r, q_132_72n, q_132_73, q_132_76, q_132_79r, q_132_79n, q_132_80, q_132_83, q_132_84, q_132_85, q_132_88, q_132_91, q_132_93, q_132_94, q_132_95r, q_132_95n, q_132_96, q_132_99, q_132_100, q_132_101, q_132_102, q_132_104, q_132_105, q_132_106, q_132_108, q_132_110, q_132_111, q_132_113, q_132_116, vf_s, vf_n, zk2_none, zk2_int, zk2_ref, zk2_null, zk2_long, zct_nil, zct_i, zct_l, zct_r, zct_n, Option.bind_some, Option.toList_some, Option.toList_none, List.cons_append, List.nil_append, zor_l, zor_r, if_true, if_false, ↓reduceIte, zi_lit, zi_of, zi_add, zi_mul, zi_sub, zi_nat, zi_leT, zi_leF, zi_ltT, zi_ltF, zi_eqT, zi_eqF, zif_0z, zif_bz, zi_01l, zi_01r, not_true_eq_false, not_false_eq_true, Nat.reduceAdd, Nat.reduceMul, Nat.reduceSub, rf_148_3, hm, p7, m120b, zi_d1]
              rw [q_132_71]
              simp (disch := (first | with_reducible exact h10 | with_reducible exact zi_at h10 (by omega) (by omega) | with_reducible exact is_148 | with_reducible exact zi_at is_148 (by omega) (by omega) | with_reducible exact is_152 | with_reducible exact zi_at is_152 (by omega) (by omega) | ((with_reducible refine zct_le ?_) <;> exact Nat.le_of_ble_eq_true rfl) | with_reducible exact zh_0 | with_reducible exact zh_1 | with_reducible exact zh_b | omega)) only [q_132_72r, q_132_72n, q_132_73, q_132_76, q_132_79r, q_132_79n, q_132_80, q_132_83, q_132_84, q_132_85, q_132_88, q_132_91, q_132_93, q_132_94, q_132_95r, q_132_95n, q_132_96, q_132_99, q_132_100, q_132_101, q_132_102, q_132_104, q_132_105, q_132_106, q_132_108, q_132_110, q_132_111, q_132_113, q_132_116, q_132_119r, q_132_119n, q_132_120, q_132_121, q_132_122, q_132_124, q_132_125, q_132_128, q_132_129, vf_s, vf_n, zk2_none, zk2_int, zk2_ref, zk2_null, zk2_long, zct_nil, zct_i, zct_l, zct_r, zct_n, Option.bind_some, Option.toList_some, Option.toList_none, List.cons_append, List.nil_append, zor_l, zor_r, if_true, if_false, ↓reduceIte, zi_lit, zi_of, zi_add, zi_mul, zi_sub, zi_nat, zi_leT, zi_leF, zi_ltT, zi_ltF, zi_eqT, zi_eqF, zif_0z, zif_bz, zi_01l, zi_01r, not_true_eq_false, not_false_eq_true, Nat.reduceAdd, Nat.reduceMul, Nat.reduceSub, rf_148_3, hm, v1]
            · obtain ⟨p9, p10⟩ := hP (j + 1 + 1 + 1) (by omega)
              obtain ⟨t5, k13, k14⟩ := rdS_t hsf k11 (show j + 1 + 1 + 1 < n by omega)
              have d4 : ¬ (48 ≤ P (j + 1 + 1 + 1) ∧ P (j + 1 + 1 + 1) ≤ 57) := fun q => by
                rw [tk_b (Or.inl hp4), tkB_no (Or.inl q)] at k13
                exact absurd k13 (fun h => by cases h)
              have m120c := m_120n (Ls := Ls) (g := g) (mi := mi) (mj := mj) (show P (j + 1 + 1 + 1) < 2147483648 by omega) d4
              simp (disch := (first | with_reducible exact h10 | with_reducible exact zi_at h10 (by omega) (by omega) | with_reducible exact is_148 | with_reducible exact zi_at is_148 (by omega) (by omega) | with_reducible exact is_152 | with_reducible exact zi_at is_152 (by omega) (by omega) | ((with_reducible refine zct_le ?_) <;> exact Nat.le_of_ble_eq_true rfl) | with_reducible exact zh_0 | with_reducible exact zh_1 | with_reducible exact zh_b | omega)) only [q_132_45, q_132_47, q_132_49, q_132_50r, q_132_50n, q_132_51, q_132_54, q_132_57r, q_132_57n, q_132_58, q_132_61, q_132_62, q_132_63, q_132_65, q_132_68, vf_s, vf_n, zk2_none, zk2_int, zk2_ref, zk2_null, zk2_long, zct_nil, zct_i, zct_l, zct_r, zct_n, Option.bind_some, Option.toList_some, Option.toList_none, List.cons_append, List.nil_append, zor_l, zor_r, if_true, if_false, ↓reduceIte, zi_lit, zi_of, zi_add, zi_mul, zi_sub, zi_nat, zi_leT, zi_leF, zi_ltT, zi_ltF, zi_eqT, zi_eqF, zif_0z, zif_bz, zi_01l, zi_01r, not_true_eq_false, not_false_eq_true, Nat.reduceAdd, Nat.reduceMul, Nat.reduceSub, rf_148_3, hm, p3, cd]
              rw [q_132_71]
              simp (disch := (first | with_reducible exact h10 | with_reducible exact zi_at h10 (by omega) (by omega) | with_reducible exact is_148 | with_reducible exact zi_at is_148 (by omega) (by omega) | with_reducible exact is_152 | with_reducible exact zi_at is_152 (by omega) (by omega) | ((with_reducible refine zct_le ?_) <;> exact Nat.le_of_ble_eq_true rfl) | with_reducible exact zh_0 | with_reducible exact zh_1 | with_reducible exact zh_b | omega)) only [q_132_72r, q_132_72n, q_132_73, q_132_76, q_132_79r, q_132_79n, q_132_80, q_132_83, q_132_84, q_132_85, q_132_88, q_132_91, q_132_93, q_132_94, q_132_95r, q_132_95n, q_132_96, q_132_99, q_132_100, q_132_101, q_132_102, q_132_104, q_132_105, q_132_106, q_132_108, q_132_110, q_132_111, q_132_113, q_132_116, vf_s, vf_n, zk2_none, zk2_int, zk2_ref, zk2_null, zk2_long, zct_nil, zct_i, zct_l, zct_r, zct_n, Option.bind_some, Option.toList_some, Option.toList_none, List.cons_append, List.nil_append, zor_l, zor_r, if_true, if_false, ↓reduceIte, zi_lit, zi_of, zi_add, zi_mul, zi_sub, zi_nat, zi_leT, zi_leF, zi_ltT, zi_ltF, zi_eqT, zi_eqF, zif_0z, zif_bz, zi_01l, zi_01r, not_true_eq_false, not_false_eq_true, Nat.reduceAdd, Nat.reduceMul, Nat.reduceSub, rf_148_3, hm, p5, m120a, zi_d10]
              rw [q_132_71]
              simp (disch := (first | with_reducible exact h10 | with_reducible exact zi_at h10 (by omega) (by omega) | with_reducible exact is_148 | with_reducible exact zi_at is_148 (by omega) (by omega) | with_reducible exact is_152 | with_reducible exact zi_at is_152 (by omega) (by omega) | ((with_reducible refine zct_le ?_) <;> exact Nat.le_of_ble_eq_true rfl) | with_reducible exact zh_0 | with_reducible exact zh_1 | with_reducible exact zh_b | omega)) only [q_132_72r, q_132_72n, q_132_73, q_132_76, q_132_79r, q_132_79n, q_132_80, q_132_83, q_132_84, q_132_85, q_132_88, q_132_91, q_132_93, q_132_94, q_132_95r, q_132_95n, q_132_96, q_132_99, q_132_100, q_132_101, q_132_102, q_132_104, q_132_105, q_132_106, q_132_108, q_132_110, q_132_111, q_132_113, q_132_116, vf_s, vf_n, zk2_none, zk2_int, zk2_ref, zk2_null, zk2_long, zct_nil, zct_i, zct_l, zct_r, zct_n, Option.bind_some, Option.toList_some, Option.toList_none, List.cons_append, List.nil_append, zor_l, zor_r, if_true, if_false, ↓reduceIte, zi_lit, zi_of, zi_add, zi_mul, zi_sub, zi_nat, zi_leT, zi_leF, zi_ltT, zi_ltF, zi_eqT, zi_eqF, zif_0z, zif_bz, zi_01l, zi_01r, not_true_eq_false, not_false_eq_true, Nat.reduceAdd, Nat.reduceMul, Nat.reduceSub, rf_148_3, hm, p7, m120b, zi_d1]
              rw [q_132_71]
              simp (disch := (first | with_reducible exact h10 | with_reducible exact zi_at h10 (by omega) (by omega) | with_reducible exact is_148 | with_reducible exact zi_at is_148 (by omega) (by omega) | with_reducible exact is_152 | with_reducible exact zi_at is_152 (by omega) (by omega) | ((with_reducible refine zct_le ?_) <;> exact Nat.le_of_ble_eq_true rfl) | with_reducible exact zh_0 | with_reducible exact zh_1 | with_reducible exact zh_b | omega)) only [q_132_72r, q_132_72n, q_132_73, q_132_76, q_132_79r, q_132_79n, q_132_80, q_132_83, q_132_84, q_132_85, q_132_88, q_132_91, q_132_93, q_132_94, q_132_95r, q_132_95n, q_132_96, q_132_99, q_132_100, q_132_101, q_132_102, q_132_104, q_132_105, q_132_106, q_132_108, q_132_110, q_132_111, q_132_113, q_132_116, q_132_119r, q_132_119n, q_132_120, q_132_121, q_132_122, q_132_124, q_132_125, q_132_128, q_132_129, vf_s, vf_n, zk2_none, zk2_int, zk2_ref, zk2_null, zk2_long, zct_nil, zct_i, zct_l, zct_r, zct_n, Option.bind_some, Option.toList_some, Option.toList_none, List.cons_append, List.nil_append, zor_l, zor_r, if_true, if_false, ↓reduceIte, zi_lit, zi_of, zi_add, zi_mul, zi_sub, zi_nat, zi_leT, zi_leF, zi_ltT, zi_ltF, zi_eqT, zi_eqF, zif_0z, zif_bz, zi_01l, zi_01r, not_true_eq_false, not_false_eq_true, Nat.reduceAdd, Nat.reduceMul, Nat.reduceSub, rf_148_3, hm, p9, m120c, v1]
          · have m120b := m_120n (Ls := Ls) (g := g) (mi := mi) (mj := mj) (show P (j + 1 + 1) < 2147483648 by omega) d3
            obtain ⟨mi2, v1, v2, v3⟩ := m_126 (Ls := Ls) (g := g) (mj := mj) (k := 0) (v := (10 * val + P (j + 1) - 48) * 10) (s' := t3) he h hsn hb3.1 hb3.2.1 hb3.2.2.1 hb3.2.2.2.1 hb3.2.2.2.2
            refine ⟨mi2, j + 1 + 1, t3, ?_, by omega, by omega, k8, v2, ⟨by omega, fun h => by omega, fun _ _ => d3⟩, by omega, v3⟩
            simp (disch := (first | with_reducible exact h10 | with_reducible exact zi_at h10 (by omega) (by omega) | with_reducible exact is_148 | with_reducible exact zi_at is_148 (by omega) (by omega) | with_reducible exact is_152 | with_reducible exact zi_at is_152 (by omega) (by omega) | ((with_reducible refine zct_le ?_) <;> exact Nat.le_of_ble_eq_true rfl) | with_reducible exact zh_0 | with_reducible exact zh_1 | with_reducible exact zh_b | omega)) only [q_132_45, q_132_47, q_132_49, q_132_50r, q_132_50n, q_132_51, q_132_54, q_132_57r, q_132_57n, q_132_58, q_132_61, q_132_62, q_132_63, q_132_65, q_132_68, vf_s, vf_n, zk2_none, zk2_int, zk2_ref, zk2_null, zk2_long, zct_nil, zct_i, zct_l, zct_r, zct_n, Option.bind_some, Option.toList_some, Option.toList_none, List.cons_append, List.nil_append, zor_l, zor_r, if_true, if_false, ↓reduceIte, zi_lit, zi_of, zi_add, zi_mul, zi_sub, zi_nat, zi_leT, zi_leF, zi_ltT, zi_ltF, zi_eqT, zi_eqF, zif_0z, zif_bz, zi_01l, zi_01r, not_true_eq_false, not_false_eq_true, Nat.reduceAdd, Nat.reduceMul, Nat.reduceSub, rf_148_3, hm, p3, cd]
            rw [q_132_71]
            simp (disch := (first | with_reducible exact h10 | with_reducible exact zi_at h10 (by omega) (by omega) | with_reducible exact is_148 | with_reducible exact zi_at is_148 (by omega) (by omega) | with_reducible exact is_152 | with_reducible exact zi_at is_152 (by omega) (by omega) | ((with_reducible refine zct_le ?_) <;> exact Nat.le_of_ble_eq_true rfl) | with_reducible exact zh_0 | with_reducible exact zh_1 | with_reducible exact zh_b | omega)) only [q_132_72r, q_132_72n, q_132_73, q_132_76, q_132_79r, q_132_79n, q_132_80, q_132_83, q_132_84, q_132_85, q_132_88, q_132_91, q_132_93, q_132_94, q_132_95r, q_132_95n, q_132_96, q_132_99, q_132_100, q_132_101, q_132_102, q_132_104, q_132_105, q_132_106, q_132_108, q_132_110, q_132_111, q_132_113, q_132_116, vf_s, vf_n, zk2_none, zk2_int, zk2_ref, zk2_null, zk2_long, zct_nil, zct_i, zct_l, zct_r, zct_n, Option.bind_some, Option.toList_some, Option.toList_none, List.cons_append, List.nil_append, zor_l, zor_r, if_true, if_false, ↓reduceIte, zi_lit, zi_of, zi_add, zi_mul, zi_sub, zi_nat, zi_leT, zi_leF, zi_ltT, zi_ltF, zi_eqT, zi_eqF, zif_0z, zif_bz, zi_01l, zi_01r, not_true_eq_false, not_false_eq_true, Nat.reduceAdd, Nat.reduceMul, Nat.reduceSub, rf_148_3, hm, p5, m120a, zi_d10]
            rw [q_132_71]
            simp (disch := (first | with_reducible exact h10 | with_reducible exact zi_at h10 (by omega) (by omega) | with_reducible exact is_148 | with_reducible exact zi_at is_148 (by omega) (by omega) | with_reducible exact is_152 | with_reducible exact zi_at is_152 (by omega) (by omega) | ((with_reducible refine zct_le ?_) <;> exact Nat.le_of_ble_eq_true rfl) | with_reducible exact zh_0 | with_reducible exact zh_1 | with_reducible exact zh_b | omega)) only [q_132_72r, q_132_72n, q_132_73, q_132_76, q_132_79r, q_132_79n, q_132_80, q_132_83, q_132_84, q_132_85, q_132_88, q_132_91, q_132_93, q_132_94, q_132_95r, q_132_95n, q_132_96, q_132_99, q_132_100, q_132_101, q_132_102, q_132_104, q_132_105, q_132_106, q_132_108, q_132_110, q_132_111, q_132_113, q_132_116, q_132_119r, q_132_119n, q_132_120, q_132_121, q_132_122, q_132_124, q_132_125, q_132_128, q_132_129, vf_s, vf_n, zk2_none, zk2_int, zk2_ref, zk2_null, zk2_long, zct_nil, zct_i, zct_l, zct_r, zct_n, Option.bind_some, Option.toList_some, Option.toList_none, List.cons_append, List.nil_append, zor_l, zor_r, if_true, if_false, ↓reduceIte, zi_lit, zi_of, zi_add, zi_mul, zi_sub, zi_nat, zi_leT, zi_leF, zi_ltT, zi_ltF, zi_eqT, zi_eqF, zif_0z, zif_bz, zi_01l, zi_01r, not_true_eq_false, not_false_eq_true, Nat.reduceAdd, Nat.reduceMul, Nat.reduceSub, rf_148_3, hm, p7, m120b, v1]
      · have e3 : tk (t.st 4) (P (j + 1)) = none := by
          unfold tk
          rw [if_neg (by show ¬ 4 = 0; omega), if_neg (by show ¬ 4 = 1; omega), if_neg (by show ¬ 4 = 2; omega), if_neg (by show ¬ 4 = 3; omega), if_pos (by rfl), if_neg d2]
        rw [e3] at k7
        exact absurd k7 (fun h => by cases h)
    · obtain ⟨mi2, v1, v2, v3⟩ := m_126 (Ls := Ls) (g := g) (mj := mj) (k := 0) (v := val * 100) (s' := t) he h hsn r6.1 r6.2.1 r6.2.2.1 r6.2.2.2.1 (by rw [r6.2.2.2.2, Nat.mul_comm])
      refine ⟨mi2, j, t, ?_, by omega, r3, r4, v2, ⟨by omega, fun _ h => ⟨r8 h, cd⟩, fun h => by omega⟩, by omega, v3⟩
      simp (disch := (first | with_reducible exact is_148 | with_reducible exact zi_at is_148 (by omega) (by omega) | with_reducible exact is_152 | with_reducible exact zi_at is_152 (by omega) (by omega) | ((with_reducible refine zct_le ?_) <;> exact Nat.le_of_ble_eq_true rfl) | with_reducible exact zh_0 | with_reducible exact zh_1 | with_reducible exact zh_b | omega)) only [q_132_45, q_132_47, q_132_49, q_132_50r, q_132_50n, q_132_51, q_132_54, q_132_57r, q_132_57n, q_132_58, q_132_61, q_132_62, q_132_63, q_132_65, q_132_68, q_132_119r, q_132_119n, q_132_120, q_132_121, q_132_122, q_132_124, q_132_125, q_132_128, q_132_129, vf_s, vf_n, zk2_none, zk2_int, zk2_ref, zk2_null, zk2_long, zct_nil, zct_i, zct_l, zct_r, zct_n, Option.bind_some, Option.toList_some, Option.toList_none, List.cons_append, List.nil_append, zor_l, zor_r, if_true, if_false, ↓reduceIte, zi_lit, zi_of, zi_add, zi_mul, zi_sub, zi_nat, zi_leT, zi_leF, zi_ltT, zi_ltF, zi_eqT, zi_eqF, zif_0z, zif_bz, zi_01l, zi_01r, not_true_eq_false, not_false_eq_true, Nat.reduceAdd, Nat.reduceMul, Nat.reduceSub, rf_148_3, hm, p3, v1]
end
