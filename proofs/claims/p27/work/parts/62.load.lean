/-! ===== fault, load ===== -/
theorem FrA.k {mi mi' : zI} (h : FrA mi mi') : Kp mi mi' := fun a ha => h a (by omega)
theorem rdS_ext {q0 : Nat} {P P' : Nat → Nat} (n : Nat) (h : ∀ k, k < n → P k = P' k) : rdS q0 P n = rdS q0 P' n := by
  induction n with
  | zero => rfl
  | succ n ih => rw [rdS, rdS, ih fun k hk => h k (by omega), h n (by omega)]
/-- the pad: its length and its characters -/
def pdC (mi : zI) (p : Nat) (P : Nat → Nat) : Prop := p ≤ 48 ∧ mi 1 1 = zi p ∧ ∀ k, k < p → mi 2 k = zi (P k) ∧ P k < 65536
section
variable {Ls : Nat} {g : Nat → Nat} {mi mi' : zI} {mj : zJ} {s s' t sf : Rd} {a b c k n v p j i q0 q e val uu : Nat} {W U : List Nat} {P : Nat → Nat} {x y : Int32} {lo hi : Nat → Int32} {NN : Nat → Nat} {KK : Nat → Nat → Nat} {VV : Nat → Nat → Int32}
theorem pdC.fr (h : pdC mi p P) (h1 : mi' 1 1 = mi 1 1) (h2 : mi' 2 = mi 2) : pdC mi' p P := ⟨h.1, by rw [h1]; exact h.2.1, fun k hk => by rw [h2]; exact h.2.2 k hk⟩
theorem zi_n6 (h : n ≤ 48) : ¬ zi n = -zi 6 := fun q => by
  have h1 := zi_toInt (a := n) (by omega)
  have h2 : (-zi 6).toInt = -6 := by decide
  rw [q, h2] at h1
  omega
theorem rd_yes (hp : pdC mi p P) (hq : mi 22 4 = zi q0) (hsf : rdS q0 P p = some sf) (hnb : ¬ rdB sf) (hW0 : (cpl 1 sf.W sf).W = []) : ∃ mi1, zCall 55 [.ref 22, .ref 2, .int (zi p)] (SH Ls) mi mj (RF g) = some (some (.int (-zi 6)), SH Ls, mi1, mj, RF g) ∧ cRd mi1 (cpl 1 sf.W sf) ∧ FrA mi mi1 := by
  obtain ⟨mi1, r1, r2, r3⟩ := m_55y (Ls := Ls) (g := g) (mj := mj) hp.1 hp.2.2 hq hsf hnb
  rw [hW0] at r1
  exact ⟨mi1, r1, r2, r3⟩
theorem s_84 (hp : pdC mi p P) (hq : mi 22 4 = zi q0) (hsf : rdS q0 P p = some sf) (hnb : ¬ rdB sf) (hW0 : (cpl 1 sf.W sf).W = []) : ∃ mi1, zCall 84 [.ref 1] (SH Ls) mi mj (RF g) = some (some (.int (-zi 6)), SH Ls, mi1, mj, RF g) ∧ FrA mi mi1 ∧ ∃ q1, mi1 22 4 = zi q1 := by
  obtain ⟨mi1, r1, r2, r3⟩ := rd_yes (Ls := Ls) (g := g) (mj := mj) hp hq hsf hnb hW0
  refine ⟨mi1, ?_, r3, _, r2.2.2.2.2.2⟩
  have p2 := hp.2.1
  have p1 := hp.1
  simp (disch := (first | with_reducible exact is_1 | with_reducible exact zi_at is_1 (by omega) (by omega) | with_reducible exact is_22 | with_reducible exact zi_at is_22 (by omega) (by omega) | ((with_reducible refine zct_le ?_) <;> exact Nat.le_of_ble_eq_true rfl) | with_reducible exact zh_0 | with_reducible exact zh_1 | with_reducible exact zh_b | omega)) only [e_84, q_84_0r, q_84_0n, q_84_1, q_84_4r, q_84_4n, q_84_5, q_84_8r, q_84_8n, q_84_9, q_84_12, q_84_15, vf_s, vf_n, zk2_none, zk2_int, zk2_ref, zk2_null, zk2_long, zct_nil, zct_i, zct_l, zct_r, zct_n, Option.bind_some, Option.toList_some, Option.toList_none, List.cons_append, List.nil_append, zor_l, zor_r, if_true, if_false, ↓reduceIte, zi_lit, zi_of, zi_add, zi_mul, zi_sub, zi_nat, zi_leT, zi_leF, zi_ltT, zi_ltF, zi_eqT, zi_eqF, zif_0z, zif_bz, zi_01l, zi_01r, not_true_eq_false, not_false_eq_true, Nat.reduceAdd, Nat.reduceMul, Nat.reduceSub, rf_1_5, rf_1_0, p2, r1]
theorem zSp23 : zSp 23 := by simp [zSp]
theorem s_85 (h : ST mi g lo hi uu NN KK VV) (he4 : e < 4) (hp : pdC mi p P) (hq : mi 22 4 = zi q0) (hsf : rdS q0 P p = some sf) (hnb : ¬ rdB sf) (hW0 : (cpl 1 sf.W sf).W = []) : ∃ mi', zCall 85 [.ref 1, .int (zi e)] (SH Ls) mi mj (RF g) = some (some (.int (zi (cpl 1 sf.W sf).n)), SH Ls, mi', mj, RF g) ∧ 1 ≤ (cpl 1 sf.W sf).n ∧ ST mi' g lo hi uu (fun d => if d = e then (cpl 1 sf.W sf).n else NN d) (fun d => if d = e then (cpl 1 sf.W sf).K else KK d) (fun d => if d = e then (fun k => zi ((cpl 1 sf.W sf).V k)) else VV d) ∧ mi' 1 1 = zi 0 ∧ (∀ j, ¬ j = 1 → mi' 1 j = mi 1 j) ∧ ∀ a, ¬ a = 1 → (a < 8 + 3 * e ∨ 10 + 3 * e < a) → (a < 22 ∨ 26 < a) → mi' a = mi a := by
  obtain ⟨mi1, r1, hc, r2⟩ := rd_yes (Ls := Ls) (g := g) (mj := mj) hp hq hsf hnb hW0
  have hIs := rdS_I p hp.1 sf hsf
  have p2 := hp.2.1
  have p1 := hp.1
  have hb : sf.p = 3 ∨ sf.p = 5 ∨ sf.p = 6 ∨ sf.p = 8 := by have := hIs.1; unfold rdB at hnb; omega
  obtain ⟨d1, d2, d3, d4⟩ : (cpl 1 sf.W sf).n ≤ 60 ∧ dep (cpl 1 sf.W sf).K (cpl 1 sf.W sf).n = 1 ∧ wfX (cpl 1 sf.W sf).K (cpl 1 sf.W sf).n ∧ (∀ k, k < (cpl 1 sf.W sf).n → (cpl 1 sf.W sf).V k ≤ 99999) := by
    obtain ⟨hp, hW, hl, hS, hd, h2, hw, hv, h3, hq⟩ := hIs
    obtain ⟨e1, e2⟩ := cst_b hb
    rw [e2] at hd h2
    obtain ⟨r1, r2, r3, r4, r5, r6, r7, r8, r9⟩ := cpl_I (b := 1) (by omega) sf.W sf hW (by omega) hd hw hv
    rw [hW0] at r3 r4
    have z1 : pnd [] = 0 := rfl
    have z2 : bnr [] = 0 := rfl
    exact ⟨by omega, by omega, r6, r7⟩
  generalize cpl 1 sf.W sf = u at hc d1 d2 d3 d4
  obtain ⟨c1, c2, -⟩ := hc
  have hse := sp_e he4
  obtain ⟨mi2, s1, s2, s3, s4⟩ := m_74 (Ls := Ls) (g := g) (mi := mi1) (mj := mj) hse zSp23 (by omega)
  have f2 : ∀ a, ¬ a = 1 → (a < 8 + 3 * e ∨ 10 + 3 * e < a) → (a < 22 ∨ 26 < a) → zup mi2 1 1 (zi 0) a = mi a := fun a h1 h2 h3 => by rw [zup_ne h1, s4 a (by omega), r2 a h3]
  have l5 : ∀ a, 8 + 3 * e ≤ a → a ≤ 10 + 3 * e → zup mi2 1 1 (zi 0) a = mi2 a := fun a h1 h2 => by rw [zup_ne (by omega)]
  have l1 : ∀ j, ¬ j = 1 → zup mi2 1 1 (zi 0) 1 j = mi 1 j := fun j h1 => by rw [zg_j (by omega), s4 1 (by omega), r2 1 (by omega)]
  have hn1 : 1 ≤ u.n := by
    rcases Nat.eq_zero_or_pos u.n with q | q
    · rw [q] at d2; exact absurd d2 (by show ¬ (0 : Nat) = 1; omega)
    · exact q
  obtain ⟨g0, a1, a2, a3, a4, a6⟩ := h
  refine ⟨zup mi2 1 1 (zi 0), ?_, hn1, ⟨g0, a1, a2, fun k hk => ?_, ?_, fun d hd => ?_⟩, zg_s, l1, f2⟩
  · have e23 : mi2 23 2 = zi u.n := by rw [s4 23 (by omega)]; exact c1
    simp (disch := (first | with_reducible exact is_1 | with_reducible exact zi_at is_1 (by omega) (by omega) | with_reducible exact is_3 | with_reducible exact zi_at is_3 (by omega) (by omega) | with_reducible exact is_7 | with_reducible exact zi_at is_7 (by omega) (by omega) | with_reducible exact is_22 | with_reducible exact zi_at is_22 (by omega) (by omega) | with_reducible exact is_23 | with_reducible exact zi_at is_23 (by omega) (by omega) | with_reducible exact (zSp_is hse) | with_reducible exact zi_at (zSp_is hse) (by omega) (by omega) | ((with_reducible refine zct_le ?_) <;> exact Nat.le_of_ble_eq_true rfl) | with_reducible exact zh_0 | with_reducible exact zh_1 | with_reducible exact zh_b | omega)) only [e_85, q_85_0, q_85_1, q_85_4, q_85_5, q_85_6, q_85_9, q_85_10, q_85_11r, q_85_11n, q_85_12, q_85_15r, q_85_15n, q_85_16, q_85_19r, q_85_19n, q_85_20, q_85_23, q_85_26, q_85_28, q_85_31, q_85_33, q_85_34r, q_85_34n, q_85_35, q_85_38, q_85_41, q_85_42t7, q_85_42t10, q_85_42t11, q_85_43r, q_85_43n, q_85_44, q_85_47, q_85_50, q_85_53r, q_85_53n, q_85_54, q_85_55, q_85_58r, q_85_58n, q_85_59, q_85_62, q_85_65, q_85_68, vf_s, vf_n, zk2_none, zk2_int, zk2_ref, zk2_null, zk2_long, zct_nil, zct_i, zct_l, zct_r, zct_n, Option.bind_some, Option.toList_some, Option.toList_none, List.cons_append, List.nil_append, zor_l, zor_r, if_true, if_false, ↓reduceIte, zi_lit, zi_of, zi_add, zi_mul, zi_sub, zi_nat, zi_leT, zi_leF, zi_ltT, zi_ltF, zi_eqT, zi_eqF, zif_0z, zif_bz, zi_01l, zi_01r, not_true_eq_false, not_false_eq_true, Nat.reduceAdd, Nat.reduceMul, Nat.reduceSub, zg_s, zg_o, zg_j, zg_r, zg_ro, zg_d, yfl_o, rf_1_5, rf_1_0, rf_1_2, rf_3_1, rf_7 he4, rf_22_0, p2, r1, s1, e23]
  · rw [f2 (3 + 2) (by omega) (by omega) (by omega), f2 (3 + 3) (by omega) (by omega) (by omega)]
    exact a3 k hk
  · rw [f2 3 (by omega) (by omega) (by omega)]; exact a4
  · show exC (zup mi2 1 1 (zi 0)) 3 d (if d = e then u.n else NN d) (if d = e then u.K else KK d) (if d = e then (fun k => zi (u.V k)) else VV d)
    by_cases c : d = e
    · subst c
      rw [if_pos rfl, if_pos rfl, if_pos rfl]
      refine ⟨d1, ?_, fun k hk => ?_, fun _ => ⟨d3, fun k hk _ => ?_, d2⟩⟩
      · rw [show 3 + 5 + 3 * d = 8 + 3 * d by omega, l5 _ (by omega) (by omega), s2]; exact c1
      · obtain ⟨q1, q2⟩ := s3 k (by omega)
        obtain ⟨q3, q4⟩ := c2 k hk
        rw [show 3 + 6 + 3 * d = 8 + 3 * d + 1 by omega, show 3 + 7 + 3 * d = 8 + 3 * d + 2 by omega, l5 _ (by omega) (by omega), l5 _ (by omega) (by omega), q1, q2]
        exact ⟨q3, q4⟩
      · have := d4 k hk
        have e9 := zi_toInt (a := u.V k) (by omega)
        show 0 ≤ (zi (u.V k)).toInt ∧ (zi (u.V k)).toInt ≤ 99999
        omega
    · rw [if_neg c, if_neg c, if_neg c]
      obtain ⟨b1, b2, b4, b5⟩ := a6 d hd
      refine ⟨b1, ?_, fun k hk => ?_, b5⟩
      · rw [f2 (3 + 5 + 3 * d) (by omega) (by omega) (by omega)]; exact b2
      · rw [f2 (3 + 6 + 3 * d) (by omega) (by omega) (by omega), f2 (3 + 7 + 3 * d) (by omega) (by omega) (by omega)]; exact b4 k hk
theorem f_85 (hx : x.toInt < 0 ∨ 3 < x.toInt) : zCall 85 [.ref 1, .int x] (SH Ls) mi mj (RF g) = some (some (.int (-zi 1)), SH Ls, mi, mj, RF g) := by
  rcases hx with hx | hx
  · simp (disch := (first | with_reducible exact is_1 | with_reducible exact zi_at is_1 (by omega) (by omega) | ((with_reducible refine zct_le ?_) <;> exact Nat.le_of_ble_eq_true rfl) | with_reducible exact zh_0 | with_reducible exact zh_1 | with_reducible exact zh_b | omega)) only [e_85, q_85_0, q_85_1, q_85_4, q_85_5, q_85_6, q_85_9, q_85_10, q_85_11r, q_85_11n, q_85_12, q_85_15r, q_85_15n, q_85_16, q_85_19r, q_85_19n, q_85_20, q_85_23, q_85_26, q_85_28, q_85_31, q_85_33, q_85_34r, q_85_34n, q_85_35, q_85_38, q_85_41, q_85_42t7, q_85_42t10, q_85_42t11, q_85_43r, q_85_43n, q_85_44, q_85_47, q_85_50, q_85_53r, q_85_53n, q_85_54, q_85_55, q_85_58r, q_85_58n, q_85_59, q_85_62, q_85_65, q_85_68, vf_s, vf_n, zk2_none, zk2_int, zk2_ref, zk2_null, zk2_long, zct_nil, zct_i, zct_l, zct_r, zct_n, Option.bind_some, Option.toList_some, Option.toList_none, List.cons_append, List.nil_append, zor_l, zor_r, if_true, if_false, ↓reduceIte, zi_lit, zi_of, zi_add, zi_mul, zi_sub, zi_nat, zi_leT, zi_leF, zi_ltT, zi_ltF, zi_eqT, zi_eqF, zif_0z, zif_bz, zi_01l, zi_01r, not_true_eq_false, not_false_eq_true, Nat.reduceAdd, Nat.reduceMul, Nat.reduceSub, xz_ltT, xz_ltF, zx_ltT, zx_ltF, xz_leT, xz_leF, zx_leT, zx_leF, xz_eqF, and_true, true_and, and_false, false_and, and_self]
  · simp (disch := (first | with_reducible exact is_1 | with_reducible exact zi_at is_1 (by omega) (by omega) | ((with_reducible refine zct_le ?_) <;> exact Nat.le_of_ble_eq_true rfl) | with_reducible exact zh_0 | with_reducible exact zh_1 | with_reducible exact zh_b | omega)) only [e_85, q_85_0, q_85_1, q_85_4, q_85_5, q_85_6, q_85_9, q_85_10, q_85_11r, q_85_11n, q_85_12, q_85_15r, q_85_15n, q_85_16, q_85_19r, q_85_19n, q_85_20, q_85_23, q_85_26, q_85_28, q_85_31, q_85_33, q_85_34r, q_85_34n, q_85_35, q_85_38, q_85_41, q_85_42t7, q_85_42t10, q_85_42t11, q_85_43r, q_85_43n, q_85_44, q_85_47, q_85_50, q_85_53r, q_85_53n, q_85_54, q_85_55, q_85_58r, q_85_58n, q_85_59, q_85_62, q_85_65, q_85_68, vf_s, vf_n, zk2_none, zk2_int, zk2_ref, zk2_null, zk2_long, zct_nil, zct_i, zct_l, zct_r, zct_n, Option.bind_some, Option.toList_some, Option.toList_none, List.cons_append, List.nil_append, zor_l, zor_r, if_true, if_false, ↓reduceIte, zi_lit, zi_of, zi_add, zi_mul, zi_sub, zi_nat, zi_leT, zi_leF, zi_ltT, zi_ltF, zi_eqT, zi_eqF, zif_0z, zif_bz, zi_01l, zi_01r, not_true_eq_false, not_false_eq_true, Nat.reduceAdd, Nat.reduceMul, Nat.reduceSub, xz_ltT, xz_ltF, zx_ltT, zx_ltF, xz_leT, xz_leF, zx_leT, zx_leF, xz_eqF, and_true, true_and, and_false, false_and, and_self]
/-- an empty pad is no expression -/
theorem f_85p (p2 : mi 1 1 = zi 0) : ∃ mi1, zCall 85 [.ref 1, .int (zi 0)] (SH Ls) mi mj (RF g) = some (some (.int (-zi 3)), SH Ls, mi1, mj, RF g) ∧ FrA mi mi1 := by
  obtain ⟨q0, hq⟩ := zi_all (mi 22 4)
  obtain ⟨mi1, r1, r2⟩ := m_55b (Ls := Ls) (g := g) (mi := mi) (mj := mj) (n := 0) (P := fun _ => 0) (by omega) (fun k hk => absurd hk (by omega)) hq (t := rdZ q0) rfl (Or.inl rfl)
  have h6 : ¬ zi 0 = -zi 6 := zi_n6 (by omega)
  refine ⟨mi1, ?_, r2⟩
  simp (disch := (first | with_reducible exact is_1 | with_reducible exact zi_at is_1 (by omega) (by omega) | with_reducible exact is_22 | with_reducible exact zi_at is_22 (by omega) (by omega) | ((with_reducible refine zct_le ?_) <;> exact Nat.le_of_ble_eq_true rfl) | with_reducible exact zh_0 | with_reducible exact zh_1 | with_reducible exact zh_b | omega)) only [e_85, q_85_0, q_85_1, q_85_4, q_85_5, q_85_6, q_85_9, q_85_10, q_85_11r, q_85_11n, q_85_12, q_85_15r, q_85_15n, q_85_16, q_85_19r, q_85_19n, q_85_20, q_85_23, q_85_26, q_85_28, q_85_31, q_85_33, q_85_34r, q_85_34n, q_85_35, q_85_38, q_85_41, q_85_42t7, q_85_42t10, q_85_42t11, q_85_43r, q_85_43n, q_85_44, q_85_47, q_85_50, q_85_53r, q_85_53n, q_85_54, q_85_55, q_85_58r, q_85_58n, q_85_59, q_85_62, q_85_65, q_85_68, vf_s, vf_n, zk2_none, zk2_int, zk2_ref, zk2_null, zk2_long, zct_nil, zct_i, zct_l, zct_r, zct_n, Option.bind_some, Option.toList_some, Option.toList_none, List.cons_append, List.nil_append, zor_l, zor_r, if_true, if_false, ↓reduceIte, zi_lit, zi_of, zi_add, zi_mul, zi_sub, zi_nat, zi_leT, zi_leF, zi_ltT, zi_ltF, zi_eqT, zi_eqF, zif_0z, zif_bz, zi_01l, zi_01r, not_true_eq_false, not_false_eq_true, Nat.reduceAdd, Nat.reduceMul, Nat.reduceSub, rf_1_5, rf_1_0, p2, r1, h6]
end
