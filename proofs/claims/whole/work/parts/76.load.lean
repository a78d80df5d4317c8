/-! ===== fault, load ===== -/
theorem rdS_x {q0 : Nat} {P : Nat → Nat} (n : Nat) : rdS q0 P n = none → ∃ j u, j < n ∧ rdS q0 P j = some u ∧ rdS q0 P (j + 1) = none := by
  induction n with
  | zero => exact fun h => absurd h (fun h => by cases h)
  | succ n ih =>
    intro h
    cases hr : rdS q0 P n with
    | none =>
      obtain ⟨j, u, h1, h2, h3⟩ := ih hr
      exact ⟨j, u, by omega, h2, h3⟩
    | some u => exact ⟨n, u, by omega, hr, h⟩
theorem FrA.d {mi mi' : zI} {mj : zJ} (h : FrA mi mi') : FrD mi mj mi' mj := ⟨fun a ha => h a (by omega), by rw [h 148 (by omega)], by rw [h 148 (by omega)], rfl⟩
theorem FrF.d {mi mi' : zI} {mj : zJ} (h : FrF mi mi') : FrD mi mj mi' mj := ⟨fun a ha => h.1 a (by omega) (by omega), h.2 4 (by omega), h.2 25 (by omega), rfl⟩
section
variable {Ls : Nat} {g : Nat → Nat} {mi mi' : zI} {mj : zJ} {s s' t sf : Rd} {a b c k n v p j i q0 q e val : Nat} {W U : List Nat} {P : Nat → Nat} {x y : Int32}
theorem zi_n6 (h : n ≤ 48) : ¬ zi n = -zi 6 := fun q => by
  have h1 := zi_toInt (a := n) (by omega)
  have h2 : (-zi 6).toInt = -6 := by decide
  rw [q, h2] at h1
  omega
theorem rd_both (hp : p ≤ 48) (h1 : ∀ k, k < p → mi 2 k = mi 152 k ∧ 33 ≤ (mi 2 k).toInt ∧ (mi 2 k).toInt ≤ 126) : ∃ x mi1, zCall 55 [.ref 22, .ref 2, .int (zi p)] (SH Ls) mi mj (RF g) = some (some (.int x), SH Ls, mi1, mj, RF g) ∧ FrA mi mi1 ∧ (∀ mi' mj' g', mi' 148 4 = zi p → mi' 152 = mi 152 → ∃ mi2, zCall 125 [.ref 148] (SH Ls) mi' mj' (RF g') = some (some (.int x), SH Ls, mi2, mj', RF g') ∧ FrF mi' mi2) ∧ (¬ x = -zi 6 ∨ (x = -zi 6 ∧ ∃ q0 P sf, (∀ k, k < p → mi 152 k = zi (P k) ∧ P k < 65536) ∧ rdS q0 P p = some sf ∧ ¬ rdB sf ∧ (cpl 1 sf.W sf).W = [] ∧ cRd mi1 (cpl 1 sf.W sf))) := by
  obtain ⟨q0, hq⟩ := zi_all (mi 22 4)
  have hP : ∀ k, k < p → mi 2 k = zi (mi 2 k).toInt.toNat ∧ (mi 2 k).toInt.toNat < 65536 := fun k hk => by
    obtain ⟨-, a2, a3⟩ := h1 k hk
    refine ⟨zi_inj ?_, by omega⟩
    rw [zi_toInt (by omega)]; omega
  have hP2 : ∀ k, k < p → mi 152 k = zi (mi 2 k).toInt.toNat ∧ (mi 2 k).toInt.toNat < 65536 := fun k hk => by
    rw [← (h1 k hk).1]; exact hP k hk
  generalize hPP : (fun k => (mi 2 k).toInt.toNat) = P
  have e : ∀ k, (mi 2 k).toInt.toNat = P k := fun k => by rw [← hPP]
  have hP' : ∀ k, k < p → mi 2 k = zi (P k) ∧ P k < 65536 := fun k hk => by rw [← e]; exact hP k hk
  have hP2' : ∀ k, k < p → mi 152 k = zi (P k) ∧ P k < 65536 := fun k hk => by rw [← e]; exact hP2 k hk
  cases hr : rdS q0 P p with
  | none =>
    obtain ⟨j, u, j1, j2, j3⟩ := rdS_x p hr
    obtain ⟨mi1, r1, r2⟩ := m_55n (Ls := Ls) (g := g) (mj := mj) hp hP' hq j1 j2 j3
    refine ⟨zi j, mi1, r1, r2, fun mi' mj' g' k1 k2 => m_125n hp k1 (fun k hk => by rw [k2]; exact hP2' k hk) j1 j2 j3, Or.inl (zi_n6 (by omega))⟩
  | some sf =>
    by_cases cb : rdB sf
    · obtain ⟨mi1, r1, r2⟩ := m_55b (Ls := Ls) (g := g) (mj := mj) hp hP' hq hr cb
      refine ⟨zi p, mi1, r1, r2, fun mi' mj' g' k1 k2 => ?_, Or.inl (zi_n6 hp)⟩
      obtain ⟨mi2, x, t1, t2, t3, t4⟩ := m_125y (Ls := Ls) (g := g') (mj := mj') hp k1 (fun k hk => by rw [k2]; exact hP2' k hk) hr
      rw [t3 cb] at t1
      exact ⟨mi2, t1, t2⟩
    · obtain ⟨mi1, r1, r2, r3⟩ := m_55y (Ls := Ls) (g := g) (mj := mj) hp hP' hq hr cb
      refine ⟨_, mi1, r1, r3, fun mi' mj' g' k1 k2 => ?_, ?_⟩
      · obtain ⟨mi2, x, t1, t2, t3, t4⟩ := m_125y (Ls := Ls) (g := g') (mj := mj') hp k1 (fun k hk => by rw [k2]; exact hP2' k hk) hr
        rw [t4 cb] at t1
        exact ⟨mi2, t1, t2⟩
      · by_cases cl : (cpl 1 sf.W sf).W.length = 0
        · rw [if_pos cl]
          exact Or.inr ⟨rfl, q0, P, sf, hP2', hr, cb, List.eq_nil_of_length_eq_zero cl, r2⟩
        · rw [if_neg cl]
          exact Or.inl (zi_n6 hp)
theorem c_84 (h : INV mi mj g) : cok Ls 84 125 [] mi mj g := by
  obtain ⟨p, p1, p2, p3, p4⟩ := h.2.2.2.1
  obtain ⟨x, mi1, r1, r2, r3, -⟩ := rd_both (Ls := Ls) (g := g) (mj := mj) p1 p4
  obtain ⟨mi2, t1, t2⟩ := r3 mi1 mj g (by rw [r2 148 (by omega)]; exact p3) (r2 152 (by omega))
  refine ⟨.int x, mi1, mj, g, mi2, mj, ?_, t1, (h.fr r2.d h.1).fr t2.d h.1, Or.inl ⟨_, rfl⟩⟩
  simp (disch := (first | with_reducible exact is_1 | with_reducible exact zi_at is_1 (by omega) (by omega) | with_reducible exact is_22 | with_reducible exact zi_at is_22 (by omega) (by omega) | ((with_reducible refine zct_le ?_) <;> exact Nat.le_of_ble_eq_true rfl) | with_reducible exact zh_0 | with_reducible exact zh_1 | with_reducible exact zh_b | omega)) only [e_84, q_84_0r, q_84_0n, q_84_1, q_84_4r, q_84_4n, q_84_5, q_84_8r, q_84_8n, q_84_9, q_84_12, q_84_15, vf_s, vf_n, zk2_none, zk2_int, zk2_ref, zk2_null, zk2_long, zct_nil, zct_i, zct_l, zct_r, zct_n, Option.bind_some, Option.toList_some, Option.toList_none, List.cons_append, List.nil_append, zor_l, zor_r, if_true, if_false, ↓reduceIte, zi_lit, zi_of, zi_add, zi_mul, zi_sub, zi_nat, zi_leT, zi_leF, zi_ltT, zi_ltF, zi_eqT, zi_eqF, zif_0z, zif_bz, zi_01l, zi_01r, not_true_eq_false, not_false_eq_true, Nat.reduceAdd, Nat.reduceMul, Nat.reduceSub, rf_1_5, rf_1_0, p2, r1]
theorem zSp23 : zSp 23 := by simp [zSp]
theorem c_85 (h : INV mi mj g) : cok Ls 85 134 [.int y] mi mj g := by
  rcases arg3 y 3 (by omega) with ⟨e, he, rfl⟩ | hy
  · have he4 : e < 4 := by omega
    obtain ⟨p, p1, p2, p3, p4⟩ := h.2.2.2.1
    obtain ⟨x, mi1, r1, r2, r3, r4⟩ := rd_both (Ls := Ls) (g := g) (mj := mj) p1 p4
    rcases r4 with hx | ⟨rfl, q0, P, sf, hP, hsf, hnb, hW0, hc⟩
    · obtain ⟨mi2, t1, t2⟩ := r3 mi1 mj g (by rw [r2 148 (by omega)]; exact p3) (r2 152 (by omega))
      refine ⟨.int (-zi 3), mi1, mj, g, mi2, mj, ?_, ?_, (h.fr r2.d h.1).fr t2.d h.1, Or.inl ⟨_, rfl⟩⟩
      · simp (disch := (first | with_reducible exact is_1 | with_reducible exact zi_at is_1 (by omega) (by omega) | with_reducible exact is_22 | with_reducible exact zi_at is_22 (by omega) (by omega) | ((with_reducible refine zct_le ?_) <;> exact Nat.le_of_ble_eq_true rfl) | with_reducible exact zh_0 | with_reducible exact zh_1 | with_reducible exact zh_b | omega)) only [e_85, q_85_0, q_85_1, q_85_4, q_85_5, q_85_6, q_85_9, q_85_10, q_85_11r, q_85_11n, q_85_12, q_85_15r, q_85_15n, q_85_16, q_85_19r, q_85_19n, q_85_20, q_85_23, q_85_26, q_85_28, q_85_31, q_85_33, q_85_34r, q_85_34n, q_85_35, q_85_38, q_85_41, q_85_42t7, q_85_42t10, q_85_42t11, q_85_43r, q_85_43n, q_85_44, q_85_47, q_85_50, q_85_53r, q_85_53n, q_85_54, q_85_55, q_85_58r, q_85_58n, q_85_59, q_85_62, q_85_65, q_85_68, vf_s, vf_n, zk2_none, zk2_int, zk2_ref, zk2_null, zk2_long, zct_nil, zct_i, zct_l, zct_r, zct_n, Option.bind_some, Option.toList_some, Option.toList_none, List.cons_append, List.nil_append, zor_l, zor_r, if_true, if_false, ↓reduceIte, zi_lit, zi_of, zi_add, zi_mul, zi_sub, zi_nat, zi_leT, zi_leF, zi_ltT, zi_ltF, zi_eqT, zi_eqF, zif_0z, zif_bz, zi_01l, zi_01r, not_true_eq_false, not_false_eq_true, Nat.reduceAdd, Nat.reduceMul, Nat.reduceSub, rf_1_5, rf_1_0, p2, r1, hx]
      · simp (disch := (first | with_reducible exact is_148 | with_reducible exact zi_at is_148 (by omega) (by omega) | ((with_reducible refine zct_le ?_) <;> exact Nat.le_of_ble_eq_true rfl) | with_reducible exact zh_0 | with_reducible exact zh_1 | with_reducible exact zh_b | omega)) only [e_134, q_134_0, q_134_1, q_134_2, q_134_3, q_134_6, q_134_9, q_134_10, q_134_11r, q_134_11n, q_134_12, q_134_15, q_134_17, q_134_20, q_134_22, q_134_23r, q_134_23n, q_134_24, q_134_25, q_134_28r, q_134_28n, q_134_29, q_134_32r, q_134_32n, q_134_33, q_134_34, q_134_37r, q_134_37n, q_134_38, q_134_41, q_134_43, q_134_44, q_134_45, q_134_46, vf_s, vf_n, zk2_none, zk2_int, zk2_ref, zk2_null, zk2_long, zct_nil, zct_i, zct_l, zct_r, zct_n, Option.bind_some, Option.toList_some, Option.toList_none, List.cons_append, List.nil_append, zor_l, zor_r, if_true, if_false, ↓reduceIte, zi_lit, zi_of, zi_add, zi_mul, zi_sub, zi_nat, zi_leT, zi_leF, zi_ltT, zi_ltF, zi_eqT, zi_eqF, zif_0z, zif_bz, zi_01l, zi_01r, not_true_eq_false, not_false_eq_true, Nat.reduceAdd, Nat.reduceMul, Nat.reduceSub, m_111, and_self, t1, hx]
    · have hIs := rdS_I p p1 sf hsf
      have hb : sf.p = 3 ∨ sf.p = 5 ∨ sf.p = 6 ∨ sf.p = 8 := by have := hIs.1; unfold rdB at hnb; omega
      obtain ⟨d1, d2, d3, d4, d5, d6, d7⟩ : (cpl 1 sf.W sf).n ≤ 60 ∧ dep (cpl 1 sf.W sf).K (cpl 1 sf.W sf).n = 1 ∧ wfX (cpl 1 sf.W sf).K (cpl 1 sf.W sf).n ∧ (∀ k, k < (cpl 1 sf.W sf).n → (cpl 1 sf.W sf).V k ≤ 99999) ∧ True ∧ True ∧ True := by
        obtain ⟨hp, hW, hl, hS, hd, h2, hw, hv, h3, hq⟩ := hIs
        obtain ⟨e1, e2⟩ := cst_b hb
        rw [e2] at hd h2
        obtain ⟨r1, r2, r3, r4, r5, r6, r7, r8, r9⟩ := cpl_I (b := 1) (by omega) sf.W sf hW (by omega) hd hw hv
        rw [hW0] at r3 r4
        have z1 : pnd [] = 0 := rfl
        have z2 : bnr [] = 0 := rfl
        exact ⟨by omega, by omega, r6, r7, trivial, trivial, trivial⟩
      have hlay := fun mi' (k9 : mi' 148 9 = zi e) (k4 : mi' 148 4 = zi p) (k2 : mi' 152 = mi 152) => m_133 (Ls := Ls) (g := g) (mi := mi') (mj := mj) he4 p1 hsf hnb k9 k4 (fun k hk => by rw [k2]; exact hP k hk)
      generalize cpl 1 sf.W sf = u at hc d1 d2 d3 d4 hlay
      obtain ⟨c1, c2, -⟩ := hc
      have hse := sp_e he4
      obtain ⟨mi2, s1, s2, s3, s4⟩ := m_74 (Ls := Ls) (g := g) (mi := mi1) (mj := mj) hse zSp23 (by omega)
      have f2 : ∀ a, ¬ a = 1 → (a < 8 + 3 * e ∨ 10 + 3 * e < a) → (a < 22 ∨ 26 < a) → zup mi2 1 1 (zi 0) a = mi a := fun a h1 h2 h3 => by rw [zup_ne h1, s4 a (by omega), r2 a h3]
      obtain ⟨mi3, t1, t2⟩ := r3 (zup mi2 1 1 (zi 0)) mj g (by rw [f2 148 (by omega) (by omega) (by omega)]; exact p3) (f2 152 (by omega) (by omega) (by omega))
      have e152 : zup mi3 148 9 (zi e) 152 = mi 152 := by rw [zup_ne (by omega), t2.1 152 (by omega) (by omega), f2 152 (by omega) (by omega) (by omega)]
      obtain ⟨mi4, v1, ⟨w1, w2, w3, -⟩, v3⟩ := hlay (zup mi3 148 9 (zi e)) zg_s (by rw [zg_j (by omega), t2.2 4 (by omega), f2 148 (by omega) (by omega) (by omega)]; exact p3) e152
      have f5 : ∀ a, ¬ a = 1 → ¬ a = 148 → ¬ a = 149 → ¬ a = 153 → ¬ a = 154 → (a < 8 + 3 * e ∨ 10 + 3 * e < a) → (a < 22 ∨ 26 < a) → zup mi4 148 4 (zi 0) a = mi a := fun a h1 h2 h3 h4 h5 h6 h7 => by rw [zup_ne h2, v3.1 a h2 h3 h5, zup_ne h2, t2.1 a h2 h4, f2 a h1 h6 h7]
      have g5 : ∀ j, ¬ j = 4 → ¬ j = 6 → ¬ j = 8 → ¬ j = 9 → zup mi4 148 4 (zi 0) 148 j = mi 148 j := fun j h1 h2 h3 h4 => by rw [zg_j (by omega), v3.2.1 j h3, zg_j (by omega), t2.2 j h2, f2 148 (by omega) (by omega) (by omega)]
      have k5 : ∀ j, ¬ j = 9 + e → (j < 13 + 60 * e ∨ 73 + 60 * e ≤ j) → (j < 253 + 60 * e ∨ 313 + 60 * e ≤ j) → zup mi4 148 4 (zi 0) 149 j = mi 149 j := fun j h1 h2 h3 => by rw [zup_ne (by omega), v3.2.2 j h1 h2 h3, zup_ne (by omega), t2.1 149 (by omega) (by omega), f2 149 (by omega) (by omega) (by omega)]
      have l5 : ∀ a, 8 + 3 * e ≤ a → a ≤ 10 + 3 * e → zup mi4 148 4 (zi 0) a = mi2 a := fun a h1 h2 => by rw [zup_ne (by omega), v3.1 a (by omega) (by omega) (by omega), zup_ne (by omega), t2.1 a (by omega) (by omega), zup_ne (by omega)]
      have l1 : ∀ j, ¬ j = 1 → zup mi4 148 4 (zi 0) 1 j = mi 1 j := fun j h1 => by rw [zup_ne (by omega), v3.1 1 (by omega) (by omega) (by omega), zup_ne (by omega), t2.1 1 (by omega) (by omega), zg_j (by omega), s4 1 (by omega), r2 1 (by omega)]
      refine ⟨.int (zi u.n), zup mi2 1 1 (zi 0), mj, g, zup mi4 148 4 (zi 0), mj, ?_, ?_, ?_, Or.inl ⟨_, rfl⟩⟩
      · have e23 : mi2 23 2 = zi u.n := by rw [s4 23 (by omega)]; exact c1
        simp (disch := (first | with_reducible exact is_1 | with_reducible exact zi_at is_1 (by omega) (by omega) | with_reducible exact is_3 | with_reducible exact zi_at is_3 (by omega) (by omega) | with_reducible exact is_7 | with_reducible exact zi_at is_7 (by omega) (by omega) | with_reducible exact is_22 | with_reducible exact zi_at is_22 (by omega) (by omega) | with_reducible exact is_23 | with_reducible exact zi_at is_23 (by omega) (by omega) | with_reducible exact (zSp_is hse) | with_reducible exact zi_at (zSp_is hse) (by omega) (by omega) | ((with_reducible refine zct_le ?_) <;> exact Nat.le_of_ble_eq_true rfl) | with_reducible exact zh_0 | with_reducible exact zh_1 | with_reducible exact zh_b | omega)) only [e_85, q_85_0, q_85_1, q_85_4, q_85_5, q_85_6, q_85_9, q_85_10, q_85_11r, q_85_11n, q_85_12, q_85_15r, q_85_15n, q_85_16, q_85_19r, q_85_19n, q_85_20, q_85_23, q_85_26, q_85_28, q_85_31, q_85_33, q_85_34r, q_85_34n, q_85_35, q_85_38, q_85_41, q_85_42t7, q_85_42t10, q_85_42t11, q_85_43r, q_85_43n, q_85_44, q_85_47, q_85_50, q_85_53r, q_85_53n, q_85_54, q_85_55, q_85_58r, q_85_58n, q_85_59, q_85_62, q_85_65, q_85_68, vf_s, vf_n, zk2_none, zk2_int, zk2_ref, zk2_null, zk2_long, zct_nil, zct_i, zct_l, zct_r, zct_n, Option.bind_some, Option.toList_some, Option.toList_none, List.cons_append, List.nil_append, zor_l, zor_r, if_true, if_false, ↓reduceIte, zi_lit, zi_of, zi_add, zi_mul, zi_sub, zi_nat, zi_leT, zi_leF, zi_ltT, zi_ltF, zi_eqT, zi_eqF, zif_0z, zif_bz, zi_01l, zi_01r, not_true_eq_false, not_false_eq_true, Nat.reduceAdd, Nat.reduceMul, Nat.reduceSub, zg_s, zg_o, zg_j, zg_r, zg_ro, zg_d, yfl_o, rf_1_5, rf_1_0, rf_1_2, rf_3_1, rf_7 he4, rf_22_0, p2, r1, s1, e23]
      · simp (disch := (first | with_reducible exact is_148 | with_reducible exact zi_at is_148 (by omega) (by omega) | with_reducible exact is_149 | with_reducible exact zi_at is_149 (by omega) (by omega) | ((with_reducible refine zct_le ?_) <;> exact Nat.le_of_ble_eq_true rfl) | with_reducible exact zh_0 | with_reducible exact zh_1 | with_reducible exact zh_b | omega)) only [e_134, q_134_0, q_134_1, q_134_2, q_134_3, q_134_6, q_134_9, q_134_10, q_134_11r, q_134_11n, q_134_12, q_134_15, q_134_17, q_134_20, q_134_22, q_134_23r, q_134_23n, q_134_24, q_134_25, q_134_28r, q_134_28n, q_134_29, q_134_32r, q_134_32n, q_134_33, q_134_34, q_134_37r, q_134_37n, q_134_38, q_134_41, q_134_43, q_134_44, q_134_45, q_134_46, vf_s, vf_n, zk2_none, zk2_int, zk2_ref, zk2_null, zk2_long, zct_nil, zct_i, zct_l, zct_r, zct_n, Option.bind_some, Option.toList_some, Option.toList_none, List.cons_append, List.nil_append, zor_l, zor_r, if_true, if_false, ↓reduceIte, zi_lit, zi_of, zi_add, zi_mul, zi_sub, zi_nat, zi_leT, zi_leF, zi_ltT, zi_ltF, zi_eqT, zi_eqF, zif_0z, zif_bz, zi_01l, zi_01r, not_true_eq_false, not_false_eq_true, Nat.reduceAdd, Nat.reduceMul, Nat.reduceSub, zg_s, zg_o, zg_j, zg_r, zg_ro, zg_d, yfl_o, m_111, and_self, rf_148_0, t1, v1, w2]
      · obtain ⟨g0, ⟨lo, hi, uu, NN, KK, VV, a1, a2, a3, a4, a5, a6⟩, hsl, -, hpf⟩ := h
        refine ⟨g0, ⟨lo, hi, uu, fun d => if d = e then u.n else NN d, fun d => if d = e then u.K else KK d, fun d => if d = e then (fun k => zi (u.V k)) else VV d, a1, a2, fun k hk => ?_, ?_, ?_, fun d hd => ?_⟩, fun s hs => ?_, ⟨0, by omega, ?_, zg_s, fun k hk => absurd hk (by omega)⟩, ?_⟩
        · rw [f5 (3 + 2) (by omega) (by omega) (by omega) (by omega) (by omega) (by omega) (by omega), f5 (3 + 3) (by omega) (by omega) (by omega) (by omega) (by omega) (by omega) (by omega), k5 (0 + k) (by omega) (by omega) (by omega), k5 (0 + 4 + k) (by omega) (by omega) (by omega)]
          exact a3 k hk
        · rw [f5 3 (by omega) (by omega) (by omega) (by omega) (by omega) (by omega) (by omega)]; exact a4
        · rw [k5 (0 + 8) (by omega) (by omega) (by omega)]; exact a5
        · show exRel (zup mi4 148 4 (zi 0)) 3 149 0 d (if d = e then u.n else NN d) (if d = e then u.K else KK d) (if d = e then (fun k => zi (u.V k)) else VV d)
          by_cases c : d = e
          · subst c
            rw [if_pos rfl, if_pos rfl, if_pos rfl]
            refine ⟨d1, ?_, ?_, fun k hk => ?_, fun _ => ⟨d3, fun k hk _ => ?_, d2⟩⟩
            · rw [l5 (3 + 5 + 3 * d) (by omega) (by omega), show 3 + 5 + 3 * d = 8 + 3 * d by omega, s2]; exact c1
            · rw [zup_ne (by omega), show 0 + 9 + d = 9 + d by omega]; exact w2
            · obtain ⟨y1, y2⟩ := s3 k (by omega)
              obtain ⟨y3, y4⟩ := c2 k hk
              obtain ⟨y5, y6⟩ := w3 k hk
              rw [l5 (3 + 6 + 3 * d) (by omega) (by omega), l5 (3 + 7 + 3 * d) (by omega) (by omega), zup_ne (by omega), show 3 + 6 + 3 * d = 8 + 3 * d + 1 by omega, show 3 + 7 + 3 * d = 8 + 3 * d + 2 by omega, y1, y2, y3, y4, show 0 + 13 + 60 * d + k = 13 + 60 * d + k by omega, show 0 + 253 + 60 * d + k = 253 + 60 * d + k by omega, y5, y6]
              exact ⟨rfl, rfl, rfl, rfl⟩
            · have := d4 k hk
              show 0 ≤ (zi (u.V k)).toInt ∧ (zi (u.V k)).toInt ≤ 99999
              rw [zi_toInt (by omega)]; omega
          · rw [if_neg c, if_neg c, if_neg c]
            obtain ⟨b1, b2, b3, b4, b5⟩ := a6 d hd
            refine ⟨b1, ?_, ?_, fun k hk => ?_, b5⟩
            · rw [f5 (3 + 5 + 3 * d) (by omega) (by omega) (by omega) (by omega) (by omega) (by omega) (by omega)]; exact b2
            · rw [k5 (0 + 9 + d) (by omega) (by omega) (by omega)]; exact b3
            · rw [f5 (3 + 6 + 3 * d) (by omega) (by omega) (by omega) (by omega) (by omega) (by omega) (by omega), f5 (3 + 7 + 3 * d) (by omega) (by omega) (by omega) (by omega) (by omega) (by omega) (by omega), k5 (0 + 13 + 60 * d + k) (by omega) (by omega) (by omega), k5 (0 + 253 + 60 * d + k) (by omega) (by omega) (by omega)]
              exact b4 k hk
        · obtain ⟨q1, q2⟩ := hsl s hs
          refine ⟨by rw [f5 21 (by omega) (by omega) (by omega) (by omega) (by omega) (by omega) (by omega), f5 151 (by omega) (by omega) (by omega) (by omega) (by omega) (by omega) (by omega)]; exact q1, ?_⟩
          rw [f5 21 (by omega) (by omega) (by omega) (by omega) (by omega) (by omega) (by omega)]
          rcases q2 with q2 | ⟨q2, lo, hi, u, NN, KK, VV, q3⟩
          · exact Or.inl q2
          · exact Or.inr ⟨q2, lo, hi, u, NN, KK, VV, q3.fr (fun a _ _ => f5 a (by omega) (by omega) (by omega) (by omega) (by omega) (by omega) (by omega)) (f5 150 (by omega) (by omega) (by omega) (by omega) (by omega) (by omega) (by omega))⟩
        · rw [zup_ne (by omega), v3.1 1 (by omega) (by omega) (by omega), zup_ne (by omega), t2.1 1 (by omega) (by omega), zg_s]
        · unfold prfRel
          rw [l1 9 (by omega), g5 25 (by omega) (by omega) (by omega) (by omega), f5 103 (by omega) (by omega) (by omega) (by omega) (by omega) (by omega) (by omega), f5 104 (by omega) (by omega) (by omega) (by omega) (by omega) (by omega) (by omega)]
          exact hpf
  · refine cok.same (v := .int (-zi 1)) h ?_ ?_ (Or.inl ⟨_, rfl⟩)
    · rcases hy with hy | hy
      · simp (disch := (first | with_reducible exact is_1 | with_reducible exact zi_at is_1 (by omega) (by omega) | ((with_reducible refine zct_le ?_) <;> exact Nat.le_of_ble_eq_true rfl) | with_reducible exact zh_0 | with_reducible exact zh_1 | with_reducible exact zh_b | omega)) only [e_85, q_85_0, q_85_1, q_85_4, q_85_5, q_85_6, q_85_9, q_85_10, q_85_11r, q_85_11n, q_85_12, q_85_15r, q_85_15n, q_85_16, q_85_19r, q_85_19n, q_85_20, q_85_23, q_85_26, q_85_28, q_85_31, q_85_33, q_85_34r, q_85_34n, q_85_35, q_85_38, q_85_41, q_85_42t7, q_85_42t10, q_85_42t11, q_85_43r, q_85_43n, q_85_44, q_85_47, q_85_50, q_85_53r, q_85_53n, q_85_54, q_85_55, q_85_58r, q_85_58n, q_85_59, q_85_62, q_85_65, q_85_68, vf_s, vf_n, zk2_none, zk2_int, zk2_ref, zk2_null, zk2_long, zct_nil, zct_i, zct_l, zct_r, zct_n, Option.bind_some, Option.toList_some, Option.toList_none, List.cons_append, List.nil_append, zor_l, zor_r, if_true, if_false, ↓reduceIte, zi_lit, zi_of, zi_add, zi_mul, zi_sub, zi_nat, zi_leT, zi_leF, zi_ltT, zi_ltF, zi_eqT, zi_eqF, zif_0z, zif_bz, zi_01l, zi_01r, not_true_eq_false, not_false_eq_true, Nat.reduceAdd, Nat.reduceMul, Nat.reduceSub, xz_ltT, xz_ltF, zx_ltT, zx_ltF, xz_leT, xz_leF, zx_leT, zx_leF, xz_eqF, and_true, true_and, and_false, false_and, and_self]
      · simp (disch := (first | with_reducible exact is_1 | with_reducible exact zi_at is_1 (by omega) (by omega) | ((with_reducible refine zct_le ?_) <;> exact Nat.le_of_ble_eq_true rfl) | with_reducible exact zh_0 | with_reducible exact zh_1 | with_reducible exact zh_b | omega)) only [e_85, q_85_0, q_85_1, q_85_4, q_85_5, q_85_6, q_85_9, q_85_10, q_85_11r, q_85_11n, q_85_12, q_85_15r, q_85_15n, q_85_16, q_85_19r, q_85_19n, q_85_20, q_85_23, q_85_26, q_85_28, q_85_31, q_85_33, q_85_34r, q_85_34n, q_85_35, q_85_38, q_85_41, q_85_42t7, q_85_42t10, q_85_42t11, q_85_43r, q_85_43n, q_85_44, q_85_47, q_85_50, q_85_53r, q_85_53n, q_85_54, q_85_55, q_85_58r, q_85_58n, q_85_59, q_85_62, q_85_65, q_85_68, vf_s, vf_n, zk2_none, zk2_int, zk2_ref, zk2_null, zk2_long, zct_nil, zct_i, zct_l, zct_r, zct_n, Option.bind_some, Option.toList_some, Option.toList_none, List.cons_append, List.nil_append, zor_l, zor_r, if_true, if_false, ↓reduceIte, zi_lit, zi_of, zi_add, zi_mul, zi_sub, zi_nat, zi_leT, zi_leF, zi_ltT, zi_ltF, zi_eqT, zi_eqF, zif_0z, zif_bz, zi_01l, zi_01r, not_true_eq_false, not_false_eq_true, Nat.reduceAdd, Nat.reduceMul, Nat.reduceSub, xz_ltT, xz_ltF, zx_ltT, zx_ltF, xz_leT, xz_leF, zx_leT, zx_leF, xz_eqF, and_true, true_and, and_false, false_and, and_self]
    · rcases hy with hy | hy
      · simp (disch := (first | with_reducible exact is_148 | with_reducible exact zi_at is_148 (by omega) (by omega) | ((with_reducible refine zct_le ?_) <;> exact Nat.le_of_ble_eq_true rfl) | with_reducible exact zh_0 | with_reducible exact zh_1 | with_reducible exact zh_b | omega)) only [e_134, q_134_0, q_134_1, q_134_2, q_134_3, q_134_6, q_134_9, q_134_10, q_134_11r, q_134_11n, q_134_12, q_134_15, q_134_17, q_134_20, q_134_22, q_134_23r, q_134_23n, q_134_24, q_134_25, q_134_28r, q_134_28n, q_134_29, q_134_32r, q_134_32n, q_134_33, q_134_34, q_134_37r, q_134_37n, q_134_38, q_134_41, q_134_43, q_134_44, q_134_45, q_134_46, vf_s, vf_n, zk2_none, zk2_int, zk2_ref, zk2_null, zk2_long, zct_nil, zct_i, zct_l, zct_r, zct_n, Option.bind_some, Option.toList_some, Option.toList_none, List.cons_append, List.nil_append, zor_l, zor_r, if_true, if_false, ↓reduceIte, zi_lit, zi_of, zi_add, zi_mul, zi_sub, zi_nat, zi_leT, zi_leF, zi_ltT, zi_ltF, zi_eqT, zi_eqF, zif_0z, zif_bz, zi_01l, zi_01r, not_true_eq_false, not_false_eq_true, Nat.reduceAdd, Nat.reduceMul, Nat.reduceSub, xz_ltT, xz_ltF, zx_ltT, zx_ltF, xz_leT, xz_leF, zx_leT, zx_leF, xz_eqF, and_true, true_and, and_false, false_and, and_self, m_111]
      · simp (disch := (first | with_reducible exact is_148 | with_reducible exact zi_at is_148 (by omega) (by omega) | ((with_reducible refine zct_le ?_) <;> exact Nat.le_of_ble_eq_true rfl) | with_reducible exact zh_0 | with_reducible exact zh_1 | with_reducible exact zh_b | omega)) only [e_134, q_134_0, q_134_1, q_134_2, q_134_3, q_134_6, q_134_9, q_134_10, q_134_11r, q_134_11n, q_134_12, q_134_15, q_134_17, q_134_20, q_134_22, q_134_23r, q_134_23n, q_134_24, q_134_25, q_134_28r, q_134_28n, q_134_29, q_134_32r, q_134_32n, q_134_33, q_134_34, q_134_37r, q_134_37n, q_134_38, q_134_41, q_134_43, q_134_44, q_134_45, q_134_46, vf_s, vf_n, zk2_none, zk2_int, zk2_ref, zk2_null, zk2_long, zct_nil, zct_i, zct_l, zct_r, zct_n, Option.bind_some, Option.toList_some, Option.toList_none, List.cons_append, List.nil_append, zor_l, zor_r, if_true, if_false, ↓reduceIte, zi_lit, zi_of, zi_add, zi_mul, zi_sub, zi_nat, zi_leT, zi_leF, zi_ltT, zi_ltF, zi_eqT, zi_eqF, zif_0z, zif_bz, zi_01l, zi_01r, not_true_eq_false, not_false_eq_true, Nat.reduceAdd, Nat.reduceMul, Nat.reduceSub, xz_ltT, xz_ltF, zx_ltT, zx_ltF, xz_leT, xz_leF, zx_leT, zx_leF, xz_eqF, and_true, true_and, and_false, false_and, and_self, m_111]
end
