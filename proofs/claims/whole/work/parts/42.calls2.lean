/-! ===== calls (2): evaluations over the box ===== -/
theorem gone1 : (-1000000000000000000 + (-zi 1).toInt64 : Int64) = -1000000000000000001 := by decide
theorem gone2 : (-1000000000000000000 + (-zi 2).toInt64 : Int64) = -1000000000000000002 := by decide
theorem gone5 : (-1000000000000000000 + (-zi 5).toInt64 : Int64) = -1000000000000000005 := by decide
theorem gone6 : (-1000000000000000000 + (-zi 6).toInt64 : Int64) = -1000000000000000006 := by decide
theorem dep_top {K : Nat → Nat} {V : Nat → Int32} {n : Nat} {lo hi : Nat → Int32} {u : Nat} (h : dep K n = 1) : topE lo hi u K V n = stk lo hi u K V n 0 := by unfold topE; rw [h]
section
variable {Ls : Nat} {g : Nat → Nat} {mi mi' : zI} {mj : zJ} {x y z : Int32} {a b e n p q k c m u : Nat} {v w : Value} {lo hi lo' hi' : Nat → Int32} {NN : Nat → Nat} {KK : Nat → Nat → Nat} {VV : Nat → Nat → Int32} {T : En} {o : Nat}
theorem m_109i (ha : a ≤ 1) : zCall 109 [.int (zi a)] (SH Ls) mi mj (RF g) = some (some (.int (zi 1)), SH Ls, mi, mj, RF g) := by
  rw [m_109]
  rcases (show a = 0 ∨ a = 1 by omega) with rfl | rfl <;> simp
theorem m_109x (h : x.toInt < 0 ∨ 1 < x.toInt) : zCall 109 [.int x] (SH Ls) mi mj (RF g) = some (some (.int (zi 0)), SH Ls, mi, mj, RF g) := by
  rw [m_109, if_neg]
  rintro (q | q)
  · rw [q] at h; revert h; decide
  · rw [q] at h; revert h; decide
theorem m_114i (ha : a ≤ 1) : zCall 114 [.int (zi a)] (SH Ls) mi mj (RF g) = some (some (.int (zi 1)), SH Ls, mi, mj, RF g) := by
  rw [m_114]
  rcases (show a = 0 ∨ a = 1 by omega) with rfl | rfl <;> simp <;> decide
theorem m_114x (h : x.toInt < 0 ∨ 1 < x.toInt) : zCall 114 [.int x] (SH Ls) mi mj (RF g) = some (some (.int (zi 0)), SH Ls, mi, mj, RF g) := by
  rw [m_114]
  rcases h with h | h
  · simp (disch := omega) only [xz_ltT, xz_ltF, zx_ltT, zx_ltF, xz_leT, xz_leF, zx_leT, zx_leF, xz_eqF, and_true, true_and, and_false, false_and, and_self, if_false]
  · simp (disch := omega) only [xz_ltT, xz_ltF, zx_ltT, zx_ltF, xz_leT, xz_leF, zx_leT, zx_leF, xz_eqF, and_true, true_and, and_false, false_and, and_self, if_false]
theorem ce_ev (hs : stRel mi 3 149 0 lo hi u NN KK VV) (hg : gOk g) (he : e < 4) (hn : 0 < NN e) (hm1 : 1 ≤ m) (hm : m ≤ NN e) (hb : zBx b) (hlo : ∀ k, k < 4 → mi (b + 1) k = lo' k) (hhi : ∀ k, k < 4 → mi (b + 2) k = hi' k) (hbx : boxIn lo' hi') :
    ∃ mi1 mj1 g1 o', zCall 45 [.ref 27, .ref (8 + 3 * e), .int (zi m), .ref b, .int (zi u)] (SH Ls) mi mj (RF g) = some (some (.ref o'), SH Ls, mi1, mj1, RF g1) ∧ gOk g1 ∧ zFm o' ∧ cE mi1 mj1 o' (topE lo' hi' u (KK e) (VV e) m) ∧ FrE mi mj mi1 mj1 := by
  obtain ⟨s1, s2, s3, s4, s5, s6⟩ := hs
  obtain ⟨b1, b2, b3, b4, b5⟩ := s6 e he
  obtain ⟨w1, w2, w3⟩ := b5 hn
  have hw := w1.wf.le hm
  have hv : valIn (KK e) (VV e) m := fun k hk => w2 k (by omega)
  have hO := exOk_of (u := u) hbx s2 hw hv
  have hd1 : 1 ≤ dep (KK e) m := by
    obtain ⟨j, rfl⟩ : ∃ j, m = j + 1 := ⟨m - 1, by omega⟩
    exact dep_1
  obtain ⟨mi1, mj1, g1, r1, r2, r3⟩ := m_45 (Ls := Ls) (mj := mj) (sp_e he) hm b1 hg ⟨s2, hb, hlo, hhi, hw, hO.2.2⟩ (by rw [show 8 + 3 * e = 3 + 5 + 3 * e by omega]; exact b2) (fun k hk => by rw [show 8 + 3 * e + 1 = 3 + 6 + 3 * e by omega]; exact (b4 k (by omega)).1) (fun k hk => by rw [show 8 + 3 * e + 2 = 3 + 7 + 3 * e by omega]; exact (b4 k (by omega)).2.1) hd1
  have hl := dep_le hw
  exact ⟨mi1, mj1, g1, _, r1, r2.1, (r2.1 _ (by omega)).1, r2.2.1 _ (by omega), r3⟩
theorem me_rel (hs : stRel mi 3 149 0 lo hi u NN KK VV) (he : e < 4) : mEx mi e (NN e) (KK e) (VV e) := by
  obtain ⟨s1, s2, s3, s4, s5, s6⟩ := hs
  obtain ⟨b1, b2, b3, b4, b5⟩ := s6 e he
  rw [Nat.zero_add] at b3
  exact ⟨b3, b1, fun k hk => by have := (b4 k hk).2.2.1; rwa [Nat.zero_add] at this, fun k hk => by have := (b4 k hk).2.2.2; rwa [Nat.zero_add] at this⟩
theorem me_do (hs : stRel mi 3 149 0 lo hi u NN KK VV) : mDo mi lo hi u := by
  obtain ⟨s1, s2, s3, s4, s5, s6⟩ := hs
  rw [Nat.zero_add] at s5
  exact ⟨s5, s2, fun k hk => by have := (s3 k hk).2.2.1; rwa [Nat.zero_add] at this, fun k hk => by have := (s3 k hk).2.2.2; rwa [Nat.zero_add] at this, s1⟩
theorem mrB_top {lo hi V : Nat → Int32} {K : Nat → Nat} (h : mrB mi mj lo hi u K V n) (hd : dep K n = 1) : mE mj 0 (topE lo hi u K V n) ∧ mi 148 12 = (topE lo hi u K V n).1 := by
  obtain ⟨h1, h2, h3, h4⟩ := h
  rw [dep_top hd]
  rw [hd] at h2 h3
  refine ⟨h3 0 (by omega), ?_⟩
  rw [h2, fw, fw, if_pos rfl]
theorem me_ev (hs : stRel mi 3 149 0 lo hi u NN KK VV) (he : e < 4) (hn : 0 < NN e) :
    ∃ mi1 mj1, zCall 171 [.ref 148, .int (zi e)] (SH Ls) mi mj (RF g) = some (none, SH Ls, mi1, mj1, RF g) ∧ mE mj1 0 (topE lo hi u (KK e) (VV e) (NN e)) ∧ mi1 148 12 = (topE lo hi u (KK e) (VV e) (NN e)).1 ∧ (∀ j, j < NN e → trA mi1 mj1 j (topE lo hi u (KK e) (VV e) (j + 1))) ∧ FrV mi mj mi1 mj1 := by
  obtain ⟨w1, w2, w3⟩ := (hs.2.2.2.2.2 e he).2.2.2.2 hn
  obtain ⟨mi1, mj1, r1, r2, r3⟩ := m_171 (Ls := Ls) (g := g) (mj := mj) rec_ok he (me_rel hs he) (me_do hs) (exOk_of hs.1 hs.2.1 w1.wf w2)
  have := mrB_top r2 w3
  exact ⟨mi1, mj1, r1, this.1, this.2, r2.2.2.2, r3⟩
theorem stRel.sc {mj' : zJ} (hs : stRel mi 3 149 0 lo hi u NN KK VV) (hf : FrD mi mj mi' mj') : stRel mi' 3 149 0 lo hi u NN KK VV := hs.fr (fun a _ _ => hf.1 a (by omega)) (hf.1 149 (by omega))
/-- an evaluation in both -/
theorem both_ev (h : INV mi mj g) (hs : stRel mi 3 149 0 lo hi u NN KK VV) (he : e < 4) (hn : 0 < NN e) :
    ∃ mi1 mj1 g1 o mi2 mj2, zCall 45 [.ref 27, .ref (8 + 3 * e), .int (zi (NN e)), .ref 4, .int (zi u)] (SH Ls) mi mj (RF g) = some (some (.ref o), SH Ls, mi1, mj1, RF g1) ∧ zFm o ∧ cE mi1 mj1 o (topE lo hi u (KK e) (VV e) (NN e)) ∧ (∀ j, j < 4 → mi1 149 (9 + j) = mi 149 (9 + j)) ∧
      zCall 171 [.ref 148, .int (zi e)] (SH Ls) mi1 mj1 (RF g1) = some (none, SH Ls, mi2, mj2, RF g1) ∧ mE mj2 0 (topE lo hi u (KK e) (VV e) (NN e)) ∧ mi2 148 12 = (topE lo hi u (KK e) (VV e) (NN e)).1 ∧ INV mi2 mj2 g1 := by
  obtain ⟨mi1, mj1, g1, o, r1, r2, r3, r4, r5⟩ := ce_ev (Ls := Ls) (mj := mj) hs h.1 he hn (Nat.succ_le_of_lt hn) (Nat.le_refl _) bx4 (fun k hk => (hs.2.2.1 k hk).1) (fun k hk => (hs.2.2.1 k hk).2.1) hs.1
  have h1 := h.fr r5.d r2
  obtain ⟨mi2, mj2, q1, q2, q3, q4, q5⟩ := me_ev (Ls := Ls) (g := g1) (mj := mj1) (hs.sc r5.d) he hn
  exact ⟨mi1, mj1, g1, o, mi2, mj2, r1, r3, r4, fun j _ => by rw [r5.1 149 (by omega)], q1, q2, q3, h1.fr q5.d r2⟩
/-- an expression's number: there is one, or both say no -/
theorem ex_cases (h : INV mi mj g) (x : Int32) : (∃ lo hi u NN KK VV e, stRel mi 3 149 0 lo hi u NN KK VV ∧ e < 4 ∧ x = zi e ∧ 0 < NN e) ∨ ((∀ mj', zCall 103 [.ref 1, .int x] (SH Ls) mi mj' (RF g) = some (some .null, SH Ls, mi, mj', RF g)) ∧ ∀ mj', zCall 113 [.ref 148, .int x] (SH Ls) mi mj' (RF g) = some (some (.int (zi 0)), SH Ls, mi, mj', RF g)) := by
  rcases arg3 x 3 (by omega) with ⟨e, he, rfl⟩ | hx
  · obtain ⟨lo, hi, u, NN, KK, VV, hs⟩ := h.2.1
    have he : e < 4 := by omega
    obtain ⟨b1, b2, b3, b4, b5⟩ := hs.2.2.2.2.2 e he
    rw [Nat.zero_add] at b3
    by_cases c : 0 < NN e
    · exact Or.inl ⟨lo, hi, u, NN, KK, VV, e, hs, he, rfl, c⟩
    · have c0 : NN e = 0 := by omega
      refine Or.inr ⟨fun mj' => ?_, fun mj' => ?_⟩
      · rw [m_103 he (by rw [show 8 + 3 * e = 3 + 5 + 3 * e by omega]; exact b2) b1, if_pos c0]
      · rw [m_113 he b3 b1, if_pos c0]
  · exact Or.inr ⟨fun _ => m_103x hx, fun _ => m_113x hx⟩
theorem ex_yes (hs : stRel mi 3 149 0 lo hi u NN KK VV) (he : e < 4) (hn : 0 < NN e) : (∀ mj', zCall 103 [.ref 1, .int (zi e)] (SH Ls) mi mj' (RF g) = some (some (.ref (8 + 3 * e)), SH Ls, mi, mj', RF g)) ∧ (∀ mj', zCall 113 [.ref 148, .int (zi e)] (SH Ls) mi mj' (RF g) = some (some (.int (zi 1)), SH Ls, mi, mj', RF g)) ∧ mi (8 + 3 * e) 2 = zi (NN e) ∧ NN e ≤ 60 ∧ mi 3 2 = zi u ∧ mi 149 (9 + e) = zi (NN e) := by
  obtain ⟨b1, b2, b3, b4, b5⟩ := hs.2.2.2.2.2 e he
  rw [Nat.zero_add] at b3
  have b2' : mi (8 + 3 * e) 2 = zi (NN e) := by rw [show 8 + 3 * e = 3 + 5 + 3 * e by omega]; exact b2
  refine ⟨fun mj' => ?_, fun mj' => ?_, b2', b1, hs.2.2.2.1, b3⟩
  · rw [m_103 he b2' b1, if_neg (by omega)]
  · rw [m_113 he b3 b1, if_neg (by omega)]
theorem c_88 (h : INV mi mj g) : cok Ls 88 172 [.int x] mi mj g := by
  rcases ex_cases (Ls := Ls) h x with ⟨lo, hi, u, NN, KK, VV, e, hs, he, rfl, hn⟩ | ⟨n1, n2⟩
  · have hsp := sp_e he
    obtain ⟨e1, e2, e3, e4, e5, e6⟩ := ex_yes (Ls := Ls) (g := g) hs he hn
    obtain ⟨mi1, mj1, g1, o, mi2, mj2, r1, r2, r3, r4, r5, r6, r7, r8⟩ := both_ev (Ls := Ls) h hs he hn
    generalize topE lo hi u (KK e) (VV e) (NN e) = T at r3 r6 r7
    have m113 := m_113 (Ls := Ls) (g := g1) (mj := mj1) (mi := mi1) he (by rw [r4 e he, e6]) e4
    rw [if_neg (by omega)] at m113
    have m141 := m_141e (Ls := Ls) (g := g1) (mi := mi2) (f := 0) (by omega) r6
    refine ⟨.int T.1, mi1, mj1, g1, mi2, mj2, ?_, ?_, r8, Or.inl ⟨_, rfl⟩⟩
    · simp (disch := (first | with_reducible exact is_1 | with_reducible exact zi_at is_1 (by omega) (by omega) | with_reducible exact is_3 | with_reducible exact zi_at is_3 (by omega) (by omega) | with_reducible exact is_27 | with_reducible exact zi_at is_27 (by omega) (by omega) | with_reducible exact (zSp_is hsp) | with_reducible exact zi_at (zSp_is hsp) (by omega) (by omega) | with_reducible exact (zFm_is r2) | with_reducible exact zi_at (zFm_is r2) (by omega) (by omega) | ((with_reducible refine zct_le ?_) <;> exact Nat.le_of_ble_eq_true rfl) | with_reducible exact zh_0 | with_reducible exact zh_1 | with_reducible exact zh_b | omega)) only [e_88, q_88_0r, q_88_0n, q_88_1, q_88_2, q_88_5r, q_88_5n, q_88_6r, q_88_6n, q_88_7n, q_88_7r, q_88_10, q_88_11, q_88_12r, q_88_12n, q_88_13, q_88_16r, q_88_16n, q_88_17r, q_88_17n, q_88_18, q_88_21r, q_88_21n, q_88_22, q_88_25, q_88_28r, q_88_28n, q_88_29, q_88_32, q_88_35, q_88_38, q_88_41, vf_s, vf_n, zk2_none, zk2_int, zk2_ref, zk2_null, zk2_long, zct_nil, zct_i, zct_l, zct_r, zct_n, Option.bind_some, Option.toList_some, Option.toList_none, List.cons_append, List.nil_append, zor_l, zor_r, if_true, if_false, ↓reduceIte, zi_lit, zi_of, zi_add, zi_mul, zi_sub, zi_nat, zi_leT, zi_leF, zi_ltT, zi_ltF, zi_eqT, zi_eqF, zif_0z, zif_bz, zi_01l, zi_01r, not_true_eq_false, not_false_eq_true, Nat.reduceAdd, Nat.reduceMul, Nat.reduceSub, rf_1_2, rf_1_6, rf_3_0, e1, e3, e5, r1, r3.1]
    · by_cases c : T.1 = zi 0
      · rw [if_pos c] at m141
        simp (disch := (first | with_reducible exact is_148 | with_reducible exact zi_at is_148 (by omega) (by omega) | ((with_reducible refine zct_le ?_) <;> exact Nat.le_of_ble_eq_true rfl) | with_reducible exact zh_0 | with_reducible exact zh_1 | with_reducible exact zh_b | omega)) only [e_172, q_172_0r, q_172_0n, q_172_1, q_172_2, q_172_5, q_172_8, q_172_9, q_172_10r, q_172_10n, q_172_11, q_172_12, q_172_15r, q_172_15n, q_172_16, q_172_17, q_172_20, q_172_23r, q_172_23n, q_172_24, q_172_27, q_172_30, q_172_31, vf_s, vf_n, zk2_none, zk2_int, zk2_ref, zk2_null, zk2_long, zct_nil, zct_i, zct_l, zct_r, zct_n, Option.bind_some, Option.toList_some, Option.toList_none, List.cons_append, List.nil_append, zor_l, zor_r, if_true, if_false, ↓reduceIte, zi_lit, zi_of, zi_add, zi_mul, zi_sub, zi_nat, zi_leT, zi_leF, zi_ltT, zi_ltF, zi_eqT, zi_eqF, zif_0z, zif_bz, zi_01l, zi_01r, not_true_eq_false, not_false_eq_true, Nat.reduceAdd, Nat.reduceMul, Nat.reduceSub, m113, r5, m141]
        rw [c]
      · rw [if_neg c] at m141
        simp (disch := (first | with_reducible exact is_148 | with_reducible exact zi_at is_148 (by omega) (by omega) | ((with_reducible refine zct_le ?_) <;> exact Nat.le_of_ble_eq_true rfl) | with_reducible exact zh_0 | with_reducible exact zh_1 | with_reducible exact zh_b | omega)) only [e_172, q_172_0r, q_172_0n, q_172_1, q_172_2, q_172_5, q_172_8, q_172_9, q_172_10r, q_172_10n, q_172_11, q_172_12, q_172_15r, q_172_15n, q_172_16, q_172_17, q_172_20, q_172_23r, q_172_23n, q_172_24, q_172_27, q_172_30, q_172_31, vf_s, vf_n, zk2_none, zk2_int, zk2_ref, zk2_null, zk2_long, zct_nil, zct_i, zct_l, zct_r, zct_n, Option.bind_some, Option.toList_some, Option.toList_none, List.cons_append, List.nil_append, zor_l, zor_r, if_true, if_false, ↓reduceIte, zi_lit, zi_of, zi_add, zi_mul, zi_sub, zi_nat, zi_leT, zi_leF, zi_ltT, zi_ltF, zi_eqT, zi_eqF, zif_0z, zif_bz, zi_01l, zi_01r, not_true_eq_false, not_false_eq_true, Nat.reduceAdd, Nat.reduceMul, Nat.reduceSub, m113, r5, m141, r7]
  · refine cok.same (v := .int (-zi 1)) h ?_ ?_ (Or.inl ⟨_, rfl⟩)
    · simp (disch := (first | with_reducible exact is_1 | with_reducible exact zi_at is_1 (by omega) (by omega) | ((with_reducible refine zct_le ?_) <;> exact Nat.le_of_ble_eq_true rfl) | with_reducible exact zh_0 | with_reducible exact zh_1 | with_reducible exact zh_b | omega)) only [e_88, q_88_0r, q_88_0n, q_88_1, q_88_2, q_88_5r, q_88_5n, q_88_6r, q_88_6n, q_88_7n, q_88_7r, q_88_10, q_88_11, q_88_12r, q_88_12n, q_88_13, q_88_16r, q_88_16n, q_88_17r, q_88_17n, q_88_18, q_88_21r, q_88_21n, q_88_22, q_88_25, q_88_28r, q_88_28n, q_88_29, q_88_32, q_88_35, q_88_38, q_88_41, vf_s, vf_n, zk2_none, zk2_int, zk2_ref, zk2_null, zk2_long, zct_nil, zct_i, zct_l, zct_r, zct_n, Option.bind_some, Option.toList_some, Option.toList_none, List.cons_append, List.nil_append, zor_l, zor_r, if_true, if_false, ↓reduceIte, zi_lit, zi_of, zi_add, zi_mul, zi_sub, zi_nat, zi_leT, zi_leF, zi_ltT, zi_ltF, zi_eqT, zi_eqF, zif_0z, zif_bz, zi_01l, zi_01r, not_true_eq_false, not_false_eq_true, Nat.reduceAdd, Nat.reduceMul, Nat.reduceSub, n1]
    · simp (disch := (first | with_reducible exact is_148 | with_reducible exact zi_at is_148 (by omega) (by omega) | ((with_reducible refine zct_le ?_) <;> exact Nat.le_of_ble_eq_true rfl) | with_reducible exact zh_0 | with_reducible exact zh_1 | with_reducible exact zh_b | omega)) only [e_172, q_172_0r, q_172_0n, q_172_1, q_172_2, q_172_5, q_172_8, q_172_9, q_172_10r, q_172_10n, q_172_11, q_172_12, q_172_15r, q_172_15n, q_172_16, q_172_17, q_172_20, q_172_23r, q_172_23n, q_172_24, q_172_27, q_172_30, q_172_31, vf_s, vf_n, zk2_none, zk2_int, zk2_ref, zk2_null, zk2_long, zct_nil, zct_i, zct_l, zct_r, zct_n, Option.bind_some, Option.toList_some, Option.toList_none, List.cons_append, List.nil_append, zor_l, zor_r, if_true, if_false, ↓reduceIte, zi_lit, zi_of, zi_add, zi_mul, zi_sub, zi_nat, zi_leT, zi_leF, zi_ltT, zi_ltF, zi_eqT, zi_eqF, zif_0z, zif_bz, zi_01l, zi_01r, not_true_eq_false, not_false_eq_true, Nat.reduceAdd, Nat.reduceMul, Nat.reduceSub, n2]
end
