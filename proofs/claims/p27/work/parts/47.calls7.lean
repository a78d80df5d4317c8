/-! ===== calls (7): copies of states ===== -/
section
variable {Ls : Nat} {g : Nat → Nat} {mi mi' : zI} {mj mj' : zJ} {x y z : Int32} {a b e n p q k c m u s b' c' m' : Nat} {v w : Value} {lo hi lo' hi' : Nat → Int32} {NN : Nat → Nat} {KK : Nat → Nat → Nat} {VV : Nat → Nat → Int32} {T : En} {o : Nat} {K : Nat → Nat}
/-- the rows of a state are those of another -/
def cpS (mi mi' : zI) (c c' : Nat) : Prop := (∀ k, k < 4 → mi' (c' + 2) k = mi (c + 2) k ∧ mi' (c' + 3) k = mi (c + 3) k) ∧ mi' c' 2 = mi c 2 ∧ ∀ e, e < 4 → mi' (c' + 5 + 3 * e) 2 = mi (c + 5 + 3 * e) 2 ∧ ∀ k, k < 60 → mi' (c' + 6 + 3 * e) k = mi (c + 6 + 3 * e) k ∧ mi' (c' + 7 + 3 * e) k = mi (c + 7 + 3 * e) k
theorem cpS.self (h : ∀ a, c ≤ a → a ≤ c + 16 → mi' a = mi a) : cpS mi mi' c c := ⟨fun k hk => by rw [h (c + 2) (by omega) (by omega), h (c + 3) (by omega) (by omega)]; exact ⟨rfl, rfl⟩, by rw [h c (by omega) (by omega)], fun e he => ⟨by rw [h (c + 5 + 3 * e) (by omega) (by omega)], fun k hk => by rw [h (c + 6 + 3 * e) (by omega) (by omega), h (c + 7 + 3 * e) (by omega) (by omega)]; exact ⟨rfl, rfl⟩⟩⟩
theorem stC.cp (h : stC mi c lo hi u NN KK VV) (h1 : cpS mi mi' c c') : stC mi' c' lo hi u NN KK VV := by
  obtain ⟨a1, a2, a3, a4, a6⟩ := h
  obtain ⟨f1, f2, f3⟩ := h1
  refine ⟨a1, a2, fun k hk => ?_, f2.trans a4, fun e he => ?_⟩
  · obtain ⟨g1, g2⟩ := f1 k hk
    rw [g1, g2]
    exact a3 k hk
  · obtain ⟨b1, b2, b4, b5⟩ := a6 e he
    obtain ⟨g1, g2⟩ := f3 e he
    refine ⟨b1, g1.trans b2, fun k hk => ?_, b5⟩
    obtain ⟨q1, q2⟩ := g2 k (by omega)
    rw [q1, q2]
    exact b4 k hk
theorem m_3 (ho : zBx o) (hq : zBx q) (hoq : o + 2 < q ∨ q + 2 < o) : ∃ mi2, zCall 3 [.ref o, .ref q] (SH Ls) mi mj (RF g) = some (none, SH Ls, mi2, mj, RF g) ∧ (∀ a, a < o + 1 ∨ o + 2 < a → mi2 a = mi a) ∧ (∀ j, j < 4 → mi2 (o + 1) j = mi (q + 1) j ∧ mi2 (o + 2) j = mi (q + 2) j) := by
  obtain ⟨mi2, r1, r2, r3⟩ := l_3 (Ls := Ls) (g := g) (mi := mi) (mj := mj) ho hq hoq 4 0 rfl mi (fun _ _ => rfl) (fun j hj => by omega)
  refine ⟨mi2, ?_, r2, r3⟩
  simp (disch := (first | ((with_reducible refine zct_le ?_) <;> exact Nat.le_of_ble_eq_true rfl) | with_reducible exact zh_0 | with_reducible exact zh_1 | with_reducible exact zh_b | omega)) only [e_3, q_3_0, q_3_1, vf_s, vf_n, zk2_none, zk2_int, zk2_ref, zk2_null, zk2_long, zct_nil, zct_i, zct_l, zct_r, zct_n, Option.bind_some, Option.toList_some, Option.toList_none, List.cons_append, List.nil_append, zor_l, zor_r, if_true, if_false, ↓reduceIte, zi_lit, zi_of, zi_add, zi_mul, zi_sub, zi_nat, zi_leT, zi_leF, zi_ltT, zi_ltF, zi_eqT, zi_eqF, zif_0z, zif_bz, zi_01l, zi_01r, not_true_eq_false, not_false_eq_true, Nat.reduceAdd, Nat.reduceMul, Nat.reduceSub]
  exact r1
theorem zSt_ie (h : zSt o) : zIs (SH Ls) (o + 4) 11 4 := by
  rcases h with rfl | rfl | rfl
  · exact is_7
  · exact is_118
  · exact is_135
theorem l_71 (ho : zSt o) (hq : zSt q) (hoq : o + 16 < q ∨ q + 16 < o) (n : Nat) : ∀ k, k + n = 4 → ∀ mi1 : zI, (∀ a, a < o + 5 ∨ o + 16 < a → mi1 a = mi a) → (∀ e, e < k → mi1 (o + 5 + 3 * e) 2 = mi (q + 5 + 3 * e) 2 ∧ ∀ k, k < 60 → mi1 (o + 6 + 3 * e) k = mi (q + 6 + 3 * e) k ∧ mi1 (o + 7 + 3 * e) k = mi (q + 7 + 3 * e) k) → ∃ mi2, zRun 71 21 [some (.ref o), some (.ref q), some (.int (zi k))] [] (SH Ls) mi1 mj (RF g) = some (none, SH Ls, mi2, mj, RF g) ∧ (∀ a, a < o + 5 ∨ o + 16 < a → mi2 a = mi a) ∧ (∀ e, e < 4 → mi2 (o + 5 + 3 * e) 2 = mi (q + 5 + 3 * e) 2 ∧ ∀ k, k < 60 → mi2 (o + 6 + 3 * e) k = mi (q + 6 + 3 * e) k ∧ mi2 (o + 7 + 3 * e) k = mi (q + 7 + 3 * e) k) := by
  induction n with
  | zero =>
    intro k hk mi1 h1 h2
    obtain rfl : k = 4 := by omega
    refine ⟨mi1, ?_, h1, h2⟩
    rw [q_71_21]
    simp (disch := (first | ((with_reducible refine zct_le ?_) <;> exact Nat.le_of_ble_eq_true rfl) | with_reducible exact zh_0 | with_reducible exact zh_1 | with_reducible exact zh_b | omega)) only [q_71_22, q_71_23, q_71_26r, q_71_26n, q_71_27, q_71_30, q_71_31t7, q_71_31t10, q_71_31t11, q_71_32r, q_71_32n, q_71_33, q_71_36, q_71_37t7, q_71_37t10, q_71_37t11, q_71_38, q_71_41, q_71_44, q_71_47, vf_s, vf_n, zk2_none, zk2_int, zk2_ref, zk2_null, zk2_long, zct_nil, zct_i, zct_l, zct_r, zct_n, Option.bind_some, Option.toList_some, Option.toList_none, List.cons_append, List.nil_append, zor_l, zor_r, if_true, if_false, ↓reduceIte, zi_lit, zi_of, zi_add, zi_mul, zi_sub, zi_nat, zi_leT, zi_leF, zi_ltT, zi_ltF, zi_eqT, zi_eqF, zif_0z, zif_bz, zi_01l, zi_01r, not_true_eq_false, not_false_eq_true, Nat.reduceAdd, Nat.reduceMul, Nat.reduceSub]
  | succ n ih =>
    intro k hk mi1 h1 h2
    have hk4 : k < 4 := by omega
    obtain ⟨mi2, r1, r2, r3, r4⟩ := m_74 (Ls := Ls) (g := g) (mi := mi1) (mj := mj) (zSt_sp ho hk4) (zSt_sp hq hk4) (by omega)
    obtain ⟨mi3, q1, q2, q3⟩ := ih (k + 1) (by omega) mi2 (fun a ha => by rw [r4 a (by omega), h1 a ha]) (fun e he => by
      by_cases c : e = k
      · subst c
        refine ⟨by rw [r2, h1 (q + 5 + 3 * e) (by omega)], fun j hj => ?_⟩
        have := r3 j hj
        rw [show o + 5 + 3 * e + 1 = o + 6 + 3 * e by omega, show o + 5 + 3 * e + 2 = o + 7 + 3 * e by omega, show q + 5 + 3 * e + 1 = q + 6 + 3 * e by omega, show q + 5 + 3 * e + 2 = q + 7 + 3 * e by omega, h1 (q + 6 + 3 * e) (by omega), h1 (q + 7 + 3 * e) (by omega)] at this
        exact this
      · rw [r4 (o + 5 + 3 * e) (by omega), r4 (o + 6 + 3 * e) (by omega), r4 (o + 7 + 3 * e) (by omega)]
        exact h2 e (by omega))
    refine ⟨mi3, ?_, q2, q3⟩
    have i1 := zSt_is (Ls := Ls) ho
    have i2 := zSt_is (Ls := Ls) hq
    have i3 := zSt_ie (Ls := Ls) ho
    have i4 := zSt_ie (Ls := Ls) hq
    have hso := zSt_sp ho hk4
    have hsq := zSt_sp hq hk4
    rw [q_71_21]
    simp (disch := (first | with_reducible exact i1 | with_reducible exact zi_at i1 (by omega) (by omega) | with_reducible exact i2 | with_reducible exact zi_at i2 (by omega) (by omega) | with_reducible exact i3 | with_reducible exact zi_at i3 (by omega) (by omega) | with_reducible exact i4 | with_reducible exact zi_at i4 (by omega) (by omega) | with_reducible exact (zSp_is hso) | with_reducible exact zi_at (zSp_is hso) (by omega) (by omega) | with_reducible exact (zSp_is hsq) | with_reducible exact zi_at (zSp_is hsq) (by omega) (by omega) | ((with_reducible refine zct_le ?_) <;> exact Nat.le_of_ble_eq_true rfl) | with_reducible exact zh_0 | with_reducible exact zh_1 | with_reducible exact zh_b | omega)) only [q_71_22, q_71_23, q_71_26r, q_71_26n, q_71_27, q_71_30, q_71_31t7, q_71_31t10, q_71_31t11, q_71_32r, q_71_32n, q_71_33, q_71_36, q_71_37t7, q_71_37t10, q_71_37t11, q_71_38, q_71_41, q_71_44, q_71_47, vf_s, vf_n, zk2_none, zk2_int, zk2_ref, zk2_null, zk2_long, zct_nil, zct_i, zct_l, zct_r, zct_n, Option.bind_some, Option.toList_some, Option.toList_none, List.cons_append, List.nil_append, zor_l, zor_r, if_true, if_false, ↓reduceIte, zi_lit, zi_of, zi_add, zi_mul, zi_sub, zi_nat, zi_leT, zi_leF, zi_ltT, zi_ltF, zi_eqT, zi_eqF, zif_0z, zif_bz, zi_01l, zi_01r, not_true_eq_false, not_false_eq_true, Nat.reduceAdd, Nat.reduceMul, Nat.reduceSub, zSt_r1 ho, zSt_r1 hq, zSt_re ho hk4, zSt_re hq hk4, r1]
    exact q1
theorem m_71 (ho : zSt o) (hq : zSt q) (hoq : ¬ o = q) : ∃ mi', zCall 71 [.ref o, .ref q] (SH Ls) mi mj (RF g) = some (none, SH Ls, mi', mj, RF g) ∧ cpS mi mi' q o ∧ ∀ a, a < o ∨ o + 16 < a → mi' a = mi a := by
  have hd : o + 16 < q ∨ q + 16 < o := by unfold zSt at ho hq; omega
  obtain ⟨mi1, r1, r2, r3⟩ := m_3 (Ls := Ls) (g := g) (mi := mi) (mj := mj) (zSt_bx ho) (zSt_bx hq) (by omega)
  obtain ⟨mi2, q1, q2, q3⟩ := l_71 (Ls := Ls) (g := g) (mi := zup mi1 o 2 (mi q 2)) (mj := mj) ho hq hd 4 0 rfl (zup mi1 o 2 (mi q 2)) (fun _ _ => rfl) (fun j hj => by omega)
  have i1 := zSt_is (Ls := Ls) ho
  have i2 := zSt_is (Ls := Ls) hq
  refine ⟨mi2, ?_, ⟨fun k hk => ?_, ?_, fun e he => ?_⟩, fun a ha => ?_⟩
  · have hbo := zSt_bx ho
    have hbq := zSt_bx hq
    simp (disch := (first | with_reducible exact i1 | with_reducible exact zi_at i1 (by omega) (by omega) | with_reducible exact i2 | with_reducible exact zi_at i2 (by omega) (by omega) | with_reducible exact (zBx_is hbo) | with_reducible exact zi_at (zBx_is hbo) (by omega) (by omega) | with_reducible exact (zBx_is hbq) | with_reducible exact zi_at (zBx_is hbq) (by omega) (by omega) | ((with_reducible refine zct_le ?_) <;> exact Nat.le_of_ble_eq_true rfl) | with_reducible exact zh_0 | with_reducible exact zh_1 | with_reducible exact zh_b | omega)) only [e_71, q_71_0r, q_71_0n, q_71_1, q_71_4r, q_71_4n, q_71_5, q_71_8, q_71_11r, q_71_11n, q_71_12r, q_71_12n, q_71_13, q_71_16, q_71_19, q_71_20, vf_s, vf_n, zk2_none, zk2_int, zk2_ref, zk2_null, zk2_long, zct_nil, zct_i, zct_l, zct_r, zct_n, Option.bind_some, Option.toList_some, Option.toList_none, List.cons_append, List.nil_append, zor_l, zor_r, if_true, if_false, ↓reduceIte, zi_lit, zi_of, zi_add, zi_mul, zi_sub, zi_nat, zi_leT, zi_leF, zi_ltT, zi_ltF, zi_eqT, zi_eqF, zif_0z, zif_bz, zi_01l, zi_01r, not_true_eq_false, not_false_eq_true, Nat.reduceAdd, Nat.reduceMul, Nat.reduceSub, zSt_r0 ho, zSt_r0 hq, r1, r2 q (by omega)]
    exact q1
  · rw [q2 (o + 2) (by omega), q2 (o + 3) (by omega), zup_ne (by omega), zup_ne (by omega)]
    exact r3 k hk
  · rw [q2 o (by omega), zg_s]
  · obtain ⟨g1, g2⟩ := q3 e he
    rw [zup_ne (by omega), r2 _ (by omega)] at g1
    refine ⟨g1, fun k hk => ?_⟩
    have := g2 k hk
    rw [zup_ne (by omega), zup_ne (by omega), r2 _ (by omega), r2 _ (by omega)] at this
    exact this
  · rw [q2 a (by omega), zup_ne (by omega), r2 a (by omega)]
end
