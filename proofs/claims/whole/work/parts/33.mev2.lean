/-! ===== the model: evaluations (2) ===== -/
theorem mE.same {mj mj' : zJ} {f : Nat} {e : En} (hE : mE mj f e) (h : mj' 155 = mj 155) : mE mj' f e := by
  unfold mE mOk mWi rf
  rw [h]
  exact hE
theorem mS_push {mj mj' : zJ} {E : Nat → En} {x : Nat} {e : En} (hS : mS mj x E) (h : mE mj' x e) (fr : FrR x mj mj') : mS mj' (x + 1) (stP E x e) := by
  intro i hi
  unfold stP
  by_cases c : i = x
  · subst c; rw [if_pos rfl]; exact h
  · rw [if_neg c]; exact (hS i (by omega)).fr (by omega) fr
theorem mrA.fr {mi mi' : zI} {lo hi V : Nat → Int32} {u n : Nat} {K : Nat → Nat} (h : mrA mi lo hi u K V n) (h1 : ∀ a, ¬ a = 148 → ¬ a = 162 → mi' a = mi a) (h2 : ∀ j, ¬ j = 11 → ¬ j = 12 → mi' 148 j = mi 148 j) : mrA mi' lo hi u K V n := by
  unfold mrA
  rw [h1 149 (by omega) (by omega), h1 158 (by omega) (by omega), h1 159 (by omega) (by omega), h1 156 (by omega) (by omega), h1 157 (by omega) (by omega), h2 15 (by omega) (by omega)]
  exact h
def recOk : Prop := ∀ Y : FF, fOk Y → ¬ (flow Y ≤ 0 ∧ 0 ≤ fhigh Y) → fBd (fRec (flow Y) (fhigh Y))
section
variable {Ls : Nat} {g : Nat → Nat} {mi : zI} {mj : zJ} {i1 i2 : Int32} {f o p q k n d s b x y u r N : Nat} {v w r0 : Int64} {Z : Option zRes} {F G X Y : FF} {e e1 e2 : En} {E : Nat → En} {lo hi V : Nat → Int32} {K : Nat → Nat} {vv : Int32}
theorem stE_lt (h : n < 5) (hg : gdE (mkE lo hi n vv d E)) : stE lo hi u n vv d E = stP E d (mkE lo hi n vv d E) := by
  unfold stE
  have ho : opn n = 0 := by unfold opn; rw [if_pos h]
  rw [if_neg (fun q => by omega), ho, hg.fn]
  rfl
theorem l_169s (hrec : recOk) (hA : mrA mi lo hi u K V n) (hB : mrB mi mj lo hi u K V k) (hk : k < n) :
    ∃ mi1 mj1, (∀ l2 l3, zRun 169 20 [some (.ref 148), some (.int (zi k)), l2, l3] [] (SH Ls) mi mj (RF g) = zRun 169 64 [some (.ref 148), some (.int (zi k)), some (.int (zi (K k))), l3] [] (SH Ls) mi1 mj1 (RF g)) ∧ mS mj1 (dep K (k + 1)) (stk lo hi u K V (k + 1)) ∧ mi1 148 11 = zi (dep K (k + 1)) ∧ mi1 148 12 = fw (stk lo hi u K V (k + 1)) (dep K (k + 1)) ∧ (∀ a, ¬ a = 148 → mi1 a = mi a) ∧ (∀ j, ¬ j = 11 → ¬ j = 12 → mi1 148 j = mi 148 j) ∧ (∀ a, ¬ a = 155 → mj1 a = mj a) := by
  obtain ⟨a1, a2, a3, a4, a5, a6, a7, a8, a9, a10, a11, a12, a13⟩ := hA
  obtain ⟨b1, b2, b3, b4⟩ := hB
  obtain ⟨w1, w2, w3, w4⟩ := a11 k hk
  obtain ⟨g1, g2, g3⟩ := a12 k hk
  have hdl := dep_le (a11.le (show k ≤ n by omega))
  have hK := a8 k hk
  have h1 : dep K (k + 1) = dep K k - opn (K k) + 1 := rfl
  have h2 : stk lo hi u K V (k + 1) = stE lo hi u (K k) (V k) (dep K k) (stk lo hi u K V k) := rfl
  rw [h1, h2]
  by_cases c5 : K k < 5
  · have ho : opn (K k) = 0 := by unfold opn; rw [if_pos c5]
    have hgd := g3 c5
    rw [stE_lt c5 hgd, ho, Nat.sub_zero]
    by_cases c0 : K k = 0
    · have hv := a10 k hk c0
      have hV := a9 k hk c0
      rw [c0] at hK hgd ⊢
      obtain ⟨mj1, r1, r2, r3⟩ := m_165 (Ls := Ls) (g := g) (mi := mi) (mj := mj) (vv := V k) b1 (by omega) hv.1 hv.2
      have em : mkE lo hi 0 (V k) (dep K k) (stk lo hi u K V k) = (zi 0, fNum (V k)) := rfl
      rw [em]
      refine ⟨zup mi 148 11 (zi (dep K k + 1)), mj1, fun l2 l3 => ?_, mS_push b3 (mE.ok r2) r3, zg_s, ?_, fun a ha => zup_ne ha, fun j h1 _ => zg_j (by omega), r3.1⟩
      · simp (disch := (first | with_reducible exact is_148 | with_reducible exact zi_at is_148 (by omega) (by omega) | with_reducible exact is_156 | with_reducible exact zi_at is_156 (by omega) (by omega) | with_reducible exact is_157 | with_reducible exact zi_at is_157 (by omega) (by omega) | ((with_reducible refine zct_le ?_) <;> exact Nat.le_of_ble_eq_true rfl) | with_reducible exact zh_0 | with_reducible exact zh_1 | with_reducible exact zh_b | omega)) only [q_169_20r, q_169_20n, q_169_21, q_169_24, q_169_25, q_169_26, q_169_27, q_169_28, q_169_31r, q_169_31n, q_169_32r, q_169_32n, q_169_33, q_169_36, q_169_37, q_169_38, q_169_41, q_169_44, q_169_45, q_169_46, q_169_49r, q_169_49n, q_169_50, q_169_51, q_169_52, q_169_53, q_169_56, q_169_59r, q_169_59n, q_169_60, q_169_61, vf_s, vf_n, zk2_none, zk2_int, zk2_ref, zk2_null, zk2_long, zct_nil, zct_i, zct_l, zct_r, zct_n, Option.bind_some, Option.toList_some, Option.toList_none, List.cons_append, List.nil_append, zor_l, zor_r, if_true, if_false, ↓reduceIte, zi_lit, zi_of, zi_add, zi_mul, zi_sub, zi_nat, zi_leT, zi_leF, zi_ltT, zi_ltF, zi_eqT, zi_eqF, zif_0z, zif_bz, zi_01l, zi_01r, not_true_eq_false, not_false_eq_true, Nat.reduceAdd, Nat.reduceMul, Nat.reduceSub, rf_148_13, rf_148_14, hK, hV, r1]
      · rw [zg_j (by omega), b2, fw_stP]
        split
        · rename_i h; exact h
        · rfl
    · obtain ⟨j, hj⟩ : ∃ j, K k = j + 1 := ⟨K k - 1, by omega⟩
      have hj4 : j < 4 := by omega
      have hb := a7 j hj4
      rw [hj] at hK hgd ⊢
      have e1 := a5 j hj4
      have e2 := a6 j hj4
      obtain ⟨mj1, r1, r2, r3⟩ := m_164 (Ls := Ls) (g := g) (mi := mi) (mj := mj) hj4 b1 (by omega) (by rw [e1]; omega) (by rw [e1]; omega) (by rw [e2]; omega) (by rw [e2]; omega)
      rw [e1, e2] at r2
      have em : mkE lo hi (j + 1) (V k) (dep K k) (stk lo hi u K V k) = (zi 0, fInp j (lo j) (hi j)) := by
        unfold mkE; rw [if_neg (by omega), if_pos (by omega)]; rfl
      rw [em]
      refine ⟨zup mi 148 11 (zi (dep K k + 1)), mj1, fun l2 l3 => ?_, mS_push b3 (mE.ok r2) r3, zg_s, ?_, fun a ha => zup_ne ha, fun j h1 _ => zg_j (by omega), r3.1⟩
      · simp (disch := (first | with_reducible exact is_148 | with_reducible exact zi_at is_148 (by omega) (by omega) | with_reducible exact is_156 | with_reducible exact zi_at is_156 (by omega) (by omega) | with_reducible exact is_157 | with_reducible exact zi_at is_157 (by omega) (by omega) | ((with_reducible refine zct_le ?_) <;> exact Nat.le_of_ble_eq_true rfl) | with_reducible exact zh_0 | with_reducible exact zh_1 | with_reducible exact zh_b | omega)) only [q_169_20r, q_169_20n, q_169_21, q_169_24, q_169_25, q_169_26, q_169_27, q_169_28, q_169_31r, q_169_31n, q_169_32r, q_169_32n, q_169_33, q_169_36, q_169_37, q_169_38, q_169_41, q_169_44, q_169_45, q_169_46, q_169_49r, q_169_49n, q_169_50, q_169_51, q_169_52, q_169_53, q_169_56, q_169_59r, q_169_59n, q_169_60, q_169_61, vf_s, vf_n, zk2_none, zk2_int, zk2_ref, zk2_null, zk2_long, zct_nil, zct_i, zct_l, zct_r, zct_n, Option.bind_some, Option.toList_some, Option.toList_none, List.cons_append, List.nil_append, zor_l, zor_r, if_true, if_false, ↓reduceIte, zi_lit, zi_of, zi_add, zi_mul, zi_sub, zi_nat, zi_leT, zi_leF, zi_ltT, zi_ltF, zi_eqT, zi_eqF, zif_0z, zif_bz, zi_01l, zi_01r, not_true_eq_false, not_false_eq_true, Nat.reduceAdd, Nat.reduceMul, Nat.reduceSub, rf_148_13, rf_148_14, hK, Nat.add_sub_cancel, r1]
      · rw [zg_j (by omega), b2, fw_stP]
        split
        · rename_i h; exact h
        · rfl
  · obtain ⟨mi1, mj1, r1, r2, r3, r4, r5, r6, r7⟩ := m_168 (Ls := Ls) (g := g) (lo := lo) (hi := hi) (vv := V k) w1 (by omega) b3 b1 (by omega) a3 a4 b2 w2 w4 g1 g2 hrec
    refine ⟨mi1, mj1, fun l2 l3 => ?_, r2, r3, r4, r5, r6, r7⟩
    simp (disch := (first | with_reducible exact is_148 | with_reducible exact zi_at is_148 (by omega) (by omega) | with_reducible exact is_156 | with_reducible exact zi_at is_156 (by omega) (by omega) | with_reducible exact is_157 | with_reducible exact zi_at is_157 (by omega) (by omega) | ((with_reducible refine zct_le ?_) <;> exact Nat.le_of_ble_eq_true rfl) | with_reducible exact zh_0 | with_reducible exact zh_1 | with_reducible exact zh_b | omega)) only [q_169_20r, q_169_20n, q_169_21, q_169_24, q_169_25, q_169_26, q_169_27, q_169_28, q_169_31r, q_169_31n, q_169_32r, q_169_32n, q_169_33, q_169_36, q_169_37, q_169_38, q_169_41, q_169_44, q_169_45, q_169_46, q_169_49r, q_169_49n, q_169_50, q_169_51, q_169_52, q_169_53, q_169_56, q_169_59r, q_169_59n, q_169_60, q_169_61, vf_s, vf_n, zk2_none, zk2_int, zk2_ref, zk2_null, zk2_long, zct_nil, zct_i, zct_l, zct_r, zct_n, Option.bind_some, Option.toList_some, Option.toList_none, List.cons_append, List.nil_append, zor_l, zor_r, if_true, if_false, ↓reduceIte, zi_lit, zi_of, zi_add, zi_mul, zi_sub, zi_nat, zi_leT, zi_leF, zi_ltT, zi_ltF, zi_eqT, zi_eqF, zif_0z, zif_bz, zi_01l, zi_01r, not_true_eq_false, not_false_eq_true, Nat.reduceAdd, Nat.reduceMul, Nat.reduceSub, rf_148_13, rf_148_14, hK, r1]
theorem l_169 (hrec : recOk) (m : Nat) : ∀ i, i + m = n → ∀ mi mj, mrA mi lo hi u K V n → mrB mi mj lo hi u K V i →
    ∃ mi' mj', (∀ l2 l3, zRun 169 12 [some (.ref 148), some (.int (zi i)), l2, l3] [] (SH Ls) mi mj (RF g) = some (none, SH Ls, mi', mj', RF g)) ∧ mrB mi' mj' lo hi u K V n ∧ FrN mi mj mi' mj' := by
  induction m with
  | zero =>
    intro i him mi mj hA hB
    obtain rfl : i = n := by omega
    have h15 := hA.1
    have hn := hA.2.1
    refine ⟨mi, mj, fun l2 l3 => ?_, hB, FrN.rf⟩
    rw [q_169_12]
    simp (disch := (first | with_reducible exact is_148 | with_reducible exact zi_at is_148 (by omega) (by omega) | ((with_reducible refine zct_le ?_) <;> exact Nat.le_of_ble_eq_true rfl) | with_reducible exact zh_0 | with_reducible exact zh_1 | with_reducible exact zh_b | omega)) only [q_169_13r, q_169_13n, q_169_14, q_169_17, q_169_136, vf_s, vf_n, zk2_none, zk2_int, zk2_ref, zk2_null, zk2_long, zct_nil, zct_i, zct_l, zct_r, zct_n, Option.bind_some, Option.toList_some, Option.toList_none, List.cons_append, List.nil_append, zor_l, zor_r, if_true, if_false, ↓reduceIte, zi_lit, zi_of, zi_add, zi_mul, zi_sub, zi_nat, zi_leT, zi_leF, zi_ltT, zi_ltF, zi_eqT, zi_eqF, zif_0z, zif_bz, zi_01l, zi_01r, not_true_eq_false, not_false_eq_true, Nat.reduceAdd, Nat.reduceMul, Nat.reduceSub, h15]
  | succ m ih =>
    intro i him mi mj hA hB
    have h15 := hA.1
    have hn := hA.2.1
    have hwf := hA.2.2.2.2.2.2.2.2.2.2.1
    obtain ⟨mi1, mj1, r1, r2, r3, r4, r5, r6, r7⟩ := l_169s (Ls := Ls) (g := g) hrec hA hB (show i < n by omega)
    have hd : dep K (i + 1) = dep K i - opn (K i) + 1 := rfl
    have hdl := (hwf i (by omega)).2.2.1
    have hE := r2 (dep K i - opn (K i)) (by rw [hd]; omega)
    have eT : stk lo hi u K V (i + 1) (dep K i - opn (K i)) = topE lo hi u K V (i + 1) := by unfold topE; rw [hd, Nat.add_sub_cancel]
    rw [eT] at hE
    obtain ⟨mi2, mj2, q1, q2, q3, q4, q5⟩ := l_169t (Ls := Ls) (g := g) (mi := mi1) (mj := mj1) (k := i) (by rw [r3, hd]) (by omega) (by omega) hE
    have hB2 : mrB mi2 mj2 lo hi u K V (i + 1) := by
      refine ⟨by rw [q3 148 (by omega), r3], by rw [q3 148 (by omega), r4], fun j hj => ?_, fun j hj => ?_⟩
      · exact (r2 j hj).same (q5 155 (by omega) (by omega))
      · by_cases c : j = i
        · subst c; exact q2
        · have q := q4 j c
          exact (hB.2.2.2 j (by omega)).fr (by rw [q.1, r5 162 (by omega)]) (by rw [q.2.1, r7 160 (by omega)]) (by rw [q.2.2, r7 161 (by omega)])
    have hA2 : mrA mi2 lo hi u K V n := hA.fr (fun a h1 h2 => by rw [q3 a h2, r5 a h1]) (fun j h1 h2 => by rw [q3 148 (by omega), r6 j h1 h2])
    obtain ⟨mi3, mj3, t1, t2, t3⟩ := ih (i + 1) (by omega) mi2 mj2 hA2 hB2
    refine ⟨mi3, mj3, fun l2 l3 => ?_, t2, FrN.tr ⟨fun a h1 _ _ h4 => by rw [q3 a h4, r5 a h1], fun j h1 h2 _ => by rw [q3 148 (by omega), r6 j h1 h2], fun a h1 h2 h3 => by rw [q5 a h2 h3, r7 a h1]⟩ t3⟩
    rw [q_169_12]
    simp (disch := (first | with_reducible exact is_148 | with_reducible exact zi_at is_148 (by omega) (by omega) | ((with_reducible refine zct_le ?_) <;> exact Nat.le_of_ble_eq_true rfl) | with_reducible exact zh_0 | with_reducible exact zh_1 | with_reducible exact zh_b | omega)) only [q_169_13r, q_169_13n, q_169_14, q_169_17, vf_s, vf_n, zk2_none, zk2_int, zk2_ref, zk2_null, zk2_long, zct_nil, zct_i, zct_l, zct_r, zct_n, Option.bind_some, Option.toList_some, Option.toList_none, List.cons_append, List.nil_append, zor_l, zor_r, if_true, if_false, ↓reduceIte, zi_lit, zi_of, zi_add, zi_mul, zi_sub, zi_nat, zi_leT, zi_leF, zi_ltT, zi_ltF, zi_eqT, zi_eqF, zif_0z, zif_bz, zi_01l, zi_01r, not_true_eq_false, not_false_eq_true, Nat.reduceAdd, Nat.reduceMul, Nat.reduceSub, h15]
    rw [r1, q1]
    exact t1 _ _
theorem m_169 (hrec : recOk) (hA : mrA mi lo hi u K V n) : ∃ mi' mj', zCall 169 [.ref 148] (SH Ls) mi mj (RF g) = some (none, SH Ls, mi', mj', RF g) ∧ mrB mi' mj' lo hi u K V n ∧ FrN mi mj mi' mj' := by
  have f0 : ∀ a, ¬ a = 148 → zup (zup mi 148 11 (zi 0)) 148 12 (zi 0) a = mi a := fun a ha => by rw [zup_ne ha, zup_ne ha]
  obtain ⟨mi', mj', r1, r2, r3⟩ := l_169 (Ls := Ls) (g := g) hrec n 0 (by omega) (zup (zup mi 148 11 (zi 0)) 148 12 (zi 0)) mj (hA.fr (fun a h1 _ => f0 a h1) (fun j h1 h2 => by rw [zg_j (by omega), zg_j (by omega)])) ⟨by rw [zg_j (by omega), zg_s]; rfl, by rw [zg_s]; rfl, fun i hi => absurd hi (by show ¬ i < 0; omega), fun j hj => by omega⟩
  refine ⟨mi', mj', ?_, r2, FrN.tr ⟨fun a h1 _ _ _ => f0 a h1, fun j h1 h2 _ => by rw [zg_j (by omega), zg_j (by omega)], fun _ _ _ _ => rfl⟩ r3⟩
  simp (disch := (first | with_reducible exact is_148 | with_reducible exact zi_at is_148 (by omega) (by omega) | ((with_reducible refine zct_le ?_) <;> exact Nat.le_of_ble_eq_true rfl) | with_reducible exact zh_0 | with_reducible exact zh_1 | with_reducible exact zh_b | omega)) only [e_169, q_169_0r, q_169_0n, q_169_1, q_169_2, q_169_5r, q_169_5n, q_169_6, q_169_7, q_169_10, q_169_11, vf_s, vf_n, zk2_none, zk2_int, zk2_ref, zk2_null, zk2_long, zct_nil, zct_i, zct_l, zct_r, zct_n, Option.bind_some, Option.toList_some, Option.toList_none, List.cons_append, List.nil_append, zor_l, zor_r, if_true, if_false, ↓reduceIte, zi_lit, zi_of, zi_add, zi_mul, zi_sub, zi_nat, zi_leT, zi_leF, zi_ltT, zi_ltF, zi_eqT, zi_eqF, zif_0z, zif_bz, zi_01l, zi_01r, not_true_eq_false, not_false_eq_true, Nat.reduceAdd, Nat.reduceMul, Nat.reduceSub]
  exact r1 none none
/-- an expression of the model -/
def mEx (mi : zI) (b N : Nat) (K : Nat → Nat) (V : Nat → Int32) : Prop := mi 149 (9 + b) = zi N ∧ N ≤ 60 ∧ (∀ k, k < N → mi 149 (13 + 60 * b + k) = zi (K k)) ∧ (∀ k, k < N → mi 149 (253 + 60 * b + k) = V k)
/-- the box that is laid, and the setting -/
def mBx (mi : zI) (lo hi : Nat → Int32) (u : Nat) : Prop := mi 149 8 = zi u ∧ u ≤ 8 ∧ (∀ k, k < 4 → mi 158 k = lo k) ∧ (∀ k, k < 4 → mi 159 k = hi k) ∧ boxIn lo hi
/-- what the expression itself must be -/
def exOk (lo hi : Nat → Int32) (u : Nat) (K : Nat → Nat) (V : Nat → Int32) (n : Nat) : Prop := valIn K V n ∧ wfK K n ∧ gdS lo hi u K V n
theorem m_170 (hrec : recOk) (hb : b < 4) (hX : mEx mi b N K V) (hB : mBx mi lo hi u) (hO : exOk lo hi u K V N) : ∃ mi' mj', zCall 170 [.ref 148, .int (zi b)] (SH Ls) mi mj (RF g) = some (none, SH Ls, mi', mj', RF g) ∧ mrB mi' mj' lo hi u K V N ∧ FrN mi mj mi' mj' := by
  obtain ⟨x1, x2, x3, x4⟩ := hX
  obtain ⟨b1, b2, b3, b4, b5⟩ := hB
  obtain ⟨o1, o2, o3⟩ := hO
  obtain ⟨mi1, r1, r2, r3, r4, r5, r6⟩ := m_162 (Ls := Ls) (g := g) (mi := zup mi 148 15 (zi 0)) (mj := mj) (r := 0) hb x2 (by omega) (by rw [zup_ne (by omega), x1]) zg_s
  have f1 : ∀ a, ¬ a = 148 → ¬ a = 156 → ¬ a = 157 → mi1 a = mi a := fun a h1 h2 h3 => by rw [r5 a h1 h2 h3, zup_ne h1]
  obtain ⟨mi2, mj2, q1, q2, q3⟩ := m_169 (Ls := Ls) (g := g) (mi := mi1) (mj := mj) (n := N) hrec ⟨by rw [r2, Nat.zero_add], by omega, by rw [f1 149 (by omega) (by omega) (by omega), b1], b2, fun k hk => by rw [f1 158 (by omega) (by omega) (by omega), b3 k hk], fun k hk => by rw [f1 159 (by omega) (by omega) (by omega), b4 k hk], b5, fun k hk => by
      have := (r3 k hk).1
      rw [Nat.zero_add, zup_ne (by omega), x3 k hk] at this
      exact this, fun k hk _ => by
      have := (r3 k hk).2
      rw [Nat.zero_add, zup_ne (by omega), x4 k hk] at this
      exact this, o1, o2, o3, fun k _ => dep_1⟩
  refine ⟨mi2, mj2, ?_, q2, FrN.tr ⟨fun a h1 h2 h3 _ => f1 a h1 h2 h3, fun j h1 h2 h3 => by rw [r6 j h3, zg_j (by omega)], fun _ _ _ _ => rfl⟩ q3⟩
  simp (disch := (first | with_reducible exact is_148 | with_reducible exact zi_at is_148 (by omega) (by omega) | ((with_reducible refine zct_le ?_) <;> exact Nat.le_of_ble_eq_true rfl) | with_reducible exact zh_0 | with_reducible exact zh_1 | with_reducible exact zh_b | omega)) only [e_170, q_170_0r, q_170_0n, q_170_1, q_170_2, q_170_5r, q_170_5n, q_170_6, q_170_7, q_170_10r, q_170_10n, q_170_11, q_170_14, vf_s, vf_n, zk2_none, zk2_int, zk2_ref, zk2_null, zk2_long, zct_nil, zct_i, zct_l, zct_r, zct_n, Option.bind_some, Option.toList_some, Option.toList_none, List.cons_append, List.nil_append, zor_l, zor_r, if_true, if_false, ↓reduceIte, zi_lit, zi_of, zi_add, zi_mul, zi_sub, zi_nat, zi_leT, zi_leF, zi_ltT, zi_ltF, zi_eqT, zi_eqF, zif_0z, zif_bz, zi_01l, zi_01r, not_true_eq_false, not_false_eq_true, Nat.reduceAdd, Nat.reduceMul, Nat.reduceSub, r1, q1]
/-- the whole box of the model -/
def mDo (mi : zI) (lo hi : Nat → Int32) (u : Nat) : Prop := mi 149 8 = zi u ∧ u ≤ 8 ∧ (∀ k, k < 4 → mi 149 k = lo k) ∧ (∀ k, k < 4 → mi 149 (4 + k) = hi k) ∧ boxIn lo hi
/-- what evaluations leave alone -/
def FrV (mi : zI) (mj : zJ) (mi' : zI) (mj' : zJ) : Prop := (∀ a, ¬ a = 148 → ¬ a = 156 → ¬ a = 157 → ¬ a = 158 → ¬ a = 159 → ¬ a = 162 → mi' a = mi a) ∧ (∀ j, ¬ j = 11 → ¬ j = 12 → ¬ j = 15 → mi' 148 j = mi 148 j) ∧ (∀ a, ¬ a = 155 → ¬ a = 160 → ¬ a = 161 → mj' a = mj a)
theorem FrN.toV {mi mi' : zI} {mj mj' : zJ} (h : FrN mi mj mi' mj') : FrV mi mj mi' mj' := ⟨fun a h1 h2 h3 _ _ h6 => h.1 a h1 h2 h3 h6, h.2.1, h.2.2⟩
theorem FrV.rf {mi : zI} {mj : zJ} : FrV mi mj mi mj := ⟨fun _ _ _ _ _ _ _ => rfl, fun _ _ _ _ => rfl, fun _ _ _ _ => rfl⟩
theorem FrV.tr {mi mi1 mi2 : zI} {mj mj1 mj2 : zJ} (h : FrV mi mj mi1 mj1) (h2 : FrV mi1 mj1 mi2 mj2) : FrV mi mj mi2 mj2 :=
  ⟨fun a g1 g2 g3 g4 g5 g6 => (h2.1 a g1 g2 g3 g4 g5 g6).trans (h.1 a g1 g2 g3 g4 g5 g6), fun j h1 h3 h4 => (h2.2.1 j h1 h3 h4).trans (h.2.1 j h1 h3 h4), fun a h1 h3 h4 => (h2.2.2 a h1 h3 h4).trans (h.2.2 a h1 h3 h4)⟩
theorem m_171 (hrec : recOk) (hb : b < 4) (hX : mEx mi b N K V) (hB : mDo mi lo hi u) (hO : exOk lo hi u K V N) : ∃ mi' mj', zCall 171 [.ref 148, .int (zi b)] (SH Ls) mi mj (RF g) = some (none, SH Ls, mi', mj', RF g) ∧ mrB mi' mj' lo hi u K V N ∧ FrV mi mj mi' mj' := by
  obtain ⟨b1, b2, b3, b4, b5⟩ := hB
  obtain ⟨mi1, r1, r2, r3, r4⟩ := m_163 (Ls := Ls) (g := g) (mi := mi) (mj := mj)
  have f149 := r4 149 (by omega) (by omega)
  obtain ⟨mi2, mj2, q1, q2, q3⟩ := m_170 (Ls := Ls) (g := g) (mi := mi1) (mj := mj) (b := b) hrec hb (by unfold mEx; rw [f149]; exact hX) ⟨by rw [f149, b1], b2, fun k hk => by rw [r2 k hk, b3 k hk], fun k hk => by rw [r3 k hk, b4 k hk], b5⟩ hO
  refine ⟨mi2, mj2, ?_, q2, FrV.tr ⟨fun a _ _ _ h4 h5 _ => r4 a h4 h5, fun j _ _ _ => by rw [r4 148 (by omega) (by omega)], fun _ _ _ _ => rfl⟩ q3.toV⟩
  simp (disch := (first | with_reducible exact is_148 | with_reducible exact zi_at is_148 (by omega) (by omega) | ((with_reducible refine zct_le ?_) <;> exact Nat.le_of_ble_eq_true rfl) | with_reducible exact zh_0 | with_reducible exact zh_1 | with_reducible exact zh_b | omega)) only [e_171, q_171_0r, q_171_0n, q_171_1, q_171_4r, q_171_4n, q_171_5, q_171_6, q_171_9, vf_s, vf_n, zk2_none, zk2_int, zk2_ref, zk2_null, zk2_long, zct_nil, zct_i, zct_l, zct_r, zct_n, Option.bind_some, Option.toList_some, Option.toList_none, List.cons_append, List.nil_append, zor_l, zor_r, if_true, if_false, ↓reduceIte, zi_lit, zi_of, zi_add, zi_mul, zi_sub, zi_nat, zi_leT, zi_leF, zi_ltT, zi_ltF, zi_eqT, zi_eqF, zif_0z, zif_bz, zi_01l, zi_01r, not_true_eq_false, not_false_eq_true, Nat.reduceAdd, Nat.reduceMul, Nat.reduceSub, r1, q1]
end
