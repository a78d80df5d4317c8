/-! ===== lists of boxes (2): where a box is split, in the class ===== -/
section
variable {Ls : Nat} {g : Nat → Nat} {mi mi' : zI} {mj mj' : zJ} {x y z : Int32} {a b e n p q k c m u s : Nat} {v w : Value} {T : En} {o f : Nat} {B : Nat → Bx} {bx : Bx}
theorem sp_n1 : (-zi 1 < zi 0) = True := by decide
theorem sp_n6 : (-zi 6 < zi 0) = True := by decide
theorem zm_le1 : (zi 0 ≤ -zi 1) = False := by decide
theorem zm_le6 : (zi 0 ≤ -zi 6) = False := by decide
theorem spW_wt (hE : cE mi mj f T) (hk : k < 4) : (if mi f 0 = zi 0 then zabs (mj (f + 1) k) else 0) = wt T k := by
  obtain ⟨h1, h2⟩ := hE
  unfold wt
  rw [h1]
  by_cases c : T.1 = zi 0
  · rw [if_pos c, if_pos c, ← (h2 c).1, cf_c (by omega)]
  · rw [if_neg c, if_neg c]
theorem l_8a (ho : zBx o) (hf : zFm f) (hb : bxA mi o bx) (hE : cE mi mj f T) (n : Nat) : ∀ k, k + n = 4 → ∀ l6, ∃ l6', zRun 8 7 [some (.ref o), some (.ref f), some (.int (bst (-zi 1) (spW bx T) k).1), some (.long (bst (-zi 1) (spW bx T) k).2), none, some (.int (zi k)), l6, none] [] (SH Ls) mi mj (RF g) = zRun 8 61 [some (.ref o), some (.ref f), some (.int (bst (-zi 1) (spW bx T) 4).1), some (.long (bst (-zi 1) (spW bx T) 4).2), none, some (.int (zi 4)), l6', none] [] (SH Ls) mi mj (RF g) := by
  induction n with
  | zero =>
    intro k hk l6
    obtain rfl : k = 4 := by omega
    refine ⟨l6, ?_⟩
    rw [q_8_7]
    simp (disch := (first | ((with_reducible refine zct_le ?_) <;> exact Nat.le_of_ble_eq_true rfl) | with_reducible exact zh_0 | with_reducible exact zh_1 | with_reducible exact zh_b | omega)) only [q_8_9, q_8_10, q_8_13r, q_8_13n, q_8_14, q_8_17, q_8_19, q_8_20r, q_8_20n, q_8_21, q_8_24, q_8_26, q_8_27, q_8_30r, q_8_30n, q_8_31, q_8_33, q_8_36, q_8_39, q_8_40, q_8_42, q_8_44, q_8_45, q_8_46, q_8_49, q_8_51, q_8_52, q_8_54, q_8_55, q_8_58, vf_s, vf_n, zk2_none, zk2_int, zk2_ref, zk2_null, zk2_long, zct_nil, zct_i, zct_l, zct_r, zct_n, Option.bind_some, Option.toList_some, Option.toList_none, List.cons_append, List.nil_append, zor_l, zor_r, if_true, if_false, ↓reduceIte, zi_lit, zi_of, zi_add, zi_mul, zi_sub, zi_nat, zi_leT, zi_leF, zi_ltT, zi_ltF, zi_eqT, zi_eqF, zif_0z, zif_bz, zi_01l, zi_01r, not_true_eq_false, not_false_eq_true, Nat.reduceAdd, Nat.reduceMul, Nat.reduceSub]
  | succ n ih =>
    intro k hk l6
    have m23 := m_23 (Ls := Ls) (g := g) (mi := mi) (mj := mj) (k := k) hf (by omega)
    rw [spW_wt hE (by omega)] at m23
    have e0 : (if mi (o + 2) k ≤ mi (o + 1) k then (0 : Int64) else wt T k) = spW bx T k := by
      unfold spW
      rw [(hb k (by omega)).1, (hb k (by omega)).2]
      by_cases c : bx.1 k < bx.2 k
      · rw [if_pos c, if_neg (lg_lt_not32 c)]
      · rw [if_neg c, if_pos (lg_lt_not_le32 c)]
    obtain ⟨l6', r1⟩ := ih (k + 1) (by omega) (some (.long (spW bx T k)))
    refine ⟨l6', ?_⟩
    rw [← r1, q_8_7]
    simp (disch := (first | with_reducible exact (zBx_is ho) | with_reducible exact zi_at (zBx_is ho) (by omega) (by omega) | with_reducible exact (zBx_i1 ho) | with_reducible exact zi_at (zBx_i1 ho) (by omega) (by omega) | with_reducible exact (zBx_i2 ho) | with_reducible exact zi_at (zBx_i2 ho) (by omega) (by omega) | with_reducible exact (zFm_is hf) | with_reducible exact zi_at (zFm_is hf) (by omega) (by omega) | ((with_reducible refine zct_le ?_) <;> exact Nat.le_of_ble_eq_true rfl) | with_reducible exact zh_0 | with_reducible exact zh_1 | with_reducible exact zh_b | omega)) only [q_8_9, q_8_10, q_8_13r, q_8_13n, q_8_14, q_8_17, q_8_19, q_8_20r, q_8_20n, q_8_21, q_8_24, q_8_26, q_8_27, q_8_30r, q_8_30n, q_8_31, q_8_33, q_8_36, q_8_39, vf_s, vf_n, zk2_none, zk2_int, zk2_ref, zk2_null, zk2_long, zct_nil, zct_i, zct_l, zct_r, zct_n, Option.bind_some, Option.toList_some, Option.toList_none, List.cons_append, List.nil_append, zor_l, zor_r, if_true, if_false, ↓reduceIte, zi_lit, zi_of, zi_add, zi_mul, zi_sub, zi_nat, zi_leT, zi_leF, zi_ltT, zi_ltF, zi_eqT, zi_eqF, zif_0z, zif_bz, zi_01l, zi_01r, not_true_eq_false, not_false_eq_true, Nat.reduceAdd, Nat.reduceMul, Nat.reduceSub, zBx_r0 ho, zBx_r1 ho, m23]
    rw [mg_J, e0]
    simp (disch := (first | ((with_reducible refine zct_le ?_) <;> exact Nat.le_of_ble_eq_true rfl) | with_reducible exact zh_0 | with_reducible exact zh_1 | with_reducible exact zh_b | omega)) only [q_8_40, q_8_42, q_8_44, q_8_45, q_8_46, q_8_49, q_8_51, q_8_52, q_8_54, q_8_55, q_8_58, vf_s, vf_n, zk2_none, zk2_int, zk2_ref, zk2_null, zk2_long, zct_nil, zct_i, zct_l, zct_r, zct_n, Option.bind_some, Option.toList_some, Option.toList_none, List.cons_append, List.nil_append, zor_l, zor_r, if_true, if_false, ↓reduceIte, zi_lit, zi_of, zi_add, zi_mul, zi_sub, zi_nat, zi_leT, zi_leF, zi_ltT, zi_ltF, zi_eqT, zi_eqF, zif_0z, zif_bz, zi_01l, zi_01r, not_true_eq_false, not_false_eq_true, Nat.reduceAdd, Nat.reduceMul, Nat.reduceSub]
    by_cases c : (bst (-zi 1) (spW bx T) k).2 < spW bx T k
    · rw [if_neg (lg_lt_not_le c), bst_s c]
    · rw [if_pos (by rw [zj_le]; rw [zj_lt] at c; omega), bst_t c]
theorem l_8b (ho : zBx o) (hb : bxA mi o bx) (n : Nat) : ∀ k, k + n = 4 → ∀ l6 l7, zRun 8 70 [some (.ref o), some (.ref f), some (.int (bst (-zi 1) (spD bx) k).1), some (.long (bst (-zi 1) (spD bx) k).2), none, some (.int (zi k)), l6, l7] [] (SH Ls) mi mj (RF g) = some (some (.int (bst (-zi 1) (spD bx) 4).1), SH Ls, mi, mj, RF g) := by
  induction n with
  | zero =>
    intro k hk l6 l7
    obtain rfl : k = 4 := by omega
    rw [q_8_70]
    simp (disch := (first | ((with_reducible refine zct_le ?_) <;> exact Nat.le_of_ble_eq_true rfl) | with_reducible exact zh_0 | with_reducible exact zh_1 | with_reducible exact zh_b | omega)) only [q_8_72, q_8_73, q_8_76r, q_8_76n, q_8_77, q_8_79, q_8_82, q_8_83, q_8_84, q_8_85, q_8_88r, q_8_88n, q_8_89, q_8_91, q_8_94, q_8_95, q_8_96, q_8_98, q_8_99, q_8_102, q_8_105, q_8_106, vf_s, vf_n, zk2_none, zk2_int, zk2_ref, zk2_null, zk2_long, zct_nil, zct_i, zct_l, zct_r, zct_n, Option.bind_some, Option.toList_some, Option.toList_none, List.cons_append, List.nil_append, zor_l, zor_r, if_true, if_false, ↓reduceIte, zi_lit, zi_of, zi_add, zi_mul, zi_sub, zi_nat, zi_leT, zi_leF, zi_ltT, zi_ltF, zi_eqT, zi_eqF, zif_0z, zif_bz, zi_01l, zi_01r, not_true_eq_false, not_false_eq_true, Nat.reduceAdd, Nat.reduceMul, Nat.reduceSub]
  | succ n ih =>
    intro k hk l6 l7
    have m4 := m_4 (Ls := Ls) (g := g) (mi := mi) (mj := mj) (x := zi k) ho (zi_in (by omega) (by omega))
    rw [zi_nat (by omega), (hb k (by omega)).1, (hb k (by omega)).2] at m4
    have e0 : (bx.2 k - bx.1 k).toInt64 = spD bx k := rfl
    rw [q_8_70]
    simp (disch := (first | with_reducible exact (zBx_is ho) | with_reducible exact zi_at (zBx_is ho) (by omega) (by omega) | ((with_reducible refine zct_le ?_) <;> exact Nat.le_of_ble_eq_true rfl) | with_reducible exact zh_0 | with_reducible exact zh_1 | with_reducible exact zh_b | omega)) only [q_8_72, q_8_73, q_8_76r, q_8_76n, q_8_77, q_8_79, q_8_82, q_8_83, q_8_84, q_8_85, q_8_88r, q_8_88n, q_8_89, q_8_91, q_8_94, q_8_95, q_8_96, q_8_98, q_8_99, q_8_102, q_8_105, q_8_106, vf_s, vf_n, zk2_none, zk2_int, zk2_ref, zk2_null, zk2_long, zct_nil, zct_i, zct_l, zct_r, zct_n, Option.bind_some, Option.toList_some, Option.toList_none, List.cons_append, List.nil_append, zor_l, zor_r, if_true, if_false, ↓reduceIte, zi_lit, zi_of, zi_add, zi_mul, zi_sub, zi_nat, zi_leT, zi_leF, zi_ltT, zi_ltF, zi_eqT, zi_eqF, zif_0z, zif_bz, zi_01l, zi_01r, not_true_eq_false, not_false_eq_true, Nat.reduceAdd, Nat.reduceMul, Nat.reduceSub, m4, e0]
    by_cases c : (bst (-zi 1) (spD bx) k).2 < spD bx k
    · have := ih (k + 1) (by omega) l6 l7
      rw [bst_s c] at this
      rw [if_neg (lg_lt_not_le c)]
      exact this
    · have := ih (k + 1) (by omega) l6 l7
      rw [bst_t c] at this
      rw [if_pos (by rw [zj_le]; rw [zj_lt] at c; omega)]
      exact this
theorem m_8 (ho : zBx o) (hf : zFm f) (hb : bxA mi o bx) (hE : cE mi mj f T) : zCall 8 [.ref o, .ref f] (SH Ls) mi mj (RF g) = some (some (.int (if spl bx T < 4 then zi (spl bx T) else -zi 1)), SH Ls, mi, mj, RF g) := by
  obtain ⟨l6', r1⟩ := l_8a (Ls := Ls) (g := g) ho hf hb hE 4 0 rfl none
  have r2 := l_8b (Ls := Ls) (g := g) (mj := mj) ho (f := f) hb 4 0 rfl l6' none
  have e1 : bst (-zi 1) (spW bx T) 0 = (-zi 1, 0) := rfl
  have e2 : bst (-zi 1) (spD bx) 0 = (-zi 1, 0) := rfl
  rw [e1] at r1
  rw [e2, bst_n _ _ 4 (by omega)] at r2
  rw [bst_n _ _ 4 (by omega)] at r1
  have a1 := bsn_lt (spW bx T) 4 (by omega)
  simp (disch := (first | ((with_reducible refine zct_le ?_) <;> exact Nat.le_of_ble_eq_true rfl) | with_reducible exact zh_0 | with_reducible exact zh_1 | with_reducible exact zh_b | omega)) only [e_8, q_8_0, q_8_1, q_8_2, q_8_3, q_8_4, q_8_5, vf_s, vf_n, zk2_none, zk2_int, zk2_ref, zk2_null, zk2_long, zct_nil, zct_i, zct_l, zct_r, zct_n, Option.bind_some, Option.toList_some, Option.toList_none, List.cons_append, List.nil_append, zor_l, zor_r, if_true, if_false, ↓reduceIte, zi_lit, zi_of, zi_add, zi_mul, zi_sub, zi_nat, zi_leT, zi_leF, zi_ltT, zi_ltF, zi_eqT, zi_eqF, zif_0z, zif_bz, zi_01l, zi_01r, not_true_eq_false, not_false_eq_true, Nat.reduceAdd, Nat.reduceMul, Nat.reduceSub]
  rw [r1]
  unfold spl
  by_cases c : (bsn (spW bx T) 4).1 < 4
  · rw [if_pos c, if_pos c, if_pos c]
    simp (disch := (first | ((with_reducible refine zct_le ?_) <;> exact Nat.le_of_ble_eq_true rfl) | with_reducible exact zh_0 | with_reducible exact zh_1 | with_reducible exact zh_b | omega)) only [q_8_61, q_8_62, q_8_65, q_8_66, q_8_67, q_8_68, vf_s, vf_n, zk2_none, zk2_int, zk2_ref, zk2_null, zk2_long, zct_nil, zct_i, zct_l, zct_r, zct_n, Option.bind_some, Option.toList_some, Option.toList_none, List.cons_append, List.nil_append, zor_l, zor_r, if_true, if_false, ↓reduceIte, zi_lit, zi_of, zi_add, zi_mul, zi_sub, zi_nat, zi_leT, zi_leF, zi_ltT, zi_ltF, zi_eqT, zi_eqF, zif_0z, zif_bz, zi_01l, zi_01r, not_true_eq_false, not_false_eq_true, Nat.reduceAdd, Nat.reduceMul, Nat.reduceSub]
  · have c2 : bsn (spW bx T) 4 = (4, 0) := by rcases a1 with h | h; exact absurd h c; exact h
    rw [if_neg c, if_neg c, c2]
    simp (disch := (first | ((with_reducible refine zct_le ?_) <;> exact Nat.le_of_ble_eq_true rfl) | with_reducible exact zh_0 | with_reducible exact zh_1 | with_reducible exact zh_b | omega)) only [q_8_61, q_8_62, q_8_65, q_8_66, q_8_67, q_8_68, vf_s, vf_n, zk2_none, zk2_int, zk2_ref, zk2_null, zk2_long, zct_nil, zct_i, zct_l, zct_r, zct_n, Option.bind_some, Option.toList_some, Option.toList_none, List.cons_append, List.nil_append, zor_l, zor_r, if_true, if_false, ↓reduceIte, zi_lit, zi_of, zi_add, zi_mul, zi_sub, zi_nat, zi_leT, zi_leF, zi_ltT, zi_ltF, zi_eqT, zi_eqF, zif_0z, zif_bz, zi_01l, zi_01r, not_true_eq_false, not_false_eq_true, Nat.reduceAdd, Nat.reduceMul, Nat.reduceSub, sp_n1]
    exact r2
theorem m_9 (ho : zBx o) (hp : zBx p) (hq : zBx q) (d1 : o + 2 < p ∨ p + 2 < o) (d2 : o + 2 < q ∨ q + 2 < o) (d3 : p + 2 < q ∨ q + 2 < p) (hs : s < 4) (hb : bxA mi o bx) : ∃ mi', zCall 9 [.ref o, .int (zi s), .ref p, .ref q] (SH Ls) mi mj (RF g) = some (none, SH Ls, mi', mj, RF g) ∧ bxA mi' p (lwB bx s) ∧ bxA mi' q (upB bx s) ∧ (∀ a, a < p + 1 ∨ p + 2 < a → a < q + 1 ∨ q + 2 < a → mi' a = mi a) := by
  obtain ⟨mi1, r1, r2, r3⟩ := m_3 (Ls := Ls) (g := g) (mi := mi) (mj := mj) hp ho (by omega)
  obtain ⟨mi2, t1, t2, t3⟩ := m_3 (Ls := Ls) (g := g) (mi := mi1) (mj := mj) hq ho (by omega)
  have m5 := m_5 (Ls := Ls) (g := g) (mi := mi) (mj := mj) (x := zi s) ho (zi_in (by omega) (by omega))
  rw [zi_nat (by omega), (hb s hs).1, (hb s hs).2, show (bx.1 s + bx.2 s) >>> (1 &&& 31) = mdB bx s from rfl] at m5
  have o1 : ∀ k, k < 4 → mi2 (o + 1) k = bx.1 k ∧ mi2 (o + 2) k = bx.2 k := fun k hk => by
    rw [t2 (o + 1) (by omega), t2 (o + 2) (by omega), r2 (o + 1) (by omega), r2 (o + 2) (by omega)]; exact hb k hk
  have p1 : ∀ k, k < 4 → mi2 (p + 1) k = bx.1 k ∧ mi2 (p + 2) k = bx.2 k := fun k hk => by
    rw [t2 (p + 1) (by omega), t2 (p + 2) (by omega), (r3 k hk).1, (r3 k hk).2]; exact hb k hk
  have q1 : ∀ k, k < 4 → mi2 (q + 1) k = bx.1 k ∧ mi2 (q + 2) k = bx.2 k := fun k hk => by
    rw [(t3 k hk).1, (t3 k hk).2, r2 (o + 1) (by omega), r2 (o + 2) (by omega)]; exact hb k hk
  have m4 := m_4 (Ls := Ls) (g := g) (mi := zup mi2 (p + 2) s (mdB bx s)) (mj := mj) (x := zi s) ho (zi_in (by omega) (by omega))
  rw [zi_nat (by omega), zup_ne (by omega), zup_ne (by omega), (o1 s hs).1, (o1 s hs).2] at m4
  have e1 : zup mi2 (p + 2) s (mdB bx s) (o + 2) s = bx.2 s := by rw [zup_ne (by omega)]; exact (o1 s hs).2
  refine ⟨zup (zup mi2 (p + 2) s (mdB bx s)) (q + 1) s (if bx.2 s - bx.1 s = zi 1 then bx.2 s else mdB bx s), ?_, fun k hk => ?_, fun k hk => ?_, fun a ha ha2 => ?_⟩
  · simp (disch := (first | with_reducible exact (zBx_is ho) | with_reducible exact zi_at (zBx_is ho) (by omega) (by omega) | with_reducible exact (zBx_is hp) | with_reducible exact zi_at (zBx_is hp) (by omega) (by omega) | with_reducible exact (zBx_is hq) | with_reducible exact zi_at (zBx_is hq) (by omega) (by omega) | with_reducible exact (zBx_i1 ho) | with_reducible exact zi_at (zBx_i1 ho) (by omega) (by omega) | with_reducible exact (zBx_i2 ho) | with_reducible exact zi_at (zBx_i2 ho) (by omega) (by omega) | with_reducible exact (zBx_i2 hp) | with_reducible exact zi_at (zBx_i2 hp) (by omega) (by omega) | with_reducible exact (zBx_i1 hq) | with_reducible exact zi_at (zBx_i1 hq) (by omega) (by omega) | ((with_reducible refine zct_le ?_) <;> exact Nat.le_of_ble_eq_true rfl) | with_reducible exact zh_0 | with_reducible exact zh_1 | with_reducible exact zh_b | omega)) only [e_9, q_9_0r, q_9_0n, q_9_1, q_9_2, q_9_5, q_9_7r, q_9_7n, q_9_8r, q_9_8n, q_9_9, q_9_12r, q_9_12n, q_9_13r, q_9_13n, q_9_14, q_9_17r, q_9_17n, q_9_18, q_9_21, q_9_22, q_9_24, q_9_25r, q_9_25n, q_9_26, q_9_29, q_9_30r, q_9_30n, q_9_31, q_9_32, q_9_35, q_9_36, q_9_39r, q_9_39n, q_9_40, q_9_43, q_9_44, q_9_45, q_9_48, q_9_50, q_9_51, vf_s, vf_n, zk2_none, zk2_int, zk2_ref, zk2_null, zk2_long, zct_nil, zct_i, zct_l, zct_r, zct_n, Option.bind_some, Option.toList_some, Option.toList_none, List.cons_append, List.nil_append, zor_l, zor_r, if_true, if_false, ↓reduceIte, zi_lit, zi_of, zi_add, zi_mul, zi_sub, zi_nat, zi_leT, zi_leF, zi_ltT, zi_ltF, zi_eqT, zi_eqF, zif_0z, zif_bz, zi_01l, zi_01r, not_true_eq_false, not_false_eq_true, Nat.reduceAdd, Nat.reduceMul, Nat.reduceSub, zBx_r0 ho, zBx_r1 ho, zBx_r1 hp, zBx_r0 hq, m5, r1, t1, m4, e1, ite_not]
    split <;> rfl
  · rw [zup_ne (by omega), zup_ne (by omega), zup_ne (by omega)]
    refine ⟨(p1 k hk).1, ?_⟩
    show _ = if k = s then mdB bx s else bx.2 k
    by_cases c : k = s
    · subst c; rw [zg_s, if_pos rfl]
    · rw [zg_j (by omega), if_neg c]; exact (p1 k hk).2
  · rw [zup_ne (o' := q + 2) (by omega), zup_ne (o' := q + 2) (by omega)]
    refine ⟨?_, (q1 k hk).2⟩
    show _ = if k = s then _ else bx.1 k
    by_cases c : k = s
    · subst c; rw [zg_s, if_pos rfl]
    · rw [zg_j (by omega), if_neg c, zup_ne (by omega)]; exact (q1 k hk).1
  · rw [zup_ne (by omega), zup_ne (by omega), t2 a (by omega), r2 a (by omega)]
end
