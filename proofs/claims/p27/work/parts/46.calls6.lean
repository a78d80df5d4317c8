/-! ===== calls (6): copies of states ===== -/
def zSt (o : Nat) : Prop := o = 3 ∨ o = 114 ∨ o = 131
section
variable {Ls : Nat} {g : Nat → Nat} {mi mi' : zI} {mj mj' : zJ} {x y z : Int32} {a b e n p q k c m u s : Nat} {v w : Value} {lo hi lo' hi' : Nat → Int32} {NN : Nat → Nat} {KK : Nat → Nat → Nat} {VV : Nat → Nat → Int32} {T : En} {o : Nat} {K : Nat → Nat}
theorem zSt_is (h : zSt o) : zIs (SH Ls) o 0 5 := by
  rcases h with rfl | rfl | rfl
  · exact is_3
  · exact is_114
  · exact is_131
theorem zSt_r0 (h : zSt o) : RF g o 0 = some (o + 1) := by rcases h with rfl | rfl | rfl <;> rfl
theorem zSt_r1 (h : zSt o) : RF g o 1 = some (o + 4) := by rcases h with rfl | rfl | rfl <;> rfl
theorem zSt_re (h : zSt o) (he : e < 4) : RF g (o + 4) e = some (o + 5 + 3 * e) := by
  rcases (show e = 0 ∨ e = 1 ∨ e = 2 ∨ e = 3 by omega) with rfl | rfl | rfl | rfl <;> rcases h with rfl | rfl | rfl <;> rfl
theorem zSt_bx (h : zSt o) : zBx (o + 1) := by rcases h with rfl | rfl | rfl <;> simp [zBx]
theorem zSt_sp (h : zSt o) (he : e < 4) : zSp (o + 5 + 3 * e) := by
  rcases (show e = 0 ∨ e = 1 ∨ e = 2 ∨ e = 3 by omega) with rfl | rfl | rfl | rfl <;> rcases h with rfl | rfl | rfl <;> simp [zSp]
theorem m_74 (ho : zSp o) (hq : zSp q) (hoq : o + 2 < q ∨ q + 2 < o) : ∃ mi', zCall 74 [.ref o, .ref q] (SH Ls) mi mj (RF g) = some (none, SH Ls, mi', mj, RF g) ∧ mi' o 2 = mi q 2 ∧ (∀ k, k < 60 → mi' (o + 1) k = mi (q + 1) k ∧ mi' (o + 2) k = mi (q + 2) k) ∧ (∀ a, a < o ∨ o + 2 < a → mi' a = mi a) := by
  refine ⟨zrw (zrw (zup mi o 2 (mi q 2)) (o + 1) (fun j => if j < 60 then mi (q + 1) j else mi (o + 1) j)) (o + 2) (fun j => if j < 60 then mi (q + 2) j else mi (o + 2) j), ?_, ?_, ?_, ?_⟩
  · have h1 : zup mi o 2 (mi q 2) (q + 1) = mi (q + 1) := zup_ne (by omega)
    have h2 : zup mi o 2 (mi q 2) (o + 1) = mi (o + 1) := zup_ne (by omega)
    have h3 : zrw (zup mi o 2 (mi q 2)) (o + 1) (fun j => if j < 60 then mi (q + 1) j else mi (o + 1) j) (q + 2) = mi (q + 2) := by rw [zrw_ne (by omega), zup_ne (by omega)]
    have h4 : zrw (zup mi o 2 (mi q 2)) (o + 1) (fun j => if j < 60 then mi (q + 1) j else mi (o + 1) j) (o + 2) = mi (o + 2) := by rw [zrw_ne (by omega), zup_ne (by omega)]
    have hz0 : (zi 0).toNatClampNeg = 0 := by decide
    have hz60 : (zi 60).toNatClampNeg = 60 := by decide
    simp (disch := (first | exact hq60 | exact zSp_i1 ho | exact zSp_i2 ho | exact zSp_i1 hq | exact zSp_i2 hq | exact zSp_is ho | exact zSp_is hq | (first | with_reducible exact (zSp_is ho) | with_reducible exact zi_at (zSp_is ho) (by omega) (by omega) | with_reducible exact (zSp_is hq) | with_reducible exact zi_at (zSp_is hq) (by omega) (by omega) | ((with_reducible refine zct_le ?_) <;> exact Nat.le_of_ble_eq_true rfl) | with_reducible exact zh_0 | with_reducible exact zh_1 | with_reducible exact zh_b | omega))) only [e_74, q_74_0r, q_74_0n, q_74_1r, q_74_1n, q_74_2, q_74_5, q_74_8r, q_74_8n, q_74_9, q_74_12, q_74_13r, q_74_13n, q_74_14, q_74_17, q_74_18, q_74_23r, q_74_23n, q_74_24, q_74_27, q_74_28r, q_74_28n, q_74_29, q_74_32, q_74_33, q_74_38, q_74_20i (n0 := 60) (n1 := 60), q_74_35i (n0 := 60) (n1 := 60), vf_s, vf_n, zk2_none, zk2_int, zk2_ref, zk2_null, zk2_long, zct_nil, zct_i, zct_l, zct_r, zct_n, Option.bind_some, Option.toList_some, Option.toList_none, List.cons_append, List.nil_append, zor_l, zor_r, if_true, if_false, ↓reduceIte, zi_lit, zi_of, zi_add, zi_mul, zi_sub, zi_nat, zi_leT, zi_leF, zi_ltT, zi_ltF, zi_eqT, zi_eqF, zif_0z, zif_bz, zi_01l, zi_01r, not_true_eq_false, not_false_eq_true, Nat.reduceAdd, Nat.reduceMul, Nat.reduceSub, zSp_r0 ho, zSp_r1 ho, zSp_r0 hq, zSp_r1 hq, hz0, hz60, cpy60, h1, h2, h3, h4]
  · rw [zrw_ne (by omega), zrw_ne (by omega), zg_s]
  · intro k hk
    rw [zrw_ne (o' := o + 1) (by omega), zrw_eq, zrw_eq]
    exact ⟨if_pos hk, if_pos hk⟩
  · intro a ha
    rw [zrw_ne (by omega), zrw_ne (by omega), zup_ne (by omega)]
theorem l_3 (ho : zBx o) (hq : zBx q) (hoq : o + 2 < q ∨ q + 2 < o) (n : Nat) : ∀ k, k + n = 4 → ∀ mi1 : zI, (∀ a, a < o + 1 ∨ o + 2 < a → mi1 a = mi a) → (∀ j, j < k → mi1 (o + 1) j = mi (q + 1) j ∧ mi1 (o + 2) j = mi (q + 2) j) → ∃ mi2, zRun 3 2 [some (.ref o), some (.ref q), some (.int (zi k))] [] (SH Ls) mi1 mj (RF g) = some (none, SH Ls, mi2, mj, RF g) ∧ (∀ a, a < o + 1 ∨ o + 2 < a → mi2 a = mi a) ∧ (∀ j, j < 4 → mi2 (o + 1) j = mi (q + 1) j ∧ mi2 (o + 2) j = mi (q + 2) j) := by
  induction n with
  | zero =>
    intro k hk mi1 h1 h2
    obtain rfl : k = 4 := by omega
    refine ⟨mi1, ?_, h1, h2⟩
    rw [q_3_2]
    simp (disch := (first | ((with_reducible refine zct_le ?_) <;> exact Nat.le_of_ble_eq_true rfl) | with_reducible exact zh_0 | with_reducible exact zh_1 | with_reducible exact zh_b | omega)) only [q_3_3, q_3_4, q_3_7r, q_3_7n, q_3_8, q_3_9r, q_3_9n, q_3_10, q_3_13, q_3_14, q_3_15r, q_3_15n, q_3_16, q_3_19, q_3_20, q_3_21, q_3_24, q_3_27, q_3_30, vf_s, vf_n, zk2_none, zk2_int, zk2_ref, zk2_null, zk2_long, zct_nil, zct_i, zct_l, zct_r, zct_n, Option.bind_some, Option.toList_some, Option.toList_none, List.cons_append, List.nil_append, zor_l, zor_r, if_true, if_false, ↓reduceIte, zi_lit, zi_of, zi_add, zi_mul, zi_sub, zi_nat, zi_leT, zi_leF, zi_ltT, zi_ltF, zi_eqT, zi_eqF, zif_0z, zif_bz, zi_01l, zi_01r, not_true_eq_false, not_false_eq_true, Nat.reduceAdd, Nat.reduceMul, Nat.reduceSub]
  | succ n ih =>
    intro k hk mi1 h1 h2
    have m2 := m_2 (Ls := Ls) (mi := mi1) (mj := mj) (g := g) (o := o) (y := mi (q + 1) k) (z := mi (q + 2) k) (x := zi k) ho (zi_in (by omega) (by omega))
    rw [zi_nat (by omega)] at m2
    obtain ⟨mi2, r1, r2, r3⟩ := ih (k + 1) (by omega) (zup (zup mi1 (o + 1) k (mi (q + 1) k)) (o + 2) k (mi (q + 2) k)) (fun a ha => by rw [zup_ne (by omega), zup_ne (by omega), h1 a ha]) (fun j hj => by
      by_cases c : j = k
      · subst c; simp (disch := omega) only [zg_s, zg_o, zg_j, zg_r, zg_ro, zg_d, yfl_o, and_self]
      · simp (disch := omega) only [zg_s, zg_o, zg_j, zg_r, zg_ro, zg_d, yfl_o]; exact h2 j (by omega))
    refine ⟨mi2, ?_, r2, r3⟩
    rw [q_3_2]
    simp (disch := (first | with_reducible exact (zBx_is ho) | with_reducible exact zi_at (zBx_is ho) (by omega) (by omega) | with_reducible exact (zBx_is hq) | with_reducible exact zi_at (zBx_is hq) (by omega) (by omega) | with_reducible exact (zBx_i1 hq) | with_reducible exact zi_at (zBx_i1 hq) (by omega) (by omega) | with_reducible exact (zBx_i2 hq) | with_reducible exact zi_at (zBx_i2 hq) (by omega) (by omega) | ((with_reducible refine zct_le ?_) <;> exact Nat.le_of_ble_eq_true rfl) | with_reducible exact zh_0 | with_reducible exact zh_1 | with_reducible exact zh_b | omega)) only [q_3_3, q_3_4, q_3_7r, q_3_7n, q_3_8, q_3_9r, q_3_9n, q_3_10, q_3_13, q_3_14, q_3_15r, q_3_15n, q_3_16, q_3_19, q_3_20, q_3_21, q_3_24, q_3_27, q_3_30, vf_s, vf_n, zk2_none, zk2_int, zk2_ref, zk2_null, zk2_long, zct_nil, zct_i, zct_l, zct_r, zct_n, Option.bind_some, Option.toList_some, Option.toList_none, List.cons_append, List.nil_append, zor_l, zor_r, if_true, if_false, ↓reduceIte, zi_lit, zi_of, zi_add, zi_mul, zi_sub, zi_nat, zi_leT, zi_leF, zi_ltT, zi_ltF, zi_eqT, zi_eqF, zif_0z, zif_bz, zi_01l, zi_01r, not_true_eq_false, not_false_eq_true, Nat.reduceAdd, Nat.reduceMul, Nat.reduceSub, zBx_r0 hq, zBx_r1 hq, h1 (q + 1) (by omega), h1 (q + 2) (by omega), m2]
    exact r1
end
