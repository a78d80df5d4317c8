/-! ===== tighten (1): the worst box ===== -/
def wst (R : Nat → Int64) : Nat → Nat
  | 0 => 0
  | n + 1 => if R n < R (wst R n) then n else wst R n
def eB (lo hi : Nat → Int32) (u : Nat) (K : Nat → Nat) (V : Nat → Int32) (N : Nat) (b : Bx) : En := topE b.1 b.2 u K V N
def gone0 : Int64 := -1000000000000000000
theorem gone0_i : gone0.toInt = -1000000000000000000 := by decide
theorem wst_lt (R : Nat → Int64) (n : Nat) : wst R n < n ∨ wst R n = 0 := by
  induction n with
  | zero => exact Or.inr rfl
  | succ n ih =>
    rw [wst]
    split
    · exact Or.inl (by omega)
    · omega
theorem wst_1 (R : Nat → Int64) : wst R 1 = 0 := by
  rw [wst]
  split <;> rfl
theorem wst_c {R Q : Nat → Int64} (n : Nat) (h : ∀ j, j < n → R j = Q j) : wst R n = wst Q n := by
  induction n with
  | zero => rfl
  | succ n ih =>
    have e := ih fun j hj => h j (by omega)
    have hl : wst Q n < n + 1 := by rcases wst_lt Q n with q | q <;> omega
    rw [wst, wst, e, h n (by omega), h (wst Q n) hl]
theorem fOk_rg {F : FF} (h : fOk F) : -1000000000 ≤ (flow F).toInt ∧ (flow F).toInt ≤ 1000000000 ∧ -1000000000 ≤ (fhigh F).toInt ∧ (fhigh F).toInt ≤ 1000000000 := by
  have h1 := h.2.2.2.2
  have h2 := h.1 14 (by omega)
  have h3 := h.1 15 (by omega)
  have h4 := fhigh_le (F := F)
  have h5 : (F 14).toInt ≤ (flow F).toInt := by unfold flow; rw [zmax_i]; split <;> omega
  omega
theorem rk_rg {lo hi : Nat → Int32} {u N : Nat} {K : Nat → Nat} {V : Nat → Int32} {z : Int32} (hb : boxIn lo hi) (hu : u ≤ 8) (h : exOne K V N) : gone0 ≤ rkE z (topE lo hi u K V N) ∧ ((topE lo hi u K V N).1 = zi 0 → gone0 < rkE z (topE lo hi u K V N)) := by
  unfold rkE
  by_cases c : (topE lo hi u K V N).1 = zi 0
  · obtain ⟨h1, h2, h3, h4⟩ := fOk_rg (top_ok hb hu h c)
    rw [if_pos c, zj_le, zj_lt, gone0_i]
    split
    · omega
    · rw [zj_neg (by omega)]; omega
  · rw [if_neg c]
    exact ⟨by rw [zj_le]; exact Int.le_refl _, fun h => absurd h c⟩
theorem wst_le (R : Nat → Int64) (n : Nat) : ∀ j, j < n → (R (wst R n)).toInt ≤ (R j).toInt := by
  induction n with
  | zero => intro j hj; omega
  | succ n ih =>
    intro j hj
    rw [wst]
    by_cases c : R n < R (wst R n)
    · rw [if_pos c]
      rw [zj_lt] at c
      by_cases e : j = n
      · subst e; exact Int.le_refl _
      · have := ih j (by omega); omega
    · rw [if_neg c]
      rw [zj_lt] at c
      by_cases e : j = n
      · subst e; omega
      · exact ih j (by omega)
def siB (b : Bx) (T : En) : Int32 := if spl b T < 4 then zi (spl b T) else -zi 1
section
variable {Ls : Nat} {g : Nat → Nat} {mi mi' : zI} {mj mj' : zJ} {x y z : Int32} {a b e n p q k c m u s i N : Nat} {v w : Value} {lo hi lo' hi' : Nat → Int32} {NN : Nat → Nat} {KK : Nat → Nat → Nat} {VV : Nat → Nat → Int32} {T M : En} {o f : Nat} {B : Nat → Bx} {bx : Bx} {r : Int64} {K : Nat → Nat} {V : Nat → Int32} {R : Nat → Int64}
theorem l_17 (hn : mi 97 4 = zi n) (hn2 : n ≤ 200) (h : ∀ j, j < n → mj 100 j = R j) (m : Nat) : ∀ k, k + m = n → 1 ≤ k → zRun 17 4 [some (.ref 97), some (.int (zi (wst R k))), some (.int (zi k))] [] (SH Ls) mi mj (RF g) = some (some (.int (zi (wst R n))), SH Ls, mi, mj, RF g) := by
  induction m with
  | zero =>
    intro k hk h1
    obtain rfl : k = n := by omega
    have hw := wst_lt R k
    rw [q_17_4]
    simp (disch := (first | with_reducible exact is_97 | with_reducible exact zi_at is_97 (by omega) (by omega) | ((with_reducible refine zct_le ?_) <;> exact Nat.le_of_ble_eq_true rfl) | with_reducible exact zh_0 | with_reducible exact zh_1 | with_reducible exact zh_b | omega)) only [q_17_5r, q_17_5n, q_17_6, q_17_9, q_17_12r, q_17_12n, q_17_13, q_17_16, q_17_17, q_17_18r, q_17_18n, q_17_19, q_17_22, q_17_23, q_17_24, q_17_25, q_17_28, q_17_29, q_17_30, q_17_33, q_17_36, q_17_37, vf_s, vf_n, zk2_none, zk2_int, zk2_ref, zk2_null, zk2_long, zct_nil, zct_i, zct_l, zct_r, zct_n, Option.bind_some, Option.toList_some, Option.toList_none, List.cons_append, List.nil_append, zor_l, zor_r, if_true, if_false, ↓reduceIte, zi_lit, zi_of, zi_add, zi_mul, zi_sub, zi_nat, zi_leT, zi_leF, zi_ltT, zi_ltF, zi_eqT, zi_eqF, zif_0z, zif_bz, zi_01l, zi_01r, not_true_eq_false, not_false_eq_true, Nat.reduceAdd, Nat.reduceMul, Nat.reduceSub, hn]
  | succ m ih =>
    intro k hk h1
    have hw := wst_lt R k
    have := ih (k + 1) (by omega) (by omega)
    have a1 := h k (by omega)
    have a2 := h (wst R k) (by omega)
    rw [q_17_4]
    by_cases c : R k < R (wst R k)
    · rw [wst, if_pos c] at this
      simp (disch := (first | with_reducible exact is_97 | with_reducible exact zi_at is_97 (by omega) (by omega) | with_reducible exact is_100 | with_reducible exact zi_at is_100 (by omega) (by omega) | ((with_reducible refine zct_le ?_) <;> exact Nat.le_of_ble_eq_true rfl) | with_reducible exact zh_0 | with_reducible exact zh_1 | with_reducible exact zh_b | omega)) only [q_17_5r, q_17_5n, q_17_6, q_17_9, q_17_12r, q_17_12n, q_17_13, q_17_16, q_17_17, q_17_18r, q_17_18n, q_17_19, q_17_22, q_17_23, q_17_24, q_17_25, q_17_28, q_17_29, q_17_30, q_17_33, q_17_36, q_17_37, vf_s, vf_n, zk2_none, zk2_int, zk2_ref, zk2_null, zk2_long, zct_nil, zct_i, zct_l, zct_r, zct_n, Option.bind_some, Option.toList_some, Option.toList_none, List.cons_append, List.nil_append, zor_l, zor_r, if_true, if_false, ↓reduceIte, zi_lit, zi_of, zi_add, zi_mul, zi_sub, zi_nat, zi_leT, zi_leF, zi_ltT, zi_ltF, zi_eqT, zi_eqF, zif_0z, zif_bz, zi_01l, zi_01r, not_true_eq_false, not_false_eq_true, Nat.reduceAdd, Nat.reduceMul, Nat.reduceSub, hn, rf_97_2, a1, a2]
      rw [if_neg (by rw [zj_le]; rw [zj_lt] at c; omega)]
      exact this
    · rw [wst, if_neg c] at this
      simp (disch := (first | with_reducible exact is_97 | with_reducible exact zi_at is_97 (by omega) (by omega) | with_reducible exact is_100 | with_reducible exact zi_at is_100 (by omega) (by omega) | ((with_reducible refine zct_le ?_) <;> exact Nat.le_of_ble_eq_true rfl) | with_reducible exact zh_0 | with_reducible exact zh_1 | with_reducible exact zh_b | omega)) only [q_17_5r, q_17_5n, q_17_6, q_17_9, q_17_12r, q_17_12n, q_17_13, q_17_16, q_17_17, q_17_18r, q_17_18n, q_17_19, q_17_22, q_17_23, q_17_24, q_17_25, q_17_28, q_17_29, q_17_30, q_17_33, q_17_36, q_17_37, vf_s, vf_n, zk2_none, zk2_int, zk2_ref, zk2_null, zk2_long, zct_nil, zct_i, zct_l, zct_r, zct_n, Option.bind_some, Option.toList_some, Option.toList_none, List.cons_append, List.nil_append, zor_l, zor_r, if_true, if_false, ↓reduceIte, zi_lit, zi_of, zi_add, zi_mul, zi_sub, zi_nat, zi_leT, zi_leF, zi_ltT, zi_ltF, zi_eqT, zi_eqF, zif_0z, zif_bz, zi_01l, zi_01r, not_true_eq_false, not_false_eq_true, Nat.reduceAdd, Nat.reduceMul, Nat.reduceSub, hn, rf_97_2, a1, a2]
      rw [if_pos (by rw [zj_le]; rw [zj_lt] at c; omega)]
      exact this
theorem m_17 (hn : mi 97 4 = zi n) (hn2 : n ≤ 200) (h1 : 1 ≤ n) (h : ∀ j, j < n → mj 100 j = R j) : zCall 17 [.ref 97] (SH Ls) mi mj (RF g) = some (some (.int (zi (wst R n))), SH Ls, mi, mj, RF g) := by
  have := l_17 (Ls := Ls) (g := g) (R := R) hn hn2 h (n - 1) 1 (by omega) (by omega)
  rw [wst_1] at this
  simp (disch := (first | ((with_reducible refine zct_le ?_) <;> exact Nat.le_of_ble_eq_true rfl) | with_reducible exact zh_0 | with_reducible exact zh_1 | with_reducible exact zh_b | omega)) only [e_17, q_17_0, q_17_1, q_17_2, q_17_3, vf_s, vf_n, zk2_none, zk2_int, zk2_ref, zk2_null, zk2_long, zct_nil, zct_i, zct_l, zct_r, zct_n, Option.bind_some, Option.toList_some, Option.toList_none, List.cons_append, List.nil_append, zor_l, zor_r, if_true, if_false, ↓reduceIte, zi_lit, zi_of, zi_add, zi_mul, zi_sub, zi_nat, zi_leT, zi_leF, zi_ltT, zi_ltF, zi_eqT, zi_eqF, zif_0z, zif_bz, zi_01l, zi_01r, not_true_eq_false, not_false_eq_true, Nat.reduceAdd, Nat.reduceMul, Nat.reduceSub]
  exact this
end
