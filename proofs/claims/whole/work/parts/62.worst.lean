/-! ===== tighten (1): the worst box ===== -/
def wst (R : Nat → Int64) : Nat → Nat
  | 0 => 0
  | n + 1 => if R n < R (wst R n) then n else wst R n
def eB (lo hi : Nat → Int32) (u : Nat) (K : Nat → Nat) (V : Nat → Int32) (N : Nat) (b : Bx) : En := topE b.1 b.2 u K V N
def gone0 : Int64 := -1000000000000000000
theorem gone0_i : gone0.toInt = -1000000000000000000 := by decide
theorem wst_lt (R : Nat → Int64) (n : Nat) : wst R n < n ∨ wst R n = 0 := by
  induction n with
  | zero => exact Or.inr rfl
  | succ n ih =>
    rw [wst]
    split
    · exact Or.inl (by omega)
    · omega
theorem wst_1 (R : Nat → Int64) : wst R 1 = 0 := by
  rw [wst]
  split <;> rfl
theorem wst_c {R Q : Nat → Int64} (n : Nat) (h : ∀ j, j < n → R j = Q j) : wst R n = wst Q n := by
  induction n with
  | zero => rfl
  | succ n ih =>
    have e := ih fun j hj => h j (by omega)
    have hl : wst Q n < n + 1 := by rcases wst_lt Q n with q | q <;> omega
    rw [wst, wst, e, h n (by omega), h (wst Q n) hl]
theorem wst_w {R : Nat → Int64} {k : Nat} (h1 : ∀ j, j < k → gone0 < R j) (h2 : R k = gone0) (m : Nat) : (∀ j, j < k + 1 + m → gone0 ≤ R j) → wst R (k + 1 + m) = k := by
  induction m with
  | zero =>
    intro _
    rw [Nat.add_zero, wst]
    rcases wst_lt R k with q | q
    · rw [if_pos (by rw [h2]; exact h1 _ q)]
    · by_cases c : k = 0
      · subst c; split <;> rfl
      · rw [if_pos (by rw [h2, q]; exact h1 0 (by omega))]
  | succ m ih =>
    intro h3
    rw [← Nat.add_assoc, wst, ih (fun j hj => h3 j (by omega)), h2, if_neg (fun c => by
      have := h3 (k + 1 + m) (by omega)
      rw [zj_le] at this
      rw [zj_lt] at c
      omega)]
theorem fOk_rg {F : FF} (h : fOk F) : -1000000000 ≤ (flow F).toInt ∧ (flow F).toInt ≤ 1000000000 ∧ -1000000000 ≤ (fhigh F).toInt ∧ (fhigh F).toInt ≤ 1000000000 := by
  have h1 := h.2.2.2.2
  have h2 := h.1 14 (by omega)
  have h3 := h.1 15 (by omega)
  have h4 := fhigh_le (F := F)
  have h5 : (F 14).toInt ≤ (flow F).toInt := by unfold flow; rw [zmax_i]; split <;> omega
  omega
theorem top_ok {lo hi : Nat → Int32} {u N : Nat} {K : Nat → Nat} {V : Nat → Int32} (hb : boxIn lo hi) (hu : u ≤ 8) (h : exOne K V N) (hz : (topE lo hi u K V N).1 = zi 0) : fOk (topE lo hi u K V N).2 := by
  obtain ⟨w1, w2, w3⟩ := h
  obtain ⟨⟨M, E, Z, hI⟩, -⟩ := gd_all (lo := lo) (hi := hi) hb hu N w1.wf w2
  exact (hI.2.2.2 (dep K N - 1) (by omega) hz).1
theorem rk_rg {lo hi : Nat → Int32} {u N : Nat} {K : Nat → Nat} {V : Nat → Int32} {z : Int32} (hb : boxIn lo hi) (hu : u ≤ 8) (h : exOne K V N) : gone0 ≤ rkE z (topE lo hi u K V N) ∧ ((topE lo hi u K V N).1 = zi 0 → gone0 < rkE z (topE lo hi u K V N)) := by
  unfold rkE
  by_cases c : (topE lo hi u K V N).1 = zi 0
  · obtain ⟨h1, h2, h3, h4⟩ := fOk_rg (top_ok hb hu h c)
    rw [if_pos c, zj_le, zj_lt, gone0_i]
    split
    · omega
    · rw [zj_neg (by omega)]; omega
  · rw [if_neg c]
    exact ⟨by rw [zj_le]; exact Int.le_refl _, fun h => absurd h c⟩
theorem upL_comm {B : Nat → Bx} {w n : Nat} {a b : Bx} (h : ¬ w = n) : upL (upL B w a) n b = upL (upL B n b) w a := by
  funext i
  unfold upL
  by_cases c : i = n
  · subst c; rw [if_pos rfl, if_neg (fun q => h q.symm), if_pos rfl]
  · by_cases c2 : i = w
    · subst c2; rw [if_neg c, if_pos rfl, if_pos rfl]
    · rw [if_neg c, if_neg c2, if_neg c2, if_neg c]
def siB (b : Bx) (T : En) : Int32 := if spl b T < 4 then zi (spl b T) else -zi 1
section
variable {Ls : Nat} {g : Nat → Nat} {mi mi' : zI} {mj mj' : zJ} {x y z : Int32} {a b e n p q k c m u s i N : Nat} {v w : Value} {lo hi lo' hi' : Nat → Int32} {NN : Nat → Nat} {KK : Nat → Nat → Nat} {VV : Nat → Nat → Int32} {T M : En} {o f : Nat} {B : Nat → Bx} {bx : Bx} {r : Int64} {K : Nat → Nat} {V : Nat → Int32} {R : Nat → Int64}
theorem l_17 (hn : mi 97 4 = zi n) (hn2 : n ≤ 200) (h : ∀ j, j < n → mj 100 j = R j) (m : Nat) : ∀ k, k + m = n → 1 ≤ k → zRun 17 4 [some (.ref 97), some (.int (zi (wst R k))), some (.int (zi k))] [] (SH Ls) mi mj (RF g) = some (some (.int (zi (wst R n))), SH Ls, mi, mj, RF g) := by
  induction m with
  | zero =>
    intro k hk h1
    obtain rfl : k = n := by omega
    have hw := wst_lt R k
    rw [q_17_4]
    simp (disch := (first | with_reducible exact is_97 | with_reducible exact zi_at is_97 (by omega) (by omega) | ((with_reducible refine zct_le ?_) <;> exact Nat.le_of_ble_eq_true rfl) | with_reducible exact zh_0 | with_reducible exact zh_1 | with_reducible exact zh_b | omega)) only [q_17_5r, q_17_5n, q_17_6, q_17_9, q_17_12r, q_17_12n, q_17_13, q_17_16, q_17_17, q_17_18r, q_17_18n, q_17_19, q_17_22, q_17_23, q_17_24, q_17_25, q_17_28, q_17_29, q_17_30, q_17_33, q_17_36, q_17_37, vf_s, vf_n, zk2_none, zk2_int, zk2_ref, zk2_null, zk2_long, zct_nil, zct_i, zct_l, zct_r, zct_n, Option.bind_some, Option.toList_some, Option.toList_none, List.cons_append, List.nil_append, zor_l, zor_r, if_true, if_false, ↓reduceIte, zi_lit, zi_of, zi_add, zi_mul, zi_sub, zi_nat, zi_leT, zi_leF, zi_ltT, zi_ltF, zi_eqT, zi_eqF, zif_0z, zif_bz, zi_01l, zi_01r, not_true_eq_false, not_false_eq_true, Nat.reduceAdd, Nat.reduceMul, Nat.reduceSub, hn]
  | succ m ih =>
    intro k hk h1
    have hw := wst_lt R k
    have := ih (k + 1) (by omega) (by omega)
    have a1 := h k (by omega)
    have a2 := h (wst R k) (by omega)
    rw [q_17_4]
    by_cases c : R k < R (wst R k)
    · rw [wst, if_pos c] at this
      simp (disch := (first | with_reducible exact is_97 | with_reducible exact zi_at is_97 (by omega) (by omega) | with_reducible exact is_100 | with_reducible exact zi_at is_100 (by omega) (by omega) | ((with_reducible refine zct_le ?_) <;> exact Nat.le_of_ble_eq_true rfl) | with_reducible exact zh_0 | with_reducible exact zh_1 | with_reducible exact zh_b | omega)) only [q_17_5r, q_17_5n, q_17_6, q_17_9, q_17_12r, q_17_12n, q_17_13, q_17_16, q_17_17, q_17_18r, q_17_18n, q_17_19, q_17_22, q_17_23, q_17_24, q_17_25, q_17_28, q_17_29, q_17_30, q_17_33, q_17_36, q_17_37, vf_s, vf_n, zk2_none, zk2_int, zk2_ref, zk2_null, zk2_long, zct_nil, zct_i, zct_l, zct_r, zct_n, Option.bind_some, Option.toList_some, Option.toList_none, List.cons_append, List.nil_append, zor_l, zor_r, if_true, if_false, ↓reduceIte, zi_lit, zi_of, zi_add, zi_mul, zi_sub, zi_nat, zi_leT, zi_leF, zi_ltT, zi_ltF, zi_eqT, zi_eqF, zif_0z, zif_bz, zi_01l, zi_01r, not_true_eq_false, not_false_eq_true, Nat.reduceAdd, Nat.reduceMul, Nat.reduceSub, hn, rf_97_2, a1, a2]
      rw [if_neg (by rw [zj_le]; rw [zj_lt] at c; omega)]
      exact this
    · rw [wst, if_neg c] at this
      simp (disch := (first | with_reducible exact is_97 | with_reducible exact zi_at is_97 (by omega) (by omega) | with_reducible exact is_100 | with_reducible exact zi_at is_100 (by omega) (by omega) | ((with_reducible refine zct_le ?_) <;> exact Nat.le_of_ble_eq_true rfl) | with_reducible exact zh_0 | with_reducible exact zh_1 | with_reducible exact zh_b | omega)) only [q_17_5r, q_17_5n, q_17_6, q_17_9, q_17_12r, q_17_12n, q_17_13, q_17_16, q_17_17, q_17_18r, q_17_18n, q_17_19, q_17_22, q_17_23, q_17_24, q_17_25, q_17_28, q_17_29, q_17_30, q_17_33, q_17_36, q_17_37, vf_s, vf_n, zk2_none, zk2_int, zk2_ref, zk2_null, zk2_long, zct_nil, zct_i, zct_l, zct_r, zct_n, Option.bind_some, Option.toList_some, Option.toList_none, List.cons_append, List.nil_append, zor_l, zor_r, if_true, if_false, ↓reduceIte, zi_lit, zi_of, zi_add, zi_mul, zi_sub, zi_nat, zi_leT, zi_leF, zi_ltT, zi_ltF, zi_eqT, zi_eqF, zif_0z, zif_bz, zi_01l, zi_01r, not_true_eq_false, not_false_eq_true, Nat.reduceAdd, Nat.reduceMul, Nat.reduceSub, hn, rf_97_2, a1, a2]
      rw [if_pos (by rw [zj_le]; rw [zj_lt] at c; omega)]
      exact this
theorem m_17 (hn : mi 97 4 = zi n) (hn2 : n ≤ 200) (h1 : 1 ≤ n) (h : ∀ j, j < n → mj 100 j = R j) : zCall 17 [.ref 97] (SH Ls) mi mj (RF g) = some (some (.int (zi (wst R n))), SH Ls, mi, mj, RF g) := by
  have := l_17 (Ls := Ls) (g := g) (R := R) hn hn2 h (n - 1) 1 (by omega) (by omega)
  rw [wst_1] at this
  simp (disch := (first | ((with_reducible refine zct_le ?_) <;> exact Nat.le_of_ble_eq_true rfl) | with_reducible exact zh_0 | with_reducible exact zh_1 | with_reducible exact zh_b | omega)) only [e_17, q_17_0, q_17_1, q_17_2, q_17_3, vf_s, vf_n, zk2_none, zk2_int, zk2_ref, zk2_null, zk2_long, zct_nil, zct_i, zct_l, zct_r, zct_n, Option.bind_some, Option.toList_some, Option.toList_none, List.cons_append, List.nil_append, zor_l, zor_r, if_true, if_false, ↓reduceIte, zi_lit, zi_of, zi_add, zi_mul, zi_sub, zi_nat, zi_leT, zi_leF, zi_ltT, zi_ltF, zi_eqT, zi_eqF, zif_0z, zif_bz, zi_01l, zi_01r, not_true_eq_false, not_false_eq_true, Nat.reduceAdd, Nat.reduceMul, Nat.reduceSub]
  exact this
/-- what the model keeps of an evaluated box -/
def mRk (lo hi : Nat → Int32) (u : Nat) (K : Nat → Nat) (V : Nat → Int32) (N : Nat) (mi : zI) (mj : zJ) (n : Nat) (B : Nat → Bx) : Prop := ∀ j, j < n → mi 166 j = (if (eB lo hi u K V N (B j)).1 = zi 0 then zi 0 else zi 1) ∧ ((eB lo hi u K V N (B j)).1 = zi 0 → mj 167 j = flow (eB lo hi u K V N (B j)).2 ∧ mj 168 j = fhigh (eB lo hi u K V N (B j)).2)
theorem l_191 (hn : mi 148 22 = zi n) (hn2 : n ≤ 110) (hz : z = zi 0 ∨ z = zi 1) (hB : ∀ j, j < n → boxIn (B j).1 (B j).2) (hu : u ≤ 8) (hx : exOne K V N) (h : mRk lo hi u K V N mi mj n B) (hR : ∀ j, j < n → R j = rkE z (eB lo hi u K V N (B j))) (m : Nat) : ∀ k, k + m = n → (∀ j, j < k → (eB lo hi u K V N (B j)).1 = zi 0) → ∀ l4, (0 < k ∨ 0 < m) → zRun 191 4 [some (.ref 148), some (.int z), some (.int (zi (wst R k))), some (.int (zi k)), l4] [] (SH Ls) mi mj (RF g) = some (some (.int (zi (wst R n))), SH Ls, mi, mj, RF g) := by
  induction m with
  | zero =>
    intro k hk h1 l4 _
    obtain rfl : k = n := by omega
    rw [q_191_4]
    simp (disch := (first | with_reducible exact is_148 | with_reducible exact zi_at is_148 (by omega) (by omega) | ((with_reducible refine zct_le ?_) <;> exact Nat.le_of_ble_eq_true rfl) | with_reducible exact zh_0 | with_reducible exact zh_1 | with_reducible exact zh_b | omega)) only [q_191_5r, q_191_5n, q_191_6, q_191_9, q_191_12r, q_191_12n, q_191_13, q_191_16, q_191_17, q_191_18, q_191_21, q_191_22, q_191_23, q_191_24, q_191_27r, q_191_27n, q_191_28, q_191_31, q_191_32, q_191_33r, q_191_33n, q_191_34, q_191_37, q_191_38, q_191_39, q_191_40, q_191_43, q_191_44, q_191_47, q_191_48, q_191_51r, q_191_51n, q_191_52, q_191_55, q_191_56, q_191_57r, q_191_57n, q_191_58, q_191_61, q_191_62, q_191_63, q_191_64, q_191_67, q_191_68, q_191_71, q_191_72, q_191_74, q_191_76, q_191_79, q_191_80, q_191_83, q_191_84, q_191_85, q_191_88, q_191_91, q_191_92, vf_s, vf_n, zk2_none, zk2_int, zk2_ref, zk2_null, zk2_long, zct_nil, zct_i, zct_l, zct_r, zct_n, Option.bind_some, Option.toList_some, Option.toList_none, List.cons_append, List.nil_append, zor_l, zor_r, if_true, if_false, ↓reduceIte, zi_lit, zi_of, zi_add, zi_mul, zi_sub, zi_nat, zi_leT, zi_leF, zi_ltT, zi_ltF, zi_eqT, zi_eqF, zif_0z, zif_bz, zi_01l, zi_01r, not_true_eq_false, not_false_eq_true, Nat.reduceAdd, Nat.reduceMul, Nat.reduceSub, hn]
  | succ m ih =>
    intro k hk h1 l4 _
    obtain ⟨a1, a2⟩ := h k (by omega)
    by_cases c : (eB lo hi u K V N (B k)).1 = zi 0
    · rw [if_pos c] at a1
      obtain ⟨a3, a4⟩ := a2 c
      have hwk : k = 0 ∨ wst R k < k := by rcases wst_lt R k with q | q <;> omega
      have b : (eB lo hi u K V N (B (wst R k))).1 = zi 0 := by
        rcases hwk with q | q
        · subst q; exact c
        · exact h1 _ q
      have hwn : wst R k < n := by rcases hwk with q | q; subst q; show 0 < n; omega; omega
      obtain ⟨-, b2⟩ := h (wst R k) hwn
      obtain ⟨b3, b4⟩ := b2 b
      have hnew : ∀ j, j < k + 1 → (eB lo hi u K V N (B j)).1 = zi 0 := fun j hj => by
        by_cases q : j = k
        · subst q; exact c
        · exact h1 j (by omega)
      have r1 := hR k (by omega)
      have r2 := hR (wst R k) hwn
      have o1 := fOk_rg (top_ok (hB k (by omega)) hu hx c)
      have o2 := fOk_rg (top_ok (hB (wst R k) hwn) hu hx b)
      have key : (R k < R (wst R k)) = (if z = zi 0 then flow (eB lo hi u K V N (B k)).2 < flow (eB lo hi u K V N (B (wst R k))).2 else fhigh (eB lo hi u K V N (B (wst R k))).2 < fhigh (eB lo hi u K V N (B k)).2) := by
        rw [r1, r2]
        unfold rkE
        rw [if_pos c, if_pos b]
        rcases hz with q | q
        · rw [if_pos q, if_pos q, if_pos q]
        · have q0 : ¬ z = zi 0 := by rw [q]; decide
          rw [if_neg q0, if_neg q0, if_neg q0, zj_lt, zj_lt, zj_neg (by have := o1.2.2; unfold eB; omega), zj_neg (by have := o2.2.2; unfold eB; omega)]
          exact propext ⟨fun h => by omega, fun h => by omega⟩
      rcases hz with rfl | rfl
      · rw [if_pos rfl] at key
        rw [q_191_4]
        by_cases c2 : R k < R (wst R k)
        · have := ih (k + 1) (by omega) hnew (some (.int (zi 1))) (by omega)
          rw [wst, if_pos c2] at this
          rw [key] at c2
          simp (disch := (first | with_reducible exact is_148 | with_reducible exact zi_at is_148 (by omega) (by omega) | with_reducible exact is_166 | with_reducible exact zi_at is_166 (by omega) (by omega) | with_reducible exact is_167 | with_reducible exact zi_at is_167 (by omega) (by omega) | with_reducible exact is_168 | with_reducible exact zi_at is_168 (by omega) (by omega) | ((with_reducible refine zct_le ?_) <;> exact Nat.le_of_ble_eq_true rfl) | with_reducible exact zh_0 | with_reducible exact zh_1 | with_reducible exact zh_b | omega)) only [q_191_5r, q_191_5n, q_191_6, q_191_9, q_191_12r, q_191_12n, q_191_13, q_191_16, q_191_17, q_191_18, q_191_21, q_191_22, q_191_23, q_191_24, q_191_27r, q_191_27n, q_191_28, q_191_31, q_191_32, q_191_33r, q_191_33n, q_191_34, q_191_37, q_191_38, q_191_39, q_191_40, q_191_43, q_191_44, q_191_47, q_191_48, q_191_51r, q_191_51n, q_191_52, q_191_55, q_191_56, q_191_57r, q_191_57n, q_191_58, q_191_61, q_191_62, q_191_63, q_191_64, q_191_67, q_191_68, q_191_71, q_191_72, q_191_74, q_191_76, q_191_79, q_191_80, q_191_83, q_191_84, q_191_85, q_191_88, q_191_91, q_191_92, vf_s, vf_n, zk2_none, zk2_int, zk2_ref, zk2_null, zk2_long, zct_nil, zct_i, zct_l, zct_r, zct_n, Option.bind_some, Option.toList_some, Option.toList_none, List.cons_append, List.nil_append, zor_l, zor_r, if_true, if_false, ↓reduceIte, zi_lit, zi_of, zi_add, zi_mul, zi_sub, zi_nat, zi_leT, zi_leF, zi_ltT, zi_ltF, zi_eqT, zi_eqF, zif_0z, zif_bz, zi_01l, zi_01r, not_true_eq_false, not_false_eq_true, Nat.reduceAdd, Nat.reduceMul, Nat.reduceSub, hn, rf_148_27, rf_148_28, rf_148_29, a1, a3, b3]
          rw [if_neg (by rw [zj_le]; rw [zj_lt] at c2; omega)]
          exact this
        · have := ih (k + 1) (by omega) hnew (some (.int (zi 0))) (by omega)
          rw [wst, if_neg c2] at this
          rw [key] at c2
          simp (disch := (first | with_reducible exact is_148 | with_reducible exact zi_at is_148 (by omega) (by omega) | with_reducible exact is_166 | with_reducible exact zi_at is_166 (by omega) (by omega) | with_reducible exact is_167 | with_reducible exact zi_at is_167 (by omega) (by omega) | with_reducible exact is_168 | with_reducible exact zi_at is_168 (by omega) (by omega) | ((with_reducible refine zct_le ?_) <;> exact Nat.le_of_ble_eq_true rfl) | with_reducible exact zh_0 | with_reducible exact zh_1 | with_reducible exact zh_b | omega)) only [q_191_5r, q_191_5n, q_191_6, q_191_9, q_191_12r, q_191_12n, q_191_13, q_191_16, q_191_17, q_191_18, q_191_21, q_191_22, q_191_23, q_191_24, q_191_27r, q_191_27n, q_191_28, q_191_31, q_191_32, q_191_33r, q_191_33n, q_191_34, q_191_37, q_191_38, q_191_39, q_191_40, q_191_43, q_191_44, q_191_47, q_191_48, q_191_51r, q_191_51n, q_191_52, q_191_55, q_191_56, q_191_57r, q_191_57n, q_191_58, q_191_61, q_191_62, q_191_63, q_191_64, q_191_67, q_191_68, q_191_71, q_191_72, q_191_74, q_191_76, q_191_79, q_191_80, q_191_83, q_191_84, q_191_85, q_191_88, q_191_91, q_191_92, vf_s, vf_n, zk2_none, zk2_int, zk2_ref, zk2_null, zk2_long, zct_nil, zct_i, zct_l, zct_r, zct_n, Option.bind_some, Option.toList_some, Option.toList_none, List.cons_append, List.nil_append, zor_l, zor_r, if_true, if_false, ↓reduceIte, zi_lit, zi_of, zi_add, zi_mul, zi_sub, zi_nat, zi_leT, zi_leF, zi_ltT, zi_ltF, zi_eqT, zi_eqF, zif_0z, zif_bz, zi_01l, zi_01r, not_true_eq_false, not_false_eq_true, Nat.reduceAdd, Nat.reduceMul, Nat.reduceSub, hn, rf_148_27, rf_148_28, rf_148_29, a1, a3, b3]
          rw [if_pos (by rw [zj_le]; rw [zj_lt] at c2; omega)]
          exact this
      · rw [if_neg (by decide)] at key
        rw [q_191_4]
        by_cases c2 : R k < R (wst R k)
        · have := ih (k + 1) (by omega) hnew (some (.int (zi 1))) (by omega)
          rw [wst, if_pos c2] at this
          rw [key] at c2
          simp (disch := (first | with_reducible exact is_148 | with_reducible exact zi_at is_148 (by omega) (by omega) | with_reducible exact is_166 | with_reducible exact zi_at is_166 (by omega) (by omega) | with_reducible exact is_167 | with_reducible exact zi_at is_167 (by omega) (by omega) | with_reducible exact is_168 | with_reducible exact zi_at is_168 (by omega) (by omega) | ((with_reducible refine zct_le ?_) <;> exact Nat.le_of_ble_eq_true rfl) | with_reducible exact zh_0 | with_reducible exact zh_1 | with_reducible exact zh_b | omega)) only [q_191_5r, q_191_5n, q_191_6, q_191_9, q_191_12r, q_191_12n, q_191_13, q_191_16, q_191_17, q_191_18, q_191_21, q_191_22, q_191_23, q_191_24, q_191_27r, q_191_27n, q_191_28, q_191_31, q_191_32, q_191_33r, q_191_33n, q_191_34, q_191_37, q_191_38, q_191_39, q_191_40, q_191_43, q_191_44, q_191_47, q_191_48, q_191_51r, q_191_51n, q_191_52, q_191_55, q_191_56, q_191_57r, q_191_57n, q_191_58, q_191_61, q_191_62, q_191_63, q_191_64, q_191_67, q_191_68, q_191_71, q_191_72, q_191_74, q_191_76, q_191_79, q_191_80, q_191_83, q_191_84, q_191_85, q_191_88, q_191_91, q_191_92, vf_s, vf_n, zk2_none, zk2_int, zk2_ref, zk2_null, zk2_long, zct_nil, zct_i, zct_l, zct_r, zct_n, Option.bind_some, Option.toList_some, Option.toList_none, List.cons_append, List.nil_append, zor_l, zor_r, if_true, if_false, ↓reduceIte, zi_lit, zi_of, zi_add, zi_mul, zi_sub, zi_nat, zi_leT, zi_leF, zi_ltT, zi_ltF, zi_eqT, zi_eqF, zif_0z, zif_bz, zi_01l, zi_01r, not_true_eq_false, not_false_eq_true, Nat.reduceAdd, Nat.reduceMul, Nat.reduceSub, hn, rf_148_27, rf_148_28, rf_148_29, a1, a4, b4]
          rw [if_neg (by rw [zj_le]; rw [zj_lt] at c2; omega)]
          exact this
        · have := ih (k + 1) (by omega) hnew (some (.int (zi 0))) (by omega)
          rw [wst, if_neg c2] at this
          rw [key] at c2
          simp (disch := (first | with_reducible exact is_148 | with_reducible exact zi_at is_148 (by omega) (by omega) | with_reducible exact is_166 | with_reducible exact zi_at is_166 (by omega) (by omega) | with_reducible exact is_167 | with_reducible exact zi_at is_167 (by omega) (by omega) | with_reducible exact is_168 | with_reducible exact zi_at is_168 (by omega) (by omega) | ((with_reducible refine zct_le ?_) <;> exact Nat.le_of_ble_eq_true rfl) | with_reducible exact zh_0 | with_reducible exact zh_1 | with_reducible exact zh_b | omega)) only [q_191_5r, q_191_5n, q_191_6, q_191_9, q_191_12r, q_191_12n, q_191_13, q_191_16, q_191_17, q_191_18, q_191_21, q_191_22, q_191_23, q_191_24, q_191_27r, q_191_27n, q_191_28, q_191_31, q_191_32, q_191_33r, q_191_33n, q_191_34, q_191_37, q_191_38, q_191_39, q_191_40, q_191_43, q_191_44, q_191_47, q_191_48, q_191_51r, q_191_51n, q_191_52, q_191_55, q_191_56, q_191_57r, q_191_57n, q_191_58, q_191_61, q_191_62, q_191_63, q_191_64, q_191_67, q_191_68, q_191_71, q_191_72, q_191_74, q_191_76, q_191_79, q_191_80, q_191_83, q_191_84, q_191_85, q_191_88, q_191_91, q_191_92, vf_s, vf_n, zk2_none, zk2_int, zk2_ref, zk2_null, zk2_long, zct_nil, zct_i, zct_l, zct_r, zct_n, Option.bind_some, Option.toList_some, Option.toList_none, List.cons_append, List.nil_append, zor_l, zor_r, if_true, if_false, ↓reduceIte, zi_lit, zi_of, zi_add, zi_mul, zi_sub, zi_nat, zi_leT, zi_leF, zi_ltT, zi_ltF, zi_eqT, zi_eqF, zif_0z, zif_bz, zi_01l, zi_01r, not_true_eq_false, not_false_eq_true, Nat.reduceAdd, Nat.reduceMul, Nat.reduceSub, hn, rf_148_27, rf_148_28, rf_148_29, a1, a4, b4]
          rw [if_pos (by rw [zj_le]; rw [zj_lt] at c2; omega)]
          exact this
    · rw [if_neg c] at a1
      have hw : wst R n = k := by
        have e1 : R k = gone0 := by rw [hR k (by omega)]; unfold rkE; rw [if_neg c]; rfl
        have := wst_w (R := R) (k := k) (fun j hj => by rw [hR j (by omega)]; exact (rk_rg (hB j (by omega)) hu hx).2 (h1 j hj)) e1 m (fun j hj => by rw [hR j (by omega)]; exact (rk_rg (hB j (by omega)) hu hx).1)
        rwa [show k + 1 + m = n by omega] at this
      rw [hw, q_191_4]
      simp (disch := (first | with_reducible exact is_148 | with_reducible exact zi_at is_148 (by omega) (by omega) | with_reducible exact is_166 | with_reducible exact zi_at is_166 (by omega) (by omega) | ((with_reducible refine zct_le ?_) <;> exact Nat.le_of_ble_eq_true rfl) | with_reducible exact zh_0 | with_reducible exact zh_1 | with_reducible exact zh_b | omega)) only [q_191_5r, q_191_5n, q_191_6, q_191_9, q_191_12r, q_191_12n, q_191_13, q_191_16, q_191_17, q_191_18, q_191_21, q_191_22, q_191_23, q_191_24, q_191_27r, q_191_27n, q_191_28, q_191_31, q_191_32, q_191_33r, q_191_33n, q_191_34, q_191_37, q_191_38, q_191_39, q_191_40, q_191_43, q_191_44, q_191_47, q_191_48, q_191_51r, q_191_51n, q_191_52, q_191_55, q_191_56, q_191_57r, q_191_57n, q_191_58, q_191_61, q_191_62, q_191_63, q_191_64, q_191_67, q_191_68, q_191_71, q_191_72, q_191_74, q_191_76, q_191_79, q_191_80, q_191_83, q_191_84, q_191_85, q_191_88, q_191_91, q_191_92, vf_s, vf_n, zk2_none, zk2_int, zk2_ref, zk2_null, zk2_long, zct_nil, zct_i, zct_l, zct_r, zct_n, Option.bind_some, Option.toList_some, Option.toList_none, List.cons_append, List.nil_append, zor_l, zor_r, if_true, if_false, ↓reduceIte, zi_lit, zi_of, zi_add, zi_mul, zi_sub, zi_nat, zi_leT, zi_leF, zi_ltT, zi_ltF, zi_eqT, zi_eqF, zif_0z, zif_bz, zi_01l, zi_01r, not_true_eq_false, not_false_eq_true, Nat.reduceAdd, Nat.reduceMul, Nat.reduceSub, hn, rf_148_27, a1]
theorem m_191 (hn : mi 148 22 = zi n) (hn2 : n ≤ 110) (h1 : 1 ≤ n) (hz : z = zi 0 ∨ z = zi 1) (hB : ∀ j, j < n → boxIn (B j).1 (B j).2) (hu : u ≤ 8) (hx : exOne K V N) (h : mRk lo hi u K V N mi mj n B) (hR : ∀ j, j < n → R j = rkE z (eB lo hi u K V N (B j))) : zCall 191 [.ref 148, .int z] (SH Ls) mi mj (RF g) = some (some (.int (zi (wst R n))), SH Ls, mi, mj, RF g) := by
  have := l_191 (Ls := Ls) (g := g) (R := R) hn hn2 hz hB hu hx h hR n 0 (by omega) (fun j hj => absurd hj (by omega)) none (by omega)
  simp (disch := (first | ((with_reducible refine zct_le ?_) <;> exact Nat.le_of_ble_eq_true rfl) | with_reducible exact zh_0 | with_reducible exact zh_1 | with_reducible exact zh_b | omega)) only [e_191, q_191_0, q_191_1, q_191_2, q_191_3, vf_s, vf_n, zk2_none, zk2_int, zk2_ref, zk2_null, zk2_long, zct_nil, zct_i, zct_l, zct_r, zct_n, Option.bind_some, Option.toList_some, Option.toList_none, List.cons_append, List.nil_append, zor_l, zor_r, if_true, if_false, ↓reduceIte, zi_lit, zi_of, zi_add, zi_mul, zi_sub, zi_nat, zi_leT, zi_leF, zi_ltT, zi_ltF, zi_eqT, zi_eqF, zif_0z, zif_bz, zi_01l, zi_01r, not_true_eq_false, not_false_eq_true, Nat.reduceAdd, Nat.reduceMul, Nat.reduceSub]
  exact this
theorem m_190 (hs : stRel mi 3 149 0 lo hi u NN KK VV) (he : e < 4) (hn : 0 < NN e) (hb : mxA mi bx) (hbx : boxIn bx.1 bx.2) (hq : q < 110) (hL : ∀ j, j < n → ∀ k, k < 4 → mi 163 (8 * j + k) = (B j).1 k ∧ mi 163 (8 * j + 4 + k) = (B j).2 k) (hm : ∀ j, j < m → j < n ∨ j = q) (hR : mRk lo hi u (KK e) (VV e) (NN e) mi mj n B) :
    ∃ mi1 mj1, zCall 190 [.ref 148, .int (zi e), .int (zi q)] (SH Ls) mi mj (RF g) = some (none, SH Ls, mi1, mj1, RF g) ∧ (∀ j, j < m → ∀ k, k < 4 → mi1 163 (8 * j + k) = (upL B q bx j).1 k ∧ mi1 163 (8 * j + 4 + k) = (upL B q bx j).2 k) ∧ mRk lo hi u (KK e) (VV e) (NN e) mi1 mj1 m (upL B q bx) ∧ mxA mi1 bx ∧ (∀ a, a < 148 ∨ (149 ≤ a ∧ a ≤ 152) → mi1 a = mi a) ∧ (∀ j, ¬ j = 11 → ¬ j = 12 → ¬ j = 15 → mi1 148 j = mi 148 j) ∧ mj1 164 = mj 164 := by
  obtain ⟨mi1, r1, r2, r3⟩ := m_180L (Ls := Ls) (g := g) (mj := mj) (m := m) (n := n) (B := B) (q := q) (by omega) hb hL hm
  have hs1 : stRel mi1 3 149 0 lo hi u NN KK VV := hs.fr (fun a _ _ => r2 a (by omega)) (r2 149 (by omega))
  have hb1 : mxA mi1 bx := fun k hk => by rw [r2 158 (by omega), r2 159 (by omega)]; exact hb k hk
  obtain ⟨mi2, mj2, t1, t2, t3, t4⟩ := me_atN (Ls := Ls) (g := g) (mj := mj) hs1 he hn ⟨(me_do hs1).1, hs.2.1, fun k hk => (hb1 k hk).1, fun k hk => (hb1 k hk).2, hbx⟩
  have hT : topE bx.1 bx.2 u (KK e) (VV e) (NN e) = eB lo hi u (KK e) (VV e) (NN e) bx := rfl
  rw [hT] at t2 t3
  generalize eB lo hi u (KK e) (VV e) (NN e) bx = T at t2 t3 hT
  have m141 := fun mi => m_141e (Ls := Ls) (g := g) (mi := mi) (f := 0) (by omega) t2
  have e141 := fun mi mj (h : mj 155 = mj2 155) => m_141e (Ls := Ls) (g := g) (mi := mi) (mj := mj) (f := 0) (by omega) (mE_c h t2)
  refine ⟨zup mi2 166 q (if T.1 = zi 0 then zi 0 else zi 1), zup (zup mj2 167 q (if T.1 = zi 0 then flow T.2 else 0)) 168 q (if T.1 = zi 0 then fhigh T.2 else 0), ?_, fun j hj k hk => ?_, fun j hj => ?_, fun k hk => ?_, fun a ha => ?_, fun j j1 j2 j3 => ?_, ?_⟩
  · by_cases c : T.1 = zi 0
    · obtain ⟨u1, -⟩ := row0 t2 c
      have m139 := fun mi => m_139 (Ls := Ls) (g := g) (mi := mi) (mj := mj2) (f := 0) (by omega)
      have w2 := row0 (mE_c (mj' := zup mj2 167 q (flow T.2)) (zup_ne (by omega)) t2) c
      have m140 := fun mi => m_140 (Ls := Ls) (g := g) (mi := mi) (mj := zup mj2 167 q (flow T.2)) (f := 0) (by omega)
      have k141 := e141 (zup mi2 166 q (zi 0)) (zup mj2 167 q (flow T.2)) (zup_ne (by omega))
      rw [u1] at m139
      rw [w2.1] at m140
      rw [if_pos c] at m141 k141
      rw [if_pos c, if_pos c, if_pos c]
      simp (disch := (first | with_reducible exact is_148 | with_reducible exact zi_at is_148 (by omega) (by omega) | with_reducible exact is_166 | with_reducible exact zi_at is_166 (by omega) (by omega) | with_reducible exact is_167 | with_reducible exact zi_at is_167 (by omega) (by omega) | with_reducible exact is_168 | with_reducible exact zi_at is_168 (by omega) (by omega) | ((with_reducible refine zct_le ?_) <;> exact Nat.le_of_ble_eq_true rfl) | with_reducible exact zh_0 | with_reducible exact zh_1 | with_reducible exact zh_b | omega)) only [e_190, q_190_0r, q_190_0n, q_190_1, q_190_2, q_190_5r, q_190_5n, q_190_6, q_190_7, q_190_10r, q_190_10n, q_190_11, q_190_14, q_190_15r, q_190_15n, q_190_16, q_190_17, q_190_20, q_190_21r, q_190_21n, q_190_22, q_190_25, q_190_26r, q_190_26n, q_190_27, q_190_28, q_190_31, q_190_34, q_190_35, q_190_38r, q_190_38n, q_190_39, q_190_40, q_190_43, q_190_44r, q_190_44n, q_190_45, q_190_48, q_190_49r, q_190_49n, q_190_50, q_190_51, q_190_54, q_190_57, q_190_58, q_190_61r, q_190_61n, q_190_62, q_190_63, q_190_66, q_190_67, vf_s, vf_n, zk2_none, zk2_int, zk2_ref, zk2_null, zk2_long, zct_nil, zct_i, zct_l, zct_r, zct_n, Option.bind_some, Option.toList_some, Option.toList_none, List.cons_append, List.nil_append, zor_l, zor_r, if_true, if_false, ↓reduceIte, zi_lit, zi_of, zi_add, zi_mul, zi_sub, zi_nat, zi_leT, zi_leF, zi_ltT, zi_ltF, zi_eqT, zi_eqF, zif_0z, zif_bz, zi_01l, zi_01r, not_true_eq_false, not_false_eq_true, Nat.reduceAdd, Nat.reduceMul, Nat.reduceSub, rf_148_27, rf_148_28, rf_148_29, r1, t1, m141, k141, m139, m140, nar_0]
    · have k141 := e141 (zup mi2 166 q (zi 1)) (zup mj2 167 q 0) (zup_ne (by omega))
      rw [if_neg c] at m141 k141
      rw [if_neg c, if_neg c, if_neg c]
      simp (disch := (first | with_reducible exact is_148 | with_reducible exact zi_at is_148 (by omega) (by omega) | with_reducible exact is_166 | with_reducible exact zi_at is_166 (by omega) (by omega) | with_reducible exact is_167 | with_reducible exact zi_at is_167 (by omega) (by omega) | with_reducible exact is_168 | with_reducible exact zi_at is_168 (by omega) (by omega) | ((with_reducible refine zct_le ?_) <;> exact Nat.le_of_ble_eq_true rfl) | with_reducible exact zh_0 | with_reducible exact zh_1 | with_reducible exact zh_b | omega)) only [e_190, q_190_0r, q_190_0n, q_190_1, q_190_2, q_190_5r, q_190_5n, q_190_6, q_190_7, q_190_10r, q_190_10n, q_190_11, q_190_14, q_190_15r, q_190_15n, q_190_16, q_190_17, q_190_20, q_190_21r, q_190_21n, q_190_22, q_190_25, q_190_26r, q_190_26n, q_190_27, q_190_28, q_190_31, q_190_34, q_190_35, q_190_38r, q_190_38n, q_190_39, q_190_40, q_190_43, q_190_44r, q_190_44n, q_190_45, q_190_48, q_190_49r, q_190_49n, q_190_50, q_190_51, q_190_54, q_190_57, q_190_58, q_190_61r, q_190_61n, q_190_62, q_190_63, q_190_66, q_190_67, vf_s, vf_n, zk2_none, zk2_int, zk2_ref, zk2_null, zk2_long, zct_nil, zct_i, zct_l, zct_r, zct_n, Option.bind_some, Option.toList_some, Option.toList_none, List.cons_append, List.nil_append, zor_l, zor_r, if_true, if_false, ↓reduceIte, zi_lit, zi_of, zi_add, zi_mul, zi_sub, zi_nat, zi_leT, zi_leF, zi_ltT, zi_ltF, zi_eqT, zi_eqF, zif_0z, zif_bz, zi_01l, zi_01r, not_true_eq_false, not_false_eq_true, Nat.reduceAdd, Nat.reduceMul, Nat.reduceSub, rf_148_27, rf_148_28, rf_148_29, r1, t1, m141, k141, nar_1]
  · rw [zup_ne (by omega), t4.1 163 (by omega) (by omega) (by omega) (by omega)]
    exact r3 j hj k hk
  · unfold upL
    by_cases c : j = q
    · subst c
      rw [if_pos rfl, ← hT, zg_s]
      refine ⟨rfl, fun hz => ?_⟩
      simp (disch := omega) only [zg_s, zg_o, zg_j, zg_r, zg_ro, zg_d, yfl_o]
      have hz' : (topE bx.1 bx.2 u (KK e) (VV e) (NN e)).1 = zi 0 := hz
      rw [if_pos hz', if_pos hz']
      exact ⟨rfl, rfl⟩
    · rw [if_neg c]
      simp (disch := omega) only [zg_s, zg_o, zg_j, zg_r, zg_ro, zg_d, yfl_o]
      rw [t4.1 166 (by omega) (by omega) (by omega) (by omega), r2 166 (by omega), t4.2.2 167 (by omega) (by omega) (by omega), t4.2.2 168 (by omega) (by omega) (by omega)]
      exact hR j (by have := hm j hj; omega)
  · rw [zup_ne (by omega), zup_ne (by omega), t4.1 158 (by omega) (by omega) (by omega) (by omega), t4.1 159 (by omega) (by omega) (by omega) (by omega)]
    exact hb1 k hk
  · rw [zup_ne (by omega), t4.1 a (by omega) (by omega) (by omega) (by omega), r2 a (by omega)]
  · rw [zup_ne (by omega), t4.2.1 j j1 j2 j3, r2 148 (by omega)]
  · rw [zup_ne (by omega), zup_ne (by omega), t4.2.2 164 (by omega) (by omega) (by omega)]
end
