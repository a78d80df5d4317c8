/-! ===== roots ===== -/
def rtE (a w : Int32) (k n : Nat) : Int32 := a + w * zi k / zi n
def rtB (lo hi : Nat → Int32) (s n k : Nat) : Bx := (fun j => if j = s then rtE (lo s) (hi s - lo s) k n else lo j, fun j => if j = s then rtE (lo s) (hi s - lo s) (k + 1) n else hi j)
def rtF (E : Nat → En) : Nat → Int32
  | 0 => zi 0
  | k + 1 => if ¬ (E k).1 = zi 0 ∨ (flow (E k).2 ≤ 0 ∧ 0 ≤ fhigh (E k).2) then rtF E k ||| (zi 1 <<< (zi k &&& zi 31)) else rtF E k
theorem rtE_i {a b : Int32} {k n : Nat} (h1 : -100000 ≤ a.toInt) (h2 : a.toInt ≤ b.toInt) (h3 : b.toInt ≤ 100000) (hk : k ≤ n) (hn : 1 ≤ n) (hn2 : n ≤ 16) : (rtE a (b - a) k n).toInt = a.toInt + (b.toInt - a.toInt) * k / n ∧ 0 ≤ (b.toInt - a.toInt) * k / n ∧ (b.toInt - a.toInt) * k / n ≤ b.toInt - a.toInt := by
  have e1 : (b - a).toInt = b.toInt - a.toInt := Kit.i32_sub (by omega) (by omega)
  have ek := zi_toInt (a := k) (by omega)
  have en := zi_toInt (a := n) (by omega)
  generalize hW : b.toInt - a.toInt = W at e1 ⊢
  have hW0 : 0 ≤ W := by omega
  have p0 : 0 ≤ W * (k : Int) := Int.mul_nonneg hW0 (by omega)
  have p1 : W * (k : Int) ≤ W * (n : Int) := Int.mul_le_mul_of_nonneg_left (by omega) hW0
  have p2 : W * (n : Int) ≤ W * 16 := Int.mul_le_mul_of_nonneg_left (by omega) hW0
  have e2 : ((b - a) * zi k).toInt = W * k := by rw [Kit.i32_mul (by rw [e1, ek]; omega) (by rw [e1, ek]; omega), e1, ek]
  have e3 : ((b - a) * zi k / zi n).toInt = W * k / n := by rw [lg_idiv_nonneg (by rw [e2]; omega) (by rw [en]; omega), e2, en]
  have q0 : 0 ≤ W * (k : Int) / n := Int.ediv_nonneg p0 (by omega)
  have q1 : W * (k : Int) / n ≤ W := by
    have : W * (k : Int) / n ≤ W * n / n := Int.ediv_le_ediv (by omega) p1
    rwa [Int.mul_ediv_cancel _ (by omega)] at this
  refine ⟨?_, q0, q1⟩
  unfold rtE
  rw [Kit.i32_add (by rw [e3]; omega) (by rw [e3]; omega), e3]
theorem rt_in {lo hi : Nat → Int32} {s n k : Nat} (h : boxIn lo hi) (hs : s < 4) (hk : k < n) (hn2 : n ≤ 16) : boxIn (rtB lo hi s n k).1 (rtB lo hi s n k).2 := by
  intro j hj
  show _ ≤ (if j = s then rtE (lo s) (hi s - lo s) k n else lo j).toInt ∧ (if j = s then rtE (lo s) (hi s - lo s) k n else lo j).toInt ≤ (if j = s then rtE (lo s) (hi s - lo s) (k + 1) n else hi j).toInt ∧ (if j = s then rtE (lo s) (hi s - lo s) (k + 1) n else hi j).toInt ≤ _
  have hj2 := h j hj
  by_cases c : j = s
  · subst c
    rw [if_pos rfl, if_pos rfl]
    obtain ⟨h1, h2, h3⟩ := hj2
    obtain ⟨a1, a2, a3⟩ := rtE_i (k := k) (n := n) h1 h2 h3 (by omega) (by omega) hn2
    obtain ⟨b1, b2, b3⟩ := rtE_i (k := k + 1) (n := n) h1 h2 h3 (by omega) (by omega) hn2
    have m : ((hi j).toInt - (lo j).toInt) * (k : Int) / n ≤ ((hi j).toInt - (lo j).toInt) * ((k + 1 : Nat) : Int) / n := Int.ediv_le_ediv (by omega) (Int.mul_le_mul_of_nonneg_left (by omega) (by omega))
    omega
  · rw [if_neg c, if_neg c]; exact hj2
section
variable {Ls : Nat} {g : Nat → Nat} {mi mi' : zI} {mj mj' : zJ} {x y z : Int32} {a b e n p q k c m u s i t N : Nat} {v w : Value} {lo hi lo' hi' : Nat → Int32} {NN : Nat → Nat} {KK : Nat → Nat → Nat} {VV : Nat → Nat → Int32} {T M : En} {o f : Nat} {B : Nat → Bx} {bx : Bx} {r : Int64} {E : Nat → En}
theorem l_99 (he : e < 4) (hn : 0 < NN e) (hq : s < 4) (hn2 : n ≤ 16) (hb : boxIn lo hi) (hE : ∀ k, k < n → topE (rtB lo hi s n k).1 (rtB lo hi s n k).2 u (KK e) (VV e) (NN e) = E k) (m : Nat) : ∀ k, k + m = n → ∀ mi mj g l9, gOk g → stC mi 3 lo hi u NN KK VV → (∀ j, j < 4 → ¬ j = s → mi 106 j = lo j ∧ mi 107 j = hi j) → ∃ mi' mj' g', zRun 99 82 [some (.ref 1), some (.int (zi e)), some (.int (zi s)), some (.int (zi n)), some (.ref (8 + 3 * e)), some (.int (lo s)), some (.int (hi s - lo s)), some (.int (rtF E k)), some (.int (zi k)), l9] [] (SH Ls) mi mj (RF g) = some (some (.int (rtF E n)), SH Ls, mi', mj', RF g') ∧ gOk g' ∧ FrK mi mj mi' mj' := by
  induction m with
  | zero =>
    intro k hk mi mj g l9 hg hs h0
    obtain rfl : k = n := by omega
    refine ⟨mi, mj, g, ?_, hg, ⟨fun _ _ => rfl, fun _ _ => rfl⟩⟩
    rw [q_99_82]
    simp (disch := (first | ((with_reducible refine zct_le ?_) <;> exact Nat.le_of_ble_eq_true rfl) | with_reducible exact zh_0 | with_reducible exact zh_1 | with_reducible exact zh_b | omega)) only [q_99_84, q_99_85, q_99_88r, q_99_88n, q_99_89, q_99_92, q_99_93, q_99_95, q_99_97, q_99_99, q_99_100, q_99_101, q_99_102, q_99_103, q_99_105, q_99_107, q_99_109, q_99_110, q_99_111, q_99_112, q_99_113, q_99_114, q_99_115, q_99_118r, q_99_118n, q_99_119, q_99_122r, q_99_122n, q_99_124r, q_99_124n, q_99_126, q_99_129r, q_99_129n, q_99_130, q_99_133r, q_99_133n, q_99_134, q_99_137, q_99_140, q_99_143r, q_99_143n, q_99_145r, q_99_145n, q_99_147, q_99_150, q_99_153r, q_99_153n, q_99_155, q_99_158, q_99_161, q_99_163, q_99_164, q_99_166, q_99_167, q_99_168, q_99_170, q_99_173, q_99_176, q_99_178, vf_s, vf_n, zk2_none, zk2_int, zk2_ref, zk2_null, zk2_long, zct_nil, zct_i, zct_l, zct_r, zct_n, Option.bind_some, Option.toList_some, Option.toList_none, List.cons_append, List.nil_append, zor_l, zor_r, if_true, if_false, ↓reduceIte, zi_lit, zi_of, zi_add, zi_mul, zi_sub, zi_nat, zi_leT, zi_leF, zi_ltT, zi_ltF, zi_eqT, zi_eqF, zif_0z, zif_bz, zi_01l, zi_01r, not_true_eq_false, not_false_eq_true, Nat.reduceAdd, Nat.reduceMul, Nat.reduceSub]
  | succ m ih =>
    intro k hk mi mj g l9 hg hs h0
    have m2 := m_2 (Ls := Ls) (g := g) (mi := mi) (mj := mj) (o := 105) (x := zi s) (y := lo s + (hi s - lo s) * zi k / zi n) (z := lo s + (hi s - lo s) * zi (k + 1) / zi n) bx105 (zi_in hq (by omega))
    rw [zi_nat (by omega)] at m2
    generalize hm1 : zup (zup mi (105 + 1) s (lo s + (hi s - lo s) * zi k / zi n)) (105 + 2) s (lo s + (hi s - lo s) * zi (k + 1) / zi n) = mi1 at m2
    have f1 : ∀ a, a < 106 ∨ 107 < a → mi1 a = mi a := fun a ha => by rw [← hm1, zup_ne (by omega), zup_ne (by omega)]
    have hs1 : stC mi1 3 lo hi u NN KK VV := hs.fr (fun a _ _ => f1 a (by omega))
    have hb1 : bxA mi1 105 (rtB lo hi s n k) := fun j hj => by
      rw [← hm1]
      show _ = (if j = s then rtE (lo s) (hi s - lo s) k n else lo j) ∧ _ = (if j = s then rtE (lo s) (hi s - lo s) (k + 1) n else hi j)
      by_cases c : j = s
      · subst c
        rw [if_pos rfl, if_pos rfl, zg_s, zup_ne (by omega), zg_s]
        exact ⟨rfl, rfl⟩
      · rw [if_neg c, if_neg c]
        simp (disch := omega) only [zg_s, zg_o, zg_j, zg_r, zg_ro, zg_d, yfl_o]
        exact h0 j hj c
    obtain ⟨mi2, mj2, g2, f, t1, t2, t3, t4, t5⟩ := rows_ev (Ls := Ls) (mj := mj) hs1 hg he hn bx105 hb1 (rt_in hb hq (by omega) hn2)
    rw [hE k (by omega)] at t4
    have hsp := sp_e he
    obtain ⟨e1, e3, e4, e5⟩ := ex_yesC (Ls := Ls) (g := g) hs1 he hn
    have hs2 : stC mi2 3 lo hi u NN KK VV := hs1.fr (fun a _ _ => t5.1 a (by omega))
    obtain ⟨mi', mj', g', r1, r2, r3⟩ := ih (k + 1) (by omega) mi2 mj2 g2 (some (.ref f)) t2 hs2 (fun j hj hc => by
      rw [t5.1 106 (by omega), t5.1 107 (by omega), ← hm1]
      simp (disch := omega) only [zg_s, zg_o, zg_j, zg_r, zg_ro, zg_d, yfl_o]
      exact h0 j hj hc)
    refine ⟨mi', mj', g', ?_, r2, FrK.tr ⟨fun a ha => by rw [t5.1 a (by omega), f1 a (by omega)], fun a ha => t5.2 a (by omega)⟩ r3⟩
    have m22 := m_22 (Ls := Ls) (g := g2) (mi := mi2) (mj := mj2) t3
    have hd : ¬ zi n = (0 : Int32) := by
      show ¬ zi n = zi 0
      rw [zi_eqF (by omega) (by omega) (by omega)]
      exact not_false
    rw [q_99_82]
    rw [rtF] at r1
    by_cases c : (E k).1 = zi 0
    · obtain ⟨s1, s2, s3, s4⟩ := t4.2 c
      have hw : mi2 f 0 = zi 0 := t4.1.trans c
      rw [s3, s4] at m22
      by_cases c2 : flow (E k).2 ≤ 0 ∧ 0 ≤ fhigh (E k).2
      · rw [if_pos c2] at m22
        rw [if_pos (Or.inr c2)] at r1
        simp (disch := (first | with_reducible exact hd | with_reducible exact zi_at hd (by omega) (by omega) | with_reducible exact is_1 | with_reducible exact zi_at is_1 (by omega) (by omega) | with_reducible exact is_3 | with_reducible exact zi_at is_3 (by omega) (by omega) | with_reducible exact is_27 | with_reducible exact zi_at is_27 (by omega) (by omega) | with_reducible exact is_105 | with_reducible exact zi_at is_105 (by omega) (by omega) | with_reducible exact (zSp_is hsp) | with_reducible exact zi_at (zSp_is hsp) (by omega) (by omega) | with_reducible exact (zFm_is t3) | with_reducible exact zi_at (zFm_is t3) (by omega) (by omega) | ((with_reducible refine zct_le ?_) <;> exact Nat.le_of_ble_eq_true rfl) | with_reducible exact zh_0 | with_reducible exact zh_1 | with_reducible exact zh_b | omega)) only [q_99_84, q_99_85, q_99_88r, q_99_88n, q_99_89, q_99_92, q_99_93, q_99_95, q_99_97, q_99_99, q_99_100, q_99_101, q_99_102, q_99_103, q_99_105, q_99_107, q_99_109, q_99_110, q_99_111, q_99_112, q_99_113, q_99_114, q_99_115, q_99_118r, q_99_118n, q_99_119, q_99_122r, q_99_122n, q_99_124r, q_99_124n, q_99_126, q_99_129r, q_99_129n, q_99_130, q_99_133r, q_99_133n, q_99_134, q_99_137, q_99_140, q_99_143r, q_99_143n, q_99_145r, q_99_145n, q_99_147, q_99_150, q_99_153r, q_99_153n, q_99_155, q_99_158, q_99_161, q_99_163, q_99_164, q_99_166, q_99_167, q_99_168, q_99_170, q_99_173, q_99_176, q_99_178, vf_s, vf_n, zk2_none, zk2_int, zk2_ref, zk2_null, zk2_long, zct_nil, zct_i, zct_l, zct_r, zct_n, Option.bind_some, Option.toList_some, Option.toList_none, List.cons_append, List.nil_append, zor_l, zor_r, if_true, if_false, ↓reduceIte, zi_lit, zi_of, zi_add, zi_mul, zi_sub, zi_nat, zi_leT, zi_leF, zi_ltT, zi_ltF, zi_eqT, zi_eqF, zif_0z, zif_bz, zi_01l, zi_01r, not_true_eq_false, not_false_eq_true, Nat.reduceAdd, Nat.reduceMul, Nat.reduceSub, rf_1_2, rf_1_6, rf_1_10, m2, e3, e5, t1, hw, m22]
        exact r1
      · rw [if_neg c2] at m22
        rw [if_neg (by rintro (q | q); exact q c; exact c2 q)] at r1
        simp (disch := (first | with_reducible exact hd | with_reducible exact zi_at hd (by omega) (by omega) | with_reducible exact is_1 | with_reducible exact zi_at is_1 (by omega) (by omega) | with_reducible exact is_3 | with_reducible exact zi_at is_3 (by omega) (by omega) | with_reducible exact is_27 | with_reducible exact zi_at is_27 (by omega) (by omega) | with_reducible exact is_105 | with_reducible exact zi_at is_105 (by omega) (by omega) | with_reducible exact (zSp_is hsp) | with_reducible exact zi_at (zSp_is hsp) (by omega) (by omega) | with_reducible exact (zFm_is t3) | with_reducible exact zi_at (zFm_is t3) (by omega) (by omega) | ((with_reducible refine zct_le ?_) <;> exact Nat.le_of_ble_eq_true rfl) | with_reducible exact zh_0 | with_reducible exact zh_1 | with_reducible exact zh_b | omega)) only [q_99_84, q_99_85, q_99_88r, q_99_88n, q_99_89, q_99_92, q_99_93, q_99_95, q_99_97, q_99_99, q_99_100, q_99_101, q_99_102, q_99_103, q_99_105, q_99_107, q_99_109, q_99_110, q_99_111, q_99_112, q_99_113, q_99_114, q_99_115, q_99_118r, q_99_118n, q_99_119, q_99_122r, q_99_122n, q_99_124r, q_99_124n, q_99_126, q_99_129r, q_99_129n, q_99_130, q_99_133r, q_99_133n, q_99_134, q_99_137, q_99_140, q_99_143r, q_99_143n, q_99_145r, q_99_145n, q_99_147, q_99_150, q_99_153r, q_99_153n, q_99_155, q_99_158, q_99_161, q_99_163, q_99_164, q_99_166, q_99_167, q_99_168, q_99_170, q_99_173, q_99_176, q_99_178, vf_s, vf_n, zk2_none, zk2_int, zk2_ref, zk2_null, zk2_long, zct_nil, zct_i, zct_l, zct_r, zct_n, Option.bind_some, Option.toList_some, Option.toList_none, List.cons_append, List.nil_append, zor_l, zor_r, if_true, if_false, ↓reduceIte, zi_lit, zi_of, zi_add, zi_mul, zi_sub, zi_nat, zi_leT, zi_leF, zi_ltT, zi_ltF, zi_eqT, zi_eqF, zif_0z, zif_bz, zi_01l, zi_01r, not_true_eq_false, not_false_eq_true, Nat.reduceAdd, Nat.reduceMul, Nat.reduceSub, rf_1_2, rf_1_6, rf_1_10, m2, e3, e5, t1, hw, m22]
        exact r1
    · have hw : ¬ mi2 f 0 = zi 0 := fun q => c (t4.1.symm.trans q)
      rw [if_pos (Or.inl c)] at r1
      simp (disch := (first | with_reducible exact hd | with_reducible exact zi_at hd (by omega) (by omega) | with_reducible exact is_1 | with_reducible exact zi_at is_1 (by omega) (by omega) | with_reducible exact is_3 | with_reducible exact zi_at is_3 (by omega) (by omega) | with_reducible exact is_27 | with_reducible exact zi_at is_27 (by omega) (by omega) | with_reducible exact is_105 | with_reducible exact zi_at is_105 (by omega) (by omega) | with_reducible exact (zSp_is hsp) | with_reducible exact zi_at (zSp_is hsp) (by omega) (by omega) | with_reducible exact (zFm_is t3) | with_reducible exact zi_at (zFm_is t3) (by omega) (by omega) | ((with_reducible refine zct_le ?_) <;> exact Nat.le_of_ble_eq_true rfl) | with_reducible exact zh_0 | with_reducible exact zh_1 | with_reducible exact zh_b | omega)) only [q_99_84, q_99_85, q_99_88r, q_99_88n, q_99_89, q_99_92, q_99_93, q_99_95, q_99_97, q_99_99, q_99_100, q_99_101, q_99_102, q_99_103, q_99_105, q_99_107, q_99_109, q_99_110, q_99_111, q_99_112, q_99_113, q_99_114, q_99_115, q_99_118r, q_99_118n, q_99_119, q_99_122r, q_99_122n, q_99_124r, q_99_124n, q_99_126, q_99_129r, q_99_129n, q_99_130, q_99_133r, q_99_133n, q_99_134, q_99_137, q_99_140, q_99_143r, q_99_143n, q_99_145r, q_99_145n, q_99_147, q_99_150, q_99_153r, q_99_153n, q_99_155, q_99_158, q_99_161, q_99_163, q_99_164, q_99_166, q_99_167, q_99_168, q_99_170, q_99_173, q_99_176, q_99_178, vf_s, vf_n, zk2_none, zk2_int, zk2_ref, zk2_null, zk2_long, zct_nil, zct_i, zct_l, zct_r, zct_n, Option.bind_some, Option.toList_some, Option.toList_none, List.cons_append, List.nil_append, zor_l, zor_r, if_true, if_false, ↓reduceIte, zi_lit, zi_of, zi_add, zi_mul, zi_sub, zi_nat, zi_leT, zi_leF, zi_ltT, zi_ltF, zi_eqT, zi_eqF, zif_0z, zif_bz, zi_01l, zi_01r, not_true_eq_false, not_false_eq_true, Nat.reduceAdd, Nat.reduceMul, Nat.reduceSub, rf_1_2, rf_1_6, rf_1_10, m2, e3, e5, t1, hw]
      exact r1
theorem s_99 (h : ST mi g lo hi u NN KK VV) (he : e < 4) (hn : 0 < NN e) (hq : s < 4) (n1 : 1 ≤ n) (hz : n ≤ 16) : Qr Ls 99 [.int (zi e), .int (zi s), .int (zi n)] (.int (rtF (fun k => topE (rtB lo hi s n k).1 (rtB lo hi s n k).2 u (KK e) (VV e) (NN e)) n)) mi mj g := by
  obtain ⟨e1, e3, e4, e5⟩ := ex_yes (Ls := Ls) h he hn
  obtain ⟨hg, hs⟩ := h
  have m108 := m_108 (Ls := Ls) (g := g) (mi := mi) (mj := mj) (x := zi s)
  rw [if_pos (by rw [zi_toInt (by omega)]; omega)] at m108
  have hE : ∀ k, k < n → topE (rtB lo hi s n k).1 (rtB lo hi s n k).2 u (KK e) (VV e) (NN e) = (fun k => topE (rtB lo hi s n k).1 (rtB lo hi s n k).2 u (KK e) (VV e) (NN e)) k := fun _ _ => rfl
  generalize (fun k => topE (rtB lo hi s n k).1 (rtB lo hi s n k).2 u (KK e) (VV e) (NN e)) = E at hE
  obtain ⟨mi1, r1, r2, r3⟩ := m_3 (Ls := Ls) (g := g) (mi := mi) (mj := mj) bx105 bx4 (by omega)
  have hs1 : stC mi1 3 lo hi u NN KK VV := hs.fr (fun a _ _ => r2 a (by omega))
  have h34 : ∀ j, j < 4 → mi 5 j = lo j ∧ mi 6 j = hi j := fun j hj => hs.2.2.1 j hj
  obtain ⟨mi2, mj2, g2, t1, t2, t3⟩ := l_99 (Ls := Ls) he hn hq hz hs.1 hE n 0 (by omega) mi1 mj g none hg hs1 (fun j hj _ => by
    have := r3 j hj
    rw [this.1, this.2]; exact h34 j hj)
  have m4 := m_4 (Ls := Ls) (g := g) (mi := mi) (mj := mj) (x := zi s) bx4 (zi_in (by omega) (by omega))
  rw [zi_nat (by omega)] at m4
  have m4' : zCall 4 [.ref 4, .int (zi s)] (SH Ls) mi mj (RF g) = some (some (.int (hi s - lo s)), SH Ls, mi, mj, RF g) := by
    rw [m4, (h34 s (by omega)).1.symm, (h34 s (by omega)).2.symm]
  refine ⟨mi2, mj2, g2, ?_, fun a ha => by rw [t3.1 a (by omega), r2 a (by omega)], t2⟩
  have r0 : RF g 4 0 = some 5 := rfl
  simp (disch := (first | with_reducible exact is_1 | with_reducible exact zi_at is_1 (by omega) (by omega) | with_reducible exact is_3 | with_reducible exact zi_at is_3 (by omega) (by omega) | with_reducible exact is_4 | with_reducible exact zi_at is_4 (by omega) (by omega) | with_reducible exact is_5 | with_reducible exact zi_at is_5 (by omega) (by omega) | with_reducible exact is_105 | with_reducible exact zi_at is_105 (by omega) (by omega) | ((with_reducible refine zct_le ?_) <;> exact Nat.le_of_ble_eq_true rfl) | with_reducible exact zh_0 | with_reducible exact zh_1 | with_reducible exact zh_b | omega)) only [e_99, q_99_0r, q_99_0n, q_99_1, q_99_2, q_99_5r, q_99_5n, q_99_7r, q_99_7n, q_99_9n, q_99_9r, q_99_12, q_99_13, q_99_16, q_99_19, q_99_20, q_99_21, q_99_22, q_99_23, q_99_26, q_99_27, q_99_29, q_99_32, q_99_34, q_99_35r, q_99_35n, q_99_36, q_99_39, q_99_42, q_99_45, q_99_46, q_99_47, q_99_49r, q_99_49n, q_99_50, q_99_53, q_99_56, q_99_57, q_99_60, q_99_62r, q_99_62n, q_99_63, q_99_66r, q_99_66n, q_99_67, q_99_70, q_99_73, q_99_76, q_99_77, q_99_79, q_99_80, vf_s, vf_n, zk2_none, zk2_int, zk2_ref, zk2_null, zk2_long, zct_nil, zct_i, zct_l, zct_r, zct_n, Option.bind_some, Option.toList_some, Option.toList_none, List.cons_append, List.nil_append, zor_l, zor_r, if_true, if_false, ↓reduceIte, zi_lit, zi_of, zi_add, zi_mul, zi_sub, zi_nat, zi_leT, zi_leF, zi_ltT, zi_ltF, zi_eqT, zi_eqF, zif_0z, zif_bz, zi_01l, zi_01r, not_true_eq_false, not_false_eq_true, Nat.reduceAdd, Nat.reduceMul, Nat.reduceSub, rf_1_2, rf_1_10, rf_3_0, r0, e1, m108, m4', r1, (h34 s (by omega)).1]
  exact t1
end
