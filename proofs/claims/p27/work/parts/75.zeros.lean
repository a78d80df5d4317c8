/-! ===== the law: roots are found part by part ===== -/
def mayT (T : En) : Prop := ¬ T.1 = zi 0 ∨ (flow T.2 ≤ 0 ∧ 0 ≤ fhigh T.2)
def mayB (T : En) : Bool := !(decide (T.1 = zi 0)) || (decide (flow T.2 ≤ 0) && decide (0 ≤ fhigh T.2))
theorem mayB_i (T : En) : mayB T = true ↔ mayT T := by
  unfold mayB mayT
  simp
def rtN (E : Nat → En) : Nat → Nat
  | 0 => 0
  | k + 1 => if mayB (E k) then rtN E k ||| 2 ^ k else rtN E k
theorem rtN_lt (E : Nat → En) (n : Nat) (hn : n ≤ 4) : rtN E n < 2 ^ n := by
  induction n with
  | zero => exact Nat.lt_succ_self 0
  | succ n ih =>
    have h := ih (by omega)
    have hp : 2 ^ n < 2 ^ (n + 1) := by rw [Nat.pow_succ]; have := Nat.two_pow_pos n; omega
    rw [rtN]
    split
    · exact Nat.or_lt_two_pow (by omega) hp
    · omega
theorem rtN_16 (E : Nat → En) (n : Nat) (hn : n ≤ 4) : rtN E n < 16 := by
  have h := rtN_lt E n hn
  have : 2 ^ n ≤ 2 ^ 4 := Nat.pow_le_pow_right (by omega) hn
  omega
theorem rtF_N (E : Nat → En) (n : Nat) (hn : n ≤ 4) : rtF E n = zi (rtN E n) := by
  induction n with
  | zero => rfl
  | succ n ih =>
    have h := ih (by omega)
    rw [rtF, rtN, h]
    have h16 := rtN_16 E n (by omega)
    by_cases c : mayB (E n) = true
    · have c' : ¬ (E n).1 = zi 0 ∨ (flow (E n).2 ≤ 0 ∧ 0 ≤ fhigh (E n).2) := (mayB_i _).mp c
      rw [if_pos c, if_pos c']
      exact (in_tab _ h16 n (by omega)).1
    · have c' : ¬ (¬ (E n).1 = zi 0 ∨ (flow (E n).2 ≤ 0 ∧ 0 ≤ fhigh (E n).2)) := fun q => c ((mayB_i _).mpr q)
      rw [if_neg c, if_neg c']
theorem rtN_bit (E : Nat → En) (n : Nat) (hn : n ≤ 4) : ∀ j, j < n → (rtN E n).testBit j = mayB (E j) := by
  induction n with
  | zero => intro j hj; omega
  | succ n ih =>
    intro j hj
    have hl := rtN_lt E n (by omega)
    rw [rtN]
    by_cases e : j = n
    · subst e
      have h0 : (rtN E j).testBit j = false := Nat.testBit_lt_two_pow hl
      cases hm : mayB (E j) with
      | true =>
        rw [if_pos rfl, Nat.testBit_or, Nat.testBit_two_pow_self, Bool.or_true]
      | false =>
        rw [if_neg (by decide)]
        exact h0
    · have := ih (by omega) j (by omega)
      split
      · rw [Nat.testBit_or, this, Nat.testBit_two_pow_of_ne (by omega), Bool.or_false]
      · exact this
/-! the set of the expressions -/
def exN (NN : Nat → Nat) : Nat → Nat
  | 0 => 0
  | n + 1 => if 0 < NN n then exN NN n ||| 2 ^ n else exN NN n
theorem exF_N (NN : Nat → Nat) (n : Nat) (hn : n ≤ 4) : exF NN n = zi (exN NN n) ∧ exN NN n < 16 := by
  induction n with
  | zero => exact ⟨rfl, by show 0 < 16; omega⟩
  | succ n ih =>
    obtain ⟨h1, h2⟩ := ih (by omega)
    rw [exF, exN]
    by_cases c : 0 < NN n
    · rw [if_pos c, if_pos c, h1]
      exact in_tab _ h2 n (by omega)
    · rw [if_neg c, if_neg c]
      exact ⟨h1, h2⟩
theorem exN_pos (NN : Nat → Nat) {e : Nat} (n : Nat) : e < n → 0 < NN e → 0 < exN NN n := by
  induction n with
  | zero => intro h; omega
  | succ n ih =>
    intro h hp
    rw [exN]
    by_cases c : e = n
    · subst c
      rw [if_pos hp]
      have h1 : 2 ^ e ≤ exN NN e ||| 2 ^ e := Nat.right_le_or
      have := Nat.two_pow_pos e
      omega
    · have := ih (by omega) hp
      split
      · have h1 : exN NN n ≤ exN NN n ||| 2 ^ n := Nat.left_le_or
        omega
      · exact this
section
variable {Ls : Nat} {g : Nat → Nat} {mi mi' : zI} {mj mj' : zJ} {a b e n p q k c m u s : Nat} {v w x y r : Int32} {lo hi : Nat → Int32} {NN : Nat → Nat} {KK : Nat → Nat → Nat} {VV : Nat → Nat → Int32} {T : En} {E : Nat → En} {l3 : Option Value}
/-- whether 0 may be among the values -/
theorem zr_may (h : ST mi g lo hi u NN KK VV) (he : e < 4) (hn : 0 < NN e) (hT : topE lo hi u (KK e) (VV e) (NN e) = T) : ∃ mi' mj' g', (zRun 124 0 [some (.ref 1), some (.int (zi e)), some (.int (zi s)), none, none, none, none, none, none] [] (SH Ls) mi mj (RF g) = zRun 124 38 [some (.ref 1), some (.int (zi e)), some (.int (zi s)), some (.int (if mayB T then zi 1 else zi 0)), none, none, none, none, none] [] (SH Ls) mi' mj' (RF g') ∧ ∀ l4 l5 l6 l7 l8, zk2 l7 = l7 → zRun 124 136 [some (.ref 1), some (.int (zi e)), some (.int (zi s)), l3, l4, l5, l6, l7, l8] [] (SH Ls) mi mj (RF g) = zRun 124 175 [some (.ref 1), some (.int (zi e)), some (.int (zi s)), l3, l4, l5, l6, l7, some (.int (if mayB T then zi 1 else zi 0))] [] (SH Ls) mi' mj' (RF g')) ∧ Kp mi mi' ∧ gOk g' := by
  obtain ⟨mi1, mj1, g1, r1, k1, o1⟩ := s_88 (Ls := Ls) (mj := mj) h he hn
  have h1 := h.kp k1 o1
  rw [hT] at r1
  have hwy : whyOk T.1 := by rw [← hT]; exact wy_top
  by_cases cw : T.1 = zi 0
  · obtain ⟨mi2, mj2, g2, r2, k2, o2⟩ := s_89 (Ls := Ls) (mj := mj1) (a := 2) (b := 0) h1 he hn (by omega) (by omega)
    have h2 := h1.kp k2 o2
    rw [hT, bd_20 cw] at r2
    rw [cw] at r1
    by_cases c1 : flow T.2 ≤ 0
    · obtain ⟨mi3, mj3, g3, r3, k3, o3⟩ := s_89 (Ls := Ls) (mj := mj2) (a := 2) (b := 1) h2 he hn (by omega) (by omega)
      rw [hT, bd_21 cw] at r3
      have c1' : ¬ 0 < flow T.2 := fun q => by rw [zj_lt] at q; rw [zj_le] at c1; omega
      by_cases c2 : 0 ≤ fhigh T.2
      · have hm : mayB T = true := (mayB_i T).mpr (Or.inr ⟨c1, c2⟩)
        have c2' : ¬ fhigh T.2 < 0 := fun q => by rw [zj_lt] at q; rw [zj_le] at c2; omega
        rw [hm]
        refine ⟨mi3, mj3, g3, ⟨?_, fun l4 l5 l6 l7 l8 hl7 => ?_⟩, (k1.tr k2).tr k3, o3⟩
        · simp (disch := (first | with_reducible exact is_1 | with_reducible exact zi_at is_1 (by omega) (by omega) | ((with_reducible refine zct_le ?_) <;> exact Nat.le_of_ble_eq_true rfl) | with_reducible exact zh_0 | with_reducible exact zh_1 | with_reducible exact zh_b | omega)) only [e_124, q_124_0r, q_124_0n, q_124_1, q_124_2, q_124_5, q_124_8r, q_124_8n, q_124_9, q_124_10, q_124_11, q_124_12, q_124_15, q_124_16, q_124_17, q_124_20r, q_124_20n, q_124_21, q_124_22, q_124_23, q_124_24, q_124_27, q_124_28, q_124_29, q_124_32, q_124_33, q_124_36, q_124_37, vf_s, vf_n, zk2_none, zk2_int, zk2_ref, zk2_null, zk2_long, zct_nil, zct_i, zct_l, zct_r, zct_n, Option.bind_some, Option.toList_some, Option.toList_none, List.cons_append, List.nil_append, zor_l, zor_r, if_true, if_false, ↓reduceIte, zi_lit, zi_of, zi_add, zi_mul, zi_sub, zi_nat, zi_leT, zi_leF, zi_ltT, zi_ltF, zi_eqT, zi_eqF, zif_0z, zif_bz, zi_01l, zi_01r, not_true_eq_false, not_false_eq_true, Nat.reduceAdd, Nat.reduceMul, Nat.reduceSub, r1, r2, r3, c1', c2']
        · simp (disch := (first | with_reducible exact is_1 | with_reducible exact zi_at is_1 (by omega) (by omega) | ((with_reducible refine zct_le ?_) <;> exact Nat.le_of_ble_eq_true rfl) | with_reducible exact zh_0 | with_reducible exact zh_1 | with_reducible exact zh_b | omega)) only [q_124_136r, q_124_136n, q_124_137, q_124_138, q_124_141, q_124_144r, q_124_144n, q_124_145, q_124_146, q_124_147, q_124_148, q_124_151, q_124_152, q_124_153, q_124_156r, q_124_156n, q_124_157, q_124_158, q_124_159, q_124_160, q_124_163, q_124_164, q_124_165, q_124_168, q_124_169, q_124_172, q_124_173, vf_s, vf_n, zk2_none, zk2_int, zk2_ref, zk2_null, zk2_long, zct_nil, zct_i, zct_l, zct_r, zct_n, Option.bind_some, Option.toList_some, Option.toList_none, List.cons_append, List.nil_append, zor_l, zor_r, if_true, if_false, ↓reduceIte, zi_lit, zi_of, zi_add, zi_mul, zi_sub, zi_nat, zi_leT, zi_leF, zi_ltT, zi_ltF, zi_eqT, zi_eqF, zif_0z, zif_bz, zi_01l, zi_01r, not_true_eq_false, not_false_eq_true, Nat.reduceAdd, Nat.reduceMul, Nat.reduceSub, r1, r2, r3, c1', c2', hl7]
      · have hm : mayB T = false := by
          cases hq : mayB T with
          | false => rfl
          | true => exact absurd ((mayB_i T).mp hq) (fun q => q.elim (fun z => z cw) (fun z => c2 z.2))
        have c2' : fhigh T.2 < 0 := by rw [zj_lt]; rw [zj_le] at c2; omega
        rw [hm]
        refine ⟨mi3, mj3, g3, ⟨?_, fun l4 l5 l6 l7 l8 hl7 => ?_⟩, (k1.tr k2).tr k3, o3⟩
        · simp (disch := (first | with_reducible exact is_1 | with_reducible exact zi_at is_1 (by omega) (by omega) | ((with_reducible refine zct_le ?_) <;> exact Nat.le_of_ble_eq_true rfl) | with_reducible exact zh_0 | with_reducible exact zh_1 | with_reducible exact zh_b | omega)) only [e_124, q_124_0r, q_124_0n, q_124_1, q_124_2, q_124_5, q_124_8r, q_124_8n, q_124_9, q_124_10, q_124_11, q_124_12, q_124_15, q_124_16, q_124_17, q_124_20r, q_124_20n, q_124_21, q_124_22, q_124_23, q_124_24, q_124_27, q_124_28, q_124_29, q_124_32, q_124_33, q_124_36, q_124_37, vf_s, vf_n, zk2_none, zk2_int, zk2_ref, zk2_null, zk2_long, zct_nil, zct_i, zct_l, zct_r, zct_n, Option.bind_some, Option.toList_some, Option.toList_none, List.cons_append, List.nil_append, zor_l, zor_r, if_true, if_false, ↓reduceIte, zi_lit, zi_of, zi_add, zi_mul, zi_sub, zi_nat, zi_leT, zi_leF, zi_ltT, zi_ltF, zi_eqT, zi_eqF, zif_0z, zif_bz, zi_01l, zi_01r, not_true_eq_false, not_false_eq_true, Nat.reduceAdd, Nat.reduceMul, Nat.reduceSub, r1, r2, r3, c1', c2', Bool.false_eq_true]
        · simp (disch := (first | with_reducible exact is_1 | with_reducible exact zi_at is_1 (by omega) (by omega) | ((with_reducible refine zct_le ?_) <;> exact Nat.le_of_ble_eq_true rfl) | with_reducible exact zh_0 | with_reducible exact zh_1 | with_reducible exact zh_b | omega)) only [q_124_136r, q_124_136n, q_124_137, q_124_138, q_124_141, q_124_144r, q_124_144n, q_124_145, q_124_146, q_124_147, q_124_148, q_124_151, q_124_152, q_124_153, q_124_156r, q_124_156n, q_124_157, q_124_158, q_124_159, q_124_160, q_124_163, q_124_164, q_124_165, q_124_168, q_124_169, q_124_172, q_124_173, vf_s, vf_n, zk2_none, zk2_int, zk2_ref, zk2_null, zk2_long, zct_nil, zct_i, zct_l, zct_r, zct_n, Option.bind_some, Option.toList_some, Option.toList_none, List.cons_append, List.nil_append, zor_l, zor_r, if_true, if_false, ↓reduceIte, zi_lit, zi_of, zi_add, zi_mul, zi_sub, zi_nat, zi_leT, zi_leF, zi_ltT, zi_ltF, zi_eqT, zi_eqF, zif_0z, zif_bz, zi_01l, zi_01r, not_true_eq_false, not_false_eq_true, Nat.reduceAdd, Nat.reduceMul, Nat.reduceSub, r1, r2, r3, c1', c2', hl7, Bool.false_eq_true]
    · have hm : mayB T = false := by
        cases hq : mayB T with
        | false => rfl
        | true => exact absurd ((mayB_i T).mp hq) (fun q => q.elim (fun z => z cw) (fun z => c1 z.1))
      have c1' : 0 < flow T.2 := by rw [zj_lt]; rw [zj_le] at c1; omega
      rw [hm]
      refine ⟨mi2, mj2, g2, ⟨?_, fun l4 l5 l6 l7 l8 hl7 => ?_⟩, k1.tr k2, o2⟩
      · simp (disch := (first | with_reducible exact is_1 | with_reducible exact zi_at is_1 (by omega) (by omega) | ((with_reducible refine zct_le ?_) <;> exact Nat.le_of_ble_eq_true rfl) | with_reducible exact zh_0 | with_reducible exact zh_1 | with_reducible exact zh_b | omega)) only [e_124, q_124_0r, q_124_0n, q_124_1, q_124_2, q_124_5, q_124_8r, q_124_8n, q_124_9, q_124_10, q_124_11, q_124_12, q_124_15, q_124_16, q_124_17, q_124_20r, q_124_20n, q_124_21, q_124_22, q_124_23, q_124_24, q_124_27, q_124_28, q_124_29, q_124_32, q_124_33, q_124_36, q_124_37, vf_s, vf_n, zk2_none, zk2_int, zk2_ref, zk2_null, zk2_long, zct_nil, zct_i, zct_l, zct_r, zct_n, Option.bind_some, Option.toList_some, Option.toList_none, List.cons_append, List.nil_append, zor_l, zor_r, if_true, if_false, ↓reduceIte, zi_lit, zi_of, zi_add, zi_mul, zi_sub, zi_nat, zi_leT, zi_leF, zi_ltT, zi_ltF, zi_eqT, zi_eqF, zif_0z, zif_bz, zi_01l, zi_01r, not_true_eq_false, not_false_eq_true, Nat.reduceAdd, Nat.reduceMul, Nat.reduceSub, r1, r2, c1', Bool.false_eq_true]
      · simp (disch := (first | with_reducible exact is_1 | with_reducible exact zi_at is_1 (by omega) (by omega) | ((with_reducible refine zct_le ?_) <;> exact Nat.le_of_ble_eq_true rfl) | with_reducible exact zh_0 | with_reducible exact zh_1 | with_reducible exact zh_b | omega)) only [q_124_136r, q_124_136n, q_124_137, q_124_138, q_124_141, q_124_144r, q_124_144n, q_124_145, q_124_146, q_124_147, q_124_148, q_124_151, q_124_152, q_124_153, q_124_156r, q_124_156n, q_124_157, q_124_158, q_124_159, q_124_160, q_124_163, q_124_164, q_124_165, q_124_168, q_124_169, q_124_172, q_124_173, vf_s, vf_n, zk2_none, zk2_int, zk2_ref, zk2_null, zk2_long, zct_nil, zct_i, zct_l, zct_r, zct_n, Option.bind_some, Option.toList_some, Option.toList_none, List.cons_append, List.nil_append, zor_l, zor_r, if_true, if_false, ↓reduceIte, zi_lit, zi_of, zi_add, zi_mul, zi_sub, zi_nat, zi_leT, zi_leF, zi_ltT, zi_ltF, zi_eqT, zi_eqF, zif_0z, zif_bz, zi_01l, zi_01r, not_true_eq_false, not_false_eq_true, Nat.reduceAdd, Nat.reduceMul, Nat.reduceSub, r1, r2, c1', hl7, Bool.false_eq_true]
  · have hm : mayB T = true := (mayB_i T).mpr (Or.inl cw)
    have hp : ¬ T.1 ≤ zi 0 := by rw [wy_pos hwy]; exact cw
    have hp2 : zi 0 < T.1 := by rw [Int32.lt_iff_toInt_lt]; rw [Int32.le_iff_toInt_le] at hp; omega
    rw [hm]
    refine ⟨mi1, mj1, g1, ⟨?_, fun l4 l5 l6 l7 l8 hl7 => ?_⟩, k1, o1⟩
    · simp (disch := (first | with_reducible exact is_1 | with_reducible exact zi_at is_1 (by omega) (by omega) | ((with_reducible refine zct_le ?_) <;> exact Nat.le_of_ble_eq_true rfl) | with_reducible exact zh_0 | with_reducible exact zh_1 | with_reducible exact zh_b | omega)) only [e_124, q_124_0r, q_124_0n, q_124_1, q_124_2, q_124_5, q_124_8r, q_124_8n, q_124_9, q_124_10, q_124_11, q_124_12, q_124_15, q_124_16, q_124_17, q_124_20r, q_124_20n, q_124_21, q_124_22, q_124_23, q_124_24, q_124_27, q_124_28, q_124_29, q_124_32, q_124_33, q_124_36, q_124_37, vf_s, vf_n, zk2_none, zk2_int, zk2_ref, zk2_null, zk2_long, zct_nil, zct_i, zct_l, zct_r, zct_n, Option.bind_some, Option.toList_some, Option.toList_none, List.cons_append, List.nil_append, zor_l, zor_r, if_true, if_false, ↓reduceIte, zi_lit, zi_of, zi_add, zi_mul, zi_sub, zi_nat, zi_leT, zi_leF, zi_ltT, zi_ltF, zi_eqT, zi_eqF, zif_0z, zif_bz, zi_01l, zi_01r, not_true_eq_false, not_false_eq_true, Nat.reduceAdd, Nat.reduceMul, Nat.reduceSub, r1, hp2]
    · simp (disch := (first | with_reducible exact is_1 | with_reducible exact zi_at is_1 (by omega) (by omega) | ((with_reducible refine zct_le ?_) <;> exact Nat.le_of_ble_eq_true rfl) | with_reducible exact zh_0 | with_reducible exact zh_1 | with_reducible exact zh_b | omega)) only [q_124_136r, q_124_136n, q_124_137, q_124_138, q_124_141, q_124_144r, q_124_144n, q_124_145, q_124_146, q_124_147, q_124_148, q_124_151, q_124_152, q_124_153, q_124_156r, q_124_156n, q_124_157, q_124_158, q_124_159, q_124_160, q_124_163, q_124_164, q_124_165, q_124_168, q_124_169, q_124_172, q_124_173, vf_s, vf_n, zk2_none, zk2_int, zk2_ref, zk2_null, zk2_long, zct_nil, zct_i, zct_l, zct_r, zct_n, Option.bind_some, Option.toList_some, Option.toList_none, List.cons_append, List.nil_append, zor_l, zor_r, if_true, if_false, ↓reduceIte, zi_lit, zi_of, zi_add, zi_mul, zi_sub, zi_nat, zi_leT, zi_leF, zi_ltT, zi_ltF, zi_eqT, zi_eqF, zif_0z, zif_bz, zi_01l, zi_01r, not_true_eq_false, not_false_eq_true, Nat.reduceAdd, Nat.reduceMul, Nat.reduceSub, r1, hp2, hl7]
theorem zr_lz (he : e < 4) (hn : 0 < NN e) (hq : s < 4) (hb : boxIn lo hi) (hE : ∀ k, k < 4 → topE (rtB lo hi s 4 k).1 (rtB lo hi s 4 k).2 u (KK e) (VV e) (NN e) = E k) (j : Nat) : ∀ n, n + j = 4 → ∀ mi mj g l8 lo' hi', ST mi g lo' hi' u NN KK VV → (∀ k, k < 4 → ¬ k = s → lo' k = lo k ∧ hi' k = hi k) → ∃ mi' mj' g' l8', zRun 124 102 [some (.ref 1), some (.int (zi e)), some (.int (zi s)), l3, some (.int (lo s)), some (.int (hi s - lo s)), some (.int (zi (rtN E 4))), some (.int (zi n)), l8] [] (SH Ls) mi mj (RF g) = zRun 124 204 [some (.ref 1), some (.int (zi e)), some (.int (zi s)), l3, some (.int (lo s)), some (.int (hi s - lo s)), some (.int (zi (rtN E 4))), some (.int (zi 4)), l8'] [] (SH Ls) mi' mj' (RF g') ∧ gOk g' ∧ ∀ a, (a < 5 ∨ (6 < a ∧ a < 22) ∨ (102 ≤ a ∧ a ≤ 104) ∨ (114 ≤ a ∧ a < 148)) → mi' a = mi a := by
  induction j with
  | zero =>
    intro n hj mi mj g l8 lo' hi' h hk
    obtain rfl : n = 4 := by omega
    refine ⟨mi, mj, g, l8, ?_, h.1, fun _ _ => rfl⟩
    rw [q_124_102]
    simp (disch := (first | ((with_reducible refine zct_le ?_) <;> exact Nat.le_of_ble_eq_true rfl) | with_reducible exact zh_0 | with_reducible exact zh_1 | with_reducible exact zh_b | omega)) only [q_124_104, q_124_105, q_124_108r, q_124_108n, q_124_109, q_124_110, q_124_112, q_124_114, q_124_116, q_124_117, q_124_118, q_124_119, q_124_120, q_124_122, q_124_124, q_124_126, q_124_127, q_124_128, q_124_129, q_124_130, q_124_131, q_124_132, q_124_135, q_124_136r, q_124_136n, q_124_137, q_124_138, q_124_141, q_124_144r, q_124_144n, q_124_145, q_124_146, q_124_147, q_124_148, q_124_151, q_124_152, q_124_153, q_124_156r, q_124_156n, q_124_157, q_124_158, q_124_159, q_124_160, q_124_163, q_124_164, q_124_165, q_124_168, q_124_169, q_124_172, q_124_173, q_124_175, q_124_177, q_124_179, q_124_181, q_124_182, q_124_183, q_124_184, q_124_185, q_124_188, q_124_189, q_124_192, q_124_193, q_124_196, q_124_197, q_124_198, q_124_201, vf_s, vf_n, zk2_none, zk2_int, zk2_ref, zk2_null, zk2_long, zct_nil, zct_i, zct_l, zct_r, zct_n, Option.bind_some, Option.toList_some, Option.toList_none, List.cons_append, List.nil_append, zor_l, zor_r, if_true, if_false, ↓reduceIte, zi_lit, zi_of, zi_add, zi_mul, zi_sub, zi_nat, zi_leT, zi_leF, zi_ltT, zi_ltF, zi_eqT, zi_eqF, zif_0z, zif_bz, zi_01l, zi_01r, not_true_eq_false, not_false_eq_true, Nat.reduceAdd, Nat.reduceMul, Nat.reduceSub]
  | succ j ih =>
    intro n hj mi mj g l8 lo' hi' h hk
    have hrt := rt_in (s := s) (n := 4) (k := n) hb hq (by omega) (by omega)
    have hs4 := hrt s hq
    have e1 : (rtB lo hi s 4 n).1 s = rtE (lo s) (hi s - lo s) n 4 := if_pos rfl
    have e2 : (rtB lo hi s 4 n).2 s = rtE (lo s) (hi s - lo s) (n + 1) 4 := if_pos rfl
    rw [e1, e2] at hs4
    obtain ⟨d1, d2⟩ := s_79 (Ls := Ls) (mj := mj) (a := s) (y := rtE (lo s) (hi s - lo s) n 4) (z := rtE (lo s) (hi s - lo s) (n + 1) 4) h hq hs4.1 hs4.2.1 hs4.2.2
    have h1 : ST (zup (zup mi 5 s (rtE (lo s) (hi s - lo s) n 4)) 6 s (rtE (lo s) (hi s - lo s) (n + 1) 4)) g (rtB lo hi s 4 n).1 (rtB lo hi s 4 n).2 u NN KK VV := ⟨d2.1, d2.2.box fun k hk2 => by
      show (if k = s then rtE (lo s) (hi s - lo s) n 4 else lo' k) = (if k = s then rtE (lo s) (hi s - lo s) n 4 else lo k) ∧ (if k = s then rtE (lo s) (hi s - lo s) (n + 1) 4 else hi' k) = (if k = s then rtE (lo s) (hi s - lo s) (n + 1) 4 else hi k)
      by_cases c : k = s
      · rw [if_pos c, if_pos c, if_pos c, if_pos c]; exact ⟨rfl, rfl⟩
      · rw [if_neg c, if_neg c, if_neg c, if_neg c]; exact hk k hk2 c⟩
    obtain ⟨mi2, mj2, g2, ⟨-, r2⟩, k2, o2⟩ := zr_may (Ls := Ls) (mj := mj) (s := s) (l3 := l3) h1 he hn (hE n (by omega))
    have h2 := h1.kp k2 o2
    obtain ⟨mi3, mj3, g3, l8', q1, q2, q3⟩ := ih (n + 1) (by omega) mi2 mj2 g2 (some (.int (if mayB (E n) then zi 1 else zi 0))) _ _ h2 (fun k hk2 c => ⟨if_neg c, if_neg c⟩)
    refine ⟨mi3, mj3, g3, l8', ?_, q2, fun a ha => by rw [q3 a ha, k2 a (by omega), zup_ne (by omega), zup_ne (by omega)]⟩
    have r2 := r2 (some (.int (lo s))) (some (.int (hi s - lo s))) (some (.int (zi (rtN E 4)))) (some (.int (zi n))) l8 rfl
    have hbit := in_bit (rtN E 4) (rtN_16 E 4 (by omega)) n (by omega)
    rw [rtN_bit E 4 (by omega) n (by omega)] at hbit
    have u1 : rtE (lo s) (hi s - lo s) n 4 = lo s + (hi s - lo s) * zi n / zi 4 := rfl
    have u2 : rtE (lo s) (hi s - lo s) (n + 1) 4 = lo s + (hi s - lo s) * zi (n + 1) / zi 4 := rfl
    rw [u1, u2] at d1
    have k4 : ¬ zi 4 = 0 := by decide
    rw [← q1, q_124_102]
    simp (disch := (first | with_reducible exact is_1 | with_reducible exact zi_at is_1 (by omega) (by omega) | with_reducible exact k4 | with_reducible exact zi_at k4 (by omega) (by omega) | ((with_reducible refine zct_le ?_) <;> exact Nat.le_of_ble_eq_true rfl) | with_reducible exact zh_0 | with_reducible exact zh_1 | with_reducible exact zh_b | omega)) only [q_124_104, q_124_105, q_124_108r, q_124_108n, q_124_109, q_124_110, q_124_112, q_124_114, q_124_116, q_124_117, q_124_118, q_124_119, q_124_120, q_124_122, q_124_124, q_124_126, q_124_127, q_124_128, q_124_129, q_124_130, q_124_131, q_124_132, q_124_135, vf_s, vf_n, zk2_none, zk2_int, zk2_ref, zk2_null, zk2_long, zct_nil, zct_i, zct_l, zct_r, zct_n, Option.bind_some, Option.toList_some, Option.toList_none, List.cons_append, List.nil_append, zor_l, zor_r, if_true, if_false, ↓reduceIte, zi_lit, zi_of, zi_add, zi_mul, zi_sub, zi_nat, zi_leT, zi_leF, zi_ltT, zi_ltF, zi_eqT, zi_eqF, zif_0z, zif_bz, zi_01l, zi_01r, not_true_eq_false, not_false_eq_true, Nat.reduceAdd, Nat.reduceMul, Nat.reduceSub, d1]
    rw [← u1, ← u2, r2]
    cases hm : mayB (E n) with
    | true =>
      rw [hm] at hbit
      rw [if_pos rfl] at hbit ⊢
      simp (disch := (first | with_reducible exact is_1 | with_reducible exact zi_at is_1 (by omega) (by omega) | ((with_reducible refine zct_le ?_) <;> exact Nat.le_of_ble_eq_true rfl) | with_reducible exact zh_0 | with_reducible exact zh_1 | with_reducible exact zh_b | omega)) only [q_124_175, q_124_177, q_124_179, q_124_181, q_124_182, q_124_183, q_124_184, q_124_185, q_124_188, q_124_189, q_124_192, q_124_193, q_124_196, q_124_197, q_124_198, q_124_201, vf_s, vf_n, zk2_none, zk2_int, zk2_ref, zk2_null, zk2_long, zct_nil, zct_i, zct_l, zct_r, zct_n, Option.bind_some, Option.toList_some, Option.toList_none, List.cons_append, List.nil_append, zor_l, zor_r, if_true, if_false, ↓reduceIte, zi_lit, zi_of, zi_add, zi_mul, zi_sub, zi_nat, zi_leT, zi_leF, zi_ltT, zi_ltF, zi_eqT, zi_eqF, zif_0z, zif_bz, zi_01l, zi_01r, not_true_eq_false, not_false_eq_true, Nat.reduceAdd, Nat.reduceMul, Nat.reduceSub, hbit]
    | false =>
      rw [hm] at hbit
      rw [if_neg (by decide)] at hbit ⊢
      simp (disch := (first | with_reducible exact is_1 | with_reducible exact zi_at is_1 (by omega) (by omega) | ((with_reducible refine zct_le ?_) <;> exact Nat.le_of_ble_eq_true rfl) | with_reducible exact zh_0 | with_reducible exact zh_1 | with_reducible exact zh_b | omega)) only [q_124_175, q_124_177, q_124_179, q_124_181, q_124_182, q_124_183, q_124_184, q_124_185, q_124_188, q_124_189, q_124_192, q_124_193, q_124_196, q_124_197, q_124_198, q_124_201, vf_s, vf_n, zk2_none, zk2_int, zk2_ref, zk2_null, zk2_long, zct_nil, zct_i, zct_l, zct_r, zct_n, Option.bind_some, Option.toList_some, Option.toList_none, List.cons_append, List.nil_append, zor_l, zor_r, if_true, if_false, ↓reduceIte, zi_lit, zi_of, zi_add, zi_mul, zi_sub, zi_nat, zi_leT, zi_leF, zi_ltT, zi_ltF, zi_eqT, zi_eqF, zif_0z, zif_bz, zi_01l, zi_01r, not_true_eq_false, not_false_eq_true, Nat.reduceAdd, Nat.reduceMul, Nat.reduceSub, hbit]
theorem v_zeros (h : ST mi g lo hi u NN KK VV) (he : e < 4) (hn : 0 < NN e) (hq : s < 4) : ∃ mi' mj' g', zCall 124 [.ref 1, .int (zi e), .int (zi s)] (SH Ls) mi mj (RF g) = some (some (.int (zi 1)), SH Ls, mi', mj', RF g') ∧ ST mi' g' lo hi u NN KK VV ∧ Kl mi mi' := by
  have hb := h.2.1
  generalize hT : topE lo hi u (KK e) (VV e) (NN e) = T
  obtain ⟨mi1, mj1, g1, ⟨r1, -⟩, k1, o1⟩ := zr_may (Ls := Ls) (mj := mj) (s := s) (l3 := none) h he hn hT
  have h1 := h.kp k1 o1
  obtain ⟨mi2, mj2, g2, r2, k2, o2⟩ := s_99 (Ls := Ls) (mj := mj1) (s := s) (n := 1) h1 he hn hq (by omega) (by omega)
  have h2 := h1.kp k2 o2
  have eT : topE (rtB lo hi s 1 0).1 (rtB lo hi s 1 0).2 u (KK e) (VV e) (NN e) = T := by
    rw [← hT]
    refine top_box fun k hk => ?_
    show (if k = s then rtE (lo s) (hi s - lo s) 0 1 else lo k) = lo k ∧ (if k = s then rtE (lo s) (hi s - lo s) 1 1 else hi k) = hi k
    by_cases c : k = s
    · subst c
      obtain ⟨b1, b2, b3⟩ := hb k hk
      obtain ⟨i1, -, -⟩ := rtE_i (k := 0) (n := 1) b1 b2 b3 (by omega) (by omega) (by omega)
      obtain ⟨i2, -, -⟩ := rtE_i (k := 1) (n := 1) b1 b2 b3 (by omega) (by omega) (by omega)
      rw [if_pos rfl, if_pos rfl]
      refine ⟨zi_inj ?_, zi_inj ?_⟩
      · rw [i1]; simp
      · rw [i2]; simp; omega
    · rw [if_neg c, if_neg c]; exact ⟨rfl, rfl⟩
  have eR : rtF (fun k => topE (rtB lo hi s 1 k).1 (rtB lo hi s 1 k).2 u (KK e) (VV e) (NN e)) 1 = if mayB T then zi 1 else zi 0 := by
    rw [rtF_N _ 1 (by omega), rtN, rtN, eT]
    cases mayB T <;> rfl
  rw [eR] at r2
  have d0 := s_80l (Ls := Ls) (mj := mj2) (a := s) h2 hq
  have d1 := s_80h (Ls := Ls) (mj := mj2) (a := s) h2 hq
  obtain ⟨mi3, mj3, g3, r3, k3, o3⟩ := s_99 (Ls := Ls) (mj := mj2) (s := s) (n := 4) h2 he hn hq (by omega) (by omega)
  have h3 := h2.kp k3 o3
  have hE : ∀ k, k < 4 → topE (rtB lo hi s 4 k).1 (rtB lo hi s 4 k).2 u (KK e) (VV e) (NN e) = (fun k => topE (rtB lo hi s 4 k).1 (rtB lo hi s 4 k).2 u (KK e) (VV e) (NN e)) k := fun _ _ => rfl
  generalize (fun k => topE (rtB lo hi s 4 k).1 (rtB lo hi s 4 k).2 u (KK e) (VV e) (NN e)) = E at hE r3
  rw [rtF_N E 4 (by omega)] at r3
  obtain ⟨mi4, a1, a2, a3, a4, a5⟩ := s_101 (Ls := Ls) (mj := mj3) (s := 0) h3 (by omega)
  have h4 : ST mi4 g3 lo hi u NN KK VV := ⟨o3, h3.2.fr fun a _ _ => a4 a (by omega) (by omega)⟩
  obtain ⟨mi5, mj5, g5, l8, q1, q2, q3⟩ := zr_lz (Ls := Ls) (l3 := some (.int (if mayB T then zi 1 else zi 0))) he hn hq hb hE 4 0 (by omega) mi4 mj3 g3 none lo hi h4 (fun _ _ _ => ⟨rfl, rfl⟩)
  obtain ⟨mi6, c1, c2, c3⟩ := s_102 (Ls := Ls) (g := g5) (mj := mj5) (s := 0) (mi := mi5) (lo := lo) (hi := hi) (u := u) (NN := NN) (KK := KK) (VV := VV) (by omega) (by rw [q3 21 (by omega)]; exact a2) (a3.fr fun a _ _ => by rw [q3 a (by omega)])
  have h6 : ST mi6 g5 lo hi u NN KK VV := ⟨q2, c2⟩
  have d6 := s_80l (Ls := Ls) (mj := mj5) (a := s) h6 hq
  have hl16 := rtN_16 E 4 (by omega)
  obtain ⟨x1, x2⟩ := exF_N NN 4 (by omega)
  have xp := exN_pos NN (e := e) 4 he hn
  rw [x1] at c1 a1
  refine ⟨mi6, mj5, g5, ?_, h6, ?_⟩
  · rw [show zCall 124 [.ref 1, .int (zi e), .int (zi s)] (SH Ls) mi mj (RF g) = zRun 124 0 [some (.ref 1), some (.int (zi e)), some (.int (zi s)), none, none, none, none, none, none] [] (SH Ls) mi mj (RF g) from rfl, r1]
    have t1 : zRun 124 38 [some (.ref 1), some (.int (zi e)), some (.int (zi s)), some (.int (if mayB T then zi 1 else zi 0)), none, none, none, none, none] [] (SH Ls) mi1 mj1 (RF g1) = zRun 124 102 [some (.ref 1), some (.int (zi e)), some (.int (zi s)), some (.int (if mayB T then zi 1 else zi 0)), some (.int (lo s)), some (.int (hi s - lo s)), some (.int (zi (rtN E 4))), some (.int (zi 0)), none] [] (SH Ls) mi4 mj3 (RF g3) := by
      cases hm : mayB T with
      | true =>
        rw [hm, if_pos rfl] at r2
        rw [if_pos rfl]
        simp (disch := (first | with_reducible exact is_1 | with_reducible exact zi_at is_1 (by omega) (by omega) | ((with_reducible refine zct_le ?_) <;> exact Nat.le_of_ble_eq_true rfl) | with_reducible exact zh_0 | with_reducible exact zh_1 | with_reducible exact zh_b | omega)) only [q_124_38r, q_124_38n, q_124_39, q_124_40, q_124_41, q_124_42, q_124_45, q_124_46, q_124_49, q_124_50, q_124_53, q_124_54, q_124_57, q_124_58, q_124_59r, q_124_59n, q_124_60, q_124_61, q_124_62, q_124_65, q_124_67, q_124_68, q_124_70r, q_124_70n, q_124_71, q_124_72, q_124_73, q_124_76, q_124_78, q_124_79, q_124_81, q_124_82, q_124_84r, q_124_84n, q_124_85, q_124_86, q_124_87, q_124_88, q_124_91, q_124_93r, q_124_93n, q_124_94, q_124_95, q_124_98, q_124_99, q_124_100, vf_s, vf_n, zk2_none, zk2_int, zk2_ref, zk2_null, zk2_long, zct_nil, zct_i, zct_l, zct_r, zct_n, Option.bind_some, Option.toList_some, Option.toList_none, List.cons_append, List.nil_append, zor_l, zor_r, if_true, if_false, ↓reduceIte, zi_lit, zi_of, zi_add, zi_mul, zi_sub, zi_nat, zi_leT, zi_leF, zi_ltT, zi_ltF, zi_eqT, zi_eqF, zif_0z, zif_bz, zi_01l, zi_01r, not_true_eq_false, not_false_eq_true, Nat.reduceAdd, Nat.reduceMul, Nat.reduceSub, r2, r3, d0, d1, dm_sub, a1]
      | false =>
        rw [hm, if_neg (by decide)] at r2
        rw [if_neg (by decide)]
        simp (disch := (first | with_reducible exact is_1 | with_reducible exact zi_at is_1 (by omega) (by omega) | ((with_reducible refine zct_le ?_) <;> exact Nat.le_of_ble_eq_true rfl) | with_reducible exact zh_0 | with_reducible exact zh_1 | with_reducible exact zh_b | omega)) only [q_124_38r, q_124_38n, q_124_39, q_124_40, q_124_41, q_124_42, q_124_45, q_124_46, q_124_49, q_124_50, q_124_53, q_124_54, q_124_57, q_124_58, q_124_59r, q_124_59n, q_124_60, q_124_61, q_124_62, q_124_65, q_124_67, q_124_68, q_124_70r, q_124_70n, q_124_71, q_124_72, q_124_73, q_124_76, q_124_78, q_124_79, q_124_81, q_124_82, q_124_84r, q_124_84n, q_124_85, q_124_86, q_124_87, q_124_88, q_124_91, q_124_93r, q_124_93n, q_124_94, q_124_95, q_124_98, q_124_99, q_124_100, vf_s, vf_n, zk2_none, zk2_int, zk2_ref, zk2_null, zk2_long, zct_nil, zct_i, zct_l, zct_r, zct_n, Option.bind_some, Option.toList_some, Option.toList_none, List.cons_append, List.nil_append, zor_l, zor_r, if_true, if_false, ↓reduceIte, zi_lit, zi_of, zi_add, zi_mul, zi_sub, zi_nat, zi_leT, zi_leF, zi_ltT, zi_ltF, zi_eqT, zi_eqF, zif_0z, zif_bz, zi_01l, zi_01r, not_true_eq_false, not_false_eq_true, Nat.reduceAdd, Nat.reduceMul, Nat.reduceSub, r2, r3, d0, d1, dm_sub, a1]
    rw [t1, q1]
    simp (disch := (first | with_reducible exact is_1 | with_reducible exact zi_at is_1 (by omega) (by omega) | ((with_reducible refine zct_le ?_) <;> exact Nat.le_of_ble_eq_true rfl) | with_reducible exact zh_0 | with_reducible exact zh_1 | with_reducible exact zh_b | omega)) only [q_124_204r, q_124_204n, q_124_205, q_124_206, q_124_209, q_124_212, q_124_214, q_124_216, q_124_219r, q_124_219n, q_124_220, q_124_221, q_124_222, q_124_225, q_124_227, q_124_229, q_124_230, q_124_233, q_124_234, q_124_237, q_124_238, vf_s, vf_n, zk2_none, zk2_int, zk2_ref, zk2_null, zk2_long, zct_nil, zct_i, zct_l, zct_r, zct_n, Option.bind_some, Option.toList_some, Option.toList_none, List.cons_append, List.nil_append, zor_l, zor_r, if_true, if_false, ↓reduceIte, zi_lit, zi_of, zi_add, zi_mul, zi_sub, zi_nat, zi_leT, zi_leF, zi_ltT, zi_ltF, zi_eqT, zi_eqF, zif_0z, zif_bz, zi_01l, zi_01r, not_true_eq_false, not_false_eq_true, Nat.reduceAdd, Nat.reduceMul, Nat.reduceSub, c1, d6, dm_add]
  · refine ⟨?_, ?_⟩
    · rw [c3 0 (by omega), q3 0 (by omega), a4 0 (by omega) (by omega), k3 0 (by omega), k2 0 (by omega), k1 0 (by omega)]
    · rw [c3 1 (by omega), q3 1 (by omega), a4 1 (by omega) (by omega), k3 1 (by omega), k2 1 (by omega), k1 1 (by omega)]
end
