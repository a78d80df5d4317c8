/-! ===== the law: what is restored is as it was ===== -/
section
variable {Ls : Nat} {g : Nat → Nat} {mi mi' : zI} {mj mj' : zJ} {a b e n p q k c m u s : Nat} {v w x y r : Int32} {lo hi : Nat → Int32} {NN : Nat → Nat} {KK : Nat → Nat → Nat} {VV : Nat → Nat → Int32} {T : En}
theorem set_many (h1 : 1 ≤ m) (h3 : m ≤ 3) (hN : ∀ j, j < 4 → (0 < NN j ↔ j < m)) : exF NN 4 = (zi 1 <<< (zi m &&& zi 31)) - zi 1 := by
  have a0 := hN 0 (by omega)
  have a1 := hN 1 (by omega)
  have a2 := hN 2 (by omega)
  have a3 := hN 3 (by omega)
  unfold exF exF exF exF exF
  rcases (show m = 1 ∨ m = 2 ∨ m = 3 by omega) with rfl | rfl | rfl
  · rw [if_neg (by omega), if_neg (by omega), if_neg (by omega), if_pos (by omega)]; decide
  · rw [if_neg (by omega), if_neg (by omega), if_pos (by omega), if_pos (by omega)]; decide
  · rw [if_neg (by omega), if_pos (by omega), if_pos (by omega), if_pos (by omega)]; decide
theorem sv_l {l2 l3 l4 l5 l6 : Option Value} (j : Nat) : ∀ n, n + j = 4 → ∀ mi lo hi, ST mi g lo hi u NN KK VV → (∀ k, k < n → lo k = zi 1 ∧ hi k = zi 1) → ∃ mi', zRun 126 99 [some (.ref 1), some (.int (zi m)), l2, l3, l4, l5, l6, none, some (.int (zi n))] [] (SH Ls) mi mj (RF g) = zRun 126 120 [some (.ref 1), some (.int (zi m)), l2, l3, l4, l5, l6, none, some (.int (zi 4))] [] (SH Ls) mi' mj (RF g) ∧ ST mi' g (fun _ => zi 1) (fun _ => zi 1) u NN KK VV ∧ ∀ a, ¬ a = 5 → ¬ a = 6 → mi' a = mi a := by
  induction j with
  | zero =>
    intro n hj mi lo hi h hk
    obtain rfl : n = 4 := by omega
    refine ⟨mi, ?_, ⟨h.1, h.2.box hk⟩, fun _ _ _ => rfl⟩
    rw [q_126_99]
    simp (disch := (first | ((with_reducible refine zct_le ?_) <;> exact Nat.le_of_ble_eq_true rfl) | with_reducible exact zh_0 | with_reducible exact zh_1 | with_reducible exact zh_b | omega)) only [q_126_101, q_126_102, q_126_105r, q_126_105n, q_126_106, q_126_108, q_126_109, q_126_110, q_126_113, q_126_114, q_126_117, vf_s, vf_n, zk2_none, zk2_int, zk2_ref, zk2_null, zk2_long, zct_nil, zct_i, zct_l, zct_r, zct_n, Option.bind_some, Option.toList_some, Option.toList_none, List.cons_append, List.nil_append, zor_l, zor_r, if_true, if_false, ↓reduceIte, zi_lit, zi_of, zi_add, zi_mul, zi_sub, zi_nat, zi_leT, zi_leF, zi_ltT, zi_ltF, zi_eqT, zi_eqF, zif_0z, zif_bz, zi_01l, zi_01r, not_true_eq_false, not_false_eq_true, Nat.reduceAdd, Nat.reduceMul, Nat.reduceSub]
  | succ j ih =>
    intro n hj mi lo hi h hk
    have k1 : (zi 1).toInt = 1 := by decide
    obtain ⟨d1, d2⟩ := s_79 (Ls := Ls) (mj := mj) (a := n) (y := zi 1) (z := zi 1) h (by omega) (by omega) (by omega) (by omega)
    obtain ⟨mi', q1, q2, q3⟩ := ih (n + 1) (by omega) _ _ _ d2 (fun k hk2 => by
      by_cases c : k = n
      · subst c; exact ⟨if_pos rfl, if_pos rfl⟩
      · rw [if_neg c, if_neg c]; exact hk k (by omega))
    refine ⟨mi', ?_, q2, fun a a5 a6 => by rw [q3 a a5 a6, zup_ne a6, zup_ne a5]⟩
    rw [← q1, q_126_99]
    simp (disch := (first | with_reducible exact is_1 | with_reducible exact zi_at is_1 (by omega) (by omega) | ((with_reducible refine zct_le ?_) <;> exact Nat.le_of_ble_eq_true rfl) | with_reducible exact zh_0 | with_reducible exact zh_1 | with_reducible exact zh_b | omega)) only [q_126_101, q_126_102, q_126_105r, q_126_105n, q_126_106, q_126_108, q_126_109, q_126_110, q_126_113, q_126_114, q_126_117, vf_s, vf_n, zk2_none, zk2_int, zk2_ref, zk2_null, zk2_long, zct_nil, zct_i, zct_l, zct_r, zct_n, Option.bind_some, Option.toList_some, Option.toList_none, List.cons_append, List.nil_append, zor_l, zor_r, if_true, if_false, ↓reduceIte, zi_lit, zi_of, zi_add, zi_mul, zi_sub, zi_nat, zi_leT, zi_leF, zi_ltT, zi_ltF, zi_eqT, zi_eqF, zif_0z, zif_bz, zi_01l, zi_01r, not_true_eq_false, not_false_eq_true, Nat.reduceAdd, Nat.reduceMul, Nat.reduceSub, d1]
theorem v_saved (h : ST mi g lo hi u NN KK VV) (hp : mi 1 1 = zi 0) (h1 : 1 ≤ m) (h3 : m ≤ 3) (hN : ∀ j, j < 4 → (0 < NN j ↔ j < m)) : ∃ mi' mj' g', zCall 126 [.ref 1, .int (zi m)] (SH Ls) mi mj (RF g) = some (some (.int (zi 1)), SH Ls, mi', mj', RF g') := by
  have he : (0 : Nat) < 4 := by omega
  have hn : 0 < NN 0 := (hN 0 he).mpr (by omega)
  have hset := set_many h1 h3 hN
  have hu := h.2.2.1
  have hwd := wdF_le (lo := lo) (hi := hi) 4
  have hn60 := (h.2.2.2.2.2 0 he).1
  generalize hT : topE lo hi u (KK 0) (VV 0) (NN 0) = T
  have hwy : whyOk T.1 := by rw [← hT]; exact wy_top
  -- saved
  obtain ⟨mi1, a1, a2, a3, a4, a5⟩ := s_101 (Ls := Ls) (mj := mj) (s := 1) h (by omega)
  have h1' : ST mi1 g lo hi u NN KK VV := ⟨h.1, h.2.fr fun a _ _ => a4 a (by omega) (by omega)⟩
  have b1 := s_100u (Ls := Ls) (mj := mj) h1'
  have b2 := s_100w (Ls := Ls) (mj := mj) h1'
  have b3 := s_86n (Ls := Ls) (mj := mj) h1' he hn
  obtain ⟨mi2, mj2, g2, c1, c2, c3⟩ := s_88 (Ls := Ls) (mj := mj) h1' he hn
  rw [hT] at c1
  have h2 := h1'.kp c2 c3
  -- the part, if there is one
  have hpart : ∃ mi3 mj3 g3 z, zRun 126 33 [some (.ref 1), some (.int (zi m)), some (.int (exF NN 4)), some (.int (zi u)), some (.int (zi (wdF lo hi 4))), some (.int (zi (NN 0))), none, none, none] [.int T.1] (SH Ls) mi2 mj2 (RF g2) = zRun 126 49 [some (.ref 1), some (.int (zi m)), some (.int (exF NN 4)), some (.int (zi u)), some (.int (zi (wdF lo hi 4))), some (.int (zi (NN 0))), some (.long z), none, none] [] (SH Ls) mi3 mj3 (RF g3) ∧ Kp mi2 mi3 ∧ gOk g3 ∧ (T.1 = zi 0 → z = T.2 0) := by
    by_cases cw : T.1 = zi 0
    · obtain ⟨mi3, mj3, g3, d1, d2, d3⟩ := s_90 (Ls := Ls) (mj := mj2) (a := 12) h2 he hn (by omega)
      rw [hT, pt_12 cw] at d1
      refine ⟨mi3, mj3, g3, T.2 0, ?_, d2, d3, fun _ => rfl⟩
      rw [cw]
      simp (disch := (first | with_reducible exact is_1 | with_reducible exact zi_at is_1 (by omega) (by omega) | ((with_reducible refine zct_le ?_) <;> exact Nat.le_of_ble_eq_true rfl) | with_reducible exact zh_0 | with_reducible exact zh_1 | with_reducible exact zh_b | omega)) only [q_126_33, q_126_36, q_126_37, q_126_40r, q_126_40n, q_126_41, q_126_42, q_126_44, q_126_47, vf_s, vf_n, zk2_none, zk2_int, zk2_ref, zk2_null, zk2_long, zct_nil, zct_i, zct_l, zct_r, zct_n, Option.bind_some, Option.toList_some, Option.toList_none, List.cons_append, List.nil_append, zor_l, zor_r, if_true, if_false, ↓reduceIte, zi_lit, zi_of, zi_add, zi_mul, zi_sub, zi_nat, zi_leT, zi_leF, zi_ltT, zi_ltF, zi_eqT, zi_eqF, zif_0z, zif_bz, zi_01l, zi_01r, not_true_eq_false, not_false_eq_true, Nat.reduceAdd, Nat.reduceMul, Nat.reduceSub, d1]
    · have hp2 : ¬ T.1 ≤ zi 0 := by rw [wy_pos hwy]; exact cw
      refine ⟨mi2, mj2, g2, 0, ?_, Kp.rf, c3, fun q => absurd q cw⟩
      simp (disch := (first | with_reducible exact is_1 | with_reducible exact zi_at is_1 (by omega) (by omega) | ((with_reducible refine zct_le ?_) <;> exact Nat.le_of_ble_eq_true rfl) | with_reducible exact zh_0 | with_reducible exact zh_1 | with_reducible exact zh_b | omega)) only [q_126_33, q_126_36, q_126_37, q_126_40r, q_126_40n, q_126_41, q_126_42, q_126_44, q_126_47, vf_s, vf_n, zk2_none, zk2_int, zk2_ref, zk2_null, zk2_long, zct_nil, zct_i, zct_l, zct_r, zct_n, Option.bind_some, Option.toList_some, Option.toList_none, List.cons_append, List.nil_append, zor_l, zor_r, if_true, if_false, ↓reduceIte, zi_lit, zi_of, zi_add, zi_mul, zi_sub, zi_nat, zi_leT, zi_leF, zi_ltT, zi_ltF, zi_eqT, zi_eqF, zif_0z, zif_bz, zi_01l, zi_01r, not_true_eq_false, not_false_eq_true, Nat.reduceAdd, Nat.reduceMul, Nat.reduceSub, hp2]
  obtain ⟨mi3, mj3, g3, z, d1, d2, d3, d4⟩ := hpart
  have h3' := h2.kp d2 d3
  -- the pad
  have p0 : mi3 1 1 = zi 0 := by rw [d2 1 (by omega), c2 1 (by omega), a4 1 (by omega) (by omega)]; exact hp
  have e1 := s_82 (Ls := Ls) (g := g3) (mi := mi3) (mj := mj3) (x := zi 97) p0 (by omega) (by decide) (by decide)
  generalize hm4 : zup (zup mi3 2 0 (zi 97)) 1 1 (zi (0 + 1)) = mi4 at e1
  have f4 : ∀ a, ¬ a = 1 → ¬ a = 2 → mi4 a = mi3 a := fun a x1 x2 => by rw [← hm4, zup_ne x1, zup_ne x2]
  have h4 : ST mi4 g3 lo hi u NN KK VV := ⟨d3, h3'.2.fr fun a _ _ => f4 a (by omega) (by omega)⟩
  obtain ⟨q0, hq⟩ := zi_all (mi4 22 4)
  have pd : pdC mi4 1 (fun _ => 97) := ⟨by omega, by rw [← hm4, zg_s], fun k hk => by
    obtain rfl : k = 0 := by omega
    rw [← hm4, zup_ne (by omega), zg_s]
    exact ⟨rfl, (by decide : (97 : Nat) < 65536)⟩⟩
  have hrd : rdS q0 (fun _ => 97) 1 = some (((rdZ q0).ap 1).st 6) := rfl
  obtain ⟨mi5, i1, -, i3, i4, i5, i6⟩ := s_85 (Ls := Ls) (mj := mj3) (e := 0) h4 (by omega) pd hq hrd (by unfold rdB; show ¬ ((6 : Nat) = 0 ∨ (6 : Nat) = 1 ∨ (6 : Nat) = 2 ∨ (6 : Nat) = 4 ∨ (6 : Nat) = 7); omega) rfl
  have i1 : zCall 85 [.ref 1, .int (zi 0)] (SH Ls) mi4 mj3 (RF g3) = some (some (.int (zi 1)), SH Ls, mi5, mj3, RF g3) := i1
  generalize hN' : (fun d => if d = 0 then (cpl 1 (((rdZ q0).ap 1).st 6).W (((rdZ q0).ap 1).st 6)).n else NN d) = N' at i3
  generalize hK' : (fun d => if d = 0 then (cpl 1 (((rdZ q0).ap 1).st 6).W (((rdZ q0).ap 1).st 6)).K else KK d) = K' at i3
  generalize hV' : (fun d => if d = 0 then (fun k => zi ((cpl 1 (((rdZ q0).ap 1).st 6).W (((rdZ q0).ap 1).st 6)).V k)) else VV d) = V' at i3
  have n0 : N' 0 = 1 := by rw [← hN']; rfl
  have k0 : K' 0 0 = 1 := by rw [← hK']; rfl
  -- symbols, domains
  have hsy : ∃ t, t ≤ 8 ∧ (if u = 8 then zi 0 else zi 8) = zi t := by
    by_cases c : u = 8
    · exact ⟨0, by omega, if_pos c⟩
    · exact ⟨8, by omega, if_neg c⟩
  obtain ⟨t, ht, et⟩ := hsy
  obtain ⟨j1, j2⟩ := s_81 (Ls := Ls) (mj := mj3) (a := t) i3 ht
  generalize hm6 : zup mi5 3 2 (zi t) = mi6 at j1 j2
  obtain ⟨mi7, o1, o2, o3⟩ := sv_l (Ls := Ls) (mj := mj3) (m := m) (l2 := some (.int (exF NN 4))) (l3 := some (.int (zi u))) (l4 := some (.int (zi (wdF lo hi 4)))) (l5 := some (.int (zi (NN 0)))) (l6 := some (.long z)) 4 0 (by omega) mi6 lo hi j2 (fun k hk => absurd hk (by omega))
  have u1 := s_100w (Ls := Ls) (mj := mj3) o2
  have w0 : wdF (fun _ => zi 1) (fun _ => zi 1) 4 = 0 := by decide
  rw [w0] at u1
  obtain ⟨mi8, mj8, g8, v1, v2, v3⟩ := s_89 (Ls := Ls) (mj := mj3) (e := 0) (a := 2) (b := 0) o2 he (by rw [n0]; omega) (by omega) (by omega)
  have h8 := o2.kp v2 v3
  have k1 : (zi 1).toInt = 1 := by decide
  have hb1 : boxIn (fun _ => zi 1) (fun _ => zi 1) := o2.2.1
  have eT : topE (fun _ => zi 1) (fun _ => zi 1) t (K' 0) (V' 0) (N' 0) = (zi 0, fInp 0 (zi 1) (zi 1)) := by
    rw [n0]
    have := top_lo (lo := fun _ => zi 1) (hi := fun _ => zi 1) (u := t) (K := K' 0) (V := V' 0) (n := 0) (by rw [k0]; omega) hb1 (fun q => by rw [k0] at q; omega)
    rw [k0, if_neg (by omega)] at this
    exact this
  have ev : bdV (topE (fun _ => zi 1) (fun _ => zi 1) t (K' 0) (V' 0) (N' 0)) 2 0 = 1 := by
    rw [eT, bd_20 rfl]
    have := (inp_rg (k := 0) (l := zi 1) (u' := zi 1) (by omega) (by omega) (by omega) (by omega)).1
    rw [show (zi 0, fInp 0 (zi 1) (zi 1)).2 = fInp 0 (zi 1) (zi 1) from rfl, this]
    decide
  rw [ev] at v1
  have z1 := s_87 (Ls := Ls) (mj := mj8) (e := 0) h8 he (by rw [n0]; omega)
  have ei : inF (K' 0) (N' 0) = zi 1 := by
    rw [n0, inF, inF, k0]
    decide
  rw [ei] at z1
  -- restored
  have F8 : ∀ a, (a = 21 ∨ (131 ≤ a ∧ a < 148)) → mi8 a = mi1 a := fun a ha => by
    rw [v2 a (by omega), o3 a (by omega) (by omega), ← hm6, zup_ne (by omega), i6 a (by omega) (by omega) (by omega), f4 a (by omega) (by omega), d2 a (by omega), c2 a (by omega)]
  obtain ⟨mi9, x1, x2, x3⟩ := s_102 (Ls := Ls) (g := g8) (mj := mj8) (s := 1) (mi := mi8) (lo := lo) (hi := hi) (u := u) (NN := NN) (KK := KK) (VV := VV) (by omega) (by rw [F8 21 (by omega)]; exact a2) (a3.fr fun a ha1 ha2 => F8 a (by omega))
  have h9 : ST mi9 g8 lo hi u NN KK VV := ⟨v3, x2⟩
  have y1 := s_100u (Ls := Ls) (mj := mj8) h9
  have y2 := s_100w (Ls := Ls) (mj := mj8) h9
  have y3 := s_86n (Ls := Ls) (mj := mj8) h9 he hn
  obtain ⟨miA, mjA, gA, r1, r2, r3⟩ := s_88 (Ls := Ls) (mj := mj8) h9 he hn
  rw [hT] at r1
  have hA := h9.kp r2 r3
  have t1 : zCall 126 [.ref 1, .int (zi m)] (SH Ls) mi mj (RF g) = zRun 126 33 [some (.ref 1), some (.int (zi m)), some (.int (exF NN 4)), some (.int (zi u)), some (.int (zi (wdF lo hi 4))), some (.int (zi (NN 0))), none, none, none] [.int T.1] (SH Ls) mi2 mj2 (RF g2) := by
    simp (disch := (first | with_reducible exact is_1 | with_reducible exact zi_at is_1 (by omega) (by omega) | ((with_reducible refine zct_le ?_) <;> exact Nat.le_of_ble_eq_true rfl) | with_reducible exact zh_0 | with_reducible exact zh_1 | with_reducible exact zh_b | omega)) only [e_126, q_126_0r, q_126_0n, q_126_1, q_126_2, q_126_5, q_126_6r, q_126_6n, q_126_7, q_126_8, q_126_11, q_126_12r, q_126_12n, q_126_13, q_126_14, q_126_17, q_126_19r, q_126_19n, q_126_20, q_126_21, q_126_22, q_126_23, q_126_26, q_126_28r, q_126_28n, q_126_29, q_126_30, vf_s, vf_n, zk2_none, zk2_int, zk2_ref, zk2_null, zk2_long, zct_nil, zct_i, zct_l, zct_r, zct_n, Option.bind_some, Option.toList_some, Option.toList_none, List.cons_append, List.nil_append, zor_l, zor_r, if_true, if_false, ↓reduceIte, zi_lit, zi_of, zi_add, zi_mul, zi_sub, zi_nat, zi_leT, zi_leF, zi_ltT, zi_ltF, zi_eqT, zi_eqF, zif_0z, zif_bz, zi_01l, zi_01r, not_true_eq_false, not_false_eq_true, Nat.reduceAdd, Nat.reduceMul, Nat.reduceSub, a1, b1, b2, b3, c1]
  have t2 : zRun 126 49 [some (.ref 1), some (.int (zi m)), some (.int (exF NN 4)), some (.int (zi u)), some (.int (zi (wdF lo hi 4))), some (.int (zi (NN 0))), some (.long z), none, none] [] (SH Ls) mi3 mj3 (RF g3) = zRun 126 99 [some (.ref 1), some (.int (zi m)), some (.int (exF NN 4)), some (.int (zi u)), some (.int (zi (wdF lo hi 4))), some (.int (zi (NN 0))), some (.long z), none, some (.int (zi 0))] [] (SH Ls) mi6 mj3 (RF g3) := by
    by_cases c8 : u = 8
    · rw [if_pos c8] at et
      rw [← et] at j1
      subst c8
      simp (disch := (first | with_reducible exact is_1 | with_reducible exact zi_at is_1 (by omega) (by omega) | ((with_reducible refine zct_le ?_) <;> exact Nat.le_of_ble_eq_true rfl) | with_reducible exact zh_0 | with_reducible exact zh_1 | with_reducible exact zh_b | omega)) only [q_126_49r, q_126_49n, q_126_50, q_126_52, q_126_55, q_126_56, q_126_57, q_126_58, q_126_59, q_126_60, q_126_61, q_126_62, q_126_65r, q_126_65n, q_126_66, q_126_67, q_126_70, q_126_71, q_126_74r, q_126_74n, q_126_75, q_126_76, q_126_78, q_126_81, q_126_82, q_126_85, q_126_87, q_126_90, q_126_91, q_126_94, q_126_95, q_126_96, q_126_97, vf_s, vf_n, zk2_none, zk2_int, zk2_ref, zk2_null, zk2_long, zct_nil, zct_i, zct_l, zct_r, zct_n, Option.bind_some, Option.toList_some, Option.toList_none, List.cons_append, List.nil_append, zor_l, zor_r, if_true, if_false, ↓reduceIte, zi_lit, zi_of, zi_add, zi_mul, zi_sub, zi_nat, zi_leT, zi_leF, zi_ltT, zi_ltF, zi_eqT, zi_eqF, zif_0z, zif_bz, zi_01l, zi_01r, not_true_eq_false, not_false_eq_true, Nat.reduceAdd, Nat.reduceMul, Nat.reduceSub, e1, hset, i1, j1]
    · rw [if_neg c8] at et
      rw [← et] at j1
      simp (disch := (first | with_reducible exact is_1 | with_reducible exact zi_at is_1 (by omega) (by omega) | ((with_reducible refine zct_le ?_) <;> exact Nat.le_of_ble_eq_true rfl) | with_reducible exact zh_0 | with_reducible exact zh_1 | with_reducible exact zh_b | omega)) only [q_126_49r, q_126_49n, q_126_50, q_126_52, q_126_55, q_126_56, q_126_57, q_126_58, q_126_59, q_126_60, q_126_61, q_126_62, q_126_65r, q_126_65n, q_126_66, q_126_67, q_126_70, q_126_71, q_126_74r, q_126_74n, q_126_75, q_126_76, q_126_78, q_126_81, q_126_82, q_126_85, q_126_87, q_126_90, q_126_91, q_126_94, q_126_95, q_126_96, q_126_97, vf_s, vf_n, zk2_none, zk2_int, zk2_ref, zk2_null, zk2_long, zct_nil, zct_i, zct_l, zct_r, zct_n, Option.bind_some, Option.toList_some, Option.toList_none, List.cons_append, List.nil_append, zor_l, zor_r, if_true, if_false, ↓reduceIte, zi_lit, zi_of, zi_add, zi_mul, zi_sub, zi_nat, zi_leT, zi_leF, zi_ltT, zi_ltF, zi_eqT, zi_eqF, zif_0z, zif_bz, zi_01l, zi_01r, not_true_eq_false, not_false_eq_true, Nat.reduceAdd, Nat.reduceMul, Nat.reduceSub, e1, hset, i1, j1]
  by_cases cw : T.1 = zi 0
  · obtain ⟨miB, mjB, gB, s1, s2, s3⟩ := s_90 (Ls := Ls) (mj := mjA) (a := 12) hA he hn (by omega)
    rw [hT, pt_12 cw, ← d4 cw] at s1
    rw [cw] at r1
    refine ⟨miB, mjB, gB, ?_⟩
    rw [t1, d1, t2, o1]
    simp (disch := (first | with_reducible exact is_1 | with_reducible exact zi_at is_1 (by omega) (by omega) | ((with_reducible refine zct_le ?_) <;> exact Nat.le_of_ble_eq_true rfl) | with_reducible exact zh_0 | with_reducible exact zh_1 | with_reducible exact zh_b | omega)) only [q_126_120r, q_126_120n, q_126_121, q_126_122, q_126_125, q_126_128r, q_126_128n, q_126_129, q_126_130, q_126_131, q_126_132, q_126_135, q_126_136, q_126_137, q_126_140r, q_126_140n, q_126_141, q_126_142, q_126_145, q_126_146, q_126_149, q_126_150, q_126_151r, q_126_151n, q_126_152, q_126_153, q_126_156, q_126_157, q_126_160r, q_126_160n, q_126_161, q_126_162, q_126_165, q_126_166, q_126_169r, q_126_169n, q_126_170, q_126_171, q_126_174, q_126_176, q_126_179r, q_126_179n, q_126_180, q_126_181, q_126_182, q_126_183, q_126_186, q_126_188, q_126_191r, q_126_191n, q_126_192, q_126_193, q_126_196, q_126_199r, q_126_199n, q_126_200, q_126_201, q_126_203, q_126_206, q_126_208, q_126_209, q_126_212, q_126_213, q_126_216, q_126_217, vf_s, vf_n, zk2_none, zk2_int, zk2_ref, zk2_null, zk2_long, zct_nil, zct_i, zct_l, zct_r, zct_n, Option.bind_some, Option.toList_some, Option.toList_none, List.cons_append, List.nil_append, zor_l, zor_r, if_true, if_false, ↓reduceIte, zi_lit, zi_of, zi_add, zi_mul, zi_sub, zi_nat, zi_leT, zi_leF, zi_ltT, zi_ltF, zi_eqT, zi_eqF, zif_0z, zif_bz, zi_01l, zi_01r, not_true_eq_false, not_false_eq_true, Nat.reduceAdd, Nat.reduceMul, Nat.reduceSub, u1, v1, z1, x1, y1, y2, y3, r1, s1]
  · have hp2 : ¬ T.1 ≤ zi 0 := by rw [wy_pos hwy]; exact cw
    have hp3 : zi 0 < T.1 := by rw [Int32.lt_iff_toInt_lt]; rw [Int32.le_iff_toInt_le] at hp2; omega
    refine ⟨miA, mjA, gA, ?_⟩
    rw [t1, d1, t2, o1]
    simp (disch := (first | with_reducible exact is_1 | with_reducible exact zi_at is_1 (by omega) (by omega) | ((with_reducible refine zct_le ?_) <;> exact Nat.le_of_ble_eq_true rfl) | with_reducible exact zh_0 | with_reducible exact zh_1 | with_reducible exact zh_b | omega)) only [q_126_120r, q_126_120n, q_126_121, q_126_122, q_126_125, q_126_128r, q_126_128n, q_126_129, q_126_130, q_126_131, q_126_132, q_126_135, q_126_136, q_126_137, q_126_140r, q_126_140n, q_126_141, q_126_142, q_126_145, q_126_146, q_126_149, q_126_150, q_126_151r, q_126_151n, q_126_152, q_126_153, q_126_156, q_126_157, q_126_160r, q_126_160n, q_126_161, q_126_162, q_126_165, q_126_166, q_126_169r, q_126_169n, q_126_170, q_126_171, q_126_174, q_126_176, q_126_179r, q_126_179n, q_126_180, q_126_181, q_126_182, q_126_183, q_126_186, q_126_188, q_126_191r, q_126_191n, q_126_192, q_126_193, q_126_196, q_126_199r, q_126_199n, q_126_200, q_126_201, q_126_203, q_126_206, q_126_208, q_126_209, q_126_212, q_126_213, q_126_216, q_126_217, vf_s, vf_n, zk2_none, zk2_int, zk2_ref, zk2_null, zk2_long, zct_nil, zct_i, zct_l, zct_r, zct_n, Option.bind_some, Option.toList_some, Option.toList_none, List.cons_append, List.nil_append, zor_l, zor_r, if_true, if_false, ↓reduceIte, zi_lit, zi_of, zi_add, zi_mul, zi_sub, zi_nat, zi_leT, zi_leF, zi_ltT, zi_ltF, zi_eqT, zi_eqF, zif_0z, zif_bz, zi_01l, zi_01r, not_true_eq_false, not_false_eq_true, Nat.reduceAdd, Nat.reduceMul, Nat.reduceSub, u1, v1, z1, x1, y1, y2, y3, r1, hp3]
end
