/-! ===== tighten (2) ===== -/
section
variable {Ls : Nat} {g : Nat → Nat} {mi mi' : zI} {mj mj' : zJ} {x y z : Int32} {a b e n p q k c m u s i t N : Nat} {v w : Value} {lo hi lo' hi' : Nat → Int32} {NN : Nat → Nat} {KK : Nat → Nat → Nat} {VV : Nat → Nat → Int32} {T M : En} {o f : Nat} {B : Nat → Bx} {bx : Bx} {r : Int64} {K : Nat → Nat} {V : Nat → Int32} {R : Nat → Int64}
def cRk (lo hi : Nat → Int32) (u : Nat) (K : Nat → Nat) (V : Nat → Int32) (N : Nat) (z : Int32) (mi : zI) (mj : zJ) (n : Nat) (B : Nat → Bx) : Prop := ∀ j, j < n → mj 100 j = rkE z (eB lo hi u K V N (B j)) ∧ mi 101 j = siB (B j) (eB lo hi u K V N (B j))
def rsE (z : Int32) (T : En) : Int64 := if T.1 = zi 0 then (if z = zi 0 then flow T.2 else fhigh T.2) else -1000000000000000005
def FrK (mi : zI) (mj : zJ) (mi' : zI) (mj' : zJ) : Prop := (∀ a, a < 27 ∨ (102 ≤ a ∧ a ≤ 104) ∨ 113 < a → mi' a = mi a) ∧ ∀ a, 100 < a → mj' a = mj a
theorem FrK.tr {mi1 mi2 : zI} {mj1 mj2 : zJ} (h : FrK mi mj mi1 mj1) (h2 : FrK mi1 mj1 mi2 mj2) : FrK mi mj mi2 mj2 := ⟨fun a ha => (h2.1 a ha).trans (h.1 a ha), fun a ha => (h2.2 a ha).trans (h.2 a ha)⟩
theorem tc_end (hL : cLs mi n B) (hn : n ≤ 200) (h1 : 1 ≤ n) (hB : ∀ j, j < n → boxIn (B j).1 (B j).2) (hu : u ≤ 8) (hx : exOne K V N) (hz : z = zi 0 ∨ z = zi 1) (hR : cRk lo hi u K V N z mi mj n B) (hRR : ∀ j, j < n → R j = rkE z (eB lo hi u K V N (B j))) {i1 i2 i5 : Int32} {o4 : Nat} {l6 l7 : Option Value} :
    zRun 98 207 [some (.ref 1), some (.int i1), some (.int i2), some (.int z), some (.ref o4), some (.int i5), l6, l7] [] (SH Ls) mi mj (RF g) = some (some (.long (rsE z (eB lo hi u K V N (B (wst R n))))), SH Ls, mi, mj, RF g) := by
  have m17 := m_17 (Ls := Ls) (g := g) (mj := mj) (R := R) hL.1 hn h1 (fun j hj => by rw [(hR j hj).1, hRR j hj])
  have hw : wst R n < n := by rcases wst_lt R n with q | q <;> omega
  have e1 := (hR (wst R n) hw).1
  have hb := hB (wst R n) hw
  have o0 := rk_rg (z := z) hb hu hx
  unfold rsE
  have hT : topE (B (wst R n)).1 (B (wst R n)).2 u K V N = eB lo hi u K V N (B (wst R n)) := rfl
  rw [hT] at o0
  generalize eB lo hi u K V N (B (wst R n)) = T at e1 o0 ⊢
  have hg : gone0 = -1000000000000000000 := rfl
  by_cases c : T.1 = zi 0
  · have o1 := o0.2 c
    have hne : ¬ rkE z T = -1000000000000000000 := fun h => by rw [h, ← hg, zj_lt] at o1; omega
    rw [if_pos c]
    rcases hz with rfl | rfl
    · simp (disch := (first | with_reducible exact is_1 | with_reducible exact zi_at is_1 (by omega) (by omega) | with_reducible exact is_97 | with_reducible exact zi_at is_97 (by omega) (by omega) | with_reducible exact is_100 | with_reducible exact zi_at is_100 (by omega) (by omega) | ((with_reducible refine zct_le ?_) <;> exact Nat.le_of_ble_eq_true rfl) | with_reducible exact zh_0 | with_reducible exact zh_1 | with_reducible exact zh_b | omega)) only [q_98_207r, q_98_207n, q_98_208, q_98_211, q_98_214r, q_98_214n, q_98_215, q_98_218, q_98_221, q_98_222, q_98_224, q_98_226, q_98_229, q_98_230, q_98_233, q_98_235, q_98_238, q_98_239, q_98_240, q_98_243, q_98_245, q_98_248, q_98_250, q_98_251, vf_s, vf_n, zk2_none, zk2_int, zk2_ref, zk2_null, zk2_long, zct_nil, zct_i, zct_l, zct_r, zct_n, Option.bind_some, Option.toList_some, Option.toList_none, List.cons_append, List.nil_append, zor_l, zor_r, if_true, if_false, ↓reduceIte, zi_lit, zi_of, zi_add, zi_mul, zi_sub, zi_nat, zi_leT, zi_leF, zi_ltT, zi_ltF, zi_eqT, zi_eqF, zif_0z, zif_bz, zi_01l, zi_01r, not_true_eq_false, not_false_eq_true, Nat.reduceAdd, Nat.reduceMul, Nat.reduceSub, rf_1_7, rf_97_2, m17, e1, hne]
      unfold rkE
      rw [if_pos c, if_pos rfl]
    · simp (disch := (first | with_reducible exact is_1 | with_reducible exact zi_at is_1 (by omega) (by omega) | with_reducible exact is_97 | with_reducible exact zi_at is_97 (by omega) (by omega) | with_reducible exact is_100 | with_reducible exact zi_at is_100 (by omega) (by omega) | ((with_reducible refine zct_le ?_) <;> exact Nat.le_of_ble_eq_true rfl) | with_reducible exact zh_0 | with_reducible exact zh_1 | with_reducible exact zh_b | omega)) only [q_98_207r, q_98_207n, q_98_208, q_98_211, q_98_214r, q_98_214n, q_98_215, q_98_218, q_98_221, q_98_222, q_98_224, q_98_226, q_98_229, q_98_230, q_98_233, q_98_235, q_98_238, q_98_239, q_98_240, q_98_243, q_98_245, q_98_248, q_98_250, q_98_251, vf_s, vf_n, zk2_none, zk2_int, zk2_ref, zk2_null, zk2_long, zct_nil, zct_i, zct_l, zct_r, zct_n, Option.bind_some, Option.toList_some, Option.toList_none, List.cons_append, List.nil_append, zor_l, zor_r, if_true, if_false, ↓reduceIte, zi_lit, zi_of, zi_add, zi_mul, zi_sub, zi_nat, zi_leT, zi_leF, zi_ltT, zi_ltF, zi_eqT, zi_eqF, zif_0z, zif_bz, zi_01l, zi_01r, not_true_eq_false, not_false_eq_true, Nat.reduceAdd, Nat.reduceMul, Nat.reduceSub, rf_1_7, rf_97_2, m17, e1, hne]
      unfold rkE
      rw [if_pos c, if_neg (by decide), Int64.neg_neg]
  · have he : rkE z T = -1000000000000000000 := by unfold rkE; rw [if_neg c]
    rw [if_neg c]
    simp (disch := (first | with_reducible exact is_1 | with_reducible exact zi_at is_1 (by omega) (by omega) | with_reducible exact is_97 | with_reducible exact zi_at is_97 (by omega) (by omega) | with_reducible exact is_100 | with_reducible exact zi_at is_100 (by omega) (by omega) | ((with_reducible refine zct_le ?_) <;> exact Nat.le_of_ble_eq_true rfl) | with_reducible exact zh_0 | with_reducible exact zh_1 | with_reducible exact zh_b | omega)) only [q_98_207r, q_98_207n, q_98_208, q_98_211, q_98_214r, q_98_214n, q_98_215, q_98_218, q_98_221, q_98_222, q_98_224, q_98_226, q_98_229, q_98_230, q_98_233, q_98_235, q_98_238, q_98_239, q_98_240, q_98_243, q_98_245, q_98_248, q_98_250, q_98_251, vf_s, vf_n, zk2_none, zk2_int, zk2_ref, zk2_null, zk2_long, zct_nil, zct_i, zct_l, zct_r, zct_n, Option.bind_some, Option.toList_some, Option.toList_none, List.cons_append, List.nil_append, zor_l, zor_r, if_true, if_false, ↓reduceIte, zi_lit, zi_of, zi_add, zi_mul, zi_sub, zi_nat, zi_leT, zi_leF, zi_ltT, zi_ltF, zi_eqT, zi_eqF, zif_0z, zif_bz, zi_01l, zi_01r, not_true_eq_false, not_false_eq_true, Nat.reduceAdd, Nat.reduceMul, Nat.reduceSub, rf_1_7, rf_97_2, m17, e1, he, m_107, gone5]
/-- one splitting, in the class -/
theorem tc_step (hs : stC mi 3 lo hi u NN KK VV) (hg : gOk g) (he : e < 4) (hn : 0 < NN e) (ht : t ≤ 100) (hi2 : i < t) (hL : cLs mi n B) (hn2 : n ≤ 101) (h1 : 1 ≤ n) (hB : ∀ j, j < n → boxIn (B j).1 (B j).2) (hz : z = zi 0 ∨ z = zi 1) (hR : cRk lo hi u (KK e) (VV e) (NN e) z mi mj n B) (hRR : ∀ j, j < n → R j = rkE z (eB lo hi u (KK e) (VV e) (NN e) (B j)))
    (hbx : B (wst R n) = bx) (hT : eB lo hi u (KK e) (VV e) (NN e) bx = T) (hq : spl bx T < 4) (l6 l7 : Option Value) :
    ∃ mi1 mj1 g1 l6' l7', gOk g1 ∧ cLs mi1 (n + 1) (upL (upL B (wst R n) (lwB bx (spl bx T))) n (upB bx (spl bx T))) ∧ cRk lo hi u (KK e) (VV e) (NN e) z mi1 mj1 (n + 1) (upL (upL B (wst R n) (lwB bx (spl bx T))) n (upB bx (spl bx T))) ∧ FrK mi mj mi1 mj1 ∧ zRun 98 79 [some (.ref 1), some (.int (zi e)), some (.int (zi t)), some (.int z), some (.ref (8 + 3 * e)), some (.int (zi i)), l6, l7] [] (SH Ls) mi mj (RF g) = zRun 98 79 [some (.ref 1), some (.int (zi e)), some (.int (zi t)), some (.int z), some (.ref (8 + 3 * e)), some (.int (zi (i + 1))), l6', l7'] [] (SH Ls) mi1 mj1 (RF g1) := by
  have m17 := m_17 (Ls := Ls) (g := g) (mj := mj) (R := R) hL.1 (by omega) h1 (fun j hj => by rw [(hR j hj).1, hRR j hj])
  have hw : wst R n < n := by rcases wst_lt R n with q | q <;> omega
  have e1 := (hR (wst R n) hw).2
  have hb := hB (wst R n) hw
  generalize wst R n = w at m17 hw e1 hbx hb ⊢
  rw [hbx, hT] at e1
  rw [hbx] at hb
  unfold siB at e1
  rw [if_pos hq] at e1
  have hsp := sp_e he
  obtain ⟨mi1, a1, a2, a3⟩ := m_14 (Ls := Ls) (g := g) (mj := mj) bx105 hL.1 (by omega) hw
  have hb1 : bxA mi1 105 bx := fun k hk => by
    have := hL.2 w hw k hk
    rw [hbx] at this
    rw [(a2 k hk).1, (a2 k hk).2]; exact this
  obtain ⟨mi2, b1, b2, b3, b4⟩ := m_9 (Ls := Ls) (g := g) (mj := mj) bx105 bx108 bx111 (by omega) (by omega) (by omega) hq hb1
  generalize spl bx T = s at e1 hq b1 b2 b3 ⊢
  have f2 : ∀ a, a < 106 ∨ 113 < a → mi2 a = mi a := fun a ha => by rw [b4 a (by omega) (by omega), a3 a (by omega)]
  have hL2 : cLs mi2 n B := ⟨by rw [f2 97 (by omega)]; exact hL.1, fun j hj k hk => by rw [f2 98 (by omega), f2 99 (by omega)]; exact hL.2 j hj k hk⟩
  obtain ⟨mi3, c1, c2, c3⟩ := m_13L (Ls := Ls) (g := g) (mj := mj) bx108 (by omega) hw hL2 b2
  have hs3 : stC mi3 3 lo hi u NN KK VV := hs.fr (fun a _ _ => by rw [c3 a (by omega), f2 a (by omega)])
  have hb3 : bxA mi3 108 (lwB bx s) := fun k hk => by rw [c3 (108 + 1) (by omega), c3 (108 + 2) (by omega)]; exact b2 k hk
  obtain ⟨mi4, mj4, g4, d1, d2, d3⟩ := m_105 (Ls := Ls) (mj := mj) (z := z) (k := w) (m := n) hs3 hg he hn bx108 hb3 (lw_in hb) c2.1 (by omega) hw hz
  have hlw : topE (lwB bx s).1 (lwB bx s).2 u (KK e) (VV e) (NN e) = eB lo hi u (KK e) (VV e) (NN e) (lwB bx s) := rfl
  rw [hlw] at d1
  have hsi : (if spl (lwB bx s) (eB lo hi u (KK e) (VV e) (NN e) (lwB bx s)) < 4 then zi (spl (lwB bx s) (eB lo hi u (KK e) (VV e) (NN e) (lwB bx s))) else -zi 1) = siB (lwB bx s) (eB lo hi u (KK e) (VV e) (NN e) (lwB bx s)) := rfl
  rw [hsi] at d1
  generalize hm5 : zup mi4 101 w (siB (lwB bx s) (eB lo hi u (KK e) (VV e) (NN e) (lwB bx s))) = mi5 at d1
  generalize hj5 : zup mj4 100 w (rkE z (eB lo hi u (KK e) (VV e) (NN e) (lwB bx s))) = mj5 at d1
  have f5 : ∀ a, (a < 27 ∨ 96 < a) → ¬ a = 101 → mi5 a = mi3 a := fun a ha ha2 => by rw [← hm5, zup_ne (by omega), d3.1 a ha]
  have hL5 : cLs mi5 n (upL B w (lwB bx s)) := ⟨by rw [f5 97 (by omega) (by omega)]; exact c2.1, fun j hj k hk => by rw [f5 98 (by omega) (by omega), f5 99 (by omega) (by omega)]; exact c2.2 j hj k hk⟩
  have hb5 : bxA mi5 111 (upB bx s) := fun k hk => by rw [f5 (111 + 1) (by omega) (by omega), f5 (111 + 2) (by omega) (by omega), c3 (111 + 1) (by omega), c3 (111 + 2) (by omega)]; exact b3 k hk
  obtain ⟨mi6, p1, p2, p3⟩ := m_12 (Ls := Ls) (g := g4) (mj := mj5) bx111 (by omega) hL5 hb5
  have hs6 : stC mi6 3 lo hi u NN KK VV := hs3.fr (fun a _ _ => by rw [p3 a (by omega), f5 a (by omega) (by omega)])
  have hb6 : bxA mi6 111 (upB bx s) := fun k hk => by rw [p3 (111 + 1) (by omega), p3 (111 + 2) (by omega)]; exact hb5 k hk
  obtain ⟨mi7, mj7, g7, q1, q2, q3⟩ := m_105 (Ls := Ls) (mj := mj5) (z := z) (k := n) (m := n + 1) hs6 d2 he hn bx111 hb6 (up_in hb) p2.1 (by omega) (by omega) hz
  have hup : topE (upB bx s).1 (upB bx s).2 u (KK e) (VV e) (NN e) = eB lo hi u (KK e) (VV e) (NN e) (upB bx s) := rfl
  rw [hup] at q1
  have hsi2 : (if spl (upB bx s) (eB lo hi u (KK e) (VV e) (NN e) (upB bx s)) < 4 then zi (spl (upB bx s) (eB lo hi u (KK e) (VV e) (NN e) (upB bx s))) else -zi 1) = siB (upB bx s) (eB lo hi u (KK e) (VV e) (NN e) (upB bx s)) := rfl
  rw [hsi2] at q1
  generalize hm8 : zup mi7 101 n (siB (upB bx s) (eB lo hi u (KK e) (VV e) (NN e) (upB bx s))) = mi8 at q1
  generalize hj8 : zup mj7 100 n (rkE z (eB lo hi u (KK e) (VV e) (NN e) (upB bx s))) = mj8 at q1
  have f8 : ∀ a, (a < 27 ∨ 96 < a) → ¬ a = 101 → mi8 a = mi6 a := fun a ha ha2 => by rw [← hm8, zup_ne (by omega), q3.1 a ha]
  refine ⟨mi8, mj8, g7, some (.int (zi w)), some (.int (zi s)), q2, ⟨by rw [f8 97 (by omega) (by omega)]; exact p2.1, fun j hj k hk => by rw [f8 98 (by omega) (by omega), f8 99 (by omega) (by omega)]; exact p2.2 j hj k hk⟩, fun j hj => ?_, ⟨fun a ha => by rw [f8 a (by omega) (by omega), p3 a (by omega), f5 a (by omega) (by omega), c3 a (by omega), f2 a (by omega)], fun a ha => by rw [← hj8, zup_ne (by omega), q3.2 a (by omega), ← hj5, zup_ne (by omega), d3.2 a (by omega)]⟩, ?_⟩
  · rw [← hm8, ← hj8]
    by_cases j1 : j = n
    · subst j1
      rw [zg_s, zg_s, show upL (upL B w (lwB bx s)) j (upB bx s) j = upB bx s from if_pos rfl]
      exact ⟨rfl, rfl⟩
    · rw [zg_j (by omega), zg_j (by omega), q3.1 101 (by omega), q3.2 100 (by omega), p3 101 (by omega), ← hm5, ← hj5, show upL (upL B w (lwB bx s)) n (upB bx s) j = upL B w (lwB bx s) j from if_neg j1]
      by_cases j2 : j = w
      · subst j2
        rw [zg_s, zg_s, show upL B j (lwB bx s) j = lwB bx s from if_pos rfl]
        exact ⟨rfl, rfl⟩
      · rw [zg_j (by omega), zg_j (by omega), d3.1 101 (by omega), d3.2 100 (by omega), c3 101 (by omega), f2 101 (by omega), show upL B w (lwB bx s) j = B j from if_neg j2]
        exact hR j (by omega)
  · have e8 : mi6 97 4 - zi 1 = zi n := by rw [p2.1, zi_sub (by omega), Nat.add_sub_cancel]
    rw [q_98_79]
    simp (disch := (first | with_reducible exact is_1 | with_reducible exact zi_at is_1 (by omega) (by omega) | with_reducible exact is_97 | with_reducible exact zi_at is_97 (by omega) (by omega) | with_reducible exact is_101 | with_reducible exact zi_at is_101 (by omega) (by omega) | with_reducible exact is_105 | with_reducible exact zi_at is_105 (by omega) (by omega) | with_reducible exact is_108 | with_reducible exact zi_at is_108 (by omega) (by omega) | with_reducible exact is_111 | with_reducible exact zi_at is_111 (by omega) (by omega) | with_reducible exact (zSp_is hsp) | with_reducible exact zi_at (zSp_is hsp) (by omega) (by omega) | ((with_reducible refine zct_le ?_) <;> exact Nat.le_of_ble_eq_true rfl) | with_reducible exact zh_0 | with_reducible exact zh_1 | with_reducible exact zh_b | omega)) only [q_98_81, q_98_82, q_98_85r, q_98_85n, q_98_86, q_98_89, q_98_92, q_98_94r, q_98_94n, q_98_95, q_98_98, q_98_101, q_98_103, q_98_104, q_98_106, q_98_108, q_98_111, q_98_114r, q_98_114n, q_98_115, q_98_118, q_98_120r, q_98_120n, q_98_121, q_98_124, q_98_127r, q_98_127n, q_98_128, q_98_131, q_98_133r, q_98_133n, q_98_134, q_98_137r, q_98_137n, q_98_138, q_98_141, q_98_144r, q_98_144n, q_98_145, q_98_148, q_98_150r, q_98_150n, q_98_151, q_98_154, q_98_157r, q_98_157n, q_98_158, q_98_160r, q_98_160n, q_98_161, q_98_164r, q_98_164n, q_98_166, q_98_167, q_98_170r, q_98_170n, q_98_171, q_98_174r, q_98_174n, q_98_175, q_98_178, q_98_181r, q_98_181n, q_98_182r, q_98_182n, q_98_183, q_98_186, q_98_189, q_98_190, q_98_191r, q_98_191n, q_98_192, q_98_195r, q_98_195n, q_98_197, q_98_198, q_98_201, q_98_204, vf_s, vf_n, zk2_none, zk2_int, zk2_ref, zk2_null, zk2_long, zct_nil, zct_i, zct_l, zct_r, zct_n, Option.bind_some, Option.toList_some, Option.toList_none, List.cons_append, List.nil_append, zor_l, zor_r, if_true, if_false, ↓reduceIte, zi_lit, zi_of, zi_add, zi_mul, zi_sub, zi_nat, zi_leT, zi_leF, zi_ltT, zi_ltF, zi_eqT, zi_eqF, zif_0z, zif_bz, zi_01l, zi_01r, not_true_eq_false, not_false_eq_true, Nat.reduceAdd, Nat.reduceMul, Nat.reduceSub, rf_1_7, rf_1_10, rf_1_11, rf_1_12, rf_97_3, m17, e1, a1, b1, c1, d1, p1, e8, q1]
theorem tc_stop (hL : cLs mi n B) (hn : n ≤ 200) (h1 : 1 ≤ n) (hRk : cRk lo hi u K V N z mi mj n B) (hRR : ∀ j, j < n → R j = rkE z (eB lo hi u K V N (B j))) (ht : t ≤ 100) (hi2 : i ≤ t) (hc : t ≤ i ∨ ¬ spl (B (wst R n)) (eB lo hi u K V N (B (wst R n))) < 4) {i1 : Int32} {o4 : Nat} (l6 l7 : Option Value) :
    ∃ l6' l7', zRun 98 79 [some (.ref 1), some (.int i1), some (.int (zi t)), some (.int z), some (.ref o4), some (.int (zi i)), l6, l7] [] (SH Ls) mi mj (RF g) = zRun 98 207 [some (.ref 1), some (.int i1), some (.int (zi t)), some (.int z), some (.ref o4), some (.int (zi i)), l6', l7'] [] (SH Ls) mi mj (RF g) := by
  by_cases c : t ≤ i
  · refine ⟨l6, l7, ?_⟩
    rw [q_98_79]
    simp (disch := (first | ((with_reducible refine zct_le ?_) <;> exact Nat.le_of_ble_eq_true rfl) | with_reducible exact zh_0 | with_reducible exact zh_1 | with_reducible exact zh_b | omega)) only [q_98_81, vf_s, vf_n, zk2_none, zk2_int, zk2_ref, zk2_null, zk2_long, zct_nil, zct_i, zct_l, zct_r, zct_n, Option.bind_some, Option.toList_some, Option.toList_none, List.cons_append, List.nil_append, zor_l, zor_r, if_true, if_false, ↓reduceIte, zi_lit, zi_of, zi_add, zi_mul, zi_sub, zi_nat, zi_leT, zi_leF, zi_ltT, zi_ltF, zi_eqT, zi_eqF, zif_0z, zif_bz, zi_01l, zi_01r, not_true_eq_false, not_false_eq_true, Nat.reduceAdd, Nat.reduceMul, Nat.reduceSub]
    rw [q_98_82]
    simp (disch := (first | ((with_reducible refine zct_le ?_) <;> exact Nat.le_of_ble_eq_true rfl) | with_reducible exact zh_0 | with_reducible exact zh_1 | with_reducible exact zh_b | omega)) only [vf_s, vf_n, zk2_none, zk2_int, zk2_ref, zk2_null, zk2_long, zct_nil, zct_i, zct_l, zct_r, zct_n, Option.bind_some, Option.toList_some, Option.toList_none, List.cons_append, List.nil_append, zor_l, zor_r, if_true, if_false, ↓reduceIte, zi_lit, zi_of, zi_add, zi_mul, zi_sub, zi_nat, zi_leT, zi_leF, zi_ltT, zi_ltF, zi_eqT, zi_eqF, zif_0z, zif_bz, zi_01l, zi_01r, not_true_eq_false, not_false_eq_true, Nat.reduceAdd, Nat.reduceMul, Nat.reduceSub]
  · have m17 := m_17 (Ls := Ls) (g := g) (mj := mj) (R := R) hL.1 hn h1 (fun j hj => by rw [(hRk j hj).1, hRR j hj])
    have hw : wst R n < n := by rcases wst_lt R n with q | q <;> omega
    have e1 := (hRk (wst R n) hw).2
    unfold siB at e1
    rw [if_neg (hc.resolve_left c)] at e1
    refine ⟨some (.int (zi (wst R n))), some (.int (-zi 1)), ?_⟩
    rw [q_98_79]
    simp (disch := (first | with_reducible exact is_1 | with_reducible exact zi_at is_1 (by omega) (by omega) | with_reducible exact is_97 | with_reducible exact zi_at is_97 (by omega) (by omega) | with_reducible exact is_101 | with_reducible exact zi_at is_101 (by omega) (by omega) | ((with_reducible refine zct_le ?_) <;> exact Nat.le_of_ble_eq_true rfl) | with_reducible exact zh_0 | with_reducible exact zh_1 | with_reducible exact zh_b | omega)) only [q_98_81, q_98_82, q_98_85r, q_98_85n, q_98_86, q_98_89, q_98_92, q_98_94r, q_98_94n, q_98_95, q_98_98, q_98_101, q_98_103, q_98_104, q_98_106, q_98_108, q_98_111, q_98_114r, q_98_114n, q_98_115, q_98_118, q_98_120r, q_98_120n, q_98_121, q_98_124, q_98_127r, q_98_127n, q_98_128, q_98_131, q_98_133r, q_98_133n, q_98_134, q_98_137r, q_98_137n, q_98_138, q_98_141, q_98_144r, q_98_144n, q_98_145, q_98_148, q_98_150r, q_98_150n, q_98_151, q_98_154, q_98_157r, q_98_157n, q_98_158, q_98_160r, q_98_160n, q_98_161, q_98_164r, q_98_164n, q_98_166, q_98_167, q_98_170r, q_98_170n, q_98_171, q_98_174r, q_98_174n, q_98_175, q_98_178, q_98_181r, q_98_181n, q_98_182r, q_98_182n, q_98_183, q_98_186, q_98_189, q_98_190, q_98_191r, q_98_191n, q_98_192, q_98_195r, q_98_195n, q_98_197, q_98_198, q_98_201, q_98_204, vf_s, vf_n, zk2_none, zk2_int, zk2_ref, zk2_null, zk2_long, zct_nil, zct_i, zct_l, zct_r, zct_n, Option.bind_some, Option.toList_some, Option.toList_none, List.cons_append, List.nil_append, zor_l, zor_r, if_true, if_false, ↓reduceIte, zi_lit, zi_of, zi_add, zi_mul, zi_sub, zi_nat, zi_leT, zi_leF, zi_ltT, zi_ltF, zi_eqT, zi_eqF, zif_0z, zif_bz, zi_01l, zi_01r, not_true_eq_false, not_false_eq_true, Nat.reduceAdd, Nat.reduceMul, Nat.reduceSub, rf_1_7, rf_97_3, m17, e1, zm_le1]
end
