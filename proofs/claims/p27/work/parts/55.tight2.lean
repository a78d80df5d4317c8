/-! ===== tighten (3): what it finds ===== -/
section
variable {Ls : Nat} {g : Nat → Nat} {mi mi' : zI} {mj mj' : zJ} {x y z : Int32} {a b e n p q k c m u s i t N : Nat} {v w : Value} {lo hi lo' hi' : Nat → Int32} {NN : Nat → Nat} {KK : Nat → Nat → Nat} {VV : Nat → Nat → Int32} {T M : En} {o f : Nat} {B : Nat → Bx} {bx : Bx} {r : Int64} {K : Nat → Nat} {V : Nat → Int32} {R : Nat → Int64}
def tgC (Ls : Nat) (lo hi : Nat → Int32) (u : Nat) (NN : Nat → Nat) (KK : Nat → Nat → Nat) (VV : Nat → Nat → Int32) (e t : Nat) (z : Int32) (i n : Nat) (B : Nat → Bx) (r : Int64) : Prop :=
  ∀ mi mj g l6 l7, gOk g → stC mi 3 lo hi u NN KK VV → cLs mi n B → cRk lo hi u (KK e) (VV e) (NN e) z mi mj n B → ∃ mi' mj' g', zRun 98 79 [some (.ref 1), some (.int (zi e)), some (.int (zi t)), some (.int z), some (.ref (8 + 3 * e)), some (.int (zi i)), l6, l7] [] (SH Ls) mi mj (RF g) = some (some (.long r), SH Ls, mi', mj', RF g') ∧ gOk g' ∧ FrK mi mj mi' mj'
/-- no value in the boxes lies beyond the end -/
def tgO (u : Nat) (K : Nat → Nat) (V : Nat → Int32) (N : Nat) (z : Int32) (n : Nat) (B : Nat → Bx) (r : Int64) : Prop := r = G5 ∨ ∀ q j, j < n → inB (B j).1 (B j).2 q → ∃ b : Bx, boxIn b.1 b.2 ∧ inB b.1 b.2 q ∧ (topE b.1 b.2 u K V N).1 = zi 0 ∧ (if z = zi 0 then r.toInt ≤ (flow (topE b.1 b.2 u K V N).2).toInt else (fhigh (topE b.1 b.2 u K V N).2).toInt ≤ r.toInt)
theorem tg_stop (hu : u ≤ 8) (hx : exOne (KK e) (VV e) (NN e)) (ht : t ≤ 100) (hz : z = zi 0 ∨ z = zi 1) (h1 : i ≤ t) (h2 : n ≤ i + 1) (h3 : 1 ≤ n) (hB : ∀ j, j < n → boxIn (B j).1 (B j).2) (hc : t ≤ i ∨ ¬ spl (B (wst (fun j => rkE z (eB lo hi u (KK e) (VV e) (NN e) (B j))) n)) (eB lo hi u (KK e) (VV e) (NN e) (B (wst (fun j => rkE z (eB lo hi u (KK e) (VV e) (NN e) (B j))) n))) < 4) : tgC Ls lo hi u NN KK VV e t z i n B (rsE z (eB lo hi u (KK e) (VV e) (NN e) (B (wst (fun j => rkE z (eB lo hi u (KK e) (VV e) (NN e) (B j))) n)))) := by
  intro mi mj g l6 l7 hg hs hL hR
  obtain ⟨l6', l7', a1⟩ := tc_stop (Ls := Ls) (g := g) (i1 := zi e) (o4 := 8 + 3 * e) hL (by omega) h3 hR (fun j hj => rfl) ht h1 hc l6 l7
  have a2 := tc_end (Ls := Ls) (g := g) (mj := mj) (i1 := zi e) (i2 := zi t) (i5 := zi i) (o4 := 8 + 3 * e) (l6 := l6') (l7 := l7') hL (by omega) h3 hB hu hx hz hR (fun j hj => rfl)
  exact ⟨mi, mj, g, by rw [a1, a2], hg, ⟨fun _ _ => rfl, fun _ _ => rfl⟩⟩
theorem tg_fin (hu : u ≤ 8) (hx : exOne K V N) (hz : z = zi 0 ∨ z = zi 1) (h3 : 1 ≤ n) (hB : ∀ j, j < n → boxIn (B j).1 (B j).2) : tgO u K V N z n B (rsE z (eB lo hi u K V N (B (wst (fun j => rkE z (eB lo hi u K V N (B j))) n)))) := by
  have hw : wst (fun j => rkE z (eB lo hi u K V N (B j))) n < n := by rcases wst_lt (fun j => rkE z (eB lo hi u K V N (B j))) n with q | q <;> omega
  have hle := wst_le (fun j => rkE z (eB lo hi u K V N (B j))) n
  generalize wst (fun j => rkE z (eB lo hi u K V N (B j))) n = w at hw hle ⊢
  by_cases c : (eB lo hi u K V N (B w)).1 = zi 0
  · refine Or.inr fun q j hj hq => ⟨B j, hB j hj, hq, ?_⟩
    have h := hle j hj
    have o1 := (rk_rg (z := z) (hB w hw) hu hx).2 c
    have c' : (topE (B j).1 (B j).2 u K V N).1 = zi 0 := by
      by_cases d : (topE (B j).1 (B j).2 u K V N).1 = zi 0
      · exact d
      · have e1 : rkE z (eB lo hi u K V N (B j)) = gone0 := by
          show rkE z (topE (B j).1 (B j).2 u K V N) = gone0
          unfold rkE; rw [if_neg d]; rfl
        have h : (rkE z (eB lo hi u K V N (B w))).toInt ≤ (rkE z (eB lo hi u K V N (B j))).toInt := h
        rw [e1] at h
        rw [zj_lt] at o1
        exact absurd o1 (by show ¬ gone0.toInt < (rkE z (eB lo hi u K V N (B w))).toInt; omega)
    refine ⟨c', ?_⟩
    have h : (rkE z (eB lo hi u K V N (B w))).toInt ≤ (rkE z (topE (B j).1 (B j).2 u K V N)).toInt := h
    have b1 := fOk_rg (top_ok (hB w hw) hu hx c)
    have b2 := fOk_rg (top_ok (hB j hj) hu hx c')
    have b1 : -1000000000 ≤ (flow (eB lo hi u K V N (B w)).2).toInt ∧ (flow (eB lo hi u K V N (B w)).2).toInt ≤ 1000000000 ∧ -1000000000 ≤ (fhigh (eB lo hi u K V N (B w)).2).toInt ∧ (fhigh (eB lo hi u K V N (B w)).2).toInt ≤ 1000000000 := b1
    unfold rkE at h
    unfold rsE
    rw [if_pos c, if_pos c'] at h
    rw [if_pos c]
    by_cases z0 : z = zi 0
    · rw [if_pos z0, if_pos z0] at h
      rw [if_pos z0, if_pos z0]
      exact h
    · rw [if_neg z0, if_neg z0] at h
      rw [if_neg z0, if_neg z0]
      rw [zj_neg (by omega), zj_neg (by omega)] at h
      omega
  · refine Or.inl ?_
    unfold rsE
    rw [if_neg c]
    rfl
theorem tgv (hu : u ≤ 8) (hx : exOne (KK e) (VV e) (NN e)) (he : e < 4) (hn : 0 < NN e) (ht : t ≤ 100) (hz : z = zi 0 ∨ z = zi 1) (m : Nat) : ∀ i n B, i + m = t → n ≤ i + 1 → 1 ≤ n → (∀ j, j < n → boxIn (B j).1 (B j).2) → ∃ r, tgO u (KK e) (VV e) (NN e) z n B r ∧ tgC Ls lo hi u NN KK VV e t z i n B r := by
  induction m with
  | zero =>
    intro i n B h1 h2 h3 hB
    exact ⟨_, tg_fin (lo := lo) (hi := hi) hu hx hz h3 hB, tg_stop hu hx ht hz (by omega) h2 h3 hB (Or.inl (by omega))⟩
  | succ m ih =>
    intro i n B h1 h2 h3 hB
    have hw : wst (fun j => rkE z (eB lo hi u (KK e) (VV e) (NN e) (B j))) n < n := by rcases wst_lt (fun j => rkE z (eB lo hi u (KK e) (VV e) (NN e) (B j))) n with q | q <;> omega
    by_cases c : spl (B (wst (fun j => rkE z (eB lo hi u (KK e) (VV e) (NN e) (B j))) n)) (eB lo hi u (KK e) (VV e) (NN e) (B (wst (fun j => rkE z (eB lo hi u (KK e) (VV e) (NN e) (B j))) n))) < 4
    · have hb := hB _ hw
      obtain ⟨r, q0, q1⟩ := ih (i + 1) (n + 1) _ (by omega) (by omega) (by omega) (upL_in (n := n) (j := n) (m := n + 1) (upL_in (n := n) (m := n) (j := wst (fun j => rkE z (eB lo hi u (KK e) (VV e) (NN e) (B j))) n) hB (lw_in (s := spl (B (wst (fun j => rkE z (eB lo hi u (KK e) (VV e) (NN e) (B j))) n)) (eB lo hi u (KK e) (VV e) (NN e) (B (wst (fun j => rkE z (eB lo hi u (KK e) (VV e) (NN e) (B j))) n)))) hb) (fun j hj => Or.inl hj)) (up_in (s := spl (B (wst (fun j => rkE z (eB lo hi u (KK e) (VV e) (NN e) (B j))) n)) (eB lo hi u (KK e) (VV e) (NN e) (B (wst (fun j => rkE z (eB lo hi u (KK e) (VV e) (NN e) (B j))) n)))) hb) (fun j hj => by omega))
      refine ⟨r, q0.imp (fun hh => hh) (fun hh q j hj hq => ?_), fun mi mj g l6 l7 hg hs hL hR => ?_⟩
      · generalize wst (fun j => rkE z (eB lo hi u (KK e) (VV e) (NN e) (B j))) n = w at hw c hb hh
        by_cases e1 : j = w
        · subst e1
          rcases cov_B hb c hq with hl | hu
          · refine hh q j (by omega) ?_
            rw [show upL (upL B j (lwB (B j) (spl (B j) (eB lo hi u (KK e) (VV e) (NN e) (B j))))) n (upB (B j) (spl (B j) (eB lo hi u (KK e) (VV e) (NN e) (B j)))) j = upL B j (lwB (B j) (spl (B j) (eB lo hi u (KK e) (VV e) (NN e) (B j)))) j from if_neg (by omega), show upL B j (lwB (B j) (spl (B j) (eB lo hi u (KK e) (VV e) (NN e) (B j)))) j = lwB (B j) (spl (B j) (eB lo hi u (KK e) (VV e) (NN e) (B j))) from if_pos rfl]
            exact hl
          · refine hh q n (by omega) ?_
            rw [show upL (upL B j (lwB (B j) (spl (B j) (eB lo hi u (KK e) (VV e) (NN e) (B j))))) n (upB (B j) (spl (B j) (eB lo hi u (KK e) (VV e) (NN e) (B j)))) n = upB (B j) (spl (B j) (eB lo hi u (KK e) (VV e) (NN e) (B j))) from if_pos rfl]
            exact hu
        · refine hh q j (by omega) ?_
          rw [show upL (upL B w (lwB (B w) (spl (B w) (eB lo hi u (KK e) (VV e) (NN e) (B w))))) n (upB (B w) (spl (B w) (eB lo hi u (KK e) (VV e) (NN e) (B w)))) j = upL B w (lwB (B w) (spl (B w) (eB lo hi u (KK e) (VV e) (NN e) (B w)))) j from if_neg (by omega), show upL B w (lwB (B w) (spl (B w) (eB lo hi u (KK e) (VV e) (NN e) (B w)))) j = B j from if_neg e1]
          exact hq
      · obtain ⟨mi1, mj1, g1, l6', l7', a1, a2, a3, a4, a5⟩ := tc_step (Ls := Ls) (i := i) hs hg he hn ht (by omega) hL (by omega) h3 hB hz hR (fun j hj => rfl) rfl rfl c l6 l7
        obtain ⟨mi', mj', g', b1, b2, b3⟩ := q1 mi1 mj1 g1 l6' l7' a1 (hs.fr (fun a _ _ => a4.1 a (by omega))) a2 a3
        exact ⟨mi', mj', g', by rw [a5, b1], b2, a4.tr b3⟩
    · exact ⟨_, tg_fin (lo := lo) (hi := hi) hu hx hz h3 hB, tg_stop hu hx ht hz (by omega) h2 h3 hB (Or.inr c)⟩
theorem upL_0 {n : Nat} {b : Bx} {j : Nat} : upL (fun _ => b) n b j = b := by unfold upL; split <;> rfl
theorem upL_f {n : Nat} {b : Bx} : upL (fun _ => b) n b = fun _ => b := funext fun _ => upL_0
theorem s_98g (h : ST mi g lo hi u NN KK VV) (he : e < 4) (hn : 0 < NN e) (ht : t ≤ 100) (hb : b ≤ 1) (q1 : tgC Ls lo hi u NN KK VV e t (zi b) 0 1 (fun _ => (lo, hi)) r) : Qr Ls 98 [.int (zi e), .int (zi t), .int (zi b)] (.long r) mi mj g := by
  obtain ⟨e1, e3, e4, e5⟩ := ex_yes (Ls := Ls) h he hn
  obtain ⟨hg, hs⟩ := h
  have k109 := m_109i (Ls := Ls) (g := g) (mi := mi) (mj := mj) hb
  have hz : zi b = zi 0 ∨ zi b = zi 1 := by
    rcases (show b = 0 ∨ b = 1 by omega) with rfl | rfl
    · exact Or.inl rfl
    · exact Or.inr rfl
  have m11 := m_11 (Ls := Ls) (g := g) (mi := mi) (mj := mj)
  have hb0 : bxA (zup mi 97 4 (zi 0)) 4 (lo, hi) := fun k hk => by
    rw [zup_ne (by omega), zup_ne (by omega)]
    exact hs.2.2.1 k hk
  obtain ⟨mi1, r1, r2, r3⟩ := m_12 (Ls := Ls) (g := g) (mj := mj) (mi := zup mi 97 4 (zi 0)) (n := 0) (B := fun _ => (lo, hi)) bx4 (by omega) ⟨zg_s, fun j hj => absurd hj (by omega)⟩ hb0
  rw [upL_f] at r2
  have f1 : ∀ a, a < 97 ∨ 99 < a → mi1 a = mi a := fun a ha => by rw [r3 a ha, zup_ne (by omega)]
  have hs1 : stC mi1 3 lo hi u NN KK VV := hs.fr (fun a _ _ => f1 a (by omega))
  have hb1 : bxA mi1 4 (lo, hi) := fun k hk => by
    rw [f1 (4 + 1) (by omega), f1 (4 + 2) (by omega)]
    exact hs.2.2.1 k hk
  obtain ⟨mi2, mj2, g2, s1, s2, s3⟩ := m_105 (Ls := Ls) (mj := mj) (z := zi b) (k := 0) (m := 1) hs1 hg he hn bx4 hb1 hs.1 r2.1 (by omega) (by omega) hz
  have hsi : (if spl (lo, hi) (topE (lo, hi).1 (lo, hi).2 u (KK e) (VV e) (NN e)) < 4 then zi (spl (lo, hi) (topE (lo, hi).1 (lo, hi).2 u (KK e) (VV e) (NN e))) else -zi 1) = siB (lo, hi) (eB lo hi u (KK e) (VV e) (NN e) (lo, hi)) := rfl
  have hT : topE (lo, hi).1 (lo, hi).2 u (KK e) (VV e) (NN e) = eB lo hi u (KK e) (VV e) (NN e) (lo, hi) := rfl
  rw [hsi, hT] at s1
  generalize hm3 : zup mi2 101 0 (siB (lo, hi) (eB lo hi u (KK e) (VV e) (NN e) (lo, hi))) = mi3 at s1
  generalize hj3 : zup mj2 100 0 (rkE (zi b) (eB lo hi u (KK e) (VV e) (NN e) (lo, hi))) = mj3 at s1
  have f3 : ∀ a, (a < 27 ∨ 96 < a) → ¬ a = 101 → mi3 a = mi1 a := fun a ha ha2 => by rw [← hm3, zup_ne (by omega), s3.1 a ha]
  have hs3 : stC mi3 3 lo hi u NN KK VV := hs1.fr (fun a _ _ => f3 a (by omega) (by omega))
  obtain ⟨mi4, mj4, g4, t1, t2, t3⟩ := q1 mi3 mj3 g2 none none s2 hs3 ⟨by rw [f3 97 (by omega) (by omega)]; exact r2.1, fun j hj k hk => by rw [f3 98 (by omega) (by omega), f3 99 (by omega) (by omega)]; exact r2.2 j hj k hk⟩ (fun j hj => by
    obtain rfl : j = 0 := by omega
    rw [← hm3, ← hj3, zg_s, zg_s]
    exact ⟨rfl, rfl⟩)
  refine ⟨mi4, mj4, g4, ?_, fun a ha => by rw [t3.1 a (by omega), f3 a (by omega) (by omega), f1 a (by omega)], t2⟩
  simp (disch := (first | with_reducible exact is_1 | with_reducible exact zi_at is_1 (by omega) (by omega) | with_reducible exact is_3 | with_reducible exact zi_at is_3 (by omega) (by omega) | with_reducible exact is_97 | with_reducible exact zi_at is_97 (by omega) (by omega) | ((with_reducible refine zct_le ?_) <;> exact Nat.le_of_ble_eq_true rfl) | with_reducible exact zh_0 | with_reducible exact zh_1 | with_reducible exact zh_b | omega)) only [e_98, q_98_0r, q_98_0n, q_98_1, q_98_2, q_98_5r, q_98_5n, q_98_7r, q_98_7n, q_98_9n, q_98_9r, q_98_12, q_98_13, q_98_16, q_98_17, q_98_18, q_98_21, q_98_22, q_98_24, q_98_27, q_98_28, q_98_31, q_98_34, q_98_36, q_98_39, q_98_40r, q_98_40n, q_98_41, q_98_44, q_98_47r, q_98_47n, q_98_48, q_98_51r, q_98_51n, q_98_52, q_98_55, q_98_58, q_98_61r, q_98_61n, q_98_62, q_98_63r, q_98_63n, q_98_64, q_98_67, q_98_70r, q_98_70n, q_98_72, q_98_73, q_98_76, q_98_77, vf_s, vf_n, zk2_none, zk2_int, zk2_ref, zk2_null, zk2_long, zct_nil, zct_i, zct_l, zct_r, zct_n, Option.bind_some, Option.toList_some, Option.toList_none, List.cons_append, List.nil_append, zor_l, zor_r, if_true, if_false, ↓reduceIte, zi_lit, zi_of, zi_add, zi_mul, zi_sub, zi_nat, zi_leT, zi_leF, zi_ltT, zi_ltF, zi_eqT, zi_eqF, zif_0z, zif_bz, zi_01l, zi_01r, not_true_eq_false, not_false_eq_true, Nat.reduceAdd, Nat.reduceMul, Nat.reduceSub, rf_1_2, rf_1_7, rf_3_0, e1, k109, m11, r1, s1]
  exact t1
theorem s_98 (h : ST mi g lo hi u NN KK VV) (he : e < 4) (hn : 0 < NN e) (ht : t ≤ 100) (hb : b ≤ 1) : ∃ r, tgO u (KK e) (VV e) (NN e) (zi b) 1 (fun _ => (lo, hi)) r ∧ ∀ mi' mj' g', ST mi' g' lo hi u NN KK VV → Qr Ls 98 [.int (zi e), .int (zi t), .int (zi b)] (.long r) mi' mj' g' := by
  have hz : zi b = zi 0 ∨ zi b = zi 1 := by
    rcases (show b = 0 ∨ b = 1 by omega) with rfl | rfl
    · exact Or.inl rfl
    · exact Or.inr rfl
  have hx := (h.2.2.2.2.2 e he).2.2.2 hn
  obtain ⟨r, q0, q1⟩ := tgv (Ls := Ls) (lo := lo) (hi := hi) (NN := NN) (KK := KK) (VV := VV) h.2.2.1 hx he hn ht hz t 0 1 (fun _ => (lo, hi)) (by omega) (by omega) (by omega) (fun _ _ => h.2.1)
  exact ⟨r, q0, fun mi' mj' g' h' => s_98g h' he hn ht hb q1⟩
theorem s_98z (h : ST mi g lo hi u NN KK VV) (he : e < 4) (hn : 0 < NN e) (hb : b ≤ 1) : Qr Ls 98 [.int (zi e), .int (zi 0), .int (zi b)] (.long (bdV (topE lo hi u (KK e) (VV e) (NN e)) 2 b)) mi mj g := by
  have hz : zi b = zi 0 ∨ zi b = zi 1 := by
    rcases (show b = 0 ∨ b = 1 by omega) with rfl | rfl
    · exact Or.inl rfl
    · exact Or.inr rfl
  have hx := (h.2.2.2.2.2 e he).2.2.2 hn
  have q1 := tg_stop (Ls := Ls) (lo := lo) (hi := hi) (NN := NN) (KK := KK) (VV := VV) (t := 0) (i := 0) (n := 1) (e := e) (B := fun _ => (lo, hi)) h.2.2.1 hx (by omega) hz (by omega) (by omega) (by omega) (fun _ _ => h.2.1) (Or.inl (by omega))
  have er : rsE (zi b) (eB lo hi u (KK e) (VV e) (NN e) (lo, hi)) = bdV (topE lo hi u (KK e) (VV e) (NN e)) 2 b := by
    have hT : eB lo hi u (KK e) (VV e) (NN e) (lo, hi) = topE lo hi u (KK e) (VV e) (NN e) := rfl
    rw [hT]
    unfold rsE bdV
    by_cases h1 : (topE lo hi u (KK e) (VV e) (NN e)).1 = zi 0
    · rw [if_pos h1, if_pos h1, if_neg (show ¬ (2 : Nat) = 0 by omega), if_neg (show ¬ (2 : Nat) = 1 by omega)]
      rcases (show b = 0 ∨ b = 1 by omega) with rfl | rfl
      · rw [if_pos (rfl : zi 0 = zi 0), if_pos (rfl : (0 : Nat) = 0)]
      · rw [if_neg (show ¬ zi 1 = zi 0 by decide), if_neg (show ¬ (1 : Nat) = 0 by omega)]
    · rw [if_neg h1, if_neg h1]; rfl
  rw [← er]
  exact s_98g h he hn (by omega) hb q1
end
