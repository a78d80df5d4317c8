/-! ===== prove (2): what it finds ===== -/
def subBx (b c : Bx) : Prop := ∀ k, k < 4 → (c.1 k).toInt ≤ (b.1 k).toInt ∧ (b.2 k).toInt ≤ (c.2 k).toInt
/-- a box around the point, over which the expression is greater -/
def prG (u : Nat) (K : Nat → Nat) (V : Nat → Int32) (N : Nat) (y : Int32) (q : Nat → Int) : Prop := ∃ b : Bx, boxIn b.1 b.2 ∧ inB b.1 b.2 q ∧ (topE b.1 b.2 u K V N).1 = zi 0 ∧ y.toInt64 < flow (topE b.1 b.2 u K V N).2
def prO (u : Nat) (K : Nat → Nat) (V : Nat → Int32) (N : Nat) (y : Int32) (z : Nat) (c0 : Bx) (n : Nat) (B : Nat → Bx) (r : Int32) (p : Nat) (b : Bx) : Prop := 1 ≤ p ∧ p ≤ 400 ∧ ((r = zi 1 ∧ ∀ q j, j < n → inB (B j).1 (B j).2 q → prG u K V N y q) ∨
  (boxIn b.1 b.2 ∧ subBx b c0 ∧ ¬ ((topE b.1 b.2 u K V N).1 = zi 0 ∧ y.toInt64 < flow (topE b.1 b.2 u K V N).2) ∧ (r = if (topE (mdB b) (mdB b) u K V N).1 = zi 0 ∧ fhigh (topE (mdB b) (mdB b) u K V N).2 ≤ y.toInt64 then zi 2 else zi 3) ∧
    (((topE (mdB b) (mdB b) u K V N).1 = zi 0 ∧ fhigh (topE (mdB b) (mdB b) u K V N).2 ≤ y.toInt64) ∨ z ≤ p ∨ ∀ k, k < 4 → b.1 k = b.2 k)))
theorem mdB_i {b : Bx} {k : Nat} (h : boxIn b.1 b.2) (hk : k < 4) : (mdB b k).toInt = ((b.1 k).toInt + (b.2 k).toInt) / 2 := by
  obtain ⟨h1, h2, h3⟩ := h k hk
  have e1 : (b.1 k + b.2 k).toInt = (b.1 k).toInt + (b.2 k).toInt := Kit.i32_add (by omega) (by omega)
  have e2 : ((b.1 k + b.2 k) >>> (zi 1 &&& zi 31)).toInt = (b.1 k + b.2 k).toInt / 2 ^ 1 := Kit.i32_shr _ _ (by decide)
  rw [e1] at e2
  exact e2
theorem cov_B {b : Bx} {s : Nat} {q : Nat → Int} (h : boxIn b.1 b.2) (hs : s < 4) (hq : inB b.1 b.2 q) : inB (lwB b s).1 (lwB b s).2 q ∨ inB (upB b s).1 (upB b s).2 q := by
  obtain ⟨h1, h2, h3⟩ := h s hs
  have hm := mdB_i h hs
  have hqs := hq s hs
  have hd : (b.2 s - b.1 s = zi 1) ↔ (b.2 s).toInt - (b.1 s).toInt = 1 := by
    rw [← Int32.toInt_inj, Kit.i32_sub (by omega) (by omega)]
    rfl
  rcases Int.lt_or_le (mdB b s).toInt (q s) with c | c
  · refine Or.inr fun k hk => ?_
    show (if k = s then (if b.2 s - b.1 s = zi 1 then b.2 s else mdB b s) else b.1 k).toInt ≤ q k ∧ q k ≤ (b.2 k).toInt
    by_cases e : k = s
    · subst e
      rw [if_pos rfl]
      by_cases d : b.2 k - b.1 k = zi 1
      · rw [if_pos d]
        rw [hd] at d
        omega
      · rw [if_neg d]; omega
    · rw [if_neg e]; exact hq k hk
  · refine Or.inl fun k hk => ?_
    show (b.1 k).toInt ≤ q k ∧ q k ≤ (if k = s then mdB b s else b.2 k).toInt
    by_cases e : k = s
    · subst e; rw [if_pos rfl]; omega
    · rw [if_neg e]; exact hq k hk
theorem lw_sub {b c : Bx} {s : Nat} (h : boxIn b.1 b.2) (hc : subBx b c) : subBx (lwB b s) c := by
  intro k hk
  have h2 := mdB_in h hk
  have h3 := hc k hk
  show (c.1 k).toInt ≤ (b.1 k).toInt ∧ (if k = s then mdB b s else b.2 k).toInt ≤ _
  by_cases e : k = s
  · subst e; rw [if_pos rfl]; omega
  · rw [if_neg e]; omega
theorem up_sub {b c : Bx} {s : Nat} (h : boxIn b.1 b.2) (hc : subBx b c) : subBx (upB b s) c := by
  intro k hk
  have h1 := h k hk
  have h2 := mdB_in h hk
  have h3 := hc k hk
  show _ ≤ (if k = s then (if b.2 s - b.1 s = zi 1 then b.2 s else mdB b s) else b.1 k).toInt ∧ (b.2 k).toInt ≤ _
  by_cases e : k = s
  · subst e
    rw [if_pos rfl]
    split <;> omega
  · rw [if_neg e]; omega
theorem upL_sub {B : Nat → Bx} {n j : Nat} {b c : Bx} (h : ∀ i, i < n → subBx (B i) c) (hb : subBx b c) {m : Nat} (hm : ∀ i, i < m → i < n ∨ i = j) : ∀ i, i < m → subBx (upL B j b i) c := by
  intro i hi
  unfold upL
  by_cases e : i = j
  · rw [if_pos e]; exact hb
  · rw [if_neg e]; exact h i (by have := hm i hi; omega)
theorem bsn_max (W : Nat → Int64) (n : Nat) : ∀ j, j < n → (W j).toInt ≤ (bsn W n).2.toInt := by
  induction n with
  | zero => intro j hj; omega
  | succ n ih =>
    intro j hj
    rw [bsn]
    by_cases c : (bsn W n).2 < W n
    · rw [if_pos c]
      rw [zj_lt] at c
      show _ ≤ (W n).toInt
      by_cases e : j = n
      · subst e; exact Int.le_refl _
      · have := ih j (by omega); omega
    · rw [if_neg c]
      rw [zj_lt] at c
      by_cases e : j = n
      · subst e; omega
      · exact ih j (by omega)
/-- what can't be split is a point -/
theorem spl_no {b : Bx} {T : En} (h : boxIn b.1 b.2) (hs : ¬ spl b T < 4) : ∀ k, k < 4 → b.1 k = b.2 k := by
  intro k hk
  have h4 : ¬ (bsn (spD b) 4).1 < 4 := by
    intro c
    apply hs
    unfold spl
    split <;> assumption
  have e4 : bsn (spD b) 4 = (4, 0) := (bsn_lt (spD b) 4 (Nat.le_refl _)).resolve_left h4
  have hm := bsn_max (spD b) 4 k hk
  rw [e4] at hm
  obtain ⟨h1, h2, h3⟩ := h k hk
  have ed : (spD b k).toInt = (b.2 k).toInt - (b.1 k).toInt := by
    show ((b.2 k - b.1 k).toInt64).toInt = _
    rw [Kit.i64_of_i32, Kit.i32_sub (by omega) (by omega)]
  rw [ed] at hm
  have hm : (b.2 k).toInt - (b.1 k).toInt ≤ (0 : Int64).toInt := hm
  rw [kj0] at hm
  exact zi_inj (by omega)
section
variable {Ls : Nat} {g : Nat → Nat} {mi mi' : zI} {mj mj' : zJ} {x y : Int32} {a b e n p q k c m u s i z : Nat} {v w : Value} {lo hi lo' hi' : Nat → Int32} {NN : Nat → Nat} {KK : Nat → Nat → Nat} {VV : Nat → Nat → Int32} {T M : En} {o f : Nat} {B : Nat → Bx} {bx c0 : Bx} {r : Int64}
def prC (Ls : Nat) (lo hi : Nat → Int32) (u : Nat) (NN : Nat → Nat) (KK : Nat → Nat → Nat) (VV : Nat → Nat → Int32) (e : Nat) (y : Int32) (z i n : Nat) (B : Nat → Bx) (p0 : Nat) (b0 : Bx) (r : Int32) (p : Nat) (b : Bx) : Prop :=
  ∀ mi mj g l6 l7, gOk g → stC mi 3 lo hi u NN KK VV → cLs mi n B → (n = 0 → mi 1 9 = zi p0 ∧ bxA mi 102 b0) → ∃ mi' mj' g', zRun 96 68 [some (.ref 1), some (.int (zi e)), some (.int y), some (.int (zi z)), some (.ref (8 + 3 * e)), some (.int (zi (i + 1))), l6, l7] [] (SH Ls) mi mj (RF g) = some (some (.int r), SH Ls, mi', mj', RF g') ∧ gOk g' ∧ mi' 1 9 = zi p ∧ bxA mi' 102 b ∧ FrC mi mi'
theorem prv (he : e < 4) (hn : 0 < NN e) (hz2 : z ≤ 200) (m : Nat) : ∀ i n B p0 b0, i + m = 400 → n ≤ i + 1 → n + (i + 1) ≤ 2 * z → (∀ j, j < n → boxIn (B j).1 (B j).2) → (∀ j, j < n → subBx (B j) c0) → (n = 0 → 1 ≤ p0 ∧ p0 ≤ 400) → ∃ r p b, prO u (KK e) (VV e) (NN e) y z c0 n B r p b ∧ prC Ls lo hi u NN KK VV e y z i n B p0 b0 r p b := by
  induction m with
  | zero =>
    intro i n B p0 b0 h1 h2 h3
    omega
  | succ m ih =>
    intro i n B p0 b0 h1 h2 h3 hB hS hp
    by_cases n0 : n = 0
    · subst n0
      refine ⟨zi 1, p0, b0, ⟨(hp rfl).1, (hp rfl).2, Or.inl ⟨rfl, fun q j hj => absurd hj (by omega)⟩⟩, fun mi mj g l6 l7 hg hs hL hq => ⟨mi, mj, g, ?_, hg, (hq rfl).1, (hq rfl).2, FrC.of fun _ _ => rfl⟩⟩
      have m15 := m_15z (Ls := Ls) (g := g) (mj := mj) (o := 102) hL
      rw [q_96_68]
      simp (disch := (first | with_reducible exact is_1 | with_reducible exact zi_at is_1 (by omega) (by omega) | with_reducible exact is_97 | with_reducible exact zi_at is_97 (by omega) (by omega) | with_reducible exact is_102 | with_reducible exact zi_at is_102 (by omega) (by omega) | ((with_reducible refine zct_le ?_) <;> exact Nat.le_of_ble_eq_true rfl) | with_reducible exact zh_0 | with_reducible exact zh_1 | with_reducible exact zh_b | omega)) only [q_96_70, q_96_73, q_96_76r, q_96_76n, q_96_77, q_96_80r, q_96_80n, q_96_81, q_96_84, q_96_87, q_96_90r, q_96_90n, q_96_91, q_96_93, q_96_96r, q_96_96n, q_96_97, q_96_100r, q_96_100n, q_96_102r, q_96_102n, q_96_104, q_96_107r, q_96_107n, q_96_108, q_96_111r, q_96_111n, q_96_112, q_96_115, q_96_118, q_96_121r, q_96_121n, q_96_123r, q_96_123n, q_96_125, q_96_128, q_96_131r, q_96_131n, q_96_133, q_96_136, q_96_137, q_96_138, q_96_139, q_96_142, q_96_230, q_96_231, vf_s, vf_n, zk2_none, zk2_int, zk2_ref, zk2_null, zk2_long, zct_nil, zct_i, zct_l, zct_r, zct_n, Option.bind_some, Option.toList_some, Option.toList_none, List.cons_append, List.nil_append, zor_l, zor_r, if_true, if_false, ↓reduceIte, zi_lit, zi_of, zi_add, zi_mul, zi_sub, zi_nat, zi_leT, zi_leF, zi_ltT, zi_ltF, zi_eqT, zi_eqF, zif_0z, zif_bz, zi_01l, zi_01r, not_true_eq_false, not_false_eq_true, Nat.reduceAdd, Nat.reduceMul, Nat.reduceSub, rf_1_7, rf_1_8, m15]
    · obtain ⟨n, rfl⟩ : ∃ n', n = n' + 1 := ⟨n - 1, by omega⟩
      have hbx := hB n (by omega)
      have hsx := hS n (by omega)
      generalize hT : topE (B n).1 (B n).2 u (KK e) (VV e) (NN e) = T
      generalize hM : topE (mdB (B n)) (mdB (B n)) u (KK e) (VV e) (NN e) = M
      by_cases cA : T.1 = zi 0 ∧ y.toInt64 < flow T.2
      · obtain ⟨r, p, b, q0, q1⟩ := ih (i + 1) n B (i + 1) (B n) (by omega) (by omega) (by omega) (fun j hj => hB j (by omega)) (fun j hj => hS j (by omega)) (fun _ => ⟨by omega, by omega⟩)
        refine ⟨r, p, b, ⟨q0.1, q0.2.1, q0.2.2.imp (fun hh => ⟨hh.1, fun q j hj hq => ?_⟩) (fun hh => hh)⟩, fun mi mj g l6 l7 hg hs hL hq => ?_⟩
        · by_cases e1 : j = n
          · subst e1
            exact ⟨B j, hbx, hq, by rw [hT]; exact cA⟩
          · exact hh.2 q j (by omega) hq
        · obtain ⟨mi1, mj1, g1, f, a1, a2, a3, a4, a5, a6, a7, a8⟩ := pc1 (Ls := Ls) (mj := mj) (y := y) (z := z) (i := i + 1) hs hg he hn (by omega) (by omega) hL hbx hT l6 l7
          rw [if_pos cA] at a8
          obtain ⟨mi', mj', g', b1, b2, b3, b4, b5⟩ := q1 mi1 mj1 g1 (some (.ref f)) l7 a1 (hs.cc a7) a4 (fun _ => ⟨a6, a5⟩)
          refine ⟨mi', mj', g', ?_, b2, b3, b4, a7.tr b5⟩
          rw [a8]
          simp (disch := (first | ((with_reducible refine zct_le ?_) <;> exact Nat.le_of_ble_eq_true rfl) | with_reducible exact zh_0 | with_reducible exact zh_1 | with_reducible exact zh_b | omega)) only [q_96_224, q_96_227, vf_s, vf_n, zk2_none, zk2_int, zk2_ref, zk2_null, zk2_long, zct_nil, zct_i, zct_l, zct_r, zct_n, Option.bind_some, Option.toList_some, Option.toList_none, List.cons_append, List.nil_append, zor_l, zor_r, if_true, if_false, ↓reduceIte, zi_lit, zi_of, zi_add, zi_mul, zi_sub, zi_nat, zi_leT, zi_leF, zi_ltT, zi_ltF, zi_eqT, zi_eqF, zif_0z, zif_bz, zi_01l, zi_01r, not_true_eq_false, not_false_eq_true, Nat.reduceAdd, Nat.reduceMul, Nat.reduceSub]
          exact b1
      · by_cases cB : (M.1 = zi 0 ∧ fhigh M.2 ≤ y.toInt64) ∨ z ≤ i + 1 ∨ ¬ spl (B n) T < 4
        · refine ⟨if M.1 = zi 0 ∧ fhigh M.2 ≤ y.toInt64 then zi 2 else zi 3, i + 1, B n, ⟨by omega, by omega, Or.inr ⟨hbx, hsx, by rw [hT]; exact cA, by rw [hM], ?_⟩⟩, fun mi mj g l6 l7 hg hs hL hq => ?_⟩
          · rw [hM]
            rcases cB with c | c | c
            · exact Or.inl c
            · exact Or.inr (Or.inl c)
            · exact Or.inr (Or.inr (spl_no hbx c))
          · obtain ⟨mi1, mj1, g1, f, a1, a2, a3, a4, a5, a6, a7, a8⟩ := pc1 (Ls := Ls) (mj := mj) (y := y) (z := z) (i := i + 1) hs hg he hn (by omega) (by omega) hL hbx hT l6 l7
            rw [if_neg cA] at a8
            obtain ⟨mi2, mj2, g2, b1, b2, b3, b4, b5⟩ := pc2 (Ls := Ls) (mj := mj1) (y := y) (z := z) (i := i + 1) (hs.cc a7) a1 he hn (by omega) hz2 hbx a5 a2 a3 hM cB l7
            exact ⟨mi2, mj2, g2, by rw [a8, b5], b1, by rw [b3, a6], b2, a7.tr b4⟩
        · have cR : ¬ (M.1 = zi 0 ∧ fhigh M.2 ≤ y.toInt64) := fun h => cB (Or.inl h)
          have cz : i + 1 < z := by
            rcases Nat.lt_or_ge (i + 1) z with h | h
            · exact h
            · exact absurd (Or.inr (Or.inl h)) cB
          have cs : spl (B n) T < 4 := by
            by_cases h : spl (B n) T < 4
            · exact h
            · exact absurd (Or.inr (Or.inr h)) cB
          obtain ⟨r, p, b, q0, q1⟩ := ih (i + 1) (n + 2) (upL (upL B n (upB (B n) (spl (B n) T))) (n + 1) (lwB (B n) (spl (B n) T))) (i + 1) (B n) (by omega) (by omega) (by omega) (upL_in (n := n + 1) (upL_in (n := n) (fun j hj => hB j (by omega)) (up_in hbx) (fun j hj => by omega)) (lw_in hbx) (fun j hj => by omega)) (upL_sub (n := n + 1) (upL_sub (n := n) (fun j hj => hS j (by omega)) (up_sub hbx hsx) (fun j hj => by omega)) (lw_sub hbx hsx) (fun j hj => by omega)) (fun h => by omega)
          refine ⟨r, p, b, ⟨q0.1, q0.2.1, q0.2.2.imp (fun hh => ⟨hh.1, fun q j hj hq => ?_⟩) (fun hh => hh)⟩, fun mi mj g l6 l7 hg hs hL hq => ?_⟩
          · by_cases e1 : j = n
            · subst e1
              rcases cov_B hbx cs hq with hl | hu
              · refine hh.2 q (j + 1) (by omega) ?_
                rw [show upL (upL B j (upB (B j) (spl (B j) T))) (j + 1) (lwB (B j) (spl (B j) T)) (j + 1) = lwB (B j) (spl (B j) T) from if_pos rfl]
                exact hl
              · refine hh.2 q j (by omega) ?_
                rw [show upL (upL B j (upB (B j) (spl (B j) T))) (j + 1) (lwB (B j) (spl (B j) T)) j = upL B j (upB (B j) (spl (B j) T)) j from if_neg (by omega), show upL B j (upB (B j) (spl (B j) T)) j = upB (B j) (spl (B j) T) from if_pos rfl]
                exact hu
            · refine hh.2 q j (by omega) ?_
              rw [show upL (upL B n (upB (B n) (spl (B n) T))) (n + 1) (lwB (B n) (spl (B n) T)) j = upL B n (upB (B n) (spl (B n) T)) j from if_neg (by omega), show upL B n (upB (B n) (spl (B n) T)) j = B j from if_neg e1]
              exact hq
          · obtain ⟨mi1, mj1, g1, f, a1, a2, a3, a4, a5, a6, a7, a8⟩ := pc1 (Ls := Ls) (mj := mj) (y := y) (z := z) (i := i + 1) hs hg he hn (by omega) (by omega) hL hbx hT l6 l7
            rw [if_neg cA] at a8
            obtain ⟨mi2, mj2, g2, b1, b2, b3, b4⟩ := pc3 (Ls := Ls) (mj := mj1) (y := y) (z := z) (i := i + 1) (hs.cc a7) a1 he hn (by omega) hz2 (by omega) hbx a5 a4 a2 a3 hM cR cz cs l7
            obtain ⟨mi', mj', g', d1, d2, d3, d4, d5⟩ := q1 mi2 mj2 g2 (some (.ref f)) (some (.int (zi (spl (B n) T)))) b1 ((hs.cc a7).cc b3) b2 (fun h => by omega)
            exact ⟨mi', mj', g', by rw [a8, b4, d1], d2, d3, d4, a7.tr (b3.tr d5)⟩
theorem k1e6 : (zi 1000000).toInt = 1000000 := by decide
theorem km1e6 : (-zi 1000000).toInt = -1000000 := by decide
theorem s_96 (h : ST mi g lo hi u NN KK VV) (he : e < 4) (hn : 0 < NN e) (y1 : -1000000 ≤ y.toInt) (y2 : y.toInt ≤ 1000000) (a1 : 1 ≤ a) (ha : a ≤ 200) : ∃ r p b mi' mj' g', prO u (KK e) (VV e) (NN e) y a (lo, hi) 1 (fun _ => (lo, hi)) r p b ∧ zCall 96 [.ref 1, .int (zi e), .int y, .int (zi a)] (SH Ls) mi mj (RF g) = some (some (.int r), SH Ls, mi', mj', RF g') ∧ gOk g' ∧ mi' 1 9 = zi p ∧ bxA mi' 102 b ∧ FrC mi mi' := by
  obtain ⟨e1, e3, e4, e5⟩ := ex_yes (Ls := Ls) h he hn
  obtain ⟨hg, hs⟩ := h
  have c1 : ¬ y < -zi 1000000 := by rw [Int32.lt_iff_toInt_lt, km1e6]; omega
  have c2 : y ≤ zi 1000000 := by rw [Int32.le_iff_toInt_le, k1e6]; omega
  obtain ⟨r, p, b, q0, q1⟩ := prv (Ls := Ls) (lo := lo) (hi := hi) (u := u) (KK := KK) (VV := VV) (y := y) (z := a) (c0 := (lo, hi)) he hn ha 400 0 1 (fun _ => (lo, hi)) 0 (lo, hi) (by omega) (by omega) (by omega) (fun _ _ => hs.1) (fun _ _ k _ => ⟨Int.le_refl _, Int.le_refl _⟩) (fun hh => by omega)
  have hb0 : bxA (zup mi 97 4 (zi 0)) 4 (lo, hi) := fun k hk => by
    rw [zup_ne (by omega), zup_ne (by omega)]
    exact hs.2.2.1 k hk
  obtain ⟨mi1, r1, r2, r3⟩ := m_12 (Ls := Ls) (g := g) (mj := mj) (mi := zup mi 97 4 (zi 0)) (n := 0) (B := fun _ => (lo, hi)) bx4 (by omega) ⟨zg_s, fun j hj => absurd hj (by omega)⟩ hb0
  have f1 : FrC mi mi1 := FrC.of fun a ha => by rw [r3 a (by omega), zup_ne (by omega)]
  have r2' : cLs mi1 1 (fun _ => (lo, hi)) := ⟨r2.1, fun j hj k hk => by
    have := r2.2 j hj k hk
    rwa [show upL (fun _ => (lo, hi)) 0 (lo, hi) j = (lo, hi) by unfold upL; split <;> rfl] at this⟩
  obtain ⟨mi2, mj2, g2, t1, t2, t3, t4, t5⟩ := q1 mi1 mj g none none hg (hs.cc f1) r2' (fun hh => by omega)
  refine ⟨r, p, b, mi2, mj2, g2, q0, ?_, t2, t3, t4, f1.tr t5⟩
  have m11 := m_11 (Ls := Ls) (g := g) (mi := mi) (mj := mj)
  simp (disch := (first | with_reducible exact is_1 | with_reducible exact zi_at is_1 (by omega) (by omega) | with_reducible exact is_3 | with_reducible exact zi_at is_3 (by omega) (by omega) | with_reducible exact is_97 | with_reducible exact zi_at is_97 (by omega) (by omega) | ((with_reducible refine zct_le ?_) <;> exact Nat.le_of_ble_eq_true rfl) | with_reducible exact zh_0 | with_reducible exact zh_1 | with_reducible exact zh_b | omega)) only [e_96, q_96_0r, q_96_0n, q_96_1, q_96_2, q_96_5r, q_96_5n, q_96_7r, q_96_7n, q_96_9n, q_96_9r, q_96_12, q_96_13, q_96_14, q_96_15, q_96_17, q_96_20, q_96_21, q_96_23, q_96_26, q_96_28, q_96_29, q_96_30, q_96_31, q_96_34, q_96_35, q_96_38, q_96_41, q_96_43, q_96_44r, q_96_44n, q_96_45, q_96_48, q_96_51r, q_96_51n, q_96_52, q_96_55r, q_96_55n, q_96_56, q_96_59, q_96_62, q_96_65, q_96_66, vf_s, vf_n, zk2_none, zk2_int, zk2_ref, zk2_null, zk2_long, zct_nil, zct_i, zct_l, zct_r, zct_n, Option.bind_some, Option.toList_some, Option.toList_none, List.cons_append, List.nil_append, zor_l, zor_r, if_true, if_false, ↓reduceIte, zi_lit, zi_of, zi_add, zi_mul, zi_sub, zi_nat, zi_leT, zi_leF, zi_ltT, zi_ltF, zi_eqT, zi_eqF, zif_0z, zif_bz, zi_01l, zi_01r, not_true_eq_false, not_false_eq_true, Nat.reduceAdd, Nat.reduceMul, Nat.reduceSub, rf_1_2, rf_1_7, rf_3_0, e1, c1, c2, m11, r1]
  exact t1
end
