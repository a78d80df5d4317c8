/-! ===== ranges are right (5): quotients, roots, choices ===== -/
theorem kj65536 : (65536 : Int64).toInt = 65536 := by decide
theorem kjm65536 : (-65536 : Int64).toInt = -65536 := by decide
/-- the quotient rounded down -/
theorem zfdiv_spec {a v : Int64} (ha : a.toInt = 65536 ∨ a.toInt = -65536) (hv : ¬ v.toInt = 0) (hvb : -1000000000 ≤ v.toInt) : -65537 ≤ (zfdiv a v).toInt ∧ (zfdiv a v).toInt ≤ 65537 ∧ (0 < v.toInt → (zfdiv a v).toInt * v.toInt ≤ a.toInt ∧ a.toInt < (zfdiv a v).toInt * v.toInt + v.toInt) ∧ (v.toInt < 0 → a.toInt ≤ (zfdiv a v).toInt * v.toInt ∧ (zfdiv a v).toInt * v.toInt + v.toInt < a.toInt) := by
  have ed : (a / v).toInt = a.toInt.tdiv v.toInt := Kit.i64_div (fun h => by omega)
  have hm := Int.mul_tdiv_add_tmod a.toInt v.toInt
  have hn : (a.toInt.tmod v.toInt).natAbs < v.toInt.natAbs := by
    rw [Int.natAbs_tmod]
    exact Nat.mod_lt _ (by omega)
  have hn2 : (a.toInt.tmod v.toInt).natAbs ≤ 65536 := by
    rw [Int.natAbs_tmod]
    exact Nat.le_trans (Nat.mod_le _ _) (by omega)
  have hq : (a.toInt.tdiv v.toInt).natAbs ≤ 65536 := by
    rw [Int.natAbs_tdiv]
    exact Nat.le_trans (Nat.div_le_self _ _) (by omega)
  have hs : (0 ≤ a.toInt → 0 ≤ a.toInt.tmod v.toInt) ∧ (a.toInt ≤ 0 → a.toInt.tmod v.toInt ≤ 0) := by
    refine ⟨fun h => Int.tmod_nonneg _ h, fun h => ?_⟩
    have := Int.tmod_nonneg (a := -a.toInt) v.toInt (by omega)
    rw [Int.neg_tmod] at this
    omega
  generalize a.toInt.tdiv v.toInt = t at ed hm hq
  generalize a.toInt.tmod v.toInt = r at hm hn hn2 hs
  have et : v.toInt * t = t * v.toInt := Int.mul_comm _ _
  rw [et] at hm
  have em : (a / v * v).toInt = t * v.toInt := by rw [zj_mul (by rw [ed]; omega) (by rw [ed]; omega), ed]
  rw [zfdiv_alt]
  by_cases c : a / v * v = a
  · have c' : t * v.toInt = a.toInt := by rw [← em, c]
    rw [if_pos c, ed]
    refine ⟨by omega, by omega, fun h => ⟨by omega, by omega⟩, fun h => ⟨by omega, by omega⟩⟩
  · have c' : ¬ r = 0 := fun h => c (zj_inj (by rw [em]; omega))
    rw [if_neg c]
    have hsub : (a / v - 1).toInt = t - 1 := by rw [zj_sub (by rw [ed, kj1]; omega) (by rw [ed, kj1]; omega), ed, kj1]
    have hmul : (t - 1) * v.toInt = t * v.toInt - v.toInt := by rw [Int.sub_mul, Int.one_mul]
    by_cases s : (0 ≤ a ↔ 0 ≤ v)
    · rw [if_pos s, ed]
      rw [Kit.i64_nonneg, Kit.i64_nonneg] at s
      refine ⟨by omega, by omega, fun h => ⟨by omega, by omega⟩, fun h => ⟨by omega, by omega⟩⟩
    · rw [if_neg s, hsub]
      rw [Kit.i64_nonneg, Kit.i64_nonneg] at s
      rw [hmul]
      refine ⟨by omega, by omega, fun h => ⟨by omega, by omega⟩, fun h => ⟨by omega, by omega⟩⟩
theorem rec_le {m n : Int64} (hmn : m.toInt ≤ n.toInt) (h0 : 0 < m.toInt ∨ n.toInt < 0) (h1 : -1000000000 ≤ m.toInt) : -65537 ≤ (zfdiv 65536 n).toInt ∧ (zfdiv 65536 n).toInt ≤ (-(zfdiv (-65536) m)).toInt ∧ (-(zfdiv (-65536) m)).toInt ≤ 65537 := by
  obtain ⟨a1, a2, a3, a4⟩ := zfdiv_spec (a := 65536) (v := n) (Or.inl kj65536) (by omega) (by omega)
  obtain ⟨b1, b2, b3, b4⟩ := zfdiv_spec (a := -65536) (v := m) (Or.inr kjm65536) (by omega) h1
  rw [kj65536] at a3 a4
  rw [kjm65536] at b3 b4
  rw [zj_neg (by omega)]
  generalize (zfdiv 65536 n).toInt = l at a1 a2 a3 a4 ⊢
  generalize (zfdiv (-65536) m).toInt = q at b1 b2 b3 b4 ⊢
  refine ⟨a1, ?_, by omega⟩
  rcases h0 with h | h
  · obtain ⟨c1, c2⟩ := a3 (by omega)
    obtain ⟨d1, d2⟩ := b3 h
    apply Int.not_lt.mp
    intro hlt
    have hq : q < 0 := by
      apply Int.not_le.mp
      intro h2
      have := Int.mul_nonneg h2 (show 0 ≤ m.toInt by omega)
      omega
    have e1 : (-q + 1) * n.toInt ≤ l * n.toInt := Int.mul_le_mul_of_nonneg_right (by omega) (by omega)
    have e2 : (-q + 1) * m.toInt ≤ (-q + 1) * n.toInt := Int.mul_le_mul_of_nonneg_left hmn (by omega)
    have e3 : (-q + 1) * m.toInt = -(q * m.toInt) + m.toInt := by grind
    omega
  · obtain ⟨c1, c2⟩ := a4 h
    obtain ⟨d1, d2⟩ := b4 (by omega)
    apply Int.not_lt.mp
    intro hlt
    have hq : 0 ≤ q := by
      apply Int.not_lt.mp
      intro h2
      have h3 : (-1) * m.toInt ≤ q * m.toInt := Int.mul_le_mul_of_nonpos_right (show q ≤ -1 by omega) (by omega)
      omega
    have e1 : l * n.toInt ≤ (-q + 1) * n.toInt := Int.mul_le_mul_of_nonpos_right (by omega) (by omega)
    have e2 : (-q) * n.toInt ≤ (-q) * m.toInt := Int.mul_le_mul_of_nonpos_left (by omega) hmn
    have e3 : (-q + 1) * n.toInt = (-q) * n.toInt + n.toInt := by grind
    have e4 : (-q) * m.toInt = -(q * m.toInt) := by grind
    omega
section
variable {N Zx Zy : Int} {E : Nat → Int} {x y : FF}
theorem pl_bd {l u : Int64} (h1 : -1000000 ≤ l.toInt) (h2 : l.toInt ≤ u.toInt) (h3 : u.toInt ≤ 1000000) : fBd (fPl l u) := by
  obtain ⟨e1, e2, e3⟩ := pl_c (l := l) (u := u) (by omega) h2 (by omega)
  have e13 : (zmax (u - zs1 (l + u)) (zs1 (l + u) - l)).toInt = if u.toInt - (l.toInt + u.toInt) / 2 < (l.toInt + u.toInt) / 2 - l.toInt then (l.toInt + u.toInt) / 2 - l.toInt else u.toInt - (l.toInt + u.toInt) / 2 := by rw [zmax_i, e2, e3]
  have g1 : 0 ≤ (zmax (u - zs1 (l + u)) (zs1 (l + u) - l)).toInt ∧ (zmax (u - zs1 (l + u)) (zs1 (l + u) - l)).toInt ≤ 2000000 := by rw [e13]; split <;> omega
  have hr := (op_pl (N := 1) (E := fun _ => 0) (l := l) (u := u) (Z := l.toInt) (by omega) (by omega) h2 (by omega) (by omega) (by omega)).1
  obtain ⟨f1, -⟩ := frad_i hr 12 (by omega)
  have a0 : asum (ic (fPl l u)) 12 = 0 := by
    have : ∀ n, n ≤ 12 → asum (ic (fPl l u)) n = 0 := by
      intro n
      induction n with
      | zero => intro _; rfl
      | succ n ih =>
        intro hn
        rw [asum, ih (by omega)]
        have : ic (fPl l u) n = 0 := by show (fPl l u (n + 1)).toInt = 0; unfold fPl; rw [fMk_c (by omega)]; exact kj0
        rw [this]; rfl
    exact this 12 (by omega)
  rw [a0, Int.add_zero] at f1
  have f13 : (fPl l u 13).toInt = (zmax (u - zs1 (l + u)) (zs1 (l + u) - l)).toInt := rfl
  refine ⟨?_, by rw [f13]; exact g1.1, by rw [f1, f13]; omega, by rw [f1, f13]; omega⟩
  exact mk_all (P := fun u => -1000000000 ≤ u.toInt ∧ u.toInt ≤ 1000000000) ⟨by omega, by omega⟩ (fun j hj => ⟨by decide, by decide⟩) ⟨by omega, by omega⟩ ⟨by omega, by omega⟩ ⟨by omega, by omega⟩
theorem fl_bd {F : FF} (h : fOk F) : -1000000000 ≤ (flow F).toInt ∧ (flow F).toInt ≤ (fhigh F).toInt ∧ (fhigh F).toInt ≤ 1000000000 := by
  have h1 := (h.1 15 (by omega)).2
  have h2 := (h.1 14 (by omega)).1
  have h3 := fhigh_le (F := F)
  have h4 := le_flow (F := F)
  have h5 := h.2.2.2.2
  omega
theorem not_in0 {F : FF} (h : fOk F) (c : ¬ (flow F ≤ 0 ∧ 0 ≤ fhigh F)) : 0 < (flow F).toInt ∨ (fhigh F).toInt < 0 := by
  have := h.2.2.2.2
  rw [zj_le, Kit.i64_nonneg, kj0] at c
  omega
theorem rec_ok : recOk := by
  intro Y hY c
  obtain ⟨f1, f2, f3⟩ := fl_bd hY
  obtain ⟨r1, r2, r3⟩ := rec_le (m := flow Y) (n := fhigh Y) f2 (not_in0 hY c) f1
  exact pl_bd (by omega) r2 (by omega)
/-- the true value lies in the best range too -/
theorem snd_fl (hN : 0 < N) (hE : ∀ s, s < 12 → bnd (E s) N) (hx : fOk x) (sx : sndF N E Zx x) : N * (flow x).toInt ≤ Zx ∧ Zx ≤ N * (fhigh x).toInt ∧ N * ((x 0).toInt - (frad x 12).toInt) ≤ Zx ∧ Zx ≤ N * ((x 0).toInt + (frad x 12).toInt) := by
  have r1 := sx.N0 hE hx.raw
  have h0 := hx.1 0 (by omega)
  have hr0 := hx.2.2.1
  have hr1 := hx.2.2.2.1
  have m1 : N * ((x 0).toInt - (frad x 12).toInt) ≤ Zx := by rw [Int.mul_sub]; have := r1.1; omega
  have m2 : Zx ≤ N * ((x 0).toInt + (frad x 12).toInt) := by rw [Int.mul_add]; have := r1.2; omega
  have d1 : (x 0 - frad x 12).toInt = (x 0).toInt - (frad x 12).toInt := zj_sub (by omega) (by omega)
  have d2 : (x 0 + frad x 12).toInt = (x 0).toInt + (frad x 12).toInt := zj_add (by omega) (by omega)
  refine ⟨?_, ?_, m1, m2⟩
  · unfold flow
    rw [zmax_i, d1]
    split
    · exact sx.1
    · exact m1
  · unfold fhigh
    rw [zmin_i, d2]
    split
    · exact sx.2.1
    · exact m2
/-- the true reciprocal, over the denominator |Zy| N -/
theorem rec_snd {m n : Int64} (hN : 0 < N) (hmn : m.toInt ≤ n.toInt) (h0 : 0 < m.toInt ∨ n.toInt < 0) (h1 : -1000000000 ≤ m.toInt) (y1 : N * m.toInt ≤ Zy) (y2 : Zy ≤ N * n.toInt) :
    ¬ Zy = 0 ∧ (Zy.natAbs : Int) * N * (zfdiv 65536 n).toInt ≤ 65536 * N * N * Zy.sign ∧ 65536 * N * N * Zy.sign ≤ (Zy.natAbs : Int) * N * (-(zfdiv (-65536) m)).toInt := by
  obtain ⟨a1, a2, a3, a4⟩ := zfdiv_spec (a := 65536) (v := n) (Or.inl kj65536) (by omega) (by omega)
  obtain ⟨b1, b2, b3, b4⟩ := zfdiv_spec (a := -65536) (v := m) (Or.inr kjm65536) (by omega) h1
  rw [kj65536] at a3 a4
  rw [kjm65536] at b3 b4
  rw [zj_neg (by omega)]
  generalize (zfdiv 65536 n).toInt = l at a1 a2 a3 a4 ⊢
  generalize (zfdiv (-65536) m).toInt = q at b1 b2 b3 b4 ⊢
  rcases h0 with h | h
  · obtain ⟨c1, c2⟩ := a3 (by omega)
    obtain ⟨d1, d2⟩ := b3 h
    have hZ : 0 < Zy := by have := Int.mul_pos hN h; omega
    have e : (Zy.natAbs : Int) = Zy := by omega
    have es : Zy.sign = 1 := Int.sign_eq_one_of_pos hZ
    have hl : 0 ≤ l := by
      apply Int.not_lt.mp
      intro h2
      have h3 : l * n.toInt ≤ (-1) * n.toInt := Int.mul_le_mul_of_nonneg_right (by omega) (by omega)
      omega
    have hq : q ≤ 0 := by
      apply Int.not_lt.mp
      intro h2
      have := Int.mul_nonneg (show 0 ≤ q by omega) (show 0 ≤ m.toInt by omega)
      omega
    have p1 : Zy * l ≤ 65536 * N := by
      have t1 : Zy * l ≤ N * n.toInt * l := Int.mul_le_mul_of_nonneg_right y2 hl
      have t2 : N * (l * n.toInt) ≤ N * 65536 := nn_mul (by omega) c1
      have t3 : N * n.toInt * l = N * (l * n.toInt) := by grind
      omega
    have p2 : 65536 * N ≤ Zy * (-q) := by
      have t1 : N * m.toInt * (-q) ≤ Zy * (-q) := Int.mul_le_mul_of_nonneg_right y1 (by omega)
      have t2 : N * 65536 ≤ N * (-(q * m.toInt)) := nn_mul (by omega) (by omega)
      have t3 : N * m.toInt * (-q) = N * (-(q * m.toInt)) := by grind
      omega
    refine ⟨by omega, ?_, ?_⟩
    · rw [e, es]
      have t := nn_mul (N := N) (by omega) p1
      have t4 : Zy * N * l = N * (Zy * l) := by grind
      have t5 : 65536 * N * N * 1 = N * (65536 * N) := by grind
      omega
    · rw [e, es]
      have t := nn_mul (N := N) (by omega) p2
      have t4 : Zy * N * -q = N * (Zy * -q) := by grind
      have t5 : 65536 * N * N * 1 = N * (65536 * N) := by grind
      omega
  · obtain ⟨c1, c2⟩ := a4 h
    obtain ⟨d1, d2⟩ := b4 (by omega)
    have hZ : Zy < 0 := by have := Int.mul_pos hN (show 0 < -n.toInt by omega); rw [Int.mul_neg] at this; omega
    have e : (Zy.natAbs : Int) = -Zy := by omega
    have es : Zy.sign = -1 := Int.sign_eq_neg_one_of_neg hZ
    have hl : l ≤ 0 := by
      apply Int.not_lt.mp
      intro h2
      have := Int.mul_nonneg (show 0 ≤ l by omega) (show 0 ≤ -n.toInt by omega)
      rw [Int.mul_neg] at this
      omega
    have hq : 0 ≤ q := by
      apply Int.not_lt.mp
      intro h2
      have h3 : (-1) * m.toInt ≤ q * m.toInt := Int.mul_le_mul_of_nonpos_right (show q ≤ -1 by omega) (by omega)
      omega
    have p1 : 65536 * N ≤ Zy * l := by
      have t1 : N * n.toInt * l ≤ Zy * l := Int.mul_le_mul_of_nonpos_right y2 hl
      have t2 : N * 65536 ≤ N * (l * n.toInt) := nn_mul (by omega) c1
      have t3 : N * n.toInt * l = N * (l * n.toInt) := by grind
      omega
    have p2 : Zy * (-q) ≤ 65536 * N := by
      have t1 : Zy * (-q) ≤ N * m.toInt * (-q) := Int.mul_le_mul_of_nonpos_right y1 (by omega)
      have t2 : N * (-(q * m.toInt)) ≤ N * 65536 := nn_mul (by omega) (by omega)
      have t3 : N * m.toInt * (-q) = N * (-(q * m.toInt)) := by grind
      omega
    refine ⟨by omega, ?_, ?_⟩
    · rw [e, es]
      have t := nn_mul (N := N) (by omega) p1
      have t4 : -Zy * N * l = -(N * (Zy * l)) := by grind
      have t5 : 65536 * N * N * -1 = -(N * (65536 * N)) := by grind
      omega
    · rw [e, es]
      have t := nn_mul (N := N) (by omega) p2
      have t4 : -Zy * N * -q = -(N * (Zy * -q)) := by grind
      have t5 : 65536 * N * N * -1 = -(N * (65536 * N)) := by grind
      omega
theorem bnd_sc {t a : Int} (ht : 0 < t) (h : bnd a N) : bnd (t * a) (t * N) := ⟨by rw [← Int.mul_neg]; exact nn_mul (by omega) h.1, nn_mul (by omega) h.2⟩
theorem op_div (hN : 0 < N) (hE : ∀ s, s < 12 → bnd (E s) N) (hx : fOk x) (hy : fOk y) (sx : sndF N E Zx x) (sy : sndF N E Zy y) (c : ¬ (flow y ≤ 0 ∧ 0 ≤ fhigh y)) : ¬ Zy = 0 ∧ opZ N E (256 * ((Zy.natAbs : Int) * N) * (Zy.natAbs : Int)) ((Zy.natAbs : Int) * Zx * (65536 * N * N * Zy.sign)) (zi 0, fDiv x y) := by
  obtain ⟨f1, f2, f3⟩ := fl_bd hy
  obtain ⟨r1, r2, r3⟩ := rec_le (m := flow y) (n := fhigh y) f2 (not_in0 hy c) f1
  obtain ⟨y1, y2, -, -⟩ := snd_fl hN hE hy sy
  obtain ⟨z0, z1, z2⟩ := rec_snd hN f2 (not_in0 hy c) f1 y1 y2
  have hs : 0 < (Zy.natAbs : Int) := by omega
  have hsN : 0 < (Zy.natAbs : Int) * N := Int.mul_pos hs hN
  have hq := (op_pl (N := (Zy.natAbs : Int) * N) (E := fun k => (Zy.natAbs : Int) * E k) (l := zfdiv 65536 (fhigh y)) (u := -(zfdiv (-65536) (flow y))) (Z := 65536 * N * N * Zy.sign) hsN (by omega) r2 (by omega) z1 z2).2
  have hm := op_mul (x := x) (y := fRec (flow y) (fhigh y)) hsN (fun s hs' => bnd_sc hs (hE s hs')) hx.bd (rec_ok y hy c) (snd_sc hs sx) hq
  refine ⟨z0, fun _ => ?_⟩
  obtain ⟨m1, m2⟩ := hm rfl
  refine ⟨m1, ?_⟩
  have e1 : 256 * ((Zy.natAbs : Int) * N) * (Zy.natAbs : Int) * N = 256 * ((Zy.natAbs : Int) * N) * ((Zy.natAbs : Int) * N) := Int.mul_assoc _ _ _
  have e2 : (fun k => 256 * ((Zy.natAbs : Int) * N) * (Zy.natAbs : Int) * E k) = fun k => 256 * ((Zy.natAbs : Int) * N) * ((Zy.natAbs : Int) * E k) := funext fun k => Int.mul_assoc _ _ _
  rw [e1, e2]
  exact m2
theorem op_self (hx : fOk x) (sx : sndF N E Zx x) : opZ N E 1 Zx (zi 0, x) := op1 hx.raw sx
theorem op_abs (hN : 0 < N) (hE : ∀ s, s < 12 → bnd (E s) N) (hx : fOk x) (sx : sndF N E Zx x) : opZ N E 1 (Zx.natAbs : Int) (zi 0, fAbs x (flow x) (fhigh x)) := by
  obtain ⟨f1, f2, f3⟩ := fl_bd hx
  obtain ⟨x1, x2, -, -⟩ := snd_fl hN hE hx sx
  unfold fAbs
  by_cases c1 : 0 ≤ flow x
  · rw [if_pos c1]
    rw [Kit.i64_nonneg] at c1
    have := Int.mul_nonneg (Int.le_of_lt hN) c1
    have e : (Zx.natAbs : Int) = Zx := by omega
    rw [e]
    exact op_self hx sx
  · rw [if_neg c1]
    by_cases c2 : fhigh x ≤ 0
    · rw [if_pos c2]
      rw [zj_le, kj0] at c2
      have := Int.mul_nonneg (Int.le_of_lt hN) (show 0 ≤ -(fhigh x).toInt by omega)
      rw [Int.mul_neg] at this
      have e : (Zx.natAbs : Int) = -Zx := by omega
      rw [e]
      exact op_neg hx sx
    · rw [if_neg c2]
      rw [zj_le, kj0] at c2
      have en : (-flow x).toInt = -(flow x).toInt := zj_neg (by omega)
      have em : -(flow x).toInt ≤ (zmax (-flow x) (fhigh x)).toInt ∧ (fhigh x).toInt ≤ (zmax (-flow x) (fhigh x)).toInt ∧ 0 ≤ (zmax (-flow x) (fhigh x)).toInt ∧ (zmax (-flow x) (fhigh x)).toInt ≤ 1000000000 := by
        rw [zmax_i, en]; rw [Kit.i64_nonneg] at c1; split <;> omega
      have m1 := nn_mul (N := N) (by omega) em.1
      have m2 := nn_mul (N := N) (by omega) em.2.1
      rw [Int.mul_neg] at m1
      obtain ⟨g1, g2⟩ := op_pl (N := N) (E := E) (l := 0) (u := zmax (-flow x) (fhigh x)) (Z := (Zx.natAbs : Int)) hN (by rw [kj0]; omega) (by rw [kj0]; omega) (by omega) (by rw [kj0, Int.mul_zero]; omega) (by omega)
      exact op1 g1 g2
theorem isRt_le {v w r s : Int} (h1 : isRt v r) (h2 : isRt w s) (h : v ≤ w) : r ≤ s := by
  apply Int.not_lt.mp
  intro hlt
  have := sq_le (a := s + 1) (b := r) (by have := h2.1; omega) (by omega)
  have := h1.2.1
  have := h2.2.2
  omega
theorem isRt_bd {v r : Int} (h1 : isRt v r) (h : v ≤ 256000000000) : r ≤ 1000000 := by
  apply Int.not_lt.mp
  intro hlt
  have := sq_le (a := 1000001) (b := r) (by omega) (by omega)
  have := h1.2.1
  omega
/-- the ends of a root -/
def rtL (F : FF) : Int := (rtd (256 * zmax (flow F) 0) 20 0).toInt
def rtU (F : FF) : Int := (rtUp (256 * fhigh F)).toInt
theorem rt_ends (hx : fOk x) (c : ¬ fhigh x < 0) : 0 ≤ rtL x ∧ rtL x ≤ rtU x ∧ rtU x ≤ 1000001 ∧ ∃ r, isRt (256 * (if (flow x).toInt < 0 then 0 else (flow x).toInt)) (rtL x) ∧ isRt (256 * (fhigh x).toInt) r ∧ r ≤ rtU x := by
  obtain ⟨f1, f2, f3⟩ := fl_bd hx
  rw [zj_lt, kj0] at c
  have ez : (zmax (flow x) 0).toInt = if (flow x).toInt < 0 then 0 else (flow x).toInt := by rw [zmax_i, kj0]
  have z1 : 0 ≤ (zmax (flow x) 0).toInt ∧ (zmax (flow x) 0).toInt ≤ (fhigh x).toInt := by rw [ez]; split <;> omega
  have e1 : (256 * fhigh x).toInt = 256 * (fhigh x).toInt := by rw [zj_mul (by rw [kj256]; omega) (by rw [kj256]; omega), kj256]
  have e2 : (256 * zmax (flow x) 0).toInt = 256 * (zmax (flow x) 0).toInt := by rw [zj_mul (by rw [kj256]; omega) (by rw [kj256]; omega), kj256]
  have r1 := rtd_v (u := 256 * zmax (flow x) 0) (by omega) (by omega)
  have r2 := rtd_v (u := 256 * fhigh x) (by omega) (by omega)
  have r3 := isRt_le r1 r2 (by omega)
  have r4 := isRt_bd r2 (by omega)
  have r5 := r1.1
  have r6 : (rtd (256 * fhigh x) 20 0).toInt ≤ (rtUp (256 * fhigh x)).toInt ∧ (rtUp (256 * fhigh x)).toInt ≤ 1000001 := by
    unfold rtUp
    split
    · exact ⟨Int.le_refl _, by omega⟩
    · rw [zj_add (by rw [kj1]; omega) (by rw [kj1]; omega), kj1]
      exact ⟨by omega, by omega⟩
  unfold rtL rtU
  refine ⟨r5, by omega, r6.2, _, ?_, ?_, r6.1⟩
  · rw [← ez, ← e2]; exact r1
  · rw [← e1]; exact r2
theorem op_root {z : Int} (hN : 0 < N) (hx : fOk x) (c : ¬ fhigh x < 0) (z1 : rtL x ≤ z) (z2 : z ≤ rtU x) : opZ N E 1 (N * z) (zi 0, fRoot (flow x) (fhigh x)) := by
  obtain ⟨r1, r2, r3, -⟩ := rt_ends hx c
  obtain ⟨g1, g2⟩ := op_pl (N := N) (E := E) (l := rtd (256 * zmax (flow x) 0) 20 0) (u := rtUp (256 * fhigh x)) (Z := N * z) hN (by unfold rtL at r1; omega) (by exact r2) (by unfold rtU at r3; omega) (nn_mul (by omega) z1) (nn_mul (by omega) z2)
  exact op1 g1 g2
/-- two roots of one value have a value in common -/
theorem rt_meet (hN : 0 < N) (hx : fOk x) (hy : fOk y) (c : ¬ fhigh x < 0) (d : ¬ fhigh y < 0) (x1 : N * (flow x).toInt ≤ Zx) (y2 : Zx ≤ N * (fhigh y).toInt) : rtL x ≤ rtU y := by
  obtain ⟨-, -, -, r, h1, -, -⟩ := rt_ends hx c
  obtain ⟨-, -, -, r', -, h2, h3⟩ := rt_ends hy d
  have h := le_of_mulN hN (Int.le_trans x1 y2)
  rw [zj_lt, kj0] at d
  have := isRt_le h1 h2 (by split <;> omega)
  omega
theorem op_lea (hN : 0 < N) (hE : ∀ s, s < 12 → bnd (E s) N) (hx : fOk x) (hy : fOk y) (sx : sndF N E Zx x) (sy : sndF N E Zy y) : opZ N E 1 (if Zx ≤ Zy then Zx else Zy) (zi 0, fLea x (flow x) (fhigh x) y (flow y) (fhigh y)) := by
  obtain ⟨f1, f2, f3⟩ := fl_bd hx
  obtain ⟨k1, k2, k3⟩ := fl_bd hy
  obtain ⟨x1, x2, -, -⟩ := snd_fl hN hE hx sx
  obtain ⟨y1, y2, -, -⟩ := snd_fl hN hE hy sy
  unfold fLea
  by_cases c1 : fhigh x ≤ flow y
  · rw [if_pos c1]
    rw [zj_le] at c1
    have := nn_mul (N := N) (by omega) c1
    rw [if_pos (by omega)]
    exact op_self hx sx
  · rw [if_neg c1]
    by_cases c2 : fhigh y ≤ flow x
    · rw [if_pos c2]
      rw [zj_le] at c2
      have := nn_mul (N := N) (by omega) c2
      have e : (if Zx ≤ Zy then Zx else Zy) = Zy := by split <;> omega
      rw [e]
      exact op_self hy sy
    · rw [if_neg c2]
      have e1 := zmin_i (u := flow x) (v := flow y)
      have e2 := zmin_i (u := fhigh x) (v := fhigh y)
      have b1 : (zmin (flow x) (flow y)).toInt ≤ (flow x).toInt ∧ (zmin (flow x) (flow y)).toInt ≤ (flow y).toInt := by rw [e1]; split <;> omega
      have b2 : (zmin (fhigh x) (fhigh y)).toInt = (fhigh x).toInt ∨ (zmin (fhigh x) (fhigh y)).toInt = (fhigh y).toInt := by rw [e2]; split <;> omega
      have m1 := nn_mul (N := N) (by omega) b1.1
      have m2 := nn_mul (N := N) (by omega) b1.2
      obtain ⟨g1, g2⟩ := op_pl (N := N) (E := E) (l := zmin (flow x) (flow y)) (u := zmin (fhigh x) (fhigh y)) (Z := if Zx ≤ Zy then Zx else Zy) hN (by rw [e1]; split <;> omega) (by rw [e1, e2]; split <;> split <;> omega) (by rw [e2]; split <;> omega) (by split <;> omega) (by rcases b2 with b2 | b2 <;> rw [b2] <;> split <;> omega)
      exact op1 g1 g2
theorem op_gre (hN : 0 < N) (hE : ∀ s, s < 12 → bnd (E s) N) (hx : fOk x) (hy : fOk y) (sx : sndF N E Zx x) (sy : sndF N E Zy y) : opZ N E 1 (if Zx ≤ Zy then Zy else Zx) (zi 0, fGre x (flow x) (fhigh x) y (flow y) (fhigh y)) := by
  obtain ⟨f1, f2, f3⟩ := fl_bd hx
  obtain ⟨k1, k2, k3⟩ := fl_bd hy
  obtain ⟨x1, x2, -, -⟩ := snd_fl hN hE hx sx
  obtain ⟨y1, y2, -, -⟩ := snd_fl hN hE hy sy
  unfold fGre
  by_cases c1 : fhigh y ≤ flow x
  · rw [if_pos c1]
    rw [zj_le] at c1
    have := nn_mul (N := N) (by omega) c1
    have e : (if Zx ≤ Zy then Zy else Zx) = Zx := by split <;> omega
    rw [e]
    exact op_self hx sx
  · rw [if_neg c1]
    by_cases c2 : fhigh x ≤ flow y
    · rw [if_pos c2]
      rw [zj_le] at c2
      have := nn_mul (N := N) (by omega) c2
      rw [if_pos (by omega)]
      exact op_self hy sy
    · rw [if_neg c2]
      have e1 := zmax_i (u := flow x) (v := flow y)
      have e2 := zmax_i (u := fhigh x) (v := fhigh y)
      have b1 : (fhigh x).toInt ≤ (zmax (fhigh x) (fhigh y)).toInt ∧ (fhigh y).toInt ≤ (zmax (fhigh x) (fhigh y)).toInt := by rw [e2]; split <;> omega
      have b2 : (zmax (flow x) (flow y)).toInt = (flow x).toInt ∨ (zmax (flow x) (flow y)).toInt = (flow y).toInt := by rw [e1]; split <;> omega
      have m1 := nn_mul (N := N) (by omega) b1.1
      have m2 := nn_mul (N := N) (by omega) b1.2
      obtain ⟨g1, g2⟩ := op_pl (N := N) (E := E) (l := zmax (flow x) (flow y)) (u := zmax (fhigh x) (fhigh y)) (Z := if Zx ≤ Zy then Zy else Zx) hN (by rw [e1]; split <;> omega) (by rw [e1, e2]; split <;> split <;> omega) (by rw [e2]; split <;> omega) (by rcases b2 with b2 | b2 <;> rw [b2] <;> split <;> omega) (by split <;> omega)
      exact op1 g1 g2
theorem num_i {v : Int32} (h1 : 0 ≤ v.toInt) (h2 : v.toInt ≤ 99999) : (fNumC v).toInt = 256 * v.toInt / 100 ∧ (fNumE v = 0 ∨ fNumE v = 1) := by
  have k1 : (zi 256).toInt = 256 := by decide
  have k2 : (zi 100).toInt = 100 := by decide
  have e2 : (zi 256 * v).toInt = 256 * v.toInt := by rw [Kit.i32_mul (by rw [k1]; omega) (by rw [k1]; omega), k1]
  have e4 : (zi 256 * v / zi 100).toInt = 256 * v.toInt / 100 := by rw [lg_idiv_nonneg (by rw [e2]; omega) (by decide), e2, k2]
  refine ⟨by rw [fNumC, Kit.i64_of_i32, e4], ?_⟩
  unfold fNumE
  split
  · exact Or.inl rfl
  · exact Or.inr rfl
theorem op_num (hN : 0 < N) {v : Int32} (h1 : 0 ≤ v.toInt) (h2 : v.toInt ≤ 99999) : rawB (fNum v) ∧ sndF N E (N * (fNumC v).toInt) (fNum v) ∧ ¬ fBig (fNum v) := by
  obtain ⟨e1, e2⟩ := num_i h1 h2
  have e3 : 0 ≤ (fNumE v).toInt ∧ (fNumE v).toInt ≤ 1 := by rcases e2 with h | h <;> rw [h] <;> decide
  have e4 : (fNumC v + fNumE v).toInt = (fNumC v).toInt + (fNumE v).toInt := zj_add (by omega) (by omega)
  have hr : rawB (fNum v) := by
    refine ⟨?_, e3.1⟩
    exact mk_all (P := fun u => bnd u.toInt 144115188075855872) ⟨by omega, by omega⟩ (fun j hj => ⟨by decide, by decide⟩) ⟨by omega, by omega⟩ ⟨by omega, by omega⟩ ⟨by omega, by omega⟩
  refine ⟨hr, ⟨Int.le_refl _, ?_, ?_⟩, ?_⟩
  · show _ ≤ N * (fNumC v + fNumE v).toInt
    rw [e4]; exact nn_mul (by omega) (by omega)
  · rw [dot_zero 12 (fun k hk => by show (fNum v (k + 1)).toInt = 0; unfold fNum; rw [fMk_c hk]; exact kj0), Int.sub_zero]
    show bnd (N * (fNumC v).toInt - N * (fNumC v).toInt) (N * (fNumE v).toInt)
    rw [Int.sub_self]
    have := Int.mul_nonneg (show 0 ≤ N by omega) e3.1
    exact ⟨by omega, by omega⟩
  · obtain ⟨f1, -⟩ := frad_i hr 12 (by omega)
    have a0 : asum (ic (fNum v)) 12 = 0 := by
      have : ∀ n, n ≤ 12 → asum (ic (fNum v)) n = 0 := by
        intro n
        induction n with
        | zero => intro _; rfl
        | succ n ih =>
          intro hn
          rw [asum, ih (by omega)]
          have : ic (fNum v) n = 0 := by show (fNum v (n + 1)).toInt = 0; unfold fNum; rw [fMk_c (by omega)]; exact kj0
          rw [this]; rfl
      exact this 12 (by omega)
    rw [a0, Int.add_zero] at f1
    have f13 : (fNum v 13).toInt = (fNumE v).toInt := rfl
    rintro (q | q | q | q)
    · exact zbig_no (u := fNumC v) (by omega) (by omega) q
    · exact zbig_no (u := frad (fNum v) 12) (by omega) (by omega) q
    · exact zbig_no (u := fNumC v) (by omega) (by omega) q
    · exact zbig_no (u := fNumC v + fNumE v) (by omega) (by omega) q
/-- the greatest distance from the middle -/
def wid (l u : Int) : Int := if u - (l + u) / 2 < (l + u) / 2 - l then (l + u) / 2 - l else u - (l + u) / 2
theorem op_inp {p : Int} (hN : 0 < N) {k : Nat} (hk : k < 4) {l u : Int32} (hE : N * (p - (l.toInt + u.toInt) / 2) = wid l.toInt u.toInt * E k) (h1 : -100000 ≤ l.toInt) (h2 : l.toInt ≤ u.toInt) (h3 : u.toInt ≤ 100000) (hp1 : l.toInt ≤ p) (hp2 : p ≤ u.toInt) : rawB (fInp k l u) ∧ sndF N E (N * p) (fInp k l u) ∧ ¬ fBig (fInp k l u) := by
  have el : l.toInt64.toInt = l.toInt := Kit.i64_of_i32 l
  have eu : u.toInt64.toInt = u.toInt := Kit.i64_of_i32 u
  obtain ⟨e1, e2, e3⟩ := pl_c (l := l.toInt64) (u := u.toInt64) (by omega) (by omega) (by omega)
  have e13 : (zmax (u.toInt64 - zs1 (l.toInt64 + u.toInt64)) (zs1 (l.toInt64 + u.toInt64) - l.toInt64)).toInt = if u.toInt - (l.toInt + u.toInt) / 2 < (l.toInt + u.toInt) / 2 - l.toInt then (l.toInt + u.toInt) / 2 - l.toInt else u.toInt - (l.toInt + u.toInt) / 2 := by rw [zmax_i, e2, e3, el, eu]
  have g1 : 0 ≤ (zmax (u.toInt64 - zs1 (l.toInt64 + u.toInt64)) (zs1 (l.toInt64 + u.toInt64) - l.toInt64)).toInt ∧ (zmax (u.toInt64 - zs1 (l.toInt64 + u.toInt64)) (zs1 (l.toInt64 + u.toInt64) - l.toInt64)).toInt ≤ 200001 := by rw [e13]; split <;> omega
  have c0 : (fInp k l u 0).toInt = (l.toInt + u.toInt) / 2 := by
    show (zs1 (l.toInt64 + u.toInt64)).toInt = _
    rw [e1, el, eu]
  have c14 : (fInp k l u 14).toInt = l.toInt := el
  have c15 : (fInp k l u 15).toInt = u.toInt := eu
  have c13 : (fInp k l u 13).toInt = 0 := kj0
  have ck : ∀ j, j < 12 → (fInp k l u (j + 1)).toInt = if j = k then (zmax (u.toInt64 - zs1 (l.toInt64 + u.toInt64)) (zs1 (l.toInt64 + u.toInt64) - l.toInt64)).toInt else 0 := by
    intro j hj
    unfold fInp fNm
    rw [fMk_c hj]
    by_cases h : j = k
    · rw [if_pos h, if_pos h]; rfl
    · rw [if_neg h, if_neg h]
      unfold fPl
      rw [fMk_c hj]
      exact kj0
  have hr : rawB (fInp k l u) := by
    refine ⟨fun j hj => ?_, by rw [c13]; omega⟩
    rcases Nat.eq_zero_or_pos j with rfl | hp
    · rw [c0]; exact ⟨by omega, by omega⟩
    · by_cases h : j ≤ 12
      · obtain ⟨i, rfl⟩ : ∃ i, j = i + 1 := ⟨j - 1, by omega⟩
        rw [ck i (by omega)]
        split <;> exact ⟨by omega, by omega⟩
      · rcases (show j = 13 ∨ j = 14 ∨ j = 15 by omega) with rfl | rfl | rfl
        · rw [c13]; exact ⟨by omega, by omega⟩
        · rw [c14]; exact ⟨by omega, by omega⟩
        · rw [c15]; exact ⟨by omega, by omega⟩
  have ew : (zmax (u.toInt64 - zs1 (l.toInt64 + u.toInt64)) (zs1 (l.toInt64 + u.toInt64) - l.toInt64)).toInt = wid l.toInt u.toInt := by rw [e13]; rfl
  have hdot : dot (ic (fInp k l u)) E 12 = wid l.toInt u.toInt * E k := by
    have : ∀ n, n ≤ 12 → dot (ic (fInp k l u)) E n = if k < n then wid l.toInt u.toInt * E k else 0 := by
      intro n
      induction n with
      | zero => intro _; rfl
      | succ n ih =>
        intro hn
        rw [dot, ih (by omega)]
        have e : ic (fInp k l u) n = (fInp k l u (n + 1)).toInt := rfl
        rw [e, ck n (by omega)]
        by_cases h : n = k
        · subst h
          rw [if_neg (by omega), if_pos rfl, if_pos (by omega), ew, Int.zero_add]
        · rw [if_neg h, Int.zero_mul, Int.add_zero]
          by_cases h2 : k < n
          · rw [if_pos h2, if_pos (by omega)]
          · rw [if_neg h2, if_neg (by omega)]
    have t := this 12 (by omega)
    rw [if_pos (by omega)] at t
    exact t
  have hsum : asum (ic (fInp k l u)) 12 ≤ 200001 ∧ 0 ≤ asum (ic (fInp k l u)) 12 := by
    have : ∀ n, n ≤ 12 → asum (ic (fInp k l u)) n ≤ if k < n then 200001 else 0 := by
      intro n
      induction n with
      | zero => intro _; rw [if_neg (by omega)]; exact Int.le_refl _
      | succ n ih =>
        intro hn
        have hi := ih (by omega)
        have e : ic (fInp k l u) n = (fInp k l u (n + 1)).toInt := rfl
        rw [asum, e, ck n (by omega)]
        by_cases h : n = k
        · subst h
          rw [if_neg (by omega)] at hi
          rw [if_pos rfl, if_pos (by omega)]
          omega
        · rw [if_neg h]
          by_cases h2 : k < n
          · rw [if_pos h2] at hi
            rw [if_pos (by omega)]
            simp only [Int.natAbs_zero]
            omega
          · rw [if_neg h2] at hi
            rw [if_neg (by omega)]
            simp only [Int.natAbs_zero]
            omega
    have t := this 12 (by omega)
    rw [if_pos (by omega)] at t
    exact ⟨t, asum_0 _ _⟩
  refine ⟨hr, ⟨?_, ?_, ?_⟩, ?_⟩
  · rw [c14]; exact nn_mul (by omega) (by omega)
  · rw [c15]; exact nn_mul (by omega) (by omega)
  · rw [c0, c13, hdot, ← hE, Int.mul_zero, Int.mul_sub, Int.sub_self]
    exact ⟨by omega, by omega⟩
  · obtain ⟨f1, -⟩ := frad_i hr 12 (by omega)
    rw [c13] at f1
    rintro (q | q | q | q)
    · exact zbig_no (by omega) (by omega) q
    · exact zbig_no (by omega) (by omega) q
    · exact zbig_no (by omega) (by omega) q
    · exact zbig_no (by omega) (by omega) q
end
