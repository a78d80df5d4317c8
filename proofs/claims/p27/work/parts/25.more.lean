/-! ===== bounds, roots, boxes ===== -/
def fBd (F : FF) : Prop := (∀ k, k < 16 → -1000000000 ≤ (F k).toInt ∧ (F k).toInt ≤ 1000000000) ∧ 0 ≤ (F 13).toInt ∧ 0 ≤ (frad F 12).toInt ∧ (frad F 12).toInt ≤ 1000000000
theorem fOk.bd {F : FF} (h : fOk F) : fBd F := ⟨h.1, h.2.1, h.2.2.1, h.2.2.2.1⟩
theorem mul_bd {a b : Int} (h1 : -1000000000 ≤ a) (h2 : a ≤ 1000000000) (h3 : -1000000000 ≤ b) (h4 : b ≤ 1000000000) : -1000000000000000000 ≤ a * b ∧ a * b ≤ 1000000000000000000 := by
  have h : (a * b).natAbs ≤ 1000000000 * 1000000000 := by
    rw [Int.natAbs_mul]
    exact Nat.mul_le_mul (by omega) (by omega)
  omega
theorem zj_mulB {u v : Int64} (h1 : -1000000000 ≤ u.toInt) (h2 : u.toInt ≤ 1000000000) (h3 : -1000000000 ≤ v.toInt) (h4 : v.toInt ≤ 1000000000) : (u * v).toInt = u.toInt * v.toInt ∧ -1000000000000000000 ≤ (u * v).toInt ∧ (u * v).toInt ≤ 1000000000000000000 := by
  have := mul_bd h1 h2 h3 h4
  have e : (u * v).toInt = u.toInt * v.toInt := zj_mul (by omega) (by omega)
  exact ⟨e, by omega, by omega⟩
theorem zabs_B {u : Int64} (h1 : -1000000000 ≤ u.toInt) (h2 : u.toInt ≤ 1000000000) : 0 ≤ (zabs u).toInt ∧ (zabs u).toInt ≤ 1000000000 := by
  rw [zabs_i (by omega)]
  split <;> omega
theorem mulB1 {x y : FF} (hx : fBd x) (hy : fBd y) : (zabs (x 0) * y 13 + zabs (y 0) * x 13 + frad x 12 * frad y 12).toInt ≤ 9000000000000000000 := by
  obtain ⟨x1, x2, x3, x4⟩ := hx
  obtain ⟨y1, y2, y3, y4⟩ := hy
  have a := zabs_B (x1 0 (by omega)).1 (x1 0 (by omega)).2
  have b := zabs_B (y1 0 (by omega)).1 (y1 0 (by omega)).2
  have p1 := zj_mulB (u := zabs (x 0)) (v := y 13) (by omega) (by omega) (by omega) (y1 13 (by omega)).2
  have p2 := zj_mulB (u := zabs (y 0)) (v := x 13) (by omega) (by omega) (by omega) (x1 13 (by omega)).2
  have p3 := zj_mulB (u := frad x 12) (v := frad y 12) (by omega) (by omega) (by omega) (by omega)
  have e1 : (zabs (x 0) * y 13 + zabs (y 0) * x 13).toInt = (zabs (x 0) * y 13).toInt + (zabs (y 0) * x 13).toInt := zj_add (by omega) (by omega)
  rw [zj_add (by omega) (by omega)]
  omega
theorem zmax_le {u v : Int64} {n : Int} (h1 : u.toInt ≤ n) (h2 : v.toInt ≤ n) : (zmax u v).toInt ≤ n := by
  unfold zmax
  split <;> assumption
theorem mulB2 {x y : FF} (hx : fBd x) (hy : fBd y) : (zmax (zmax (x 14 * y 14) (x 14 * y 15)) (zmax (x 15 * y 14) (x 15 * y 15))).toInt ≤ 9000000000000000000 := by
  obtain ⟨x1, -⟩ := hx
  obtain ⟨y1, -⟩ := hy
  have a := x1 14 (by omega)
  have b := x1 15 (by omega)
  have c := y1 14 (by omega)
  have d := y1 15 (by omega)
  have p1 := zj_mulB a.1 a.2 c.1 c.2
  have p2 := zj_mulB a.1 a.2 d.1 d.2
  have p3 := zj_mulB b.1 b.2 c.1 c.2
  have p4 := zj_mulB b.1 b.2 d.1 d.2
  exact zmax_le (zmax_le (by omega) (by omega)) (zmax_le (by omega) (by omega))
theorem sqB1 {x : FF} (hx : fBd x) : (4 * zabs (x 0) * x 13 + frad x 12 * frad x 12).toInt ≤ 9000000000000000000 := by
  obtain ⟨x1, x2, x3, x4⟩ := hx
  have a := zabs_B (x1 0 (by omega)).1 (x1 0 (by omega)).2
  have h13 := (x1 13 (by omega)).2
  have k4 : (4 : Int64).toInt = 4 := by decide
  have e4 : (4 * zabs (x 0)).toInt = 4 * (zabs (x 0)).toInt := by rw [zj_mul (by rw [k4]; omega) (by rw [k4]; omega), k4]
  have pb : 0 ≤ (zabs (x 0)).toInt * (x 13).toInt ∧ (zabs (x 0)).toInt * (x 13).toInt ≤ 1000000000000000000 := ⟨Int.mul_nonneg a.1 x2, (mul_bd (by omega) (by omega) (by omega) (by omega)).2⟩
  have e5 : (4 * zabs (x 0) * x 13).toInt = 4 * ((zabs (x 0)).toInt * (x 13).toInt) := by
    rw [zj_mul (by rw [e4, Int.mul_assoc]; omega) (by rw [e4, Int.mul_assoc]; omega), e4, Int.mul_assoc]
  have p3 := zj_mulB (u := frad x 12) (v := frad x 12) (by omega) (by omega) (by omega) (by omega)
  rw [zj_add (by omega) (by omega)]
  omega
theorem sqB2 {x : FF} (hx : fBd x) : (zmax (x 14 * x 14) (x 15 * x 15)).toInt ≤ 9000000000000000000 := by
  obtain ⟨x1, -⟩ := hx
  have a := x1 14 (by omega)
  have b := x1 15 (by omega)
  have p1 := zj_mulB a.1 a.2 a.1 a.2
  have p4 := zj_mulB b.1 b.2 b.1 b.2
  exact zmax_le (by omega) (by omega)
def isRt (v r : Int) : Prop := 0 ≤ r ∧ r * r ≤ v ∧ v < (r + 1) * (r + 1)
theorem sq_le {a b : Int} (h0 : 0 ≤ a) (h : a ≤ b) : a * a ≤ b * b := Int.mul_le_mul h h h0 (by omega)
theorem isRt_uniq {v r s : Int} (h1 : isRt v r) (h2 : isRt v s) : r = s := by
  obtain ⟨a1, a2, a3⟩ := h1
  obtain ⟨b1, b2, b3⟩ := h2
  rcases Int.lt_trichotomy r s with h | h | h
  · have := sq_le (a := r + 1) (b := s) (by omega) (by omega)
    omega
  · exact h
  · have := sq_le (a := s + 1) (b := r) (by omega) (by omega)
    omega
theorem zsl_i : ∀ n, n < 20 → (zsl n).toInt = ((2 ^ n : Nat) : Int) := by decide +kernel
theorem rtd_is {u : Int64} (hu : 0 ≤ u.toInt) (n : Nat) : n ≤ 20 → ∀ r : Int64, 0 ≤ r.toInt → r.toInt + ((2 ^ n : Nat) : Int) ≤ 1048576 → r.toInt * r.toInt ≤ u.toInt → u.toInt < (r.toInt + ((2 ^ n : Nat) : Int)) * (r.toInt + ((2 ^ n : Nat) : Int)) → isRt u.toInt (rtd u n r).toInt := by
  induction n with
  | zero =>
    intro _ r h0 h1 h2 h3
    exact ⟨h0, h2, h3⟩
  | succ n ih =>
    intro hn r h0 h1 h2 h3
    have hp : (2 ^ (n + 1) : Nat) = 2 ^ n + 2 ^ n := by rw [Nat.pow_succ]; omega
    rw [hp] at h1 h3
    have hz := zsl_i n (by omega)
    clear hp
    generalize 2 ^ n = p at hz h1 h3 ih
    have e1 : (r + zsl n).toInt = r.toInt + (p : Int) := by
      rw [zj_add (by rw [hz]; omega) (by rw [hz]; omega), hz]
    have hsq := sq_le (a := r.toInt + (p : Int)) (b := 1048576) (by omega) (by omega)
    have hs0 : 0 ≤ (r.toInt + (p : Int)) * (r.toInt + (p : Int)) := Int.mul_nonneg (by omega) (by omega)
    have e2 : ((r + zsl n) * (r + zsl n)).toInt = (r.toInt + (p : Int)) * (r.toInt + (p : Int)) := by
      rw [zj_mul (by rw [e1]; omega) (by rw [e1]; omega), e1]
    rw [rtd]
    by_cases c : u < (r + zsl n) * (r + zsl n)
    · rw [if_pos c]
      rw [zj_lt, e2] at c
      exact ih (by omega) r h0 (by omega) h2 c
    · rw [if_neg c]
      rw [zj_lt, e2] at c
      refine ih (by omega) _ (by omega) (by omega) (by rw [e1]; omega) ?_
      rw [e1, show r.toInt + (p : Int) + (p : Int) = r.toInt + ((p + p : Nat) : Int) by omega]
      exact h3
theorem rtd_v {u : Int64} (h0 : 0 ≤ u.toInt) (h1 : u.toInt ≤ 256000000000) : isRt u.toInt (rtd u 20 0).toInt := by
  refine rtd_is h0 20 (Nat.le_refl _) 0 (by decide) (by decide) ?_ ?_
  · rw [kj0]; omega
  · rw [kj0]
    have : ((2 ^ 20 : Nat) : Int) = 1048576 := by decide
    rw [this]
    omega
theorem fhigh_le {F : FF} : (fhigh F).toInt ≤ (F 15).toInt := by
  unfold fhigh zmin
  split
  · rename_i h; exact Int.le_refl _
  · rename_i h; rw [zj_lt] at h; omega
theorem le_flow {F : FF} : (F 14).toInt ≤ (flow F).toInt := by
  unfold flow zmax
  split
  · exact Int.le_refl _
  · rename_i h; rw [zj_lt] at h; omega
section
variable {X Y : FF}
theorem bop_5 : bop 5 (zi 0, X) (zi 0, Y) = (zi 0, fAdd X Y) := by simp [bop]
theorem bop_6 : bop 6 (zi 0, X) (zi 0, Y) = (zi 0, fSub X Y) := by simp [bop]
theorem bop_9 : bop 9 (zi 0, X) (zi 0, Y) = (zi 0, fMul X (frad X 12) Y (frad Y 12)) := by simp [bop]
theorem bop_11 : bop 11 (zi 0, X) (zi 0, Y) = if flow Y ≤ 0 ∧ 0 ≤ fhigh Y then (zi 1, X) else (zi 0, fDiv X Y) := by simp [bop]
theorem bop_14 : bop 14 (zi 0, X) (zi 0, Y) = (zi 0, fLea X (flow X) (fhigh X) Y (flow Y) (fhigh Y)) := by simp [bop]
theorem bop_15 : bop 15 (zi 0, X) (zi 0, Y) = (zi 0, fGre X (flow X) (fhigh X) Y (flow Y) (fhigh Y)) := by simp [bop]
end
def topE (lo hi : Nat → Int32) (u : Nat) (K : Nat → Nat) (V : Nat → Int32) (n : Nat) : En := stk lo hi u K V n (dep K n - 1)
def boxIn (lo hi : Nat → Int32) : Prop := ∀ k, k < 4 → -100000 ≤ (lo k).toInt ∧ (lo k).toInt ≤ (hi k).toInt ∧ (hi k).toInt ≤ 100000
def valIn (K : Nat → Nat) (V : Nat → Int32) (n : Nat) : Prop := ∀ k, k < n → K k = 0 → 0 ≤ (V k).toInt ∧ (V k).toInt ≤ 99999
theorem dep_1 {K : Nat → Nat} {n : Nat} : 1 ≤ dep K (n + 1) := by rw [dep]; omega
def recOk : Prop := ∀ Y : FF, fOk Y → ¬ (flow Y ≤ 0 ∧ 0 ≤ fhigh Y) → fBd (fRec (flow Y) (fhigh Y))
def exOk (lo hi : Nat → Int32) (u : Nat) (K : Nat → Nat) (V : Nat → Int32) (n : Nat) : Prop := valIn K V n ∧ wfK K n ∧ gdS lo hi u K V n
section
variable {n d u : Nat} {lo hi : Nat → Int32} {E : Nat → En} {vv : Int32}
theorem stE_lt (h : n < 5) (hg : gdE (mkE lo hi n vv d E)) : stE lo hi u n vv d E = stP E d (mkE lo hi n vv d E) := by
  unfold stE
  have ho : opn n = 0 := by unfold opn; rw [if_pos h]
  rw [if_neg (fun q => by omega), ho, hg.fn]
  rfl
end
