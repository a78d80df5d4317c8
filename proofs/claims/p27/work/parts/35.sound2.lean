/-! ===== ranges are right (2): forms ===== -/
def ic (F : FF) : Nat → Int := fun k => (F (k + 1)).toInt
def sndF (N : Int) (E : Nat → Int) (Z : Int) (F : FF) : Prop := N * (F 14).toInt ≤ Z ∧ Z ≤ N * (F 15).toInt ∧ bnd (Z - N * (F 0).toInt - dot (ic F) E 12) (N * (F 13).toInt)
def rawB (F : FF) : Prop := (∀ k, k < 16 → bnd (F k).toInt 144115188075855872) ∧ 0 ≤ (F 13).toInt
/-- what an operation makes of the true value, over the denominator t N -/
def opZ (N : Int) (E : Nat → Int) (t Z' : Int) (e : En) : Prop := e.1 = zi 0 → rawB e.2 ∧ sndF (t * N) (fun k => t * E k) Z' e.2
theorem asum_ge {a : Nat → Int} (n : Nat) : ∀ k, k < n → ((a k).natAbs : Int) ≤ asum a n := by
  induction n with
  | zero => intro k hk; omega
  | succ n ih =>
    intro k hk
    rw [asum]
    by_cases h : k = n
    · subst h; have := asum_0 a k; omega
    · have := ih k (by omega); omega
theorem frad_i {F : FF} (h : rawB F) (n : Nat) : n ≤ 12 → (frad F n).toInt = (F 13).toInt + asum (ic F) n ∧ asum (ic F) n ≤ n * 144115188075855872 := by
  induction n with
  | zero => intro _; exact ⟨by rw [asum, Int.add_zero]; rfl, by rw [asum]; omega⟩
  | succ n ih =>
    intro hn
    obtain ⟨h1, h2⟩ := ih (by omega)
    have h3 := h.1 (n + 1) (by omega)
    have h13 := h.1 13 (by omega)
    have h0 := h.2
    have ha := asum_0 (ic F) n
    obtain ⟨c1, c2⟩ := h3
    obtain ⟨d1, d2⟩ := h13
    have e : (zabs (F (n + 1))).toInt = ((ic F n).natAbs : Int) := by
      rw [zabs_i (by omega)]
      show _ = (((F (n + 1)).toInt).natAbs : Int)
      split <;> omega
    have e2 : ((ic F n).natAbs : Int) ≤ 144115188075855872 := by
      show (((F (n + 1)).toInt).natAbs : Int) ≤ _
      omega
    rw [frad, asum]
    refine ⟨?_, by omega⟩
    rw [zj_add (by rw [h1, e]; omega) (by rw [h1, e]; omega), h1, e]
    omega
theorem zbig_yes {u : Int64} (h : ¬ zbig u) : -1000000000 ≤ u.toInt ∧ u.toInt ≤ 1000000000 := by
  unfold zbig at h
  rw [zj_lt, zj_lt, kj1e9, kjm1e9] at h
  omega
theorem zmax_i {u v : Int64} : (zmax u v).toInt = if u.toInt < v.toInt then v.toInt else u.toInt := by
  unfold zmax
  by_cases h : u < v
  · rw [if_pos h, if_pos (by rwa [zj_lt] at h)]
  · rw [if_neg h, if_neg (by rwa [zj_lt] at h)]
theorem zmin_i {u v : Int64} : (zmin u v).toInt = if v.toInt < u.toInt then v.toInt else u.toInt := by
  unfold zmin
  by_cases h : v < u
  · rw [if_pos h, if_pos (by rwa [zj_lt] at h)]
  · rw [if_neg h, if_neg (by rwa [zj_lt] at h)]
theorem le_of_mulN {N a b : Int} (hN : 0 < N) (h : N * a ≤ N * b) : a ≤ b := Int.le_of_mul_le_mul_left h hN
theorem fOk_of {N Z : Int} {E : Nat → Int} {F : FF} (hN : 0 < N) (hE : ∀ s, s < 12 → bnd (E s) N) (hr : rawB F) (hb : ¬ fBig F) (hs : sndF N E Z F) : fOk F := by
  have b0 : ¬ zbig (F 0) := fun h => hb (Or.inl h)
  have b1 : ¬ zbig (frad F 12) := fun h => hb (Or.inr (Or.inl h))
  have b2 : ¬ zbig (F 14) := fun h => hb (Or.inr (Or.inr (Or.inl h)))
  have b3 : ¬ zbig (F 15) := fun h => hb (Or.inr (Or.inr (Or.inr h)))
  have c0 := zbig_yes b0
  have c1 := zbig_yes b1
  have c2 := zbig_yes b2
  have c3 := zbig_yes b3
  obtain ⟨e1, -⟩ := frad_i hr 12 (by omega)
  have a0 := asum_0 (ic F) 12
  have h13 := hr.2
  have hd := dot_bd (a := ic F) (E := E) (N := N) 12 hE
  obtain ⟨s1, s2, s3⟩ := hs
  refine ⟨fun k hk => ?_, h13, by omega, c1.2, ?_⟩
  · rcases Nat.eq_zero_or_pos k with rfl | hp
    · exact c0
    · by_cases h : k ≤ 12
      · obtain ⟨j, rfl⟩ : ∃ j, k = j + 1 := ⟨k - 1, by omega⟩
        have := asum_ge (a := ic F) 12 j (by omega)
        have e : ((ic F j).natAbs : Int) = (((F (j + 1)).toInt).natAbs : Int) := rfl
        rw [e] at this
        omega
      · rcases (show k = 13 ∨ k = 14 ∨ k = 15 by omega) with rfl | rfl | rfl
        · omega
        · exact c2
        · exact c3
  · have r1 : bnd (Z - N * (F 0).toInt) (N * (frad F 12).toInt) := by
      rw [e1, Int.mul_add]
      have := s3.add hd
      rw [Int.sub_add_cancel] at this
      exact this
    have m1 : N * ((F 0).toInt - (frad F 12).toInt) ≤ Z := by rw [Int.mul_sub]; have := r1.1; omega
    have m2 : Z ≤ N * ((F 0).toInt + (frad F 12).toInt) := by rw [Int.mul_add]; have := r1.2; omega
    have d1 : (F 0 - frad F 12).toInt = (F 0).toInt - (frad F 12).toInt := zj_sub (by omega) (by omega)
    have d2 : (F 0 + frad F 12).toInt = (F 0).toInt + (frad F 12).toInt := zj_add (by omega) (by omega)
    have p1 := le_of_mulN hN (Int.le_trans m1 m2)
    have p2 := le_of_mulN hN (Int.le_trans m1 s2)
    have p3 := le_of_mulN hN (Int.le_trans s1 m2)
    have p4 := le_of_mulN hN (Int.le_trans s1 s2)
    unfold flow fhigh
    rw [zmax_i, zmin_i, d1, d2]
    split <;> split <;> omega
theorem snd_sc {N Z t : Int} {E : Nat → Int} {F : FF} (ht : 0 < t) (h : sndF N E Z F) : sndF (t * N) (fun k => t * E k) (t * Z) F := by
  obtain ⟨h1, h2, h3, h4⟩ := h
  have ht' : 0 ≤ t := by omega
  refine ⟨?_, ?_, ?_⟩
  · rw [Int.mul_assoc]; exact nn_mul ht' h1
  · rw [Int.mul_assoc]; exact nn_mul ht' h2
  · rw [dot_sc]
    have e : t * Z - t * N * (F 0).toInt - t * dot (ic F) E 12 = t * (Z - N * (F 0).toInt - dot (ic F) E 12) := by grind
    rw [e, Int.mul_assoc]
    refine ⟨?_, nn_mul ht' h4⟩
    rw [← Int.mul_neg]
    exact nn_mul ht' h3
theorem op1 {N Z : Int} {E : Nat → Int} {F : FF} {i : Int32} (hr : rawB F) (h : sndF N E Z F) : opZ N E 1 Z (i, F) := fun _ => ⟨hr, by
  have := snd_sc (t := 1) (by omega) h
  rw [Int.one_mul] at this
  simpa using this⟩
theorem fOk.raw {F : FF} (h : fOk F) : rawB F := ⟨fun k hk => by have := h.1 k hk; exact ⟨by omega, by omega⟩, h.2.1⟩
theorem raw_of {F : FF} {m : Int} (h : ∀ k, k < 16 → bnd (F k).toInt m) (hm : m ≤ 144115188075855872) (h13 : 0 ≤ (F 13).toInt) : rawB F := ⟨fun k hk => (h k hk).le hm, h13⟩
theorem mk_all {P : Int64 → Prop} {c e l u : Int64} {a : Nat → Int64} (h0 : P c) (ha : ∀ k, k < 12 → P (a k)) (h1 : P e) (h2 : P l) (h3 : P u) : ∀ k, k < 16 → P (fMk c a e l u k) := by
  intro k hk
  rcases Nat.eq_zero_or_pos k with rfl | hp
  · exact h0
  · by_cases h : k ≤ 12
    · obtain ⟨j, rfl⟩ : ∃ j, k = j + 1 := ⟨k - 1, by omega⟩
      rw [fMk_c (by omega)]
      exact ha j (by omega)
    · rcases (show k = 13 ∨ k = 14 ∨ k = 15 by omega) with rfl | rfl | rfl
      · exact h1
      · exact h2
      · exact h3
/-! sums, differences, opposites -/
theorem addB {u v : Int64} (h1 : -1000000000 ≤ u.toInt) (h2 : u.toInt ≤ 1000000000) (h3 : -1000000000 ≤ v.toInt) (h4 : v.toInt ≤ 1000000000) : (u + v).toInt = u.toInt + v.toInt := zj_add (by omega) (by omega)
theorem subB {u v : Int64} (h1 : -1000000000 ≤ u.toInt) (h2 : u.toInt ≤ 1000000000) (h3 : -1000000000 ≤ v.toInt) (h4 : v.toInt ≤ 1000000000) : (u - v).toInt = u.toInt - v.toInt := zj_sub (by omega) (by omega)
section
variable {N Zx Zy : Int} {E : Nat → Int} {x y : FF}
theorem op_add (hx : fOk x) (hy : fOk y) (sx : sndF N E Zx x) (sy : sndF N E Zy y) : opZ N E 1 (Zx + Zy) (zi 0, fAdd x y) := by
  have k : ∀ j, j < 16 → (x j + y j).toInt = (x j).toInt + (y j).toInt := fun j hj => addB (hx.1 j hj).1 (hx.1 j hj).2 (hy.1 j hj).1 (hy.1 j hj).2
  have kb : ∀ j, j < 16 → bnd (x j + y j).toInt 144115188075855872 := fun j hj => by rw [k j hj]; have := hx.1 j hj; have := hy.1 j hj; exact ⟨by omega, by omega⟩
  refine op1 (Z := Zx + Zy) ⟨?_, ?_⟩ ⟨?_, ?_, ?_⟩
  · exact mk_all (P := fun u => bnd u.toInt 144115188075855872) (kb 0 (by omega)) (fun j hj => kb (j + 1) (by omega)) (kb 13 (by omega)) (kb 14 (by omega)) (kb 15 (by omega))
  · show 0 ≤ (x 13 + y 13).toInt
    rw [k 13 (by omega)]; have := hx.2.1; have := hy.2.1; omega
  · show N * (x 14 + y 14).toInt ≤ _
    rw [k 14 (by omega), Int.mul_add]; have := sx.1; have := sy.1; omega
  · show _ ≤ N * (x 15 + y 15).toInt
    rw [k 15 (by omega), Int.mul_add]; have := sx.2.1; have := sy.2.1; omega
  · show bnd (_ - N * (x 0 + y 0).toInt - _) (N * (x 13 + y 13).toInt)
    rw [k 0 (by omega), k 13 (by omega)]
    have e : dot (ic (fAdd x y)) E 12 = dot (ic y) E 12 + dot (ic x) E 12 := by
      have := dot_lin (a := ic x) (b := ic y) (E := E) (c := 1) (d := 1) 12
      simp only [Int.one_mul] at this
      rw [← this]
      refine dot_ext 12 (fun j hj => ?_) (fun _ _ => rfl)
      show (fAdd x y (j + 1)).toInt = _
      unfold fAdd
      rw [fMk_c hj, k (j + 1) (by omega)]
      show _ = (y (j + 1)).toInt + (x (j + 1)).toInt
      omega
    rw [e]
    have := sx.2.2.add sy.2.2
    rw [Int.mul_add, Int.mul_add]
    have e2 : Zx + Zy - (N * (x 0).toInt + N * (y 0).toInt) - (dot (ic y) E 12 + dot (ic x) E 12) = Zx - N * (x 0).toInt - dot (ic x) E 12 + (Zy - N * (y 0).toInt - dot (ic y) E 12) := by omega
    rw [e2]
    exact this
theorem negB {F : FF} (h : fOk F) {j : Nat} (hj : j < 16) : (-F j).toInt = -(F j).toInt := zj_neg (by have := h.1 j hj; omega)
theorem op_neg (hx : fOk x) (sx : sndF N E Zx x) : opZ N E 1 (-Zx) (zi 0, fNeg x) := by
  have k : ∀ j, j < 16 → (-x j).toInt = -(x j).toInt := fun j hj => negB hx hj
  have kb : ∀ j, j < 16 → bnd (-x j).toInt 144115188075855872 := fun j hj => by rw [k j hj]; have := hx.1 j hj; exact ⟨by omega, by omega⟩
  have k13 : bnd (x 13).toInt 144115188075855872 := by have := hx.1 13 (by omega); exact ⟨by omega, by omega⟩
  refine op1 (Z := -Zx) ⟨?_, hx.2.1⟩ ⟨?_, ?_, ?_⟩
  · exact mk_all (P := fun u => bnd u.toInt 144115188075855872) (kb 0 (by omega)) (fun j hj => kb (j + 1) (by omega)) k13 (kb 15 (by omega)) (kb 14 (by omega))
  · show N * (-x 15).toInt ≤ _
    rw [k 15 (by omega), Int.mul_neg]; have := sx.2.1; omega
  · show _ ≤ N * (-x 14).toInt
    rw [k 14 (by omega), Int.mul_neg]; have := sx.1; omega
  · show bnd (_ - N * (-x 0).toInt - _) (N * (x 13).toInt)
    rw [k 0 (by omega), Int.mul_neg]
    have e : dot (ic (fNeg x)) E 12 = -dot (ic x) E 12 := by
      have := dot_lin (a := ic x) (b := ic x) (E := E) (c := -1) (d := 0) 12
      simp only [Int.zero_mul, Int.add_zero, Int.neg_mul, Int.one_mul] at this
      rw [← this]
      refine dot_ext 12 (fun j hj => ?_) (fun _ _ => rfl)
      show (fNeg x (j + 1)).toInt = _
      unfold fNeg
      rw [fMk_c hj, k (j + 1) (by omega)]
      rfl
    rw [e]
    have := sx.2.2.neg
    have e2 : -Zx - -(N * (x 0).toInt) - -dot (ic x) E 12 = -(Zx - N * (x 0).toInt - dot (ic x) E 12) := by omega
    rw [e2]
    exact this
theorem op_sub (hx : fOk x) (hy : fOk y) (sx : sndF N E Zx x) (sy : sndF N E Zy y) : opZ N E 1 (Zx - Zy) (zi 0, fSub x y) := by
  have k : ∀ j, j < 16 → ∀ i, i < 16 → (x j - y i).toInt = (x j).toInt - (y i).toInt := fun j hj i hi => subB (hx.1 j hj).1 (hx.1 j hj).2 (hy.1 i hi).1 (hy.1 i hi).2
  have kb : ∀ j, j < 16 → ∀ i, i < 16 → bnd (x j - y i).toInt 144115188075855872 := fun j hj i hi => by rw [k j hj i hi]; have := hx.1 j hj; have := hy.1 i hi; exact ⟨by omega, by omega⟩
  have k13 : (x 13 + y 13).toInt = (x 13).toInt + (y 13).toInt := addB (hx.1 13 (by omega)).1 (hx.1 13 (by omega)).2 (hy.1 13 (by omega)).1 (hy.1 13 (by omega)).2
  have kb13 : bnd (x 13 + y 13).toInt 144115188075855872 := by rw [k13]; have := hx.1 13 (by omega); have := hy.1 13 (by omega); exact ⟨by omega, by omega⟩
  refine op1 (Z := Zx - Zy) ⟨?_, ?_⟩ ⟨?_, ?_, ?_⟩
  · exact mk_all (P := fun u => bnd u.toInt 144115188075855872) (kb 0 (by omega) 0 (by omega)) (fun j hj => kb (j + 1) (by omega) (j + 1) (by omega)) kb13 (kb 14 (by omega) 15 (by omega)) (kb 15 (by omega) 14 (by omega))
  · show 0 ≤ (x 13 + y 13).toInt
    rw [k13]; have := hx.2.1; have := hy.2.1; omega
  · show N * (x 14 - y 15).toInt ≤ _
    rw [k 14 (by omega) 15 (by omega), Int.mul_sub]; have := sx.1; have := sy.2.1; omega
  · show _ ≤ N * (x 15 - y 14).toInt
    rw [k 15 (by omega) 14 (by omega), Int.mul_sub]; have := sx.2.1; have := sy.1; omega
  · show bnd (_ - N * (x 0 - y 0).toInt - _) (N * (x 13 + y 13).toInt)
    rw [k 0 (by omega) 0 (by omega), k13]
    have e : dot (ic (fSub x y)) E 12 = dot (ic x) E 12 - dot (ic y) E 12 := by
      have := dot_lin (a := ic y) (b := ic x) (E := E) (c := 1) (d := -1) 12
      simp only [Int.one_mul, Int.neg_mul] at this
      have e3 : dot (ic (fSub x y)) E 12 = dot (fun k => ic x k + -ic y k) E 12 := by
        refine dot_ext 12 (fun j hj => ?_) (fun _ _ => rfl)
        show (fSub x y (j + 1)).toInt = _
        unfold fSub
        rw [fMk_c hj, k (j + 1) (by omega) (j + 1) (by omega)]
        show _ = (x (j + 1)).toInt + -(y (j + 1)).toInt
        omega
      rw [e3, this]
      omega
    rw [e]
    have := sx.2.2.add sy.2.2.neg
    rw [Int.mul_add, Int.mul_sub]
    have e2 : Zx - Zy - (N * (x 0).toInt - N * (y 0).toInt) - (dot (ic x) E 12 - dot (ic y) E 12) = Zx - N * (x 0).toInt - dot (ic x) E 12 + -(Zy - N * (y 0).toInt - dot (ic y) E 12) := by omega
    rw [e2]
    exact this
/-! plain forms -/
theorem dot_zero {a E : Nat → Int} (n : Nat) (h : ∀ k, k < n → a k = 0) : dot a E n = 0 := by
  induction n with
  | zero => rfl
  | succ n ih => rw [dot, ih (fun k hk => h k (by omega)), h n (by omega)]; simp
theorem pl_c {l u : Int64} (h1 : -1000000000000 ≤ l.toInt) (h2 : l.toInt ≤ u.toInt) (h3 : u.toInt ≤ 1000000000000) : (zs1 (l + u)).toInt = (l.toInt + u.toInt) / 2 ∧ (u - zs1 (l + u)).toInt = u.toInt - (l.toInt + u.toInt) / 2 ∧ (zs1 (l + u) - l).toInt = (l.toInt + u.toInt) / 2 - l.toInt := by
  have e1 : (l + u).toInt = l.toInt + u.toInt := zj_add (by omega) (by omega)
  have e2 : (zs1 (l + u)).toInt = (l.toInt + u.toInt) / 2 := by rw [zs1_i, e1]
  exact ⟨e2, by rw [zj_sub (by omega) (by omega), e2], by rw [zj_sub (by omega) (by omega), e2]⟩
theorem op_pl {l u : Int64} {Z : Int} (hN : 0 < N) (h1 : -1000000000000 ≤ l.toInt) (h2 : l.toInt ≤ u.toInt) (h3 : u.toInt ≤ 1000000000000) (z1 : N * l.toInt ≤ Z) (z2 : Z ≤ N * u.toInt) : rawB (fPl l u) ∧ sndF N E Z (fPl l u) := by
  obtain ⟨e1, e2, e3⟩ := pl_c h1 h2 h3
  have e13 : (zmax (u - zs1 (l + u)) (zs1 (l + u) - l)).toInt = if u.toInt - (l.toInt + u.toInt) / 2 < (l.toInt + u.toInt) / 2 - l.toInt then (l.toInt + u.toInt) / 2 - l.toInt else u.toInt - (l.toInt + u.toInt) / 2 := by rw [zmax_i, e2, e3]
  have g1 : 0 ≤ (zmax (u - zs1 (l + u)) (zs1 (l + u) - l)).toInt := by rw [e13]; split <;> omega
  have g2 : (zmax (u - zs1 (l + u)) (zs1 (l + u) - l)).toInt ≤ 2000000000000 := by rw [e13]; split <;> omega
  have g3 : (l.toInt + u.toInt) / 2 - l.toInt ≤ (zmax (u - zs1 (l + u)) (zs1 (l + u) - l)).toInt := by rw [e13]; split <;> omega
  have g4 : u.toInt - (l.toInt + u.toInt) / 2 ≤ (zmax (u - zs1 (l + u)) (zs1 (l + u) - l)).toInt := by rw [e13]; split <;> omega
  refine ⟨⟨?_, g1⟩, z1, z2, ?_⟩
  · exact mk_all (P := fun u => bnd u.toInt 144115188075855872) ⟨by omega, by omega⟩ (fun j hj => ⟨by decide, by decide⟩) ⟨by omega, by omega⟩ ⟨by omega, by omega⟩ ⟨by omega, by omega⟩
  · rw [dot_zero 12 (fun k hk => by show (fPl l u (k + 1)).toInt = 0; unfold fPl; rw [fMk_c hk]; exact kj0), Int.sub_zero]
    show bnd (Z - N * (zs1 (l + u)).toInt) (N * (zmax (u - zs1 (l + u)) (zs1 (l + u) - l)).toInt)
    rw [e1]
    have m1 := nn_mul (N := N) (by omega) g3
    have m2 := nn_mul (N := N) (by omega) g4
    rw [Int.mul_sub] at m1 m2
    exact ⟨by omega, by omega⟩
end
