/-! ===== ranges are right (4): squares, quotients, roots, choices ===== -/
theorem sq_nn (a : Int) : 0 ≤ a * a := by
  rcases Int.le_total 0 a with h | h
  · exact Int.mul_nonneg h h
  · have := Int.mul_nonneg (show 0 ≤ -a by omega) (show 0 ≤ -a by omega)
    rwa [Int.neg_mul_neg] at this
theorem sq_le_neg {a b : Int} (h0 : b ≤ 0) (h : a ≤ b) : b * b ≤ a * a := by
  have := sq_le (a := -b) (b := -a) (by omega) (by omega)
  rwa [Int.neg_mul_neg, Int.neg_mul_neg] at this
section
variable {N Zx Zy : Int} {E : Nat → Int} {x y : FF}
theorem op_sq (hN : 0 < N) (hE : ∀ s, s < 12 → bnd (E s) N) (hx : fBd x) (sx : sndF N E Zx x) : opZ N E (256 * N) (Zx * Zx) (zi 0, fSq x (frad x 12)) := by
  intro _
  have xr := sx.N0 hE (bd_raw hx)
  have b1 := sqB1 hx
  have b2 := sqB2 hx
  have x0 := bd_of hx (show 0 < 16 by omega)
  have x13 := bd_of hx (show 13 < 16 by omega)
  have x14 := bd_of hx (show 14 < 16 by omega)
  have x15 := bd_of hx (show 15 < 16 by omega)
  have hr0 := hx.2.2.1
  have hr1 := hx.2.2.2
  have k2 : (2 : Int64).toInt = 2 := by decide
  have k4 : (4 : Int64).toInt = 4 := by decide
  have c2 : (2 * x 0).toInt = 2 * (x 0).toInt := by rw [zj_mul (by rw [k2]; omega) (by rw [k2]; omega), k2]
  have sb0 := mul_bd x0.1 x0.2 x0.1 x0.2
  have cc : (2 * x 0 * x 0).toInt = 2 * (x 0).toInt * (x 0).toInt := by
    rw [zj_mul (by rw [c2, Int.mul_assoc]; omega) (by rw [c2, Int.mul_assoc]; omega), c2]
  have rr := zj_mulB (u := frad x 12) (v := frad x 12) (by omega) hr1 (by omega) hr1
  have ct : (2 * x 0 * x 0 + frad x 12 * frad x 12).toInt = 2 * (x 0).toInt * (x 0).toInt + (frad x 12).toInt * (frad x 12).toInt := by
    have : 2 * (x 0).toInt * (x 0).toInt = 2 * ((x 0).toInt * (x 0).toInt) := Int.mul_assoc _ _ _
    rw [zj_add (by omega) (by omega), cc, rr.1]
  have pk : ∀ k, k < 12 → (2 * x 0 * x (k + 1)).toInt = 2 * (x 0).toInt * (x (k + 1)).toInt ∧ bnd (2 * x 0 * x (k + 1)).toInt 2000000000000000000 := by
    intro k hk
    have xk := bd_of hx (show k + 1 < 16 by omega)
    have q := mul_bd x0.1 x0.2 xk.1 xk.2
    have e : (2 * x 0 * x (k + 1)).toInt = 2 * (x 0).toInt * (x (k + 1)).toInt := by
      rw [zj_mul (by rw [c2, Int.mul_assoc]; omega) (by rw [c2, Int.mul_assoc]; omega), c2]
    have e2 : 2 * (x 0).toInt * (x (k + 1)).toInt = 2 * ((x 0).toInt * (x (k + 1)).toInt) := Int.mul_assoc _ _ _
    exact ⟨e, by rw [e, e2]; exact ⟨by omega, by omega⟩⟩
  have core := sq_core (a := ic x) (E := E) (c := (x 0).toInt) (e := (x 13).toInt) (r := (frad x 12).toInt) hN hx.2.1 hE sx.2.2 xr
  have ha := zabs_n (u := x 0) (by omega)
  have ax := zabs_B x0.1 x0.2
  have a4 : (4 * zabs (x 0)).toInt = 4 * ((x 0).toInt.natAbs : Int) := by rw [zj_mul (by rw [k4]; omega) (by rw [k4]; omega), k4, ha]
  have pb := mul_bd (a := ((x 0).toInt.natAbs : Int)) (b := (x 13).toInt) (by omega) (by omega) x13.1 x13.2
  have a5 : (4 * zabs (x 0) * x 13).toInt = 4 * ((x 0).toInt.natAbs : Int) * (x 13).toInt := by
    rw [zj_mul (by rw [a4, Int.mul_assoc]; omega) (by rw [a4, Int.mul_assoc]; omega), a4]
  have a6 : 4 * ((x 0).toInt.natAbs : Int) * (x 13).toInt = 4 * (((x 0).toInt.natAbs : Int) * (x 13).toInt) := Int.mul_assoc _ _ _
  have t5 : (4 * zabs (x 0) * x 13 + frad x 12 * frad x 12).toInt = 4 * ((x 0).toInt.natAbs : Int) * (x 13).toInt + (frad x 12).toInt * (frad x 12).toInt := by
    rw [zj_add (by omega) (by omega), a5, rr.1]
  have T0 : 0 ≤ 4 * ((x 0).toInt.natAbs : Int) * (x 13).toInt + (frad x 12).toInt * (frad x 12).toInt := by
    have q1 := Int.mul_nonneg (show 0 ≤ ((x 0).toInt.natAbs : Int) by omega) hx.2.1
    have q3 := sq_nn (frad x 12).toInt
    omega
  rw [t5] at b1
  have z9 := zu9_i (v := 4 * zabs (x 0) * x 13 + frad x 12 * frad x 12) (by rw [t5]; exact b1)
  rw [t5] at z9
  have hcnt := cnt_bd (fun k => 2 * (x 0).toInt * ic x k) 12
  have f1 : (fsum (fun j => zr8 (2 * x 0 * x (j + 1))) (zr9 (2 * x 0 * x 0 + frad x 12 * frad x 12)) 12).toInt = (if (2 * (x 0).toInt * (x 0).toInt + (frad x 12).toInt * (frad x 12).toInt) % 512 = 0 then 0 else 1) + cnt 256 (fun k => 2 * (x 0).toInt * ic x k) 12 := by
    have e0 : (zr9 (2 * x 0 * x 0 + frad x 12 * frad x 12)).toInt = if (2 * (x 0).toInt * (x 0).toInt + (frad x 12).toInt * (frad x 12).toInt) % 512 = 0 then 0 else 1 := by rw [zr9_i, ct]
    rw [fsum_i (v := fun k => 2 * (x 0).toInt * ic x k) (by rw [e0]; split <;> omega) (by rw [e0]; split <;> omega) 12 (by omega) (fun k hk => by rw [zr8_i, (pk k hk).1]; rfl), e0]
  have f2 : 0 ≤ (fsum (fun j => zr8 (2 * x 0 * x (j + 1))) (zr9 (2 * x 0 * x 0 + frad x 12 * frad x 12)) 12).toInt ∧ (fsum (fun j => zr8 (2 * x 0 * x (j + 1))) (zr9 (2 * x 0 * x 0 + frad x 12 * frad x 12)) 12).toInt ≤ 13 := by
    rw [f1]; split <;> omega
  have g13 : (zu9 (4 * zabs (x 0) * x 13 + frad x 12 * frad x 12) + fsum (fun j => zr8 (2 * x 0 * x (j + 1))) (zr9 (2 * x 0 * x 0 + frad x 12 * frad x 12)) 12).toInt = (4 * ((x 0).toInt.natAbs : Int) * (x 13).toInt + (frad x 12).toInt * (frad x 12).toInt + 511) / 512 + ((if (2 * (x 0).toInt * (x 0).toInt + (frad x 12).toInt * (frad x 12).toInt) % 512 = 0 then 0 else 1) + cnt 256 (fun k => 2 * (x 0).toInt * ic x k) 12) := by
    rw [zj_add (by rw [z9]; omega) (by rw [z9]; omega), z9, f1]
  have m1 := zj_mulB x14.1 x14.2 x14.1 x14.2
  have m4 := zj_mulB x15.1 x15.2 x15.1 x15.2
  have s1 := sq_nn (x 14).toInt
  have s2 := sq_nn (x 15).toInt
  have hNN : 0 ≤ N * N := Int.mul_nonneg (by omega) (by omega)
  have e : ∀ a : Int, N * a * (N * a) = N * N * (a * a) := fun a => by grind
  have zl := zs8_i (zmin (x 14 * x 14) (x 15 * x 15))
  have zh := zu8_i (v := zmax (x 14 * x 14) (x 15 * x 15)) b2
  have wmin : (zmin (x 14 * x 14) (x 15 * x 15)).toInt ≤ (x 14).toInt * (x 14).toInt ∧ (zmin (x 14 * x 14) (x 15 * x 15)).toInt ≤ (x 15).toInt * (x 15).toInt ∧ 0 ≤ (zmin (x 14 * x 14) (x 15 * x 15)).toInt := by
    rw [zmin_i, m1.1, m4.1]; split <;> omega
  have wmax : (x 14).toInt * (x 14).toInt ≤ (zmax (x 14 * x 14) (x 15 * x 15)).toInt ∧ (x 15).toInt * (x 15).toInt ≤ (zmax (x 14 * x 14) (x 15 * x 15)).toInt ∧ (zmax (x 14 * x 14) (x 15 * x 15)).toInt ≤ 1000000000000000000 := by
    rw [zmax_i, m1.1, m4.1]; split <;> omega
  have upp : Zx * Zx ≤ N * N * (zmax (x 14 * x 14) (x 15 * x 15)).toInt := by
    rcases Int.le_total 0 Zx with h | h
    · refine Int.le_trans (sq_le h sx.2.1) ?_
      rw [e]; exact nn_mul hNN wmax.2.1
    · refine Int.le_trans (sq_le_neg h sx.1) ?_
      rw [e]; exact nn_mul hNN wmax.1
  have F14 : ∃ w : Int, (if 0 < x 14 then zs8 (zmin (x 14 * x 14) (x 15 * x 15)) else if x 15 < 0 then zs8 (zmin (x 14 * x 14) (x 15 * x 15)) else 0).toInt = w ∧ 0 ≤ w ∧ w ≤ 1000000000000000000 ∧ 256 * N * N * w ≤ Zx * Zx := by
    have e2 : ∀ q : Int, 256 * N * N * q = N * N * (256 * q) := fun q => by grind
    by_cases h1 : 0 < x 14
    · rw [if_pos h1, zl]
      rw [zj_lt, kj0] at h1
      refine ⟨_, rfl, by omega, by omega, ?_⟩
      rw [e2]
      refine Int.le_trans (nn_mul hNN (show 256 * ((zmin (x 14 * x 14) (x 15 * x 15)).toInt / 256) ≤ (x 14).toInt * (x 14).toInt by omega)) ?_
      rw [← e]
      exact sq_le (Int.mul_nonneg (by omega) (by omega)) sx.1
    · rw [if_neg h1]
      by_cases h2 : x 15 < 0
      · rw [if_pos h2, zl]
        rw [zj_lt, kj0] at h2
        refine ⟨_, rfl, by omega, by omega, ?_⟩
        rw [e2]
        refine Int.le_trans (nn_mul hNN (show 256 * ((zmin (x 14 * x 14) (x 15 * x 15)).toInt / 256) ≤ (x 15).toInt * (x 15).toInt by omega)) ?_
        rw [← e]
        exact sq_le_neg (by have := Int.mul_nonneg (show 0 ≤ N by omega) (show 0 ≤ -(x 15).toInt by omega); rw [Int.mul_neg] at this; omega) sx.2.1
      · rw [if_neg h2]
        exact ⟨0, rfl, by omega, by omega, by rw [Int.mul_zero]; exact sq_nn Zx⟩
  obtain ⟨w, w1, w2, w3, w4⟩ := F14
  refine ⟨⟨?_, ?_⟩, ?_, ?_, ?_⟩
  · refine mk_all (P := fun u => bnd u.toInt 144115188075855872) ?_ (fun k hk => ?_) ?_ ?_ ?_
    · rw [zs9_i, ct]
      have : 2 * (x 0).toInt * (x 0).toInt = 2 * ((x 0).toInt * (x 0).toInt) := Int.mul_assoc _ _ _
      exact ⟨by omega, by omega⟩
    · have := (pk k hk).2; rw [zs8_i]; obtain ⟨c1, c2⟩ := this; exact ⟨by omega, by omega⟩
    · rw [g13]
      rw [f1] at f2
      exact ⟨by omega, by omega⟩
    · rw [w1, ← w1]
      have b : ∀ q : Int64, q.toInt = w → (q = zs8 (zmin (x 14 * x 14) (x 15 * x 15)) ∨ q = 0) → bnd q.toInt 144115188075855872 := by
        intro q _ h
        rcases h with h | h
        · rw [h, zl]
          have : (zmin (x 14 * x 14) (x 15 * x 15)).toInt ≤ 1000000000000000000 := by omega
          exact ⟨by omega, by omega⟩
        · rw [h]; exact ⟨by decide, by decide⟩
      refine b _ w1 ?_
      split
      · exact Or.inl rfl
      · split
        · exact Or.inl rfl
        · exact Or.inr rfl
    · rw [zh]; exact ⟨by omega, by omega⟩
  · show 0 ≤ (zu9 _ + fsum _ _ 12).toInt
    rw [g13]
    rw [f1] at f2
    omega
  · show 256 * N * N * (ite _ _ _ : Int64).toInt ≤ _
    rw [w1]
    exact w4
  · show _ ≤ 256 * N * N * (zu8 _).toInt
    rw [zh]
    refine Int.le_trans upp ?_
    have e2 : 256 * N * N * (((zmax (x 14 * x 14) (x 15 * x 15)).toInt + 255) / 256) = N * N * (256 * (((zmax (x 14 * x 14) (x 15 * x 15)).toInt + 255) / 256)) := by grind
    rw [e2]
    exact nn_mul hNN (by omega)
  · show bnd (_ - 256 * N * N * (zs9 _).toInt - _) (256 * N * N * (zu9 _ + fsum _ _ 12).toInt)
    rw [g13, zs9_i, ct, dot_sc]
    have e3 : dot (ic (fSq x (frad x 12))) E 12 = dot (fun k => 2 * (x 0).toInt * ic x k / 256) E 12 := by
      refine dot_ext 12 (fun k hk => ?_) (fun _ _ => rfl)
      show (fSq x (frad x 12) (k + 1)).toInt = _
      unfold fSq
      rw [fMk_c hk, zs8_i, (pk k hk).1]
      rfl
    rw [e3, Int.mul_assoc 256 N N]
    exact core
end
