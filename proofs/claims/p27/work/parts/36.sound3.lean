/-! ===== ranges are right (3): products, quotients, choices ===== -/
theorem zr8_i {v : Int64} : (zr8 v).toInt = if v.toInt % 256 = 0 then 0 else 1 := by unfold zr8; split <;> rfl
theorem zr9_i {v : Int64} : (zr9 v).toInt = if v.toInt % 512 = 0 then 0 else 1 := by unfold zr9; split <;> rfl
theorem fsum_i {h : Nat → Int64} {v : Nat → Int} {r : Int64} (hr : 0 ≤ r.toInt) (hr2 : r.toInt ≤ 1000) (n : Nat) (hn : n ≤ 12) (hv : ∀ k, k < n → (h k).toInt = if v k % 256 = 0 then 0 else 1) : (fsum h r n).toInt = r.toInt + cnt 256 v n := by
  induction n with
  | zero => rw [fsum, cnt, Int.add_zero]
  | succ n ih =>
    have hi := ih (by omega) (fun k hk => hv k (by omega))
    have hc := cnt_bd v n
    have hk := hv n (by omega)
    rw [fsum, cnt]
    rw [zj_add (by rw [hi, hk]; split <;> omega) (by rw [hi, hk]; split <;> omega), hi, hk]
    omega
theorem sndF.N0 {N Z : Int} {E : Nat → Int} {F : FF} (hE : ∀ s, s < 12 → bnd (E s) N) (hr : rawB F) (h : sndF N E Z F) : bnd (Z - N * (F 0).toInt) (N * (frad F 12).toInt) := by
  obtain ⟨e1, -⟩ := frad_i hr 12 (by omega)
  have hd := dot_bd (a := ic F) (E := E) (N := N) 12 hE
  rw [e1, Int.mul_add]
  have := h.2.2.add hd
  rw [Int.sub_add_cancel] at this
  exact this
theorem zabs_n {u : Int64} (h : -9223372036854775808 < u.toInt) : (zabs u).toInt = (u.toInt.natAbs : Int) := by
  rw [zabs_i h]
  split <;> omega
section
variable {N Zx Zy : Int} {E : Nat → Int} {x y : FF}
theorem bd_of {F : FF} (h : fBd F) {k : Nat} (hk : k < 16) : -1000000000 ≤ (F k).toInt ∧ (F k).toInt ≤ 1000000000 := h.1 k hk
theorem bd_raw {F : FF} (h : fBd F) : rawB F := ⟨fun k hk => by have := h.1 k hk; exact ⟨by omega, by omega⟩, h.2.1⟩
theorem op_mul (hN : 0 < N) (hE : ∀ s, s < 12 → bnd (E s) N) (hx : fBd x) (hy : fBd y) (sx : sndF N E Zx x) (sy : sndF N E Zy y) : opZ N E (256 * N) (Zx * Zy) (zi 0, fMul x (frad x 12) y (frad y 12)) := by
  intro _
  have xr := sx.N0 hE (bd_raw hx)
  have yr := sy.N0 hE (bd_raw hy)
  have b1 := mulB1 hx hy
  have b2 := mulB2 hx hy
  have x0 := bd_of hx (show 0 < 16 by omega)
  have y0 := bd_of hy (show 0 < 16 by omega)
  have x13 := bd_of hx (show 13 < 16 by omega)
  have y13 := bd_of hy (show 13 < 16 by omega)
  have x14 := bd_of hx (show 14 < 16 by omega)
  have y14 := bd_of hy (show 14 < 16 by omega)
  have x15 := bd_of hx (show 15 < 16 by omega)
  have y15 := bd_of hy (show 15 < 16 by omega)
  have p0 := zj_mulB x0.1 x0.2 y0.1 y0.2
  have pk : ∀ k, k < 12 → (x 0 * y (k + 1) + y 0 * x (k + 1)).toInt = (x 0).toInt * (y (k + 1)).toInt + (y 0).toInt * (x (k + 1)).toInt ∧ bnd (x 0 * y (k + 1) + y 0 * x (k + 1)).toInt 2000000000000000000 := by
    intro k hk
    have xk := bd_of hx (show k + 1 < 16 by omega)
    have yk := bd_of hy (show k + 1 < 16 by omega)
    have q1 := zj_mulB x0.1 x0.2 yk.1 yk.2
    have q2 := zj_mulB y0.1 y0.2 xk.1 xk.2
    have e : (x 0 * y (k + 1) + y 0 * x (k + 1)).toInt = (x 0 * y (k + 1)).toInt + (y 0 * x (k + 1)).toInt := zj_add (by omega) (by omega)
    exact ⟨by rw [e, q1.1, q2.1], by rw [e]; exact ⟨by omega, by omega⟩⟩
  have core := mul_core (a := ic x) (b := ic y) (E := E) (c := (x 0).toInt) (d := (y 0).toInt) (e := (x 13).toInt) (g := (y 13).toInt) (r := (frad x 12).toInt) (s := (frad y 12).toInt) hN hE sx.2.2 sy.2.2 xr yr
  -- the loose part
  have ha := zabs_n (u := x 0) (by omega)
  have hb := zabs_n (u := y 0) (by omega)
  have ax := zabs_B x0.1 x0.2
  have ay := zabs_B y0.1 y0.2
  have t1 := zj_mulB (u := zabs (x 0)) (v := y 13) (by omega) (by omega) y13.1 y13.2
  have t2 := zj_mulB (u := zabs (y 0)) (v := x 13) (by omega) (by omega) x13.1 x13.2
  have t3 := zj_mulB (u := frad x 12) (v := frad y 12) (by have := hx.2.2.1; omega) hx.2.2.2 (by have := hy.2.2.1; omega) hy.2.2.2
  have t4 : (zabs (x 0) * y 13 + zabs (y 0) * x 13).toInt = (zabs (x 0) * y 13).toInt + (zabs (y 0) * x 13).toInt := zj_add (by omega) (by omega)
  have t5 : (zabs (x 0) * y 13 + zabs (y 0) * x 13 + frad x 12 * frad y 12).toInt = ((x 0).toInt.natAbs : Int) * (y 13).toInt + ((y 0).toInt.natAbs : Int) * (x 13).toInt + (frad x 12).toInt * (frad y 12).toInt := by
    rw [zj_add (by omega) (by omega), t4, t1.1, t2.1, t3.1, ha, hb]
  have T0 : 0 ≤ ((x 0).toInt.natAbs : Int) * (y 13).toInt + ((y 0).toInt.natAbs : Int) * (x 13).toInt + (frad x 12).toInt * (frad y 12).toInt := by
    have q1 := Int.mul_nonneg (show 0 ≤ ((x 0).toInt.natAbs : Int) by omega) hy.2.1
    have q2 := Int.mul_nonneg (show 0 ≤ ((y 0).toInt.natAbs : Int) by omega) hx.2.1
    have q3 := Int.mul_nonneg hx.2.2.1 hy.2.2.1
    omega
  rw [t5] at b1
  have z8 := zu8_i (v := zabs (x 0) * y 13 + zabs (y 0) * x 13 + frad x 12 * frad y 12) (by rw [t5]; exact b1)
  rw [t5] at z8
  have hcnt := cnt_bd (fun k => (x 0).toInt * ic y k + (y 0).toInt * ic x k) 12
  have f1 : (fsum (fun j => zr8 (x 0 * y (j + 1) + y 0 * x (j + 1))) (zr8 (x 0 * y 0)) 12).toInt = (if (x 0).toInt * (y 0).toInt % 256 = 0 then 0 else 1) + cnt 256 (fun k => (x 0).toInt * ic y k + (y 0).toInt * ic x k) 12 := by
    have e0 : (zr8 (x 0 * y 0)).toInt = if (x 0).toInt * (y 0).toInt % 256 = 0 then 0 else 1 := by rw [zr8_i, p0.1]
    rw [fsum_i (v := fun k => (x 0).toInt * ic y k + (y 0).toInt * ic x k) (by rw [e0]; split <;> omega) (by rw [e0]; split <;> omega) 12 (by omega) (fun k hk => by rw [zr8_i, (pk k hk).1]; rfl), e0]
  have f2 : 0 ≤ (fsum (fun j => zr8 (x 0 * y (j + 1) + y 0 * x (j + 1))) (zr8 (x 0 * y 0)) 12).toInt ∧ (fsum (fun j => zr8 (x 0 * y (j + 1) + y 0 * x (j + 1))) (zr8 (x 0 * y 0)) 12).toInt ≤ 13 := by
    rw [f1]; split <;> omega
  have g13 : (zu8 (zabs (x 0) * y 13 + zabs (y 0) * x 13 + frad x 12 * frad y 12) + fsum (fun j => zr8 (x 0 * y (j + 1) + y 0 * x (j + 1))) (zr8 (x 0 * y 0)) 12).toInt = (((x 0).toInt.natAbs : Int) * (y 13).toInt + ((y 0).toInt.natAbs : Int) * (x 13).toInt + (frad x 12).toInt * (frad y 12).toInt + 255) / 256 + ((if (x 0).toInt * (y 0).toInt % 256 = 0 then 0 else 1) + cnt 256 (fun k => (x 0).toInt * ic y k + (y 0).toInt * ic x k) 12) := by
    rw [zj_add (by rw [z8]; omega) (by rw [z8]; omega), z8, f1]
  -- the plain range
  have m1 := zj_mulB x14.1 x14.2 y14.1 y14.2
  have m2 := zj_mulB x14.1 x14.2 y15.1 y15.2
  have m3 := zj_mulB x15.1 x15.2 y14.1 y14.2
  have m4 := zj_mulB x15.1 x15.2 y15.1 y15.2
  have gmin : ∀ w : Int, w = (zmin (zmin (x 14 * y 14) (x 14 * y 15)) (zmin (x 15 * y 14) (x 15 * y 15))).toInt → w ≤ (x 14).toInt * (y 14).toInt ∧ w ≤ (x 14).toInt * (y 15).toInt ∧ w ≤ (x 15).toInt * (y 14).toInt ∧ w ≤ (x 15).toInt * (y 15).toInt ∧ -1000000000000000000 ≤ w := by
    intro w hw
    rw [zmin_i, zmin_i, zmin_i] at hw
    rw [← m1.1, ← m2.1, ← m3.1, ← m4.1]
    revert hw
    repeat' split
    all_goals omega
  have gmax : ∀ w : Int, w = (zmax (zmax (x 14 * y 14) (x 14 * y 15)) (zmax (x 15 * y 14) (x 15 * y 15))).toInt → (x 14).toInt * (y 14).toInt ≤ w ∧ (x 14).toInt * (y 15).toInt ≤ w ∧ (x 15).toInt * (y 14).toInt ≤ w ∧ (x 15).toInt * (y 15).toInt ≤ w ∧ w ≤ 1000000000000000000 := by
    intro w hw
    rw [zmax_i, zmax_i, zmax_i] at hw
    rw [← m1.1, ← m2.1, ← m3.1, ← m4.1]
    revert hw
    repeat' split
    all_goals omega
  obtain ⟨i1, i2, i3, i4, i5⟩ := gmin _ rfl
  obtain ⟨j1, j2, j3, j4, j5⟩ := gmax _ rfl
  have zl := zs8_i (zmin (zmin (x 14 * y 14) (x 14 * y 15)) (zmin (x 15 * y 14) (x 15 * y 15)))
  have zh := zu8_i (v := zmax (zmax (x 14 * y 14) (x 14 * y 15)) (zmax (x 15 * y 14) (x 15 * y 15))) b2
  have hNN : 0 ≤ N * N := Int.mul_nonneg (by omega) (by omega)
  have e : ∀ a b : Int, N * a * (N * b) = N * N * (a * b) := fun a b => by grind
  have key := box_bd (lo := N * N * (zmin (zmin (x 14 * y 14) (x 14 * y 15)) (zmin (x 15 * y 14) (x 15 * y 15))).toInt) (hi := N * N * (zmax (zmax (x 14 * y 14) (x 14 * y 15)) (zmax (x 15 * y 14) (x 15 * y 15))).toInt) sx.1 sx.2.1 sy.1 sy.2.1 (by rw [e]; exact nn_mul hNN i1) (by rw [e]; exact nn_mul hNN i2) (by rw [e]; exact nn_mul hNN i3) (by rw [e]; exact nn_mul hNN i4) (by rw [e]; exact nn_mul hNN j1) (by rw [e]; exact nn_mul hNN j2) (by rw [e]; exact nn_mul hNN j3) (by rw [e]; exact nn_mul hNN j4)
  refine ⟨⟨?_, ?_⟩, ?_, ?_, ?_⟩
  · refine mk_all (P := fun u => bnd u.toInt 144115188075855872) ?_ (fun k hk => ?_) ?_ ?_ ?_
    · rw [zs8_i]; exact ⟨by omega, by omega⟩
    · have := (pk k hk).2; rw [zs8_i]; obtain ⟨c1, c2⟩ := this; exact ⟨by omega, by omega⟩
    · rw [g13]
      rw [f1] at f2
      exact ⟨by omega, by omega⟩
    · rw [zl]
      have : (zmin (zmin (x 14 * y 14) (x 14 * y 15)) (zmin (x 15 * y 14) (x 15 * y 15))).toInt ≤ 1000000000000000000 := by omega
      exact ⟨by omega, by omega⟩
    · rw [zh]
      have : -1000000000000000000 ≤ (zmax (zmax (x 14 * y 14) (x 14 * y 15)) (zmax (x 15 * y 14) (x 15 * y 15))).toInt := by omega
      exact ⟨by omega, by omega⟩
  · show 0 ≤ (zu8 _ + fsum _ _ 12).toInt
    rw [g13]
    rw [f1] at f2
    omega
  · show 256 * N * N * (zs8 _).toInt ≤ _
    rw [zl]
    refine Int.le_trans ?_ key.1
    have e2 : 256 * N * N * ((zmin (zmin (x 14 * y 14) (x 14 * y 15)) (zmin (x 15 * y 14) (x 15 * y 15))).toInt / 256) = N * N * (256 * ((zmin (zmin (x 14 * y 14) (x 14 * y 15)) (zmin (x 15 * y 14) (x 15 * y 15))).toInt / 256)) := by grind
    rw [e2]
    exact nn_mul hNN (by omega)
  · show _ ≤ 256 * N * N * (zu8 _).toInt
    rw [zh]
    refine Int.le_trans key.2 ?_
    have e2 : 256 * N * N * (((zmax (zmax (x 14 * y 14) (x 14 * y 15)) (zmax (x 15 * y 14) (x 15 * y 15))).toInt + 255) / 256) = N * N * (256 * (((zmax (zmax (x 14 * y 14) (x 14 * y 15)) (zmax (x 15 * y 14) (x 15 * y 15))).toInt + 255) / 256)) := by grind
    rw [e2]
    exact nn_mul hNN (by omega)
  · show bnd (_ - 256 * N * N * (zs8 _).toInt - _) (256 * N * N * (zu8 _ + fsum _ _ 12).toInt)
    rw [g13, zs8_i, p0.1, dot_sc]
    have e3 : dot (ic (fMul x (frad x 12) y (frad y 12))) E 12 = dot (fun k => ((x 0).toInt * ic y k + (y 0).toInt * ic x k) / 256) E 12 := by
      refine dot_ext 12 (fun k hk => ?_) (fun _ _ => rfl)
      show (fMul x (frad x 12) y (frad y 12) (k + 1)).toInt = _
      unfold fMul
      rw [fMk_c hk, zs8_i, (pk k hk).1]
      rfl
    rw [e3, Int.mul_assoc 256 N N]
    exact core
end
