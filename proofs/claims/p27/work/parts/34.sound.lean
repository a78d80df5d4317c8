/-! ===== ranges are right (1): whole numbers over a common denominator ===== -/
def bnd (x b : Int) : Prop := -b ≤ x ∧ x ≤ b
theorem bnd.mul {x y p q : Int} (h1 : bnd x p) (h2 : bnd y q) : bnd (x * y) (p * q) := by
  obtain ⟨a1, a2⟩ := h1
  obtain ⟨b1, b2⟩ := h2
  have h : (x * y).natAbs ≤ (p * q).natAbs := by
    rw [Int.natAbs_mul, Int.natAbs_mul]
    exact Nat.mul_le_mul (by omega) (by omega)
  have hp : 0 ≤ p * q := Int.mul_nonneg (by omega) (by omega)
  exact ⟨by omega, by omega⟩
theorem bnd.add {x y p q : Int} (h1 : bnd x p) (h2 : bnd y q) : bnd (x + y) (p + q) := ⟨by have := h1.1; have := h2.1; omega, by have := h1.2; have := h2.2; omega⟩
theorem bnd.le {x p q : Int} (h1 : bnd x p) (h : p ≤ q) : bnd x q := ⟨by have := h1.1; omega, by have := h1.2; omega⟩
theorem bnd.self {x : Int} (h : 0 ≤ x) : bnd x x := ⟨by omega, by omega⟩
theorem bnd.abs (x : Int) : bnd x (x.natAbs : Int) := ⟨by omega, by omega⟩
theorem bnd.neg {x p : Int} (h : bnd x p) : bnd (-x) p := ⟨by have := h.2; omega, by have := h.1; omega⟩
def dot (a E : Nat → Int) : Nat → Int
  | 0 => 0
  | n + 1 => dot a E n + a n * E n
def asum (a : Nat → Int) : Nat → Int
  | 0 => 0
  | n + 1 => asum a n + ((a n).natAbs : Int)
theorem asum_0 (a : Nat → Int) (n : Nat) : 0 ≤ asum a n := by
  induction n with
  | zero => exact Int.le_refl _
  | succ n ih => rw [asum]; omega
theorem dot_bd {a E : Nat → Int} {N : Int} (n : Nat) (h : ∀ k, k < n → bnd (E k) N) : bnd (dot a E n) (N * asum a n) := by
  induction n with
  | zero => rw [dot, asum, Int.mul_zero]; exact ⟨by omega, by omega⟩
  | succ n ih =>
    rw [dot, asum, Int.mul_add]
    refine (ih fun k hk => h k (by omega)).add ?_
    rw [Int.mul_comm N]
    exact (bnd.abs (a n)).mul (h n (by omega))
theorem dot_lin {a b E : Nat → Int} {c d : Int} (n : Nat) : dot (fun k => c * b k + d * a k) E n = c * dot b E n + d * dot a E n := by
  induction n with
  | zero => simp [dot]
  | succ n ih => simp only [dot]; rw [ih]; grind
theorem dot_ext {a b E E' : Nat → Int} (n : Nat) (h : ∀ k, k < n → a k = b k) (h2 : ∀ k, k < n → E k = E' k) : dot a E n = dot b E' n := by
  induction n with
  | zero => rfl
  | succ n ih => rw [dot, dot, ih (fun k hk => h k (by omega)) (fun k hk => h2 k (by omega)), h n (by omega), h2 n (by omega)]
theorem dot_sc {a E : Nat → Int} {t : Int} (n : Nat) : dot a (fun k => t * E k) n = t * dot a E n := by
  induction n with
  | zero => simp [dot]
  | succ n ih => simp only [dot]; rw [ih]; grind
theorem dot_dm {v E : Nat → Int} (n : Nat) : dot v E n = 256 * dot (fun k => v k / 256) E n + dot (fun k => v k % 256) E n := by
  induction n with
  | zero => rfl
  | succ n ih =>
    simp only [dot]
    have : v n = 256 * (v n / 256) + v n % 256 := by omega
    rw [ih]
    generalize v n / 256 = q at this
    generalize v n % 256 = r at this
    rw [this]
    grind
/-- how many of them aren't multiples -/
def cnt (m : Int) (v : Nat → Int) : Nat → Int
  | 0 => 0
  | n + 1 => cnt m v n + (if v n % m = 0 then 0 else 1)
theorem cnt_bd (v : Nat → Int) (n : Nat) : 0 ≤ cnt 256 v n ∧ cnt 256 v n ≤ n ∧ asum (fun k => v k % 256) n ≤ 256 * cnt 256 v n := by
  induction n with
  | zero => simp [cnt, asum]
  | succ n ih =>
    rw [cnt, asum]
    obtain ⟨h1, h2, h3⟩ := ih
    have h4 : 0 ≤ v n % 256 := by omega
    have h5 : v n % 256 < 256 := by omega
    split
    · rename_i h
      rw [h]
      exact ⟨by omega, by omega, by simp only [Int.natAbs_zero]; omega⟩
    · exact ⟨by omega, by omega, by omega⟩
theorem nn_mul {N x y : Int} (h : 0 ≤ N) (hxy : x ≤ y) : N * x ≤ N * y := Int.mul_le_mul_of_nonneg_left hxy h
/-- a product of forms holds the product of the numbers -/
theorem mul_core {a b E : Nat → Int} {c d e g r s N X Y : Int} (hN : 0 < N) (hE : ∀ k, k < 12 → bnd (E k) N) (hX : bnd (X - N * c - dot a E 12) (N * e)) (hY : bnd (Y - N * d - dot b E 12) (N * g)) (hXr : bnd (X - N * c) (N * r)) (hYs : bnd (Y - N * d) (N * s)) :
    bnd (X * Y - 256 * (N * N) * (c * d / 256) - 256 * N * dot (fun k => (c * b k + d * a k) / 256) E 12) (256 * (N * N) * (((c.natAbs : Int) * g + (d.natAbs : Int) * e + r * s + 255) / 256 + ((if c * d % 256 = 0 then 0 else 1) + cnt 256 (fun k => c * b k + d * a k) 12))) := by
  have e1 : c * d = 256 * (c * d / 256) + c * d % 256 := by omega
  have e2 := dot_lin (a := a) (b := b) (E := E) (c := c) (d := d) 12
  have e3 := dot_dm (v := fun k => c * b k + d * a k) (E := E) 12
  rw [e2] at e3
  have hc := cnt_bd (fun k => c * b k + d * a k) 12
  have hr := dot_bd (a := fun k => (c * b k + d * a k) % 256) (E := E) (N := N) 12 hE
  have hr0 : bnd (c * d % 256) (256 * (if c * d % 256 = 0 then 0 else 1)) := by
    split
    · rename_i h; rw [h]; exact ⟨by decide, by decide⟩
    · exact ⟨by omega, by omega⟩
  generalize hρ : asum (fun k => (c * b k + d * a k) % 256) 12 = ρ at hr hc
  generalize cnt 256 (fun k => c * b k + d * a k) 12 = K at hc ⊢
  generalize dot (fun k => (c * b k + d * a k) % 256) E 12 = R at hr e3
  generalize dot (fun k => (c * b k + d * a k) / 256) E 12 = D at e3 ⊢
  generalize dot a E 12 = A at hX e3
  generalize dot b E 12 = B at hY e3
  generalize (if c * d % 256 = 0 then (0 : Int) else 1) = i0 at hr0 ⊢
  generalize c * d % 256 = ρ0 at hr0 e1
  generalize c * d / 256 = C at e1 ⊢
  have h1 := ((bnd.self (Int.le_of_lt hN)).mul (bnd.abs c)).mul hY
  have h2 := ((bnd.self (Int.le_of_lt hN)).mul (bnd.abs d)).mul hX
  have h3 := hXr.mul hYs
  have hNN : 0 ≤ N * N := Int.mul_nonneg (by omega) (by omega)
  have h4 := (bnd.self hNN).mul hr0
  have h5 := (bnd.self (Int.le_of_lt hN)).mul hr
  have key : X * Y - 256 * (N * N) * C - 256 * N * D = N * N * ρ0 + N * R + (N * c * (Y - N * d - B) + N * d * (X - N * c - A) + (X - N * c) * (Y - N * d)) := by
    grind
  rw [key]
  refine ((h4.add h5).add ((h1.add h2).add h3)).le ?_
  have q1 : (c.natAbs : Int) * g + (d.natAbs : Int) * e + r * s ≤ 256 * (((c.natAbs : Int) * g + (d.natAbs : Int) * e + r * s + 255) / 256) := by omega
  generalize ((c.natAbs : Int) * g + (d.natAbs : Int) * e + r * s + 255) / 256 = T at q1 ⊢
  have q2 := nn_mul hNN (show (c.natAbs : Int) * g + (d.natAbs : Int) * e + r * s + 256 * i0 + ρ ≤ 256 * T + 256 * i0 + 256 * K by omega)
  have q3 : N * N * (256 * i0) + N * (N * ρ) + (N * (c.natAbs : Int) * (N * g) + N * (d.natAbs : Int) * (N * e) + N * r * (N * s)) = N * N * ((c.natAbs : Int) * g + (d.natAbs : Int) * e + r * s + 256 * i0 + ρ) := by grind
  have q4 : 256 * (N * N) * (T + (i0 + K)) = N * N * (256 * T + 256 * i0 + 256 * K) := by grind
  rw [q3, q4]
  exact q2
/-- the square likewise -/
theorem sq_core {a E : Nat → Int} {c e r N X : Int} (hN : 0 < N) (he : 0 ≤ e) (hE : ∀ k, k < 12 → bnd (E k) N) (hX : bnd (X - N * c - dot a E 12) (N * e)) (hXr : bnd (X - N * c) (N * r)) :
    bnd (X * X - 256 * (N * N) * ((2 * c * c + r * r) / 512) - 256 * N * dot (fun k => 2 * c * a k / 256) E 12) (256 * (N * N) * ((4 * (c.natAbs : Int) * e + r * r + 511) / 512 + ((if (2 * c * c + r * r) % 512 = 0 then 0 else 1) + cnt 256 (fun k => 2 * c * a k) 12))) := by
  have e1 : 2 * c * c + r * r = 512 * ((2 * c * c + r * r) / 512) + (2 * c * c + r * r) % 512 := by omega
  have e2 : dot (fun k => 2 * c * a k) E 12 = 2 * c * dot a E 12 := by
    have := dot_lin (a := fun _ => 0) (b := a) (E := E) (c := 2 * c) (d := 0) 12
    simpa using this
  have e3 := dot_dm (v := fun k => 2 * c * a k) (E := E) 12
  rw [e2] at e3
  have hc := cnt_bd (fun k => 2 * c * a k) 12
  have hr := dot_bd (a := fun k => (2 * c * a k) % 256) (E := E) (N := N) 12 hE
  have hr0 : bnd ((2 * c * c + r * r) % 512) (512 * (if (2 * c * c + r * r) % 512 = 0 then 0 else 1)) := by
    split
    · rename_i h; rw [h]; exact ⟨by decide, by decide⟩
    · exact ⟨by omega, by omega⟩
  generalize hρ : asum (fun k => (2 * c * a k) % 256) 12 = ρ at hr hc
  generalize cnt 256 (fun k => 2 * c * a k) 12 = K at hc ⊢
  generalize dot (fun k => (2 * c * a k) % 256) E 12 = R at hr e3
  generalize dot (fun k => (2 * c * a k) / 256) E 12 = D at e3 ⊢
  generalize dot a E 12 = A at hX e3
  generalize (if (2 * c * c + r * r) % 512 = 0 then (0 : Int) else 1) = i0 at hr0 ⊢
  generalize (2 * c * c + r * r) % 512 = ρ0 at hr0 e1
  generalize (2 * c * c + r * r) / 512 = C at e1 ⊢
  have hNN : 0 ≤ N * N := Int.mul_nonneg (by omega) (by omega)
  have h1 := ((bnd.self (Int.le_of_lt hN)).mul (bnd.abs c)).mul hX
  have h3 := hXr.mul hXr
  have h3p : 0 ≤ (X - N * c) * (X - N * c) := by
    rcases Int.le_total 0 (X - N * c) with h | h
    · exact Int.mul_nonneg h h
    · have := Int.mul_nonneg (show 0 ≤ -(X - N * c) by omega) (show 0 ≤ -(X - N * c) by omega)
      rwa [Int.neg_mul_neg] at this
  have h4 := (bnd.self hNN).mul hr0
  have h5 := (bnd.self (Int.le_of_lt hN)).mul hr
  have key : 2 * (X * X - 256 * (N * N) * C - 256 * N * D) = N * N * ρ0 + 2 * (N * R) + 4 * (N * c * (X - N * c - A)) + (2 * ((X - N * c) * (X - N * c)) - N * r * (N * r)) := by
    grind
  have hS : bnd (2 * ((X - N * c) * (X - N * c)) - N * r * (N * r)) (N * r * (N * r)) := ⟨by omega, by have := h3.2; omega⟩
  have q1 : 4 * (c.natAbs : Int) * e + r * r ≤ 512 * ((4 * (c.natAbs : Int) * e + r * r + 511) / 512) := by omega
  generalize (4 * (c.natAbs : Int) * e + r * r + 511) / 512 = T at q1 ⊢
  have q2 := nn_mul hNN (show 512 * i0 + 2 * ρ + (4 * (c.natAbs : Int) * e + r * r) ≤ 512 * T + 512 * i0 + 512 * K by omega)
  have q3 : N * N * (512 * i0) + 2 * (N * (N * ρ)) + 4 * (N * (c.natAbs : Int) * (N * e)) + N * r * (N * r) = N * N * (512 * i0 + 2 * ρ + (4 * (c.natAbs : Int) * e + r * r)) := by grind
  have q4 : 2 * (256 * (N * N) * (T + (i0 + K))) = N * N * (512 * T + 512 * i0 + 512 * K) := by grind
  have b1 := h1.1
  have b2 := h1.2
  have b3 := h4.1
  have b4 := h4.2
  have b5 := h5.1
  have b6 := h5.2
  have b7 := hS.1
  have b8 := hS.2
  refine ⟨?_, ?_⟩
  · omega
  · omega
/-- products stay between the products of ends -/
theorem lin_bd {a b x m : Int} (h1 : a ≤ x) (h2 : x ≤ b) : (a * m ≤ x * m ∧ x * m ≤ b * m) ∨ (b * m ≤ x * m ∧ x * m ≤ a * m) := by
  rcases Int.le_total 0 m with h | h
  · exact Or.inl ⟨Int.mul_le_mul_of_nonneg_right h1 h, Int.mul_le_mul_of_nonneg_right h2 h⟩
  · exact Or.inr ⟨Int.mul_le_mul_of_nonpos_right h2 h, Int.mul_le_mul_of_nonpos_right h1 h⟩
theorem box_bd {a b c d x y lo hi : Int} (h1 : a ≤ x) (h2 : x ≤ b) (h3 : c ≤ y) (h4 : y ≤ d) (p1 : lo ≤ a * c) (p2 : lo ≤ a * d) (p3 : lo ≤ b * c) (p4 : lo ≤ b * d) (q1 : a * c ≤ hi) (q2 : a * d ≤ hi) (q3 : b * c ≤ hi) (q4 : b * d ≤ hi) : lo ≤ x * y ∧ x * y ≤ hi := by
  have l1 := lin_bd (m := y) h1 h2
  have l2 := lin_bd (m := a) h3 h4
  have l3 := lin_bd (m := b) h3 h4
  rw [Int.mul_comm c a, Int.mul_comm d a, Int.mul_comm y a] at l2
  rw [Int.mul_comm c b, Int.mul_comm d b, Int.mul_comm y b] at l3
  omega
