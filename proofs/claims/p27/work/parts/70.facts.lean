/-! ===== facts about forms that the law asks for ===== -/
def whyOk (x : Int32) : Prop := x = zi 0 ∨ x = zi 1 ∨ x = zi 2 ∨ x = zi 3
def cz (s : Nat) (F : FF) : Prop := F (s + 1) = 0
section
variable {x y F : FF} {l u' a b m n' : Int64} {s n d u i k t : Nat} {e e1 e2 : En} {lo hi V : Nat → Int32} {K : Nat → Nat} {v : Int32} {E : Nat → En}
theorem zs8_0 : zs8 0 = 0 := by decide
theorem cz_pl (hs : s < 12) : cz s (fPl l u') := by unfold cz fPl; rw [fMk_c hs]
theorem cz_add (hs : s < 12) (h1 : cz s x) (h2 : cz s y) : cz s (fAdd x y) := by
  unfold cz at *; unfold fAdd; rw [fMk_c hs, h1, h2]; rfl
theorem cz_sub (hs : s < 12) (h1 : cz s x) (h2 : cz s y) : cz s (fSub x y) := by
  unfold cz at *; unfold fSub; rw [fMk_c hs, h1, h2]; rfl
theorem cz_neg (hs : s < 12) (h1 : cz s x) : cz s (fNeg x) := by
  unfold cz at *; unfold fNeg; rw [fMk_c hs, h1]; rfl
theorem cz_mul (hs : s < 12) (h1 : cz s x) (h2 : cz s y) : cz s (fMul x a y b) := by
  unfold cz at *; unfold fMul; rw [fMk_c hs, h1, h2, Int64.mul_zero, Int64.mul_zero]; rfl
theorem cz_sq (hs : s < 12) (h1 : cz s x) : cz s (fSq x a) := by
  unfold cz at *; unfold fSq; rw [fMk_c hs, h1, Int64.mul_zero]; rfl
theorem cz_num (hs : s < 12) : cz s (fNum v) := by unfold cz fNum; rw [fMk_c hs]
theorem cz_nm (hs : s < 12) (h : ¬ t = s) (h1 : cz s x) : cz s (fNm x t) := by
  unfold cz at *; unfold fNm; rw [fMk_c hs, if_neg (fun q => h q.symm), h1]
theorem cz_cd (hs : s < 12) (h1 : cz s x) : cz s (fCd x a t) := by
  unfold cz at *; unfold fCd; rw [fMk_c hs]
  split
  · rfl
  · exact h1
theorem cz_abs (hs : s < 12) (h1 : cz s x) : cz s (fAbs x l u') := by
  unfold fAbs
  split
  · exact h1
  · split
    · exact cz_neg hs h1
    · exact cz_pl hs
theorem cz_lea (hs : s < 12) (h1 : cz s x) (h2 : cz s y) : cz s (fLea x l u' y m n') := by
  unfold fLea
  split
  · exact h1
  · split
    · exact h2
    · exact cz_pl hs
theorem cz_gre (hs : s < 12) (h1 : cz s x) (h2 : cz s y) : cz s (fGre x l u' y m n') := by
  unfold fGre
  split
  · exact h1
  · split
    · exact h2
    · exact cz_pl hs
theorem cz_uop (hs : s < 12) (h1 : cz s e.2) : cz s (uop n e).2 := by
  unfold uop
  split
  · split
    · exact cz_neg hs h1
    · split
      · exact cz_sq hs h1
      · split
        · exact cz_abs hs h1
        · split
          · exact h1
          · exact cz_pl hs
  · exact h1
theorem cz_bop (hs : s < 12) (h1 : cz s e1.2) (h2 : cz s e2.2) : cz s (bop n e1 e2).2 := by
  unfold bop
  split
  · split
    · split
      · exact cz_add hs h1 h2
      · split
        · exact cz_sub hs h1 h2
        · split
          · exact cz_mul hs h1 h2
          · split
            · split
              · exact h1
              · exact cz_mul hs h1 (cz_pl hs)
            · split
              · exact cz_lea hs h1 h2
              · exact cz_gre hs h1 h2
    · exact h2
  · exact h1
theorem cz_mkE (hs : s < 12) (hE : ∀ j, cz s (E j).2) (hk : 1 ≤ n → n < 5 → ¬ n - 1 = s) : cz s (mkE lo hi n v d E).2 := by
  unfold mkE
  split
  · exact cz_num hs
  · split
    · rename_i h0 h5
      exact cz_nm hs (hk (by omega) h5) (cz_pl hs)
    · split
      · exact hE _
      · split
        · exact cz_uop hs (hE _)
        · exact cz_bop hs (hE _) (hE _)
theorem cz_stE (hs : s < 12) (hE : ∀ j, cz s (E j).2) (hk : 1 ≤ n → n < 5 → ¬ n - 1 = s) (hu : s < 4 ∨ 4 + u ≤ s) : ∀ j, cz s (stE lo hi u n v d E j).2 := by
  have hm := cz_mkE (lo := lo) (hi := hi) (v := v) (d := d) hs hE hk
  have hf : cz s (fin (mkE lo hi n v d E)).2 := by
    unfold fin
    split
    · exact hm
    · exact hm
  have hP : ∀ x j, cz s (stP E x (fin (mkE lo hi n v d E)) j).2 := fun x j => by
    unfold stP
    split
    · exact hf
    · exact hE j
  intro j
  unfold stE
  split
  · rename_i c
    have hN : ∀ (S : Nat → En) (D : Nat), (∀ j, cz s (S j).2) → cz s (nmS S D u j).2 := fun S D hS => by
      have h4 := chs_ge (fun s => wsm S s D) (u - 1)
      have h5 := chs_lt (fun s => wsm S s D) (u - 1)
      have hu1 : 1 ≤ u := c.2.2.2
      unfold nmS
      split
      · exact cz_nm hs (by omega) (cz_cd hs (hS j))
      · exact cz_cd hs (hS j)
    exact hN _ _ (hP _)
  · exact hP _ j
/-- a symbol that isn't used has no coefficient -/
theorem cz_stk (hs : s < 12) (hu : s < 4 ∨ 4 + u ≤ s) (n : Nat) : (∀ i, i < n → 1 ≤ K i → K i < 5 → ¬ K i - 1 = s) → ∀ j, cz s (stk lo hi u K V n j).2 := by
  induction n with
  | zero => intro _ j; rfl
  | succ n ih =>
    intro h j
    exact cz_stE hs (ih fun i hi => h i (by omega)) (h n (by omega)) hu j
theorem wy_uop (h : whyOk e.1) : whyOk (uop n e).1 := by
  unfold uop
  split
  · split
    · exact Or.inl rfl
    · split
      · exact Or.inl rfl
      · split
        · exact Or.inl rfl
        · split
          · exact Or.inr (Or.inr (Or.inl rfl))
          · exact Or.inl rfl
  · exact h
theorem wy_bop (h1 : whyOk e1.1) (h2 : whyOk e2.1) : whyOk (bop n e1 e2).1 := by
  unfold bop
  split
  · split
    · split
      · exact Or.inl rfl
      · split
        · exact Or.inl rfl
        · split
          · exact Or.inl rfl
          · split
            · split
              · exact Or.inr (Or.inl rfl)
              · exact Or.inl rfl
            · split
              · exact Or.inl rfl
              · exact Or.inl rfl
    · exact h2
  · exact h1
theorem wy_mkE (hE : ∀ j, whyOk (E j).1) : whyOk (mkE lo hi n v d E).1 := by
  unfold mkE
  split
  · exact Or.inl rfl
  · split
    · exact Or.inl rfl
    · split
      · exact hE _
      · split
        · exact wy_uop (hE _)
        · exact wy_bop (hE _) (hE _)
theorem nm_1 {S : Nat → En} {D j : Nat} : (nmS S D u j).1 = (S j).1 := by
  unfold nmS
  split <;> rfl
theorem wy_stE (hE : ∀ j, whyOk (E j).1) : ∀ j, whyOk (stE lo hi u n v d E j).1 := by
  have hf : whyOk (fin (mkE lo hi n v d E)).1 := by
    unfold fin
    split
    · exact Or.inr (Or.inr (Or.inr rfl))
    · exact wy_mkE hE
  have hP : ∀ x j, whyOk (stP E x (fin (mkE lo hi n v d E)) j).1 := fun x j => by
    unfold stP
    split
    · exact hf
    · exact hE j
  intro j
  unfold stE
  split
  · rw [nm_1]; exact hP _ j
  · exact hP _ j
theorem wy_stk (n : Nat) : ∀ j, whyOk (stk lo hi u K V n j).1 := by
  induction n with
  | zero => intro j; exact Or.inl rfl
  | succ n ih => exact wy_stE ih
theorem wy_top : whyOk (topE lo hi u K V n).1 := wy_stk n _
theorem wy_pos (h : whyOk v) : (v ≤ zi 0) = (v = zi 0) := by
  rcases h with rfl | rfl | rfl | rfl <;> decide
/-- an entry stays wild while others are made above it -/
theorem wild_keep (hi0 : i < d - opn n) : (stE lo hi u n v d E i).1 = (E i).1 := by
  have hP : (stP E (d - opn n) (fin (mkE lo hi n v d E)) i).1 = (E i).1 := by
    unfold stP
    rw [if_neg (by omega)]
  unfold stE
  split
  · rw [nm_1]; exact hP
  · exact hP
end
section
variable {lo hi V1 V2 : Nat → Int32} {K1 K2 : Nat → Nat} {n1 n2 u : Nat}
theorem cmp_keep (y1 : wfX K2 n2) (w3 : dep K1 n1 = 1) (j : Nat) : j ≤ n2 → (stk lo hi u (catK K1 K2 n1 n2) (catV V1 V2 n1 n2) (n1 + j) 0).1 = (topE lo hi u K1 V1 n1).1 := by
  induction j with
  | zero =>
    intro _
    have : stk lo hi u (catK K1 K2 n1 n2) (catV V1 V2 n1 n2) n1 = stk lo hi u K1 V1 n1 := stk_ext (lo' := lo) (hi' := hi) (fun i hi => catK_1 hi) (fun i hi => catV_1 hi)
    rw [Nat.add_zero, this]
    unfold topE
    rw [w3]
  | succ j ih =>
    intro hj
    have hd := cat_d2 (K1 := K1) (n1 := n1) y1 j (by omega)
    obtain ⟨q1, q2, q3, q4⟩ := y1 j (by omega)
    rw [show n1 + (j + 1) = (n1 + j) + 1 by omega, stk, wild_keep (by rw [catK_2 (by omega), hd, w3]; omega)]
    exact ih (by omega)
/-- a difference with a wild form is wild -/
theorem cmp_wild (y1 : wfX K2 n2) (w3 : dep K1 n1 = 1) (y3 : dep K2 n2 = 1) (hw : ¬ (topE lo hi u K1 V1 n1).1 = zi 0) : ¬ (topE lo hi u (catK K1 K2 n1 n2) (catV V1 V2 n1 n2) (n1 + n2 + 1)).1 = zi 0 := by
  have hk := cmp_keep (lo := lo) (hi := hi) (u := u) (V1 := V1) (V2 := V2) (K1 := K1) (n1 := n1) y1 w3 n2 (Nat.le_refl _)
  have dd : dep (catK K1 K2 n1 n2) (n1 + n2) = 2 := by rw [cat_d2 y1 n2 (Nat.le_refl _), w3, y3]
  have e6 : dep (catK K1 K2 n1 n2) (n1 + n2 + 1) = 1 := by rw [dep, dd, catK_3]; rfl
  unfold topE
  rw [e6, stk, catK_3, catV_3, dd]
  have em : mkE lo hi 6 (zi 0) 2 (stk lo hi u (catK K1 K2 n1 n2) (catV V1 V2 n1 n2) (n1 + n2)) = stk lo hi u (catK K1 K2 n1 n2) (catV V1 V2 n1 n2) (n1 + n2) 0 := by
    show bop 6 (stk lo hi u (catK K1 K2 n1 n2) (catV V1 V2 n1 n2) (n1 + n2) 0) (stk lo hi u (catK K1 K2 n1 n2) (catV V1 V2 n1 n2) (n1 + n2) 1) = _
    unfold bop
    rw [if_neg (by rw [hk]; exact hw)]
  show ¬ (stE lo hi u 6 (zi 0) 2 _ 0).1 = zi 0
  unfold stE
  rw [em, if_neg (fun q => by omega)]
  have hf : (fin (stk lo hi u (catK K1 K2 n1 n2) (catV V1 V2 n1 n2) (n1 + n2) 0)).1 = (topE lo hi u K1 V1 n1).1 := by
    unfold fin
    rw [if_neg (fun q => by rw [hk] at q; exact hw q.1)]
    exact hk
  show ¬ (stP _ (2 - opn 6) _ 0).1 = zi 0
  unfold stP
  rw [if_pos (by decide), hf]
  exact hw
end
/-! the inputs' mask -/
def inN (K : Nat → Nat) : Nat → Nat
  | 0 => 0
  | n + 1 => if 1 ≤ K n ∧ K n < 5 then inN K n ||| 2 ^ (K n - 1) else inN K n
theorem in_tab : ∀ m, m < 16 → ∀ j, j < 4 → zi m ||| (zi 1 <<< (zi j &&& zi 31)) = zi (m ||| 2 ^ j) ∧ m ||| 2 ^ j < 16 := by decide
theorem in_bit : ∀ m, m < 16 → ∀ j, j < 4 → (zi m >>> (zi j &&& zi 31)) &&& zi 1 = if m.testBit j then zi 1 else zi 0 := by decide
theorem inF_N {K : Nat → Nat} (n : Nat) : inF K n = zi (inN K n) ∧ inN K n < 16 := by
  induction n with
  | zero => exact ⟨rfl, by show 0 < 16; omega⟩
  | succ n ih =>
    obtain ⟨h1, h2⟩ := ih
    rw [inF, inN]
    by_cases c : 1 ≤ K n ∧ K n < 5
    · rw [if_pos c, if_pos c, h1]
      exact in_tab _ h2 _ (by omega)
    · rw [if_neg c, if_neg c]
      exact ⟨h1, h2⟩
theorem inN_bit {K : Nat → Nat} {j : Nat} (n : Nat) : (inN K n).testBit j = false → ∀ i, i < n → 1 ≤ K i → K i < 5 → ¬ K i - 1 = j := by
  induction n with
  | zero => intro _ i hi; omega
  | succ n ih =>
    intro h i hi h1 h5
    rw [inN] at h
    by_cases c : 1 ≤ K n ∧ K n < 5
    · rw [if_pos c, Nat.testBit_or, Bool.or_eq_false_iff] at h
      by_cases e : i = n
      · subst e
        intro q
        have := h.2
        rw [q, Nat.testBit_two_pow_self] at this
        exact absurd this (by decide)
      · exact ih h.1 i (by omega) h1 h5
    · rw [if_neg c] at h
      by_cases e : i = n
      · subst e; omega
      · exact ih h i (by omega) h1 h5
/-! the dominant input -/
theorem dmF_sp (W : Nat → Int64) (n : Nat) : (dmF W n = (-zi 6, 0) ∧ ∀ j, j < n → (W j).toInt ≤ 0) ∨ ∃ i, i < n ∧ dmF W n = (zi i, W i) ∧ 0 < (W i).toInt ∧ ∀ j, j < n → (W j).toInt ≤ (W i).toInt := by
  induction n with
  | zero => exact Or.inl ⟨rfl, fun j hj => absurd hj (by omega)⟩
  | succ n ih =>
    rw [dmF]
    rcases ih with ⟨h1, h2⟩ | ⟨i, h0, h1, h2, h3⟩
    · by_cases c : (dmF W n).2 < W n
      · rw [if_pos c]
        rw [h1, zj_lt] at c
        have c : (0 : Int64).toInt < (W n).toInt := c
        rw [kj0] at c
        refine Or.inr ⟨n, by omega, rfl, c, fun j hj => ?_⟩
        by_cases e : j = n
        · subst e; exact Int.le_refl _
        · have := h2 j (by omega); omega
      · rw [if_neg c]
        rw [h1, zj_lt] at c
        have c : ¬ (0 : Int64).toInt < (W n).toInt := c
        rw [kj0] at c
        refine Or.inl ⟨h1, fun j hj => ?_⟩
        by_cases e : j = n
        · subst e; omega
        · exact h2 j (by omega)
    · by_cases c : (dmF W n).2 < W n
      · rw [if_pos c]
        rw [h1, zj_lt] at c
        have c : (W i).toInt < (W n).toInt := c
        refine Or.inr ⟨n, by omega, rfl, by omega, fun j hj => ?_⟩
        by_cases e : j = n
        · subst e; exact Int.le_refl _
        · have := h3 j (by omega); omega
      · rw [if_neg c]
        rw [h1, zj_lt] at c
        have c : ¬ (W i).toInt < (W n).toInt := c
        refine Or.inr ⟨i, by omega, h1, h2, fun j hj => ?_⟩
        by_cases e : j = n
        · subst e; omega
        · exact h3 j (by omega)
/-! inputs and numbers -/
section
variable {l u' : Int32} {k : Nat} {v : Int32}
theorem inp_rg (hk : k < 4) (h1 : -100000 ≤ l.toInt) (h2 : l.toInt ≤ u'.toInt) (h3 : u'.toInt ≤ 100000) : flow (fInp k l u') = l.toInt64 ∧ fhigh (fInp k l u') = u'.toInt64 := by
  have el : l.toInt64.toInt = l.toInt := Kit.i64_of_i32 l
  have eu : u'.toInt64.toInt = u'.toInt := Kit.i64_of_i32 u'
  obtain ⟨e1, e2, e3⟩ := pl_c (l := l.toInt64) (u := u'.toInt64) (by omega) (by omega) (by omega)
  have e13 : (zmax (u'.toInt64 - zs1 (l.toInt64 + u'.toInt64)) (zs1 (l.toInt64 + u'.toInt64) - l.toInt64)).toInt = if u'.toInt - (l.toInt + u'.toInt) / 2 < (l.toInt + u'.toInt) / 2 - l.toInt then (l.toInt + u'.toInt) / 2 - l.toInt else u'.toInt - (l.toInt + u'.toInt) / 2 := by rw [zmax_i, e2, e3, el, eu]
  have hz : fPl l.toInt64 u'.toInt64 (k + 1) = 0 := by unfold fPl; rw [fMk_c (by omega)]
  have h13 : 0 ≤ fPl l.toInt64 u'.toInt64 13 := by
    rw [Kit.i64_nonneg]
    show 0 ≤ (zmax _ _).toInt
    rw [e13]; split <;> omega
  have hr : frad (fInp k l u') 12 = frad (fPl l.toInt64 u'.toInt64) 12 := by
    have := frad_nm (F := fPl l.toInt64 u'.toInt64) (s := k) (by omega) hz h13 12 (by omega)
    rw [if_pos (by omega)] at this
    exact this
  have hbd : fBd (fPl l.toInt64 u'.toInt64) := pl_bd (by omega) (by omega) (by omega)
  have hr2 : (frad (fPl l.toInt64 u'.toInt64) 12).toInt = if u'.toInt - (l.toInt + u'.toInt) / 2 < (l.toInt + u'.toInt) / 2 - l.toInt then (l.toInt + u'.toInt) / 2 - l.toInt else u'.toInt - (l.toInt + u'.toInt) / 2 := by
    obtain ⟨f1, -⟩ := frad_i (bd_raw hbd) 12 (by omega)
    have a0 : asum (ic (fPl l.toInt64 u'.toInt64)) 12 = 0 := by
      have : ∀ n, n ≤ 12 → asum (ic (fPl l.toInt64 u'.toInt64)) n = 0 := by
        intro n
        induction n with
        | zero => intro _; rfl
        | succ n ih =>
          intro hn
          rw [asum, ih (by omega)]
          have : ic (fPl l.toInt64 u'.toInt64) n = 0 := by show (fPl l.toInt64 u'.toInt64 (n + 1)).toInt = 0; unfold fPl; rw [fMk_c (by omega)]; exact kj0
          rw [this]; rfl
      exact this 12 (by omega)
    rw [f1, a0, Int.add_zero]
    exact e13
  have c0 : (fInp k l u' 0).toInt = (l.toInt + u'.toInt) / 2 := by
    show (zs1 (l.toInt64 + u'.toInt64)).toInt = _
    rw [e1, el, eu]
  have b1 : (fInp k l u' 0 - frad (fInp k l u') 12).toInt ≤ l.toInt := by
    rw [hr, zj_sub (by rw [c0, hr2]; split <;> omega) (by rw [c0, hr2]; split <;> omega), c0, hr2]
    split <;> omega
  have b2 : u'.toInt ≤ (fInp k l u' 0 + frad (fInp k l u') 12).toInt := by
    rw [hr, zj_add (by rw [c0, hr2]; split <;> omega) (by rw [c0, hr2]; split <;> omega), c0, hr2]
    split <;> omega
  have d14 : fInp k l u' 14 = l.toInt64 := rfl
  have d15 : fInp k l u' 15 = u'.toInt64 := rfl
  constructor
  · refine zj_inj ?_
    unfold flow
    rw [zmax_i, d14, el]
    split <;> omega
  · refine zj_inj ?_
    unfold fhigh
    rw [zmin_i, d15, eu]
    split <;> omega
theorem num_rg (h1 : 0 ≤ v.toInt) (h2 : v.toInt ≤ 99999) : (flow (fNum v)).toInt * 100 ≤ 256 * v.toInt ∧ 256 * v.toInt ≤ (fhigh (fNum v)).toInt * 100 ∧ 0 ≤ (flow (fNum v)).toInt ∧ (fhigh (fNum v)).toInt ≤ 300000 ∧ (flow (fNum v)).toInt ≤ 300000 ∧ -1 ≤ (fhigh (fNum v)).toInt := by
  obtain ⟨e1, -⟩ := num_i h1 h2
  have k1 : (zi 256).toInt = 256 := by decide
  have k2 : (zi 100).toInt = 100 := by decide
  have m1 : (zi 256 * v).toInt = 256 * v.toInt := by rw [Kit.i32_mul (by rw [k1]; omega) (by rw [k1]; omega), k1]
  have er : zi 256 * v - zi 256 * v / zi 100 * zi 100 = zi ((zi 256 * v).toInt.toNat % 100) := rem_zi (by rw [m1]; omega) (by omega) (by omega)
  have hE : (fNumE v).toInt = if 256 * v.toInt % 100 = 0 then 0 else 1 := by
    unfold fNumE
    rw [er, m1]
    have hl : (256 * v.toInt).toNat % 100 < 100 := Nat.mod_lt _ (by omega)
    by_cases c : 256 * v.toInt % 100 = 0
    · rw [if_pos c, if_pos (by rw [show (256 * v.toInt).toNat % 100 = 0 by omega])]
      rfl
    · rw [if_neg c, if_neg (fun q => by
        have := congrArg Int32.toInt q
        rw [zi_toInt (by omega), zi_toInt (by omega)] at this
        omega)]
      rfl
  have hr : (frad (fNum v) 12).toInt = (fNumE v).toInt := by
    obtain ⟨hr, -, -⟩ := op_num (N := 1) (E := fun _ => 0) (by omega) h1 h2
    obtain ⟨f1, -⟩ := frad_i hr 12 (by omega)
    have a0 : asum (ic (fNum v)) 12 = 0 := by
      have : ∀ n, n ≤ 12 → asum (ic (fNum v)) n = 0 := by
        intro n
        induction n with
        | zero => intro _; rfl
        | succ n ih =>
          intro hn
          rw [asum, ih (by omega)]
          have : ic (fNum v) n = 0 := by show (fNum v (n + 1)).toInt = 0; unfold fNum; rw [fMk_c (by omega)]; exact kj0
          rw [this]; rfl
      exact this 12 (by omega)
    rw [f1, a0, Int.add_zero]
    rfl
  have hE01 : 0 ≤ (fNumE v).toInt ∧ (fNumE v).toInt ≤ 1 := by rw [hE]; split <;> omega
  have c0 : fNum v 0 = fNumC v := rfl
  have c14 : fNum v 14 = fNumC v := rfl
  have c15 : fNum v 15 = fNumC v + fNumE v := rfl
  have e15 : (fNumC v + fNumE v).toInt = (fNumC v).toInt + (fNumE v).toInt := zj_add (by omega) (by omega)
  have b1 : (fNum v 0 - frad (fNum v) 12).toInt = (fNumC v).toInt - (fNumE v).toInt := by rw [c0, zj_sub (by omega) (by omega), hr]
  have b2 : (fNum v 0 + frad (fNum v) 12).toInt = (fNumC v).toInt + (fNumE v).toInt := by rw [c0, zj_add (by omega) (by omega), hr]
  have g1 : (flow (fNum v)).toInt = (fNumC v).toInt := by
    unfold flow
    rw [zmax_i, b1, c14]
    split <;> omega
  have g2 : (fhigh (fNum v)).toInt = (fNumC v).toInt + (fNumE v).toInt := by
    unfold fhigh
    rw [zmin_i, b2, c15, e15]
    split <;> omega
  rw [g1, g2, e1, hE]
  refine ⟨by omega, ?_, by omega, ?_, by omega, ?_⟩
  · split <;> omega
  · split <;> omega
  · split <;> omega
end
section
variable {lo hi V : Nat → Int32} {K : Nat → Nat} {u n m : Nat}
/-- the first forms of an expression -/
theorem top_lo (h5 : K n < 5) (hb : boxIn lo hi) (hv : K n = 0 → 0 ≤ (V n).toInt ∧ (V n).toInt ≤ 99999) : topE lo hi u K V (n + 1) = if K n = 0 then (zi 0, fNum (V n)) else (zi 0, fInp (K n - 1) (lo (K n - 1)) (hi (K n - 1))) := by
  have ho : opn (K n) = 0 := opn_lo h5
  have hg : gdE (mkE lo hi (K n) (V n) (dep K n) (stk lo hi u K V n)) := by
    intro _
    by_cases c0 : K n = 0
    · have em : mkE lo hi (K n) (V n) (dep K n) (stk lo hi u K V n) = (zi 0, fNum (V n)) := by unfold mkE; rw [if_pos c0]
      rw [em]
      obtain ⟨r, s, b⟩ := op_num (N := 1) (E := fun _ => 0) (by omega) (hv c0).1 (hv c0).2
      exact fOk_of (by omega) (fun _ _ => ⟨by show -1 ≤ (0 : Int); omega, by show (0 : Int) ≤ 1; omega⟩) r b s
    · have em : mkE lo hi (K n) (V n) (dep K n) (stk lo hi u K V n) = (zi 0, fInp (K n - 1) (lo (K n - 1)) (hi (K n - 1))) := by unfold mkE; rw [if_neg c0, if_pos h5]
      rw [em]
      have hp : inB lo hi (fun k => (lo k).toInt) := fun k hk => ⟨Int.le_refl _, (hb k hk).2.1⟩
      obtain ⟨NA, EA, hNA, hEA, hPA⟩ := ein_ex hp
      have hk : K n - 1 < 4 := by omega
      have kA := hb _ hk
      obtain ⟨r, s, b⟩ := op_inp (N := NA) (E := EA) (p := (lo (K n - 1)).toInt) hNA hk (hPA _ hk) kA.1 kA.2.1 kA.2.2 (Int.le_refl _) kA.2.1
      exact fOk_of hNA hEA r b s
  unfold topE
  rw [dep, ho, Nat.sub_zero, Nat.add_sub_cancel]
  show stE lo hi u (K n) (V n) (dep K n) (stk lo hi u K V n) (dep K n) = _
  rw [stE_lt h5 hg]
  unfold stP
  rw [if_pos rfl]
  unfold mkE
  by_cases c0 : K n = 0
  · rw [if_pos c0, if_pos c0]
  · rw [if_neg c0, if_neg c0, if_pos h5]
/-- forms on the way are as they should be -/
theorem top_okp (hb : boxIn lo hi) (hu : u ≤ 8) (hw : wfK K n) (hv : valIn K V n) (hm : m < n) (hz : (topE lo hi u K V (m + 1)).1 = zi 0) : fOk (topE lo hi u K V (m + 1)).2 := by
  have hp : inB lo hi (fun k => (lo k).toInt) := fun k hk => ⟨Int.le_refl _, (hb k hk).2.1⟩
  obtain ⟨NA, EA, hNA, hEA, hPA⟩ := ein_ex hp
  obtain ⟨T, EA', EB', ZA', ZB', h1, h2, h3, h4, h5⟩ := jrun (n0 := 0) (off := 0) (KA := K) (VA := V) (u := u) hb hb hp hp hu hw hv (fun i _ => by rw [Nat.zero_add]) (fun i _ => by rw [Nat.zero_add]) (fun i _ => by rw [Nat.zero_add, Nat.zero_add]) (iz_0 hNA hEA hPA) hEA hPA (m + 1) (by omega)
  exact (h3.2.2.2 (dep K (m + 1) - 1) (by have := dep_1 (K := K) (n := m); omega) hz).1
theorem top_fit (hb : boxIn lo hi) (hu : u ≤ 8) (hw : wfK K n) (hv : valIn K V n) (hm : m < n) : (topE lo hi u K V (m + 1)).1 = zi 0 → (flow (topE lo hi u K V (m + 1)).2).toInt ≤ (fhigh (topE lo hi u K V (m + 1)).2).toInt ∧ -1000000000 ≤ (flow (topE lo hi u K V (m + 1)).2).toInt ∧ (fhigh (topE lo hi u K V (m + 1)).2).toInt ≤ 1000000000 := fun hz => by
  have h := top_okp hb hu hw hv hm hz
  have := fl_bd h
  omega
end
