/-! ===== lists of boxes (1): the class's ===== -/
abbrev Bx : Type := (Nat → Int32) × (Nat → Int32)
def mdB (b : Bx) (k : Nat) : Int32 := (b.1 k + b.2 k) >>> (zi 1 &&& zi 31)
def lwB (b : Bx) (s : Nat) : Bx := (b.1, fun k => if k = s then mdB b s else b.2 k)
def upB (b : Bx) (s : Nat) : Bx := (fun k => if k = s then (if b.2 s - b.1 s = zi 1 then b.2 s else mdB b s) else b.1 k, b.2)
def bxA (mi : zI) (o : Nat) (b : Bx) : Prop := ∀ k, k < 4 → mi (o + 1) k = b.1 k ∧ mi (o + 2) k = b.2 k
def cLs (mi : zI) (n : Nat) (B : Nat → Bx) : Prop := mi 97 4 = zi n ∧ ∀ j, j < n → ∀ k, k < 4 → mi 98 (4 * j + k) = (B j).1 k ∧ mi 99 (4 * j + k) = (B j).2 k
def upL (B : Nat → Bx) (j : Nat) (b : Bx) : Nat → Bx := fun i => if i = j then b else B i
def bst (r : Int32) (W : Nat → Int64) : Nat → Int32 × Int64
  | 0 => (r, 0)
  | n + 1 => if (bst r W n).2 < W n then (zi n, W n) else bst r W n
def bsn (W : Nat → Int64) : Nat → Nat × Int64
  | 0 => (4, 0)
  | n + 1 => if (bsn W n).2 < W n then (n, W n) else bsn W n
def spW (b : Bx) (T : En) (k : Nat) : Int64 := if b.1 k < b.2 k then wt T k else 0
def spD (b : Bx) (k : Nat) : Int64 := (b.2 k - b.1 k).toInt64
def spl (b : Bx) (T : En) : Nat := if (bsn (spW b T) 4).1 < 4 then (bsn (spW b T) 4).1 else (bsn (spD b) 4).1
theorem mdB_in {b : Bx} {k : Nat} (h : boxIn b.1 b.2) (hk : k < 4) : (b.1 k).toInt ≤ (mdB b k).toInt ∧ (mdB b k).toInt ≤ (b.2 k).toInt := by
  obtain ⟨h1, h2, h3⟩ := h k hk
  have := plc_in (w := zi 2) h1 h2 h3
  have e : plc (b.1 k) (b.2 k) (zi 2) = mdB b k := rfl
  rw [e] at this
  exact this
theorem mid_in {b : Bx} (h : boxIn b.1 b.2) : boxIn (mdB b) (mdB b) := by
  intro k hk
  have := h k hk
  have := mdB_in h hk
  omega
theorem lw_in {b : Bx} {s : Nat} (h : boxIn b.1 b.2) : boxIn (lwB b s).1 (lwB b s).2 := by
  intro k hk
  have h1 := h k hk
  have h2 := mdB_in h hk
  show _ ≤ (b.1 k).toInt ∧ (b.1 k).toInt ≤ (if k = s then mdB b s else b.2 k).toInt ∧ (if k = s then mdB b s else b.2 k).toInt ≤ _
  by_cases c : k = s
  · subst c; rw [if_pos rfl]; omega
  · rw [if_neg c]; omega
theorem up_in {b : Bx} {s : Nat} (h : boxIn b.1 b.2) : boxIn (upB b s).1 (upB b s).2 := by
  intro k hk
  have h1 := h k hk
  have h2 := mdB_in h hk
  show _ ≤ (if k = s then (if b.2 s - b.1 s = zi 1 then b.2 s else mdB b s) else b.1 k).toInt ∧ (if k = s then (if b.2 s - b.1 s = zi 1 then b.2 s else mdB b s) else b.1 k).toInt ≤ (b.2 k).toInt ∧ (b.2 k).toInt ≤ _
  by_cases c : k = s
  · subst c
    rw [if_pos rfl]
    split <;> omega
  · rw [if_neg c]; omega
theorem upL_in {B : Nat → Bx} {n j : Nat} {b : Bx} (h : ∀ i, i < n → boxIn (B i).1 (B i).2) (hb : boxIn b.1 b.2) {m : Nat} (hm : ∀ i, i < m → i < n ∨ i = j) : ∀ i, i < m → boxIn (upL B j b i).1 (upL B j b i).2 := by
  intro i hi
  unfold upL
  by_cases c : i = j
  · rw [if_pos c]; exact hb
  · rw [if_neg c]; exact h i (by have := hm i hi; omega)
theorem bsn_lt (W : Nat → Int64) (n : Nat) (hn : n ≤ 4) : (bsn W n).1 < n ∨ bsn W n = (4, 0) := by
  induction n with
  | zero => exact Or.inr rfl
  | succ n ih =>
    rw [bsn]
    split
    · exact Or.inl (by show n < n + 1; omega)
    · rcases ih (by omega) with h | h
      · exact Or.inl (by omega)
      · exact Or.inr h
theorem bst_n (r : Int32) (W : Nat → Int64) (n : Nat) (hn : n ≤ 4) : bst r W n = (if (bsn W n).1 < 4 then zi (bsn W n).1 else r, (bsn W n).2) := by
  induction n with
  | zero => rw [bst, bsn, if_neg (by show ¬ (4 : Nat) < 4; omega)]
  | succ n ih =>
    have e := ih (by omega)
    rw [bst, bsn]
    by_cases c : (bsn W n).2 < W n
    · rw [if_pos (by rw [e]; exact c), if_pos c, if_pos (by show n < 4; omega)]
    · rw [if_neg (by rw [e]; exact c), if_neg c]; exact e
theorem bst_s {r : Int32} {W : Nat → Int64} {n : Nat} (h : (bst r W n).2 < W n) : bst r W (n + 1) = (zi n, W n) := by rw [bst, if_pos h]
theorem bst_t {r : Int32} {W : Nat → Int64} {n : Nat} (h : ¬ (bst r W n).2 < W n) : bst r W (n + 1) = bst r W n := by rw [bst, if_neg h]
theorem cpyP {α : Type} {f g : Nat → α} {a b n j : Nat} : va_cpy f g a b n j = if b ≤ j ∧ j < b + n then f (a + (j - b)) else g j := rfl
theorem zBx_n {b : Nat} (hb : zBx b) : b + 2 < 97 ∨ 101 < b := by
  simp only [zBx, List.mem_cons, List.not_mem_nil, or_false] at hb
  omega
section
variable {Ls : Nat} {g : Nat → Nat} {mi mi' : zI} {mj mj' : zJ} {x y z : Int32} {a b e n p q k c m u s : Nat} {v w : Value} {T : En} {o : Nat} {B : Nat → Bx} {bx : Bx}
theorem m_11 : zCall 11 [.ref 97] (SH Ls) mi mj (RF g) = some (none, SH Ls, zup mi 97 4 (zi 0), mj, RF g) := by
  simp (disch := (first | with_reducible exact is_97 | with_reducible exact zi_at is_97 (by omega) (by omega) | ((with_reducible refine zct_le ?_) <;> exact Nat.le_of_ble_eq_true rfl) | with_reducible exact zh_0 | with_reducible exact zh_1 | with_reducible exact zh_b | omega)) only [e_11, q_11_0r, q_11_0n, q_11_1, q_11_2, q_11_5, vf_s, vf_n, zk2_none, zk2_int, zk2_ref, zk2_null, zk2_long, zct_nil, zct_i, zct_l, zct_r, zct_n, Option.bind_some, Option.toList_some, Option.toList_none, List.cons_append, List.nil_append, zor_l, zor_r, if_true, if_false, ↓reduceIte, zi_lit, zi_of, zi_add, zi_mul, zi_sub, zi_nat, zi_leT, zi_leF, zi_ltT, zi_ltF, zi_eqT, zi_eqF, zif_0z, zif_bz, zi_01l, zi_01r, not_true_eq_false, not_false_eq_true, Nat.reduceAdd, Nat.reduceMul, Nat.reduceSub]
theorem m_14 (ho : zBx o) (hn : mi 97 4 = zi n) (hn2 : n ≤ 200) (hk : k < n) : ∃ mi', zCall 14 [.ref 97, .int (zi k), .ref o] (SH Ls) mi mj (RF g) = some (none, SH Ls, mi', mj, RF g) ∧ (∀ j, j < 4 → mi' (o + 1) j = mi 98 (4 * k + j) ∧ mi' (o + 2) j = mi 99 (4 * k + j)) ∧ (∀ a, a < o + 1 ∨ o + 2 < a → mi' a = mi a) := by
  have hd := zBx_n ho
  refine ⟨zrw (zrw mi (o + 1) (va_cpy (mi 98) (mi (o + 1)) (k * 4) 0 4)) (o + 2) (va_cpy (mi 99) (mi (o + 2)) (k * 4) 0 4), ?_, ?_, ?_⟩
  · have h1 : zrw mi (o + 1) (va_cpy (mi 98) (mi (o + 1)) (k * 4) 0 4) 99 = mi 99 := zrw_ne (by omega)
    have h2 : zrw mi (o + 1) (va_cpy (mi 98) (mi (o + 1)) (k * 4) 0 4) (o + 2) = mi (o + 2) := zrw_ne (by omega)
    have hz0 : (zi 0).toNatClampNeg = 0 := by decide
    have hz4 : (zi 4).toNatClampNeg = 4 := by decide
    have hzk : (zi (k * 4)).toNatClampNeg = k * 4 := zi_nat (by omega)
    have hq : 0 ≤ zi (k * 4) ∧ 0 ≤ zi 0 ∧ 0 ≤ zi 4 ∧ (zi (k * 4)).toNatClampNeg + (zi 4).toNatClampNeg ≤ 800 ∧ (zi 0).toNatClampNeg + (zi 4).toNatClampNeg ≤ 4 := by
      rw [hzk, hz0, hz4]
      refine ⟨?_, by decide, by decide, by omega, by omega⟩
      show zi 0 ≤ _
      rw [zi_leT (by omega) (by omega)]; trivial
    simp (disch := (first | exact hq | exact is_98 | exact is_99 | exact zBx_i1 ho | exact zBx_i2 ho | (first | with_reducible exact is_97 | with_reducible exact zi_at is_97 (by omega) (by omega) | with_reducible exact (zBx_is ho) | with_reducible exact zi_at (zBx_is ho) (by omega) (by omega) | ((with_reducible refine zct_le ?_) <;> exact Nat.le_of_ble_eq_true rfl) | with_reducible exact zh_0 | with_reducible exact zh_1 | with_reducible exact zh_b | omega))) only [e_14, q_14_0, q_14_1, q_14_4, q_14_5r, q_14_5n, q_14_6, q_14_9, q_14_12, q_14_13r, q_14_13n, q_14_14, q_14_17, q_14_18, q_14_19, q_14_20r, q_14_20n, q_14_21, q_14_24, q_14_25, q_14_29r, q_14_29n, q_14_30, q_14_33, q_14_34, q_14_35, q_14_36r, q_14_36n, q_14_37, q_14_40, q_14_41, q_14_45, q_14_26i (n0 := 800) (n1 := 4), q_14_42i (n0 := 800) (n1 := 4), vf_s, vf_n, zk2_none, zk2_int, zk2_ref, zk2_null, zk2_long, zct_nil, zct_i, zct_l, zct_r, zct_n, Option.bind_some, Option.toList_some, Option.toList_none, List.cons_append, List.nil_append, zor_l, zor_r, if_true, if_false, ↓reduceIte, zi_lit, zi_of, zi_add, zi_mul, zi_sub, zi_nat, zi_leT, zi_leF, zi_ltT, zi_ltF, zi_eqT, zi_eqF, zif_0z, zif_bz, zi_01l, zi_01r, not_true_eq_false, not_false_eq_true, Nat.reduceAdd, Nat.reduceMul, Nat.reduceSub, rf_97_0, rf_97_1, zBx_r0 ho, zBx_r1 ho, hn, hz0, hz4, h1, h2]
  · intro j hj
    rw [zrw_ne (o' := o + 1) (by omega), zrw_eq, zrw_eq, cpyP, cpyP, if_pos (by omega), if_pos (by omega)]
    rw [show k * 4 + (j - 0) = 4 * k + j by omega]
    exact ⟨rfl, rfl⟩
  · intro a ha
    rw [zrw_ne (by omega), zrw_ne (by omega)]
theorem m_13 (ho : zBx o) (hn : mi 97 4 = zi n) (hn2 : n ≤ 200) (hk : k < n) : ∃ mi', zCall 13 [.ref 97, .int (zi k), .ref o] (SH Ls) mi mj (RF g) = some (none, SH Ls, mi', mj, RF g) ∧ (∀ j, j < 4 → mi' 98 (4 * k + j) = mi (o + 1) j ∧ mi' 99 (4 * k + j) = mi (o + 2) j) ∧ (∀ j, ¬ j = k → ∀ i, i < 4 → mi' 98 (4 * j + i) = mi 98 (4 * j + i) ∧ mi' 99 (4 * j + i) = mi 99 (4 * j + i)) ∧ (∀ a, a < 98 ∨ 99 < a → mi' a = mi a) := by
  have hd := zBx_n ho
  refine ⟨zrw (zrw mi 98 (va_cpy (mi (o + 1)) (mi 98) 0 (k * 4) 4)) 99 (va_cpy (mi (o + 2)) (mi 99) 0 (k * 4) 4), ?_, ?_, ?_, ?_⟩
  · have h1 : zrw mi 98 (va_cpy (mi (o + 1)) (mi 98) 0 (k * 4) 4) 99 = mi 99 := zrw_ne (by omega)
    have h2 : zrw mi 98 (va_cpy (mi (o + 1)) (mi 98) 0 (k * 4) 4) (o + 2) = mi (o + 2) := zrw_ne (by omega)
    have hz0 : (zi 0).toNatClampNeg = 0 := by decide
    have hz4 : (zi 4).toNatClampNeg = 4 := by decide
    have hzk : (zi (k * 4)).toNatClampNeg = k * 4 := zi_nat (by omega)
    have hq : 0 ≤ zi 0 ∧ 0 ≤ zi (k * 4) ∧ 0 ≤ zi 4 ∧ (zi 0).toNatClampNeg + (zi 4).toNatClampNeg ≤ 4 ∧ (zi (k * 4)).toNatClampNeg + (zi 4).toNatClampNeg ≤ 800 := by
      rw [hzk, hz0, hz4]
      refine ⟨by decide, ?_, by decide, by omega, by omega⟩
      show zi 0 ≤ _
      rw [zi_leT (by omega) (by omega)]; trivial
    simp (disch := (first | exact hq | exact is_98 | exact is_99 | exact zBx_i1 ho | exact zBx_i2 ho | (first | with_reducible exact is_97 | with_reducible exact zi_at is_97 (by omega) (by omega) | with_reducible exact (zBx_is ho) | with_reducible exact zi_at (zBx_is ho) (by omega) (by omega) | ((with_reducible refine zct_le ?_) <;> exact Nat.le_of_ble_eq_true rfl) | with_reducible exact zh_0 | with_reducible exact zh_1 | with_reducible exact zh_b | omega))) only [e_13, q_13_0, q_13_1, q_13_4, q_13_5r, q_13_5n, q_13_6, q_13_9, q_13_12, q_13_13r, q_13_13n, q_13_14, q_13_17, q_13_18r, q_13_18n, q_13_19, q_13_22, q_13_23, q_13_24, q_13_25, q_13_29r, q_13_29n, q_13_30, q_13_33, q_13_34r, q_13_34n, q_13_35, q_13_38, q_13_39, q_13_40, q_13_41, q_13_45, q_13_26i (n0 := 4) (n1 := 800), q_13_42i (n0 := 4) (n1 := 800), vf_s, vf_n, zk2_none, zk2_int, zk2_ref, zk2_null, zk2_long, zct_nil, zct_i, zct_l, zct_r, zct_n, Option.bind_some, Option.toList_some, Option.toList_none, List.cons_append, List.nil_append, zor_l, zor_r, if_true, if_false, ↓reduceIte, zi_lit, zi_of, zi_add, zi_mul, zi_sub, zi_nat, zi_leT, zi_leF, zi_ltT, zi_ltF, zi_eqT, zi_eqF, zif_0z, zif_bz, zi_01l, zi_01r, not_true_eq_false, not_false_eq_true, Nat.reduceAdd, Nat.reduceMul, Nat.reduceSub, rf_97_0, rf_97_1, zBx_r0 ho, zBx_r1 ho, hn, hz0, hz4, h1, h2]
  · intro j hj
    rw [zrw_ne (o' := 98) (by omega), zrw_eq, zrw_eq, cpyP, cpyP, if_pos (by omega), if_pos (by omega)]
    rw [show 0 + (4 * k + j - k * 4) = j by omega]
    exact ⟨rfl, rfl⟩
  · intro j hj i hi
    rw [zrw_ne (o' := 98) (by omega), zrw_eq, zrw_eq, cpyP, cpyP, if_neg (by omega), if_neg (by omega)]
    exact ⟨rfl, rfl⟩
  · intro a ha
    rw [zrw_ne (by omega), zrw_ne (by omega)]
theorem m_13L (ho : zBx o) (hn2 : n ≤ 200) (hk : k < n) (hL : cLs mi n B) (hb : bxA mi o bx) : ∃ mi', zCall 13 [.ref 97, .int (zi k), .ref o] (SH Ls) mi mj (RF g) = some (none, SH Ls, mi', mj, RF g) ∧ cLs mi' n (upL B k bx) ∧ (∀ a, a < 98 ∨ 99 < a → mi' a = mi a) := by
  obtain ⟨mi', r1, r2, r3, r4⟩ := m_13 (Ls := Ls) (g := g) (mj := mj) ho hL.1 hn2 hk
  refine ⟨mi', r1, ⟨by rw [r4 97 (by omega)]; exact hL.1, fun j hj i hi => ?_⟩, r4⟩
  unfold upL
  by_cases c : j = k
  · subst c
    rw [if_pos rfl, (r2 i hi).1, (r2 i hi).2]
    exact hb i hi
  · rw [if_neg c, (r3 j c i hi).1, (r3 j c i hi).2]
    exact hL.2 j hj i hi
theorem m_12 (ho : zBx o) (hn2 : n < 200) (hL : cLs mi n B) (hb : bxA mi o bx) : ∃ mi', zCall 12 [.ref 97, .ref o] (SH Ls) mi mj (RF g) = some (none, SH Ls, mi', mj, RF g) ∧ cLs mi' (n + 1) (upL B n bx) ∧ (∀ a, a < 97 ∨ 99 < a → mi' a = mi a) := by
  have hd := zBx_n ho
  have f1 : ∀ a, ¬ a = 97 → zup mi 97 4 (zi (n + 1)) a = mi a := fun a ha => zup_ne ha
  obtain ⟨mi', r1, r2, r3, r4⟩ := m_13 (Ls := Ls) (g := g) (mj := mj) (mi := zup mi 97 4 (zi (n + 1))) (n := n + 1) (k := n) ho zg_s (by omega) (by omega)
  refine ⟨mi', ?_, ⟨by rw [r4 97 (by omega), zg_s], fun j hj i hi => ?_⟩, fun a ha => by rw [r4 a (by omega), f1 a (by omega)]⟩
  · have e1 := zi_sub (a := n + 1) (b := 1) (by omega)
    rw [Nat.add_sub_cancel] at e1
    simp (disch := (first | with_reducible exact is_97 | with_reducible exact zi_at is_97 (by omega) (by omega) | with_reducible exact (zBx_is ho) | with_reducible exact zi_at (zBx_is ho) (by omega) (by omega) | ((with_reducible refine zct_le ?_) <;> exact Nat.le_of_ble_eq_true rfl) | with_reducible exact zh_0 | with_reducible exact zh_1 | with_reducible exact zh_b | omega)) only [e_12, q_12_0r, q_12_0n, q_12_1, q_12_4, q_12_7, q_12_10, q_12_11r, q_12_11n, q_12_12r, q_12_12i, q_12_13, q_12_16, q_12_17, q_12_18, q_12_21r, q_12_21n, q_12_22r, q_12_22n, q_12_23, q_12_26, q_12_27, q_12_28r, q_12_28n, q_12_29, q_12_32, vf_s, vf_n, zk2_none, zk2_int, zk2_ref, zk2_null, zk2_long, zct_nil, zct_i, zct_l, zct_r, zct_n, Option.bind_some, Option.toList_some, Option.toList_none, List.cons_append, List.nil_append, zor_l, zor_r, if_true, if_false, ↓reduceIte, zi_lit, zi_of, zi_add, zi_mul, zi_sub, zi_nat, zi_leT, zi_leF, zi_ltT, zi_ltF, zi_eqT, zi_eqF, zif_0z, zif_bz, zi_01l, zi_01r, not_true_eq_false, not_false_eq_true, Nat.reduceAdd, Nat.reduceMul, Nat.reduceSub, zg_s, zg_o, zg_j, zg_r, zg_ro, zg_d, yfl_o, hL.1, Nat.add_sub_cancel, r1]
  · unfold upL
    by_cases c : j = n
    · subst c
      rw [if_pos rfl, (r2 i hi).1, (r2 i hi).2, f1 _ (by omega), f1 _ (by omega)]
      exact hb i hi
    · rw [if_neg c, (r3 j c i hi).1, (r3 j c i hi).2, f1 _ (by omega), f1 _ (by omega)]
      exact hL.2 j (by omega) i hi
theorem m_15 (ho : zBx o) (hn2 : n < 200) (hL : cLs mi (n + 1) B) : ∃ mi', zCall 15 [.ref 97, .ref o] (SH Ls) mi mj (RF g) = some (some (.int (zi 1)), SH Ls, mi', mj, RF g) ∧ cLs mi' n B ∧ bxA mi' o (B n) ∧ (∀ a, a < 97 ∨ 97 < a → a < o + 1 ∨ o + 2 < a → mi' a = mi a) := by
  have hd := zBx_n ho
  obtain ⟨mi', r1, r2, r3⟩ := m_14 (Ls := Ls) (g := g) (mj := mj) (mi := mi) (n := n + 1) (k := n) ho hL.1 (by omega) (by omega)
  refine ⟨zup mi' 97 4 (zi n), ?_, ⟨zg_s, fun j hj i hi => ?_⟩, fun k hk => ?_, fun a ha ha2 => by rw [zup_ne (by omega), r3 a ha2]⟩
  · have e3 := r3 97 (by omega)
    simp (disch := (first | with_reducible exact is_97 | with_reducible exact zi_at is_97 (by omega) (by omega) | with_reducible exact (zBx_is ho) | with_reducible exact zi_at (zBx_is ho) (by omega) (by omega) | ((with_reducible refine zct_le ?_) <;> exact Nat.le_of_ble_eq_true rfl) | with_reducible exact zh_0 | with_reducible exact zh_1 | with_reducible exact zh_b | omega)) only [e_15, q_15_0r, q_15_0n, q_15_1, q_15_4, q_15_7, q_15_8, q_15_9r, q_15_9n, q_15_10r, q_15_10n, q_15_11, q_15_14, q_15_15, q_15_16r, q_15_16n, q_15_17, q_15_20r, q_15_20n, q_15_21r, q_15_21i, q_15_22, q_15_25, q_15_26, q_15_27, q_15_30, q_15_31, vf_s, vf_n, zk2_none, zk2_int, zk2_ref, zk2_null, zk2_long, zct_nil, zct_i, zct_l, zct_r, zct_n, Option.bind_some, Option.toList_some, Option.toList_none, List.cons_append, List.nil_append, zor_l, zor_r, if_true, if_false, ↓reduceIte, zi_lit, zi_of, zi_add, zi_mul, zi_sub, zi_nat, zi_leT, zi_leF, zi_ltT, zi_ltF, zi_eqT, zi_eqF, zif_0z, zif_bz, zi_01l, zi_01r, not_true_eq_false, not_false_eq_true, Nat.reduceAdd, Nat.reduceMul, Nat.reduceSub, zg_s, zg_o, zg_j, zg_r, zg_ro, zg_d, yfl_o, hL.1, Nat.add_sub_cancel, r1, e3]
  · rw [zup_ne (by omega), zup_ne (by omega), r3 98 (by omega), r3 99 (by omega)]
    exact hL.2 j (by omega) i hi
  · rw [zup_ne (by omega), zup_ne (by omega), (r2 k hk).1, (r2 k hk).2]
    exact hL.2 n (by omega) k hk
theorem m_15z (hL : cLs mi 0 B) : zCall 15 [.ref 97, .ref o] (SH Ls) mi mj (RF g) = some (some (.int (zi 0)), SH Ls, mi, mj, RF g) := by
  simp (disch := (first | with_reducible exact is_97 | with_reducible exact zi_at is_97 (by omega) (by omega) | ((with_reducible refine zct_le ?_) <;> exact Nat.le_of_ble_eq_true rfl) | with_reducible exact zh_0 | with_reducible exact zh_1 | with_reducible exact zh_b | omega)) only [e_15, q_15_0r, q_15_0n, q_15_1, q_15_4, q_15_7, q_15_8, q_15_9r, q_15_9n, q_15_10r, q_15_10n, q_15_11, q_15_14, q_15_15, q_15_16r, q_15_16n, q_15_17, q_15_20r, q_15_20n, q_15_21r, q_15_21i, q_15_22, q_15_25, q_15_26, q_15_27, q_15_30, q_15_31, vf_s, vf_n, zk2_none, zk2_int, zk2_ref, zk2_null, zk2_long, zct_nil, zct_i, zct_l, zct_r, zct_n, Option.bind_some, Option.toList_some, Option.toList_none, List.cons_append, List.nil_append, zor_l, zor_r, if_true, if_false, ↓reduceIte, zi_lit, zi_of, zi_add, zi_mul, zi_sub, zi_nat, zi_leT, zi_leF, zi_ltT, zi_ltF, zi_eqT, zi_eqF, zif_0z, zif_bz, zi_01l, zi_01r, not_true_eq_false, not_false_eq_true, Nat.reduceAdd, Nat.reduceMul, Nat.reduceSub, hL.1]
end
