/-! ===== helpers of the runs ===== -/
theorem vf_s {n : Nat} : va_rf (some n) = .ref n := rfl
theorem vf_n : va_rf none = .null := rfl
theorem zct_nil : zcat [] = 0 := rfl
theorem zct_i {x : Int32} {S : List Value} : zcat (.int x :: S) = 1 + zcat S := by simp [zcat, Value.category]
theorem zct_l {x : Int64} {S : List Value} : zcat (.long x :: S) = 2 + zcat S := by simp [zcat, Value.category]
theorem zct_r {x : Nat} {S : List Value} : zcat (.ref x :: S) = 1 + zcat S := by simp [zcat, Value.category]
theorem zct_n {S : List Value} : zcat (.null :: S) = 1 + zcat S := by simp [zcat, Value.category]
theorem zor_l : ((0 : Int32) = 0 ∨ (0 : Int32) = 1) = True := by simp
theorem zor_r : ((1 : Int32) = 0 ∨ (1 : Int32) = 1) = True := by simp
theorem zif_b {p : Prop} [Decidable p] : ((if p then (1 : Int32) else 0) = 0 ∨ (if p then (1 : Int32) else 0) = 1) = True := by split <;> simp
theorem zif_0 {p : Prop} [Decidable p] : ((if p then (1 : Int32) else 0) = 0) = ¬ p := by split <;> simp_all
/-! places: ints that are natural numbers -/
def zi (n : Nat) : Int32 := Int32.ofNat n
theorem zi_lit (n : Nat) : (OfNat.ofNat n : Int32) = zi (OfNat.ofNat n) := rfl
theorem zi_of (n : Nat) : Int32.ofNat n = zi n := rfl
theorem zi_add (a b : Nat) : zi a + zi b = zi (a + b) := (Int32.ofNat_add a b).symm
theorem zi_mul (a b : Nat) : zi a * zi b = zi (a * b) := (Int32.ofNat_mul a b).symm
theorem zi_toInt {a : Nat} (h : a < 2147483648) : (zi a).toInt = (a : Int) := Int32.toInt_ofNat_of_lt h
theorem zi_inj {x y : Int32} (h : x.toInt = y.toInt) : x = y := Int32.toInt_inj.mp h
theorem zj_inj {x y : Int64} (h : x.toInt = y.toInt) : x = y := Int64.toInt_inj.mp h
theorem zi_sub {a b : Nat} (h : b ≤ a) : zi a - zi b = zi (a - b) := by
  have : zi a = zi (a - b) + zi b := by rw [zi_add, Nat.sub_add_cancel h]
  rw [this, Int32.add_sub_cancel]
theorem zi_nat {a : Nat} (h : a < 2147483648) : (zi a).toNatClampNeg = a := by
  have : (zi a).toNatClampNeg = (zi a).toInt.toNat := rfl
  rw [this, zi_toInt h]
  rfl
theorem zi_le {a b : Nat} (h : a < 2147483648) (h2 : b < 2147483648) : (zi a ≤ zi b) = (a ≤ b) := by
  rw [Int32.le_iff_toInt_le, zi_toInt h, zi_toInt h2]
  exact propext Int.ofNat_le
theorem zi_lt {a b : Nat} (h : a < 2147483648) (h2 : b < 2147483648) : (zi a < zi b) = (a < b) := by
  rw [Int32.lt_iff_toInt_lt, zi_toInt h, zi_toInt h2]
  exact propext Int.ofNat_lt
theorem zi_eq {a b : Nat} (h : a < 2147483648) (h2 : b < 2147483648) : (zi a = zi b) = (a = b) := by
  rw [← Int32.toInt_inj, zi_toInt h, zi_toInt h2]
  exact propext Int.ofNat_inj
theorem zi_leT {a b : Nat} (h : a ≤ b) (h2 : b < 2147483648) : (zi a ≤ zi b) = True := by
  rw [zi_le (by omega) h2]; exact eq_true h
theorem zi_leF {a b : Nat} (h : b < a) (h2 : a < 2147483648) : (zi a ≤ zi b) = False := by
  rw [zi_le h2 (by omega)]; exact eq_false (by omega)
theorem zi_ltT {a b : Nat} (h : a < b) (h2 : b < 2147483648) : (zi a < zi b) = True := by
  rw [zi_lt (by omega) h2]; exact eq_true h
theorem zi_ltF {a b : Nat} (h : b ≤ a) (h2 : a < 2147483648) : (zi a < zi b) = False := by
  rw [zi_lt h2 (by omega)]; exact eq_false (by omega)
theorem zi_eqT {a b : Nat} (h : a = b) : (zi a = zi b) = True := by subst h; exact eq_true rfl
theorem zi_eqF {a b : Nat} (h : a < b ∨ b < a) (h1 : a < 2147483648) (h2 : b < 2147483648) : (zi a = zi b) = False := by
  rw [zi_eq h1 h2]; exact eq_false (by omega)
theorem zi_in {a n : Nat} (h : a < n) (h2 : n < 2147483648) : zin (zi a) n = true := by
  unfold zin
  rw [zi_nat (by omega)]
  have : ¬ zi a < 0 := by
    show ¬ zi a < zi 0
    rw [zi_lt (by omega) (by omega)]
    omega
  simp [this, h]
theorem zi_at {Ls o t n a : Nat} (hi : zIs (SH Ls) o t n) (h : a < n) (h2 : n < 2147483648) : zAt (SH Ls) o t (zi a) := (zAt_iff hi).mpr (zi_in h h2)
/-- an int within bounds is a place -/
theorem zi_ex {x : Int32} {n : Nat} (h : 0 ≤ x) (h2 : x ≤ zi n) (hn : n < 2147483648) : ∃ a, a ≤ n ∧ x = zi a := by
  have h1 : 0 ≤ x.toInt := Kit.i32_nonneg.mp h
  have h3 : x.toInt ≤ n := by
    have := Int32.le_iff_toInt_le.mp h2
    rwa [zi_toInt hn] at this
  refine ⟨x.toInt.toNat, by omega, zi_inj ?_⟩
  rw [zi_toInt (by omega)]
  omega
/-! values chosen, and the same place behind -/
theorem mg_J {k pc : Nat} {L : zLS} {S : List Value} {sh : zSh} {mi : zI} {mj : zJ} {mr : zR} {p : Prop} [Decidable p] {a b : Int64} : (if p then zRun k pc L (.long a :: S) sh mi mj mr else zRun k pc L (.long b :: S) sh mi mj mr) = zRun k pc L (.long (if p then a else b) :: S) sh mi mj mr := by split <;> rfl
theorem mg_I {k pc : Nat} {L : zLS} {S : List Value} {sh : zSh} {mi : zI} {mj : zJ} {mr : zR} {p : Prop} [Decidable p] {a b : Int32} : (if p then zRun k pc L (.int a :: S) sh mi mj mr else zRun k pc L (.int b :: S) sh mi mj mr) = zRun k pc L (.int (if p then a else b) :: S) sh mi mj mr := by split <;> rfl
theorem rt_J {sh : zSh} {mi : zI} {mj : zJ} {mr : zR} {p : Prop} [Decidable p] {a b : Int64} : (if p then (some (some (.long a), sh, mi, mj, mr) : Option zRes) else some (some (.long b), sh, mi, mj, mr)) = some (some (.long (if p then a else b)), sh, mi, mj, mr) := by split <;> rfl
theorem rt_I {sh : zSh} {mi : zI} {mj : zJ} {mr : zR} {p : Prop} [Decidable p] {a b : Int32} : (if p then (some (some (.int a), sh, mi, mj, mr) : Option zRes) else some (some (.int b), sh, mi, mj, mr)) = some (some (.int (if p then a else b)), sh, mi, mj, mr) := by split <;> rfl
theorem rs_mj {v : Option Value} {sh : zSh} {mi : zI} {mj mj' : zJ} {mr : zR} (h : mj = mj') : (some (v, sh, mi, mj, mr) : Option zRes) = some (v, sh, mi, mj', mr) := by rw [h]
theorem rs_mi {v : Option Value} {sh : zSh} {mi mi' : zI} {mj : zJ} {mr : zR} (h : mi = mi') : (some (v, sh, mi, mj, mr) : Option zRes) = some (v, sh, mi', mj, mr) := by rw [h]
/-! memory -/
section
variable {α : Type} {f : Nat → Nat → α} {o o' j j' : Nat} {v : α} {r : Nat → α}
theorem zg_s : zup f o j v o j = v := by simp [zup]
theorem zg_o (h : o' < o ∨ o < o') : zup f o j v o' = f o' := zup_ne (by omega)
theorem zg_d {w : α} : zup (zup f o j w) o j v = zup f o j v := by
  funext a b
  unfold zup
  split <;> rfl
theorem zg_j (h : j' < j ∨ j < j') : zup f o j v o' j' = f o' j' := by
  unfold zup
  rw [if_neg (by omega)]
theorem zg_r : zrw f o r o = r := zrw_eq
theorem zg_ro (h : o' < o ∨ o < o') : zrw f o r o' = f o' := zrw_ne (by omega)
end
/-- a row that is filled up to a place -/
def yfl {α : Type} (f : Nat → Nat → α) (o k : Nat) (h : Nat → α) : Nat → Nat → α := zrw f o (fun j => if j < k then h j else f o j)
section
variable {α : Type} {f : Nat → Nat → α} {o o' j k : Nat} {v : α} {h : Nat → α}
theorem yfl_0 : yfl f o 0 h = f := by
  funext a b
  unfold yfl zrw
  split
  · rename_i e; subst e; simp
  · rfl
theorem yfl_s (hv : v = h k) : zup (yfl f o k h) o k v = yfl f o (k + 1) h := by
  subst hv
  funext a b
  unfold yfl zrw zup
  by_cases ha : a = o
  · subst ha
    simp only [if_true, true_and]
    (repeat' split) <;> first | rfl | omega | (rename_i e _; rw [e]) | (rename_i e; rw [e])
  · simp [ha]
theorem yfl_o (hne : o' < o ∨ o < o') : yfl f o k h o' = f o' := zrw_ne (by omega)
theorem yfl_lt (hj : j < k) : yfl f o k h o j = h j := by
  unfold yfl
  rw [zrw_eq, if_pos hj]
theorem yfl_ge (hj : k ≤ j) : yfl f o k h o j = f o j := by
  unfold yfl
  rw [zrw_eq, if_neg (by omega)]
end
theorem zct_le {S : List Value} (h : zcat S ≤ 8) : zcat S ≤ 8 := h
theorem zh_0 : zi 0 = 0 ∨ zi 0 = 1 := by decide
theorem zh_1 : zi 1 = 0 ∨ zi 1 = 1 := by decide
theorem zh_b {p : Prop} [Decidable p] : (if p then zi 1 else zi 0) = 0 ∨ (if p then zi 1 else zi 0) = 1 := by split <;> decide
theorem cpy12 {α : Type} {f g : Nat → α} : va_cpy f g 0 0 12 = fun j => if j < 12 then f j else g j := by
  funext j
  unfold va_cpy
  simp
theorem cpy60 {α : Type} {f g : Nat → α} : va_cpy f g 0 0 60 = fun j => if j < 60 then f j else g j := by
  funext j
  unfold va_cpy
  simp
theorem hq12 : 0 ≤ zi 0 ∧ 0 ≤ zi 0 ∧ 0 ≤ zi 12 ∧ (zi 0).toNatClampNeg + (zi 12).toNatClampNeg ≤ 12 ∧ (zi 0).toNatClampNeg + (zi 12).toNatClampNeg ≤ 12 := by decide
theorem hq60 : 0 ≤ zi 0 ∧ 0 ≤ zi 0 ∧ 0 ≤ zi 60 ∧ (zi 0).toNatClampNeg + (zi 60).toNatClampNeg ≤ 60 ∧ (zi 0).toNatClampNeg + (zi 60).toNatClampNeg ≤ 60 := by decide
theorem zif_0z {p : Prop} [Decidable p] : ((if p then zi 1 else zi 0) = zi 0) = ¬ p := zif_0
theorem zif_bz {p : Prop} [Decidable p] : ((if p then zi 1 else zi 0) = 0 ∨ (if p then zi 1 else zi 0) = 1) = True := zif_b
theorem zi_01l : (zi 0 = 0 ∨ zi 0 = 1) = True := zor_l
theorem zi_01r : (zi 1 = 0 ∨ zi 1 = 1) = True := zor_r
section
variable {sh : zSh} {mi : zI} {mj : zJ} {mr : zR} {x y : Int32} {u v : Int64}
/-! the library -/
def zabs (u : Int64) : Int64 := if 0 ≤ u then u else -u
def zmax (u v : Int64) : Int64 := if u < v then v else u
def zmin (u v : Int64) : Int64 := if v < u then v else u
def zfdiv (u v : Int64) : Int64 := if 0 ≤ u ^^^ v then u / v else if u / v * v = u then u / v else u / v - 1
theorem m_111 : zCall 111 [.long u] sh mi mj mr = some (some (.long (zabs u)), sh, mi, mj, mr) := by
  simp only [e_111, q_111_0, q_111_1, q_111_2, q_111_3, q_111_6, q_111_7, q_111_8, q_111_11, q_111_12, vf_s, vf_n, zk2_none, zk2_int, zk2_ref, zk2_null, zk2_long, zct_nil, zct_i, zct_l, zct_r, zct_n, Option.bind_some, Option.toList_some, Option.toList_none, List.cons_append, List.nil_append, zor_l, zor_r, if_true, if_false, ↓reduceIte, zabs]
  split <;> rfl
theorem m_112 : zCall 112 [.long u, .long v] sh mi mj mr = some (some (.long (zmax u v)), sh, mi, mj, mr) := by
  simp only [e_112, q_112_0, q_112_1, q_112_2, q_112_3, q_112_6, q_112_7, q_112_10, q_112_11, vf_s, vf_n, zk2_none, zk2_int, zk2_ref, zk2_null, zk2_long, zct_nil, zct_i, zct_l, zct_r, zct_n, Option.bind_some, Option.toList_some, Option.toList_none, List.cons_append, List.nil_append, zor_l, zor_r, if_true, if_false, ↓reduceIte, zmax]
  split <;> rfl
theorem m_113 : zCall 113 [.int x, .int y] sh mi mj mr = some (some (.int (if y < x then y else x)), sh, mi, mj, mr) := by
  simp only [e_113, q_113_0, q_113_1, q_113_2, q_113_5, q_113_6, q_113_9, q_113_10, vf_s, vf_n, zk2_none, zk2_int, zk2_ref, zk2_null, zk2_long, zct_nil, zct_i, zct_l, zct_r, zct_n, Option.bind_some, Option.toList_some, Option.toList_none, List.cons_append, List.nil_append, zor_l, zor_r, if_true, if_false, ↓reduceIte]
  split <;> rfl
theorem m_114 : zCall 114 [.long u, .long v] sh mi mj mr = some (some (.long (zmin u v)), sh, mi, mj, mr) := by
  simp only [e_114, q_114_0, q_114_1, q_114_2, q_114_3, q_114_6, q_114_7, q_114_10, q_114_11, vf_s, vf_n, zk2_none, zk2_int, zk2_ref, zk2_null, zk2_long, zct_nil, zct_i, zct_l, zct_r, zct_n, Option.bind_some, Option.toList_some, Option.toList_none, List.cons_append, List.nil_append, zor_l, zor_r, if_true, if_false, ↓reduceIte, zmin]
  split <;> rfl
theorem m_110 (h : ¬ v = 0) : zCall 110 [.long u, .long v] sh mi mj mr = some (some (.long (zfdiv u v)), sh, mi, mj, mr) := by
  simp only [e_110, q_110_0, q_110_1, q_110_2, q_110_3, q_110_5, q_110_6, q_110_7, q_110_8, q_110_9, q_110_10, q_110_13, q_110_15, q_110_16, q_110_17, q_110_18, q_110_19, q_110_22, q_110_24, q_110_25, q_110_26, q_110_27, q_110_29, vf_s, vf_n, zk2_none, zk2_int, zk2_ref, zk2_null, zk2_long, zct_nil, zct_i, zct_l, zct_r, zct_n, Option.bind_some, Option.toList_some, Option.toList_none, List.cons_append, List.nil_append, zor_l, zor_r, if_true, if_false, ↓reduceIte, zfdiv, h, not_false_eq_true]
  split
  · rfl
  · split <;> rfl
end
section
variable {Ls : Nat} {g : Nat → Nat} {mi : zI} {mj : zJ} {x y z : Int32} {o q k : Nat} {u : Int64}
theorem l_115 (ho : zIs (SH Ls) o 2 12) (n : Nat) : ∀ k, k + n = 12 → zRun 115 6 [some (.ref o), some (.long u), none, some (.int (zi k)), some (.int (zi 12))] [] (SH Ls) mi (yfl mj o k fun _ => u) (RF g) = some (none, SH Ls, mi, yfl mj o 12 fun _ => u, RF g) := by
  induction n with
  | zero =>
    intro k hk
    obtain rfl : k = 12 := by omega
    rw [q_115_6]
    simp (disch := (first | with_reducible exact ho | with_reducible exact zi_at ho (by omega) (by omega) | ((with_reducible refine zct_le ?_) <;> exact Nat.le_of_ble_eq_true rfl) | with_reducible exact zh_0 | with_reducible exact zh_1 | with_reducible exact zh_b | omega)) only [e_115, q_115_0, q_115_1, q_115_2r, q_115_2n, q_115_3, q_115_4, q_115_7, q_115_9, q_115_12r, q_115_12n, q_115_13, q_115_14, q_115_15, q_115_16, q_115_19, q_115_22, vf_s, vf_n, zk2_none, zk2_int, zk2_ref, zk2_null, zk2_long, zct_nil, zct_i, zct_l, zct_r, zct_n, Option.bind_some, Option.toList_some, Option.toList_none, List.cons_append, List.nil_append, zor_l, zor_r, if_true, if_false, ↓reduceIte, zi_lit, zi_of, zi_add, zi_mul, zi_sub, zi_nat, zi_leT, zi_leF, zi_ltT, zi_ltF, zi_eqT, zi_eqF, zif_0z, zif_bz, zi_01l, zi_01r, not_true_eq_false, not_false_eq_true, Nat.reduceAdd, Nat.reduceMul, Nat.reduceSub]
  | succ n ih =>
    intro k hk
    rw [q_115_6]
    simp (disch := (first | with_reducible exact ho | with_reducible exact zi_at ho (by omega) (by omega) | ((with_reducible refine zct_le ?_) <;> exact Nat.le_of_ble_eq_true rfl) | with_reducible exact zh_0 | with_reducible exact zh_1 | with_reducible exact zh_b | omega)) only [e_115, q_115_0, q_115_1, q_115_2r, q_115_2n, q_115_3, q_115_4, q_115_7, q_115_9, q_115_12r, q_115_12n, q_115_13, q_115_14, q_115_15, q_115_16, q_115_19, q_115_22, vf_s, vf_n, zk2_none, zk2_int, zk2_ref, zk2_null, zk2_long, zct_nil, zct_i, zct_l, zct_r, zct_n, Option.bind_some, Option.toList_some, Option.toList_none, List.cons_append, List.nil_append, zor_l, zor_r, if_true, if_false, ↓reduceIte, zi_lit, zi_of, zi_add, zi_mul, zi_sub, zi_nat, zi_leT, zi_leF, zi_ltT, zi_ltF, zi_eqT, zi_eqF, zif_0z, zif_bz, zi_01l, zi_01r, not_true_eq_false, not_false_eq_true, Nat.reduceAdd, Nat.reduceMul, Nat.reduceSub]
    rw [yfl_s rfl]
    exact ih (k + 1) (by omega)
theorem m_115 (ho : zIs (SH Ls) o 2 12) : zCall 115 [.ref o, .long u] (SH Ls) mi mj (RF g) = some (none, SH Ls, mi, yfl mj o 12 fun _ => u, RF g) := by
  simp (disch := (first | with_reducible exact ho | with_reducible exact zi_at ho (by omega) (by omega) | ((with_reducible refine zct_le ?_) <;> exact Nat.le_of_ble_eq_true rfl) | with_reducible exact zh_0 | with_reducible exact zh_1 | with_reducible exact zh_b | omega)) only [e_115, q_115_0, q_115_1, q_115_2r, q_115_2n, q_115_3, q_115_4, q_115_7, q_115_9, q_115_12r, q_115_12n, q_115_13, q_115_14, q_115_15, q_115_16, q_115_19, q_115_22, vf_s, vf_n, zk2_none, zk2_int, zk2_ref, zk2_null, zk2_long, zct_nil, zct_i, zct_l, zct_r, zct_n, Option.bind_some, Option.toList_some, Option.toList_none, List.cons_append, List.nil_append, zor_l, zor_r, if_true, if_false, ↓reduceIte]
  have := l_115 (g := g) (mi := mi) (mj := mj) (u := u) ho 12 0 rfl
  rw [yfl_0] at this
  exact this
theorem m_2 (ho : zBx o) (hx : zin x 4 = true) : zCall 2 [.ref o, .int x, .int y, .int z] (SH Ls) mi mj (RF g) = some (none, SH Ls, zup (zup mi (o + 1) x.toNatClampNeg y) (o + 2) x.toNatClampNeg z, mj, RF g) := by
  simp only [e_2, q_2_0r, q_2_0n, q_2_1, q_2_4, q_2_5, q_2_6, q_2_7r, q_2_7n, q_2_8, q_2_11, q_2_12, q_2_13, q_2_14, vf_s, vf_n, zk2_none, zk2_int, zk2_ref, zk2_null, zk2_long, zct_nil, zct_i, zct_l, zct_r, zct_n, Option.bind_some, Option.toList_some, Option.toList_none, List.cons_append, List.nil_append, zor_l, zor_r, if_true, if_false, ↓reduceIte, zBx_is ho, zBx_r0 ho, zBx_r1 ho, zAt_iff (zBx_i1 ho), zAt_iff (zBx_i2 ho), hx]
theorem m_4 (ho : zBx o) (hx : zin x 4 = true) : zCall 4 [.ref o, .int x] (SH Ls) mi mj (RF g) = some (some (.int (mi (o + 2) x.toNatClampNeg - mi (o + 1) x.toNatClampNeg)), SH Ls, mi, mj, RF g) := by
  simp only [e_4, q_4_0r, q_4_0n, q_4_1, q_4_4, q_4_5, q_4_6r, q_4_6n, q_4_7, q_4_10, q_4_11, q_4_12, q_4_13, vf_s, vf_n, zk2_none, zk2_int, zk2_ref, zk2_null, zk2_long, zct_nil, zct_i, zct_l, zct_r, zct_n, Option.bind_some, Option.toList_some, Option.toList_none, List.cons_append, List.nil_append, zor_l, zor_r, if_true, if_false, ↓reduceIte, zBx_is ho, zBx_r0 ho, zBx_r1 ho, zAt_iff (zBx_i1 ho), zAt_iff (zBx_i2 ho), hx]
theorem m_5 (ho : zBx o) (hx : zin x 4 = true) : zCall 5 [.ref o, .int x] (SH Ls) mi mj (RF g) = some (some (.int ((mi (o + 1) x.toNatClampNeg + mi (o + 2) x.toNatClampNeg) >>> (1 &&& 31))), SH Ls, mi, mj, RF g) := by
  simp only [e_5, q_5_0r, q_5_0n, q_5_1, q_5_4, q_5_5, q_5_6r, q_5_6n, q_5_7, q_5_10, q_5_11, q_5_12, q_5_13, q_5_14, q_5_15, vf_s, vf_n, zk2_none, zk2_int, zk2_ref, zk2_null, zk2_long, zct_nil, zct_i, zct_l, zct_r, zct_n, Option.bind_some, Option.toList_some, Option.toList_none, List.cons_append, List.nil_append, zor_l, zor_r, if_true, if_false, ↓reduceIte, zBx_is ho, zBx_r0 ho, zBx_r1 ho, zAt_iff (zBx_i1 ho), zAt_iff (zBx_i2 ho), hx]
end
