/-! ===== forms as numbers: 0 the center, 1 to 12 the coefficients, 13 the loose part, 14 and 15 the plain range ===== -/
abbrev FF : Type := Nat → Int64
def frad (F : FF) : Nat → Int64
  | 0 => F 13
  | n + 1 => frad F n + zabs (F (n + 1))
def flow (F : FF) : Int64 := zmax (F 0 - frad F 12) (F 14)
def fhigh (F : FF) : Int64 := zmin (F 0 + frad F 12) (F 15)
abbrev zbig (u : Int64) : Prop := 1000000000 < u ∨ u < -1000000000
def fMk (c : Int64) (a : Nat → Int64) (e l u : Int64) : FF := fun k => if k = 0 then c else if k < 13 then a (k - 1) else if k = 13 then e else if k = 14 then l else u
section
variable {c e l u : Int64} {a b : Nat → Int64}
theorem fMk_0 : fMk c a e l u 0 = c := rfl
theorem fMk_13 : fMk c a e l u 13 = e := rfl
theorem fMk_14 : fMk c a e l u 14 = l := rfl
theorem fMk_15 : fMk c a e l u 15 = u := rfl
theorem fMk_c {k : Nat} (h : k < 12) : fMk c a e l u (k + 1) = a k := by
  unfold fMk
  rw [if_neg (by omega), if_pos (by omega)]
  rfl
theorem fMk_eq (h : ∀ k, k < 12 → a k = b k) : fMk c a e l u = fMk c b e l u := by
  funext k
  unfold fMk
  split
  · rfl
  · split
    · exact h _ (by omega)
    · rfl
end
def cf (mj : zJ) (o : Nat) : FF := fMk (mj o 1) (mj (o + 1)) (mj o 2) (mj o 3) (mj o 4)
def wF (mj : zJ) (o : Nat) (F : FF) : zJ := fun a j => if a = o then (if j = 1 then F 0 else if j = 2 then F 13 else if j = 3 then F 14 else if j = 4 then F 15 else mj o j) else if a = o + 1 then (if j < 12 then F (j + 1) else mj (o + 1) j) else mj a j
theorem wF_of {m mj : zJ} {o : Nat} {F : FF} (h1 : m o 1 = F 0) (h2 : m o 2 = F 13) (h3 : m o 3 = F 14) (h4 : m o 4 = F 15) (h5 : ∀ j, j = 0 ∨ 5 ≤ j → m o j = mj o j) (h6 : ∀ j, j < 12 → m (o + 1) j = F (j + 1)) (h7 : ∀ j, 12 ≤ j → m (o + 1) j = mj (o + 1) j) (h8 : ∀ a, a < o ∨ o + 1 < a → m a = mj a) : m = wF mj o F := by
  funext a j
  unfold wF
  by_cases ha : a = o
  · subst ha
    rw [if_pos rfl]
    by_cases e1 : j = 1
    · subst e1; rw [if_pos rfl, h1]
    · rw [if_neg e1]
      by_cases e2 : j = 2
      · subst e2; rw [if_pos rfl, h2]
      · rw [if_neg e2]
        by_cases e3 : j = 3
        · subst e3; rw [if_pos rfl, h3]
        · rw [if_neg e3]
          by_cases e4 : j = 4
          · subst e4; rw [if_pos rfl, h4]
          · rw [if_neg e4]; exact h5 j (by omega)
  · rw [if_neg ha]
    by_cases hb : a = o + 1
    · subst hb
      rw [if_pos rfl]
      by_cases e : j < 12
      · rw [if_pos e]; exact h6 j e
      · rw [if_neg e]; exact h7 j (by omega)
    · rw [if_neg hb, h8 a (by omega)]
section
variable {mj : zJ} {o p : Nat} {F : FF}
theorem cf_0 : cf mj o 0 = mj o 1 := rfl
theorem cf_13 : cf mj o 13 = mj o 2 := rfl
theorem cf_14 : cf mj o 14 = mj o 3 := rfl
theorem cf_15 : cf mj o 15 = mj o 4 := rfl
theorem cf_c {k : Nat} (h : k < 12) : cf mj o (k + 1) = mj (o + 1) k := by
  unfold cf
  exact fMk_c h
theorem cf_ext {G : FF} (h0 : F 0 = G 0) (h1 : ∀ k, k < 12 → F (k + 1) = G (k + 1)) (h2 : F 13 = G 13) (h3 : F 14 = G 14) (h4 : F 15 = G 15) : ∀ k, k < 16 → F k = G k := by
  intro k hk
  rcases Nat.eq_zero_or_pos k with rfl | hp
  · exact h0
  · by_cases e : k ≤ 12
    · obtain ⟨j, rfl⟩ : ∃ j, k = j + 1 := ⟨k - 1, by omega⟩
      exact h1 j (by omega)
    · rcases (show k = 13 ∨ k = 14 ∨ k = 15 by omega) with rfl | rfl | rfl
      · exact h2
      · exact h3
      · exact h4
theorem cf_wF : ∀ k, k < 16 → cf (wF mj o F) o k = F k := by
  refine cf_ext ?_ ?_ ?_ ?_ ?_
  · simp [cf, wF, fMk]
  · intro k hk
    rw [cf_c hk]
    simp [wF, hk]
  · simp [cf, wF, fMk]
  · simp [cf, wF, fMk]
  · simp [cf, wF, fMk]
theorem wF_o {a j : Nat} (h : a < o ∨ o + 1 < a) : wF mj o F a j = mj a j := by
  unfold wF
  rw [if_neg (by omega), if_neg (by omega)]
theorem wF_ro {a : Nat} (h : a < o ∨ o + 1 < a) : wF mj o F a = mj a := funext fun _ => wF_o h
theorem wF_5 {j : Nat} (h : 4 < j) : wF mj o F o j = mj o j := by
  unfold wF
  rw [if_pos rfl, if_neg (by omega), if_neg (by omega), if_neg (by omega), if_neg (by omega)]
theorem wF_1 : wF mj o F o 1 = F 0 := by simp [wF]
theorem wF_2 : wF mj o F o 2 = F 13 := by simp [wF]
theorem wF_3 : wF mj o F o 3 = F 14 := by simp [wF]
theorem wF_4 : wF mj o F o 4 = F 15 := by simp [wF]
theorem wF_c {j : Nat} (h : j < 12) : wF mj o F (o + 1) j = F (j + 1) := by simp [wF, h]
theorem cf_congr {m m' : zJ} (h : m o = m' o) (h' : m (o + 1) = m' (o + 1)) : cf m o = cf m' o := by
  unfold cf
  rw [h, h']
theorem frad_ext {F G : FF} (h : ∀ k, k < 16 → F k = G k) (n : Nat) (hn : n ≤ 12) : frad F n = frad G n := by
  induction n with
  | zero => exact h 13 (by omega)
  | succ n ih => rw [frad, frad, ih (by omega), h (n + 1) (by omega)]
end
/-! what the operations make -/
def fNm (F : FF) (s : Nat) : FF := fMk (F 0) (fun j => if j = s then F 13 else F (j + 1)) 0 (F 14) (F 15)
def fCd (F : FF) (w : Int64) (s : Nat) : FF := fMk (F 0) (fun j => if j = s then 0 else F (j + 1)) (F 13 + w) (F 14) (F 15)
def fPl (l u : Int64) : FF := fMk (zs1 (l + u)) (fun _ => 0) (zmax (u - zs1 (l + u)) (zs1 (l + u) - l)) l u
def fNumC (x : Int32) : Int64 := (zi 256 * x / zi 100).toInt64
def fNumE (x : Int32) : Int64 := if zi 256 * x - zi 256 * x / zi 100 * zi 100 = zi 0 then 0 else 1
def fNum (x : Int32) : FF := fMk (fNumC x) (fun _ => 0) (fNumE x) (fNumC x) (fNumC x + fNumE x)
def fAdd (x y : FF) : FF := fMk (x 0 + y 0) (fun j => x (j + 1) + y (j + 1)) (x 13 + y 13) (x 14 + y 14) (x 15 + y 15)
def fSub (x y : FF) : FF := fMk (x 0 - y 0) (fun j => x (j + 1) - y (j + 1)) (x 13 + y 13) (x 14 - y 15) (x 15 - y 14)
def fNeg (x : FF) : FF := fMk (-x 0) (fun j => -x (j + 1)) (x 13) (-x 15) (-x 14)
def fsum (h : Nat → Int64) (r : Int64) : Nat → Int64
  | 0 => r
  | n + 1 => fsum h r n + h n
def fMul (x : FF) (rx : Int64) (y : FF) (ry : Int64) : FF := fMk (zs8 (x 0 * y 0)) (fun j => zs8 (x 0 * y (j + 1) + y 0 * x (j + 1)))
  (zu8 (zabs (x 0) * y 13 + zabs (y 0) * x 13 + rx * ry) + fsum (fun j => zr8 (x 0 * y (j + 1) + y 0 * x (j + 1))) (zr8 (x 0 * y 0)) 12)
  (zs8 (zmin (zmin (x 14 * y 14) (x 14 * y 15)) (zmin (x 15 * y 14) (x 15 * y 15))))
  (zu8 (zmax (zmax (x 14 * y 14) (x 14 * y 15)) (zmax (x 15 * y 14) (x 15 * y 15))))
def fSq (x : FF) (rx : Int64) : FF := fMk (zs9 (2 * x 0 * x 0 + rx * rx)) (fun j => zs8 (2 * x 0 * x (j + 1)))
  (zu9 (4 * zabs (x 0) * x 13 + rx * rx) + fsum (fun j => zr8 (2 * x 0 * x (j + 1))) (zr9 (2 * x 0 * x 0 + rx * rx)) 12)
  (if 0 < x 14 then zs8 (zmin (x 14 * x 14) (x 15 * x 15)) else if x 15 < 0 then zs8 (zmin (x 14 * x 14) (x 15 * x 15)) else 0)
  (zu8 (zmax (x 14 * x 14) (x 15 * x 15)))
theorem zne_100 : ¬ zi 100 = 0 := by decide
theorem zs8_f {v : Int64} : v >>> ((zi 8).toInt64 &&& 63) = zs8 v := rfl
theorem zs9_f {v : Int64} : v >>> ((zi 9).toInt64 &&& 63) = zs9 v := rfl
theorem zs1_f {v : Int64} : v >>> ((zi 1).toInt64 &&& 63) = zs1 v := rfl
theorem zsh_8 : (1 : Int64) <<< ((zi 8).toInt64 &&& 63) = 256 := by decide
theorem zsh_9 : (1 : Int64) <<< ((zi 9).toInt64 &&& 63) = 512 := by decide
section
variable {sh : zSh} {mi : zI} {mj : zJ} {mr : zR} {x y : Int32} {u v : Int64}
theorem m_40 : zCall 40 [.long u] sh mi mj mr = some (some (.int (if zbig u then zi 1 else zi 0)), sh, mi, mj, mr) := by
  simp (disch := (first | ((with_reducible refine zct_le ?_) <;> exact Nat.le_of_ble_eq_true rfl) | with_reducible exact zh_0 | with_reducible exact zh_1 | with_reducible exact zh_b | omega)) only [e_40, q_40_0, q_40_1, q_40_4, q_40_5, q_40_8, q_40_9, q_40_12, q_40_13, q_40_16, q_40_17, q_40_20, q_40_21, vf_s, vf_n, zk2_none, zk2_int, zk2_ref, zk2_null, zk2_long, zct_nil, zct_i, zct_l, zct_r, zct_n, Option.bind_some, Option.toList_some, Option.toList_none, List.cons_append, List.nil_append, zor_l, zor_r, if_true, if_false, ↓reduceIte, zi_lit, zi_of, zi_add, zi_mul, zi_sub, zi_nat, zi_leT, zi_leF, zi_ltT, zi_ltF, zi_eqT, zi_eqF, zif_0z, zif_bz, zi_01l, zi_01r, not_true_eq_false, not_false_eq_true, Nat.reduceAdd, Nat.reduceMul, Nat.reduceSub]
  by_cases h1 : 1000000000 < u
  · simp [h1]
  · by_cases h2 : u < -1000000000
    · have := lg_lt_not_le h2
      simp [h1, h2, this]
    · have : -1000000000 ≤ u := by
        rw [zj_le]; rw [zj_lt] at h2; omega
      simp [h1, h2, this, show ¬ zbig u from fun h => h.elim h1 h2]
theorem m_41_8 : zCall 41 [.long u, .int (zi 8)] sh mi mj mr = some (some (.int (if u.toInt % 256 = 0 then zi 0 else zi 1)), sh, mi, mj, mr) := by
  simp (disch := (first | ((with_reducible refine zct_le ?_) <;> exact Nat.le_of_ble_eq_true rfl) | with_reducible exact zh_0 | with_reducible exact zh_1 | with_reducible exact zh_b | omega)) only [e_41, q_41_0, q_41_1, q_41_2, q_41_3, q_41_4, q_41_5, q_41_6, q_41_7, q_41_8, q_41_9, q_41_12, q_41_13, q_41_16, q_41_17, vf_s, vf_n, zk2_none, zk2_int, zk2_ref, zk2_null, zk2_long, zct_nil, zct_i, zct_l, zct_r, zct_n, Option.bind_some, Option.toList_some, Option.toList_none, List.cons_append, List.nil_append, zor_l, zor_r, if_true, if_false, ↓reduceIte, zi_lit, zi_of, zi_add, zi_mul, zi_sub, zi_nat, zi_leT, zi_leF, zi_ltT, zi_ltF, zi_eqT, zi_eqF, zif_0z, zif_bz, zi_01l, zi_01r, not_true_eq_false, not_false_eq_true, Nat.reduceAdd, Nat.reduceMul, Nat.reduceSub, zsh_8, show (256 : Int64) - 1 = 255 from by decide, zr8_mask]
  split <;> simp_all
theorem m_41_9 : zCall 41 [.long u, .int (zi 9)] sh mi mj mr = some (some (.int (if u.toInt % 512 = 0 then zi 0 else zi 1)), sh, mi, mj, mr) := by
  simp (disch := (first | ((with_reducible refine zct_le ?_) <;> exact Nat.le_of_ble_eq_true rfl) | with_reducible exact zh_0 | with_reducible exact zh_1 | with_reducible exact zh_b | omega)) only [e_41, q_41_0, q_41_1, q_41_2, q_41_3, q_41_4, q_41_5, q_41_6, q_41_7, q_41_8, q_41_9, q_41_12, q_41_13, q_41_16, q_41_17, vf_s, vf_n, zk2_none, zk2_int, zk2_ref, zk2_null, zk2_long, zct_nil, zct_i, zct_l, zct_r, zct_n, Option.bind_some, Option.toList_some, Option.toList_none, List.cons_append, List.nil_append, zor_l, zor_r, if_true, if_false, ↓reduceIte, zi_lit, zi_of, zi_add, zi_mul, zi_sub, zi_nat, zi_leT, zi_leF, zi_ltT, zi_ltF, zi_eqT, zi_eqF, zif_0z, zif_bz, zi_01l, zi_01r, not_true_eq_false, not_false_eq_true, Nat.reduceAdd, Nat.reduceMul, Nat.reduceSub, zsh_9, show (512 : Int64) - 1 = 511 from by decide, zr9_mask]
  split <;> simp_all
theorem zr8_c : (if u.toInt % 256 = 0 then zi 0 else zi 1).toInt64 = zr8 u := by unfold zr8; split <;> rfl
theorem zr9_c : (if u.toInt % 512 = 0 then zi 0 else zi 1).toInt64 = zr9 u := by unfold zr9; split <;> rfl
theorem m_42_8 : zCall 42 [.long u, .int (zi 8)] sh mi mj mr = some (some (.long (zu8 u)), sh, mi, mj, mr) := by
  simp (disch := (first | ((with_reducible refine zct_le ?_) <;> exact Nat.le_of_ble_eq_true rfl) | with_reducible exact zh_0 | with_reducible exact zh_1 | with_reducible exact zh_b | omega)) only [e_42, q_42_0, q_42_1, q_42_2, q_42_3, q_42_4, q_42_5, q_42_6, q_42_7, q_42_8, q_42_9, vf_s, vf_n, zk2_none, zk2_int, zk2_ref, zk2_null, zk2_long, zct_nil, zct_i, zct_l, zct_r, zct_n, Option.bind_some, Option.toList_some, Option.toList_none, List.cons_append, List.nil_append, zor_l, zor_r, if_true, if_false, ↓reduceIte, zi_lit, zi_of, zi_add, zi_mul, zi_sub, zi_nat, zi_leT, zi_leF, zi_ltT, zi_ltF, zi_eqT, zi_eqF, zif_0z, zif_bz, zi_01l, zi_01r, not_true_eq_false, not_false_eq_true, Nat.reduceAdd, Nat.reduceMul, Nat.reduceSub, zsh_8, zs8_f, zu8]
theorem m_42_9 : zCall 42 [.long u, .int (zi 9)] sh mi mj mr = some (some (.long (zu9 u)), sh, mi, mj, mr) := by
  simp (disch := (first | ((with_reducible refine zct_le ?_) <;> exact Nat.le_of_ble_eq_true rfl) | with_reducible exact zh_0 | with_reducible exact zh_1 | with_reducible exact zh_b | omega)) only [e_42, q_42_0, q_42_1, q_42_2, q_42_3, q_42_4, q_42_5, q_42_6, q_42_7, q_42_8, q_42_9, vf_s, vf_n, zk2_none, zk2_int, zk2_ref, zk2_null, zk2_long, zct_nil, zct_i, zct_l, zct_r, zct_n, Option.bind_some, Option.toList_some, Option.toList_none, List.cons_append, List.nil_append, zor_l, zor_r, if_true, if_false, ↓reduceIte, zi_lit, zi_of, zi_add, zi_mul, zi_sub, zi_nat, zi_leT, zi_leF, zi_ltT, zi_ltF, zi_eqT, zi_eqF, zif_0z, zif_bz, zi_01l, zi_01r, not_true_eq_false, not_false_eq_true, Nat.reduceAdd, Nat.reduceMul, Nat.reduceSub, zsh_9, zs9_f, zu9]
end
section
variable {Ls : Nat} {g : Nat → Nat} {mi : zI} {mj : zJ} {x y z : Int32} {o p q k : Nat} {u v : Int64}
theorem l_20 (ho : zFm o) (n : Nat) : ∀ k, k + n = 12 → zRun 20 10 [some (.ref o), some (.int (zi k))] [] (SH Ls) mi (zup mj o 6 (frad (cf mj o) k)) (RF g) = zRun 20 40 [some (.ref o), some (.int (zi 12))] [] (SH Ls) mi (zup mj o 6 (frad (cf mj o) 12)) (RF g) := by
  induction n with
  | zero =>
    intro k hk
    obtain rfl : k = 12 := by omega
    rw [q_20_10]
    simp (disch := (first | ((with_reducible refine zct_le ?_) <;> exact Nat.le_of_ble_eq_true rfl) | with_reducible exact zh_0 | with_reducible exact zh_1 | with_reducible exact zh_b | omega)) only [q_20_11, q_20_13, vf_s, vf_n, zk2_none, zk2_int, zk2_ref, zk2_null, zk2_long, zct_nil, zct_i, zct_l, zct_r, zct_n, Option.bind_some, Option.toList_some, Option.toList_none, List.cons_append, List.nil_append, zor_l, zor_r, if_true, if_false, ↓reduceIte, zi_lit, zi_of, zi_add, zi_mul, zi_sub, zi_nat, zi_leT, zi_leF, zi_ltT, zi_ltF, zi_eqT, zi_eqF, zif_0z, zif_bz, zi_01l, zi_01r, not_true_eq_false, not_false_eq_true, Nat.reduceAdd, Nat.reduceMul, Nat.reduceSub]
  | succ n ih =>
    intro k hk
    rw [q_20_10]
    simp (disch := (first | with_reducible exact (zFm_is ho) | with_reducible exact zi_at (zFm_is ho) (by omega) (by omega) | with_reducible exact (zFm_ic ho) | with_reducible exact zi_at (zFm_ic ho) (by omega) (by omega) | ((with_reducible refine zct_le ?_) <;> exact Nat.le_of_ble_eq_true rfl) | with_reducible exact zh_0 | with_reducible exact zh_1 | with_reducible exact zh_b | omega)) only [q_20_11, q_20_13, q_20_16r, q_20_16n, q_20_17r, q_20_17i, q_20_18, q_20_21r, q_20_21n, q_20_22, q_20_25, q_20_26, q_20_27, q_20_30, q_20_31, q_20_34, q_20_37, vf_s, vf_n, zk2_none, zk2_int, zk2_ref, zk2_null, zk2_long, zct_nil, zct_i, zct_l, zct_r, zct_n, Option.bind_some, Option.toList_some, Option.toList_none, List.cons_append, List.nil_append, zor_l, zor_r, if_true, if_false, ↓reduceIte, zi_lit, zi_of, zi_add, zi_mul, zi_sub, zi_nat, zi_leT, zi_leF, zi_ltT, zi_ltF, zi_eqT, zi_eqF, zif_0z, zif_bz, zi_01l, zi_01r, not_true_eq_false, not_false_eq_true, Nat.reduceAdd, Nat.reduceMul, Nat.reduceSub, zg_s, zg_o, zg_j, zg_r, zg_ro, zg_d, yfl_o, zFm_r ho, m_111]
    rw [← cf_c (mj := mj) (o := o) (by omega : k < 12)]
    exact ih (k + 1) (by omega)
theorem m_20 (ho : zFm o) : zCall 20 [.ref o] (SH Ls) mi mj (RF g) = some (none, SH Ls, if zbig (mj o 1) ∨ zbig (frad (cf mj o) 12) ∨ zbig (mj o 3) ∨ zbig (mj o 4) then zup mi o 0 (zi 3) else mi, zup (zup (zup mj o 6 (frad (cf mj o) 12)) o 7 (flow (cf mj o))) o 8 (fhigh (cf mj o)), RF g) := by
  simp (disch := (first | with_reducible exact (zFm_is ho) | with_reducible exact zi_at (zFm_is ho) (by omega) (by omega) | with_reducible exact (zFm_ic ho) | with_reducible exact zi_at (zFm_ic ho) (by omega) (by omega) | ((with_reducible refine zct_le ?_) <;> exact Nat.le_of_ble_eq_true rfl) | with_reducible exact zh_0 | with_reducible exact zh_1 | with_reducible exact zh_b | omega)) only [e_20, q_20_0r, q_20_0n, q_20_1r, q_20_1n, q_20_2, q_20_5, q_20_8, q_20_9, vf_s, vf_n, zk2_none, zk2_int, zk2_ref, zk2_null, zk2_long, zct_nil, zct_i, zct_l, zct_r, zct_n, Option.bind_some, Option.toList_some, Option.toList_none, List.cons_append, List.nil_append, zor_l, zor_r, if_true, if_false, ↓reduceIte, zi_lit, zi_of, zi_add, zi_mul, zi_sub, zi_nat, zi_leT, zi_leF, zi_ltT, zi_ltF, zi_eqT, zi_eqF, zif_0z, zif_bz, zi_01l, zi_01r, not_true_eq_false, not_false_eq_true, Nat.reduceAdd, Nat.reduceMul, Nat.reduceSub, zg_s, zg_o, zg_j, zg_r, zg_ro, zg_d, yfl_o]
  have := l_20 (Ls := Ls) (g := g) (mi := mi) (mj := mj) ho 12 0 rfl
  rw [show frad (cf mj o) 0 = mj o 2 from rfl] at this
  rw [this]
  simp (disch := (first | with_reducible exact (zFm_is ho) | with_reducible exact zi_at (zFm_is ho) (by omega) (by omega) | with_reducible exact (zFm_ic ho) | with_reducible exact zi_at (zFm_ic ho) (by omega) (by omega) | ((with_reducible refine zct_le ?_) <;> exact Nat.le_of_ble_eq_true rfl) | with_reducible exact zh_0 | with_reducible exact zh_1 | with_reducible exact zh_b | omega)) only [q_20_40r, q_20_40n, q_20_41r, q_20_41n, q_20_42, q_20_45r, q_20_45n, q_20_46, q_20_49, q_20_50r, q_20_50n, q_20_51, q_20_54, q_20_57, q_20_60r, q_20_60n, q_20_61r, q_20_61n, q_20_62, q_20_65r, q_20_65n, q_20_66, q_20_69, q_20_70r, q_20_70n, q_20_71, q_20_74, q_20_77, q_20_80r, q_20_80n, q_20_81, q_20_84, q_20_87, q_20_90r, q_20_90n, q_20_91, q_20_94, q_20_97, q_20_100r, q_20_100n, q_20_101, q_20_104, q_20_107, q_20_110r, q_20_110n, q_20_111, q_20_114, q_20_117, q_20_120r, q_20_120n, q_20_121, q_20_122, q_20_125, e_19, q_19_0r, q_19_0n, q_19_1, q_19_2, q_19_5, vf_s, vf_n, zk2_none, zk2_int, zk2_ref, zk2_null, zk2_long, zct_nil, zct_i, zct_l, zct_r, zct_n, Option.bind_some, Option.toList_some, Option.toList_none, List.cons_append, List.nil_append, zor_l, zor_r, if_true, if_false, ↓reduceIte, zi_lit, zi_of, zi_add, zi_mul, zi_sub, zi_nat, zi_leT, zi_leF, zi_ltT, zi_ltF, zi_eqT, zi_eqF, zif_0z, zif_bz, zi_01l, zi_01r, not_true_eq_false, not_false_eq_true, Nat.reduceAdd, Nat.reduceMul, Nat.reduceSub, zg_s, zg_o, zg_j, zg_r, zg_ro, zg_d, yfl_o, m_112, m_114, m_40]
  simp only [flow, fhigh, cf_0, cf_14, cf_15]
  by_cases h1 : zbig (mj o 1)
  · simp [h1]
  · by_cases h2 : zbig (frad (cf mj o) 12)
    · simp [h1, h2]
    · by_cases h3 : zbig (mj o 3)
      · simp [h1, h2, h3]
      · by_cases h4 : zbig (mj o 4)
        · simp [h1, h2, h3, h4]
        · simp [h1, h2, h3, h4]
theorem m_19 (ho : zFm o) : zCall 19 [.ref o, .int x] (SH Ls) mi mj (RF g) = some (none, SH Ls, zup mi o 0 x, mj, RF g) := by
  simp (disch := (first | with_reducible exact (zFm_is ho) | with_reducible exact zi_at (zFm_is ho) (by omega) (by omega) | ((with_reducible refine zct_le ?_) <;> exact Nat.le_of_ble_eq_true rfl) | with_reducible exact zh_0 | with_reducible exact zh_1 | with_reducible exact zh_b | omega)) only [e_19, q_19_0r, q_19_0n, q_19_1, q_19_2, q_19_5, vf_s, vf_n, zk2_none, zk2_int, zk2_ref, zk2_null, zk2_long, zct_nil, zct_i, zct_l, zct_r, zct_n, Option.bind_some, Option.toList_some, Option.toList_none, List.cons_append, List.nil_append, zor_l, zor_r, if_true, if_false, ↓reduceIte, zi_lit, zi_of, zi_add, zi_mul, zi_sub, zi_nat, zi_leT, zi_leF, zi_ltT, zi_ltF, zi_eqT, zi_eqF, zif_0z, zif_bz, zi_01l, zi_01r, not_true_eq_false, not_false_eq_true, Nat.reduceAdd, Nat.reduceMul, Nat.reduceSub]
theorem m_21 (ho : zFm o) : zCall 21 [.ref o, .int x] (SH Ls) mi mj (RF g) = some (some (.long (if x = zi 0 then mj o 7 else mj o 8)), SH Ls, mi, mj, RF g) := by
  simp (disch := (first | with_reducible exact (zFm_is ho) | with_reducible exact zi_at (zFm_is ho) (by omega) (by omega) | ((with_reducible refine zct_le ?_) <;> exact Nat.le_of_ble_eq_true rfl) | with_reducible exact zh_0 | with_reducible exact zh_1 | with_reducible exact zh_b | omega)) only [e_21, q_21_0, q_21_1, q_21_4r, q_21_4n, q_21_5, q_21_8, q_21_11r, q_21_11n, q_21_12, q_21_15, vf_s, vf_n, zk2_none, zk2_int, zk2_ref, zk2_null, zk2_long, zct_nil, zct_i, zct_l, zct_r, zct_n, Option.bind_some, Option.toList_some, Option.toList_none, List.cons_append, List.nil_append, zor_l, zor_r, if_true, if_false, ↓reduceIte, zi_lit, zi_of, zi_add, zi_mul, zi_sub, zi_nat, zi_leT, zi_leF, zi_ltT, zi_ltF, zi_eqT, zi_eqF, zif_0z, zif_bz, zi_01l, zi_01r, not_true_eq_false, not_false_eq_true, Nat.reduceAdd, Nat.reduceMul, Nat.reduceSub]
  by_cases h : x = zi 0 <;> simp [h]
theorem m_22 (ho : zFm o) : zCall 22 [.ref o] (SH Ls) mi mj (RF g) = some (some (.int (if mj o 7 ≤ 0 ∧ 0 ≤ mj o 8 then zi 1 else zi 0)), SH Ls, mi, mj, RF g) := by
  simp (disch := (first | with_reducible exact (zFm_is ho) | with_reducible exact zi_at (zFm_is ho) (by omega) (by omega) | ((with_reducible refine zct_le ?_) <;> exact Nat.le_of_ble_eq_true rfl) | with_reducible exact zh_0 | with_reducible exact zh_1 | with_reducible exact zh_b | omega)) only [e_22, q_22_0r, q_22_0n, q_22_1, q_22_4, q_22_5, q_22_6, q_22_9r, q_22_9n, q_22_10, q_22_13, q_22_14, q_22_15, q_22_18, q_22_19, q_22_22, q_22_23, vf_s, vf_n, zk2_none, zk2_int, zk2_ref, zk2_null, zk2_long, zct_nil, zct_i, zct_l, zct_r, zct_n, Option.bind_some, Option.toList_some, Option.toList_none, List.cons_append, List.nil_append, zor_l, zor_r, if_true, if_false, ↓reduceIte, zi_lit, zi_of, zi_add, zi_mul, zi_sub, zi_nat, zi_leT, zi_leF, zi_ltT, zi_ltF, zi_eqT, zi_eqF, zif_0z, zif_bz, zi_01l, zi_01r, not_true_eq_false, not_false_eq_true, Nat.reduceAdd, Nat.reduceMul, Nat.reduceSub]
  by_cases h : 0 < mj o 7
  · simp [h, lg_lt_not_le h]
  · have h1 : mj o 7 ≤ 0 := by rw [zj_le]; rw [zj_lt] at h; omega
    by_cases h2 : mj o 8 < 0
    · simp [h, h2, lg_lt_not_le h2]
    · have h3 : 0 ≤ mj o 8 := by rw [zj_le]; rw [zj_lt] at h2; omega
      simp [h, h1, h2, h3]
theorem m_23 (ho : zFm o) (hk : k < 12) : zCall 23 [.ref o, .int (zi k)] (SH Ls) mi mj (RF g) = some (some (.long (if mi o 0 = zi 0 then zabs (mj (o + 1) k) else 0)), SH Ls, mi, mj, RF g) := by
  simp (disch := (first | with_reducible exact (zFm_is ho) | with_reducible exact zi_at (zFm_is ho) (by omega) (by omega) | with_reducible exact (zFm_ic ho) | with_reducible exact zi_at (zFm_ic ho) (by omega) (by omega) | ((with_reducible refine zct_le ?_) <;> exact Nat.le_of_ble_eq_true rfl) | with_reducible exact zh_0 | with_reducible exact zh_1 | with_reducible exact zh_b | omega)) only [e_23, q_23_0r, q_23_0n, q_23_1, q_23_4, q_23_7, q_23_8, q_23_11r, q_23_11n, q_23_12, q_23_15, q_23_16, q_23_17, q_23_20, vf_s, vf_n, zk2_none, zk2_int, zk2_ref, zk2_null, zk2_long, zct_nil, zct_i, zct_l, zct_r, zct_n, Option.bind_some, Option.toList_some, Option.toList_none, List.cons_append, List.nil_append, zor_l, zor_r, if_true, if_false, ↓reduceIte, zi_lit, zi_of, zi_add, zi_mul, zi_sub, zi_nat, zi_leT, zi_leF, zi_ltT, zi_ltF, zi_eqT, zi_eqF, zif_0z, zif_bz, zi_01l, zi_01r, not_true_eq_false, not_false_eq_true, Nat.reduceAdd, Nat.reduceMul, Nat.reduceSub, zFm_r ho, m_111]
  by_cases h : mi o 0 = zi 0 <;> simp [h]
theorem m_25 (ho : zFm o) (hk : k < 12) : zCall 25 [.ref o, .int (zi k)] (SH Ls) mi mj (RF g) = some (none, SH Ls, mi, wF mj o (fNm (cf mj o) k), RF g) := by
  simp (disch := (first | with_reducible exact (zFm_is ho) | with_reducible exact zi_at (zFm_is ho) (by omega) (by omega) | with_reducible exact (zFm_ic ho) | with_reducible exact zi_at (zFm_ic ho) (by omega) (by omega) | ((with_reducible refine zct_le ?_) <;> exact Nat.le_of_ble_eq_true rfl) | with_reducible exact zh_0 | with_reducible exact zh_1 | with_reducible exact zh_b | omega)) only [e_25, q_25_0r, q_25_0n, q_25_1, q_25_4, q_25_5r, q_25_5n, q_25_6, q_25_9, q_25_10r, q_25_10n, q_25_11, q_25_12, q_25_15, vf_s, vf_n, zk2_none, zk2_int, zk2_ref, zk2_null, zk2_long, zct_nil, zct_i, zct_l, zct_r, zct_n, Option.bind_some, Option.toList_some, Option.toList_none, List.cons_append, List.nil_append, zor_l, zor_r, if_true, if_false, ↓reduceIte, zi_lit, zi_of, zi_add, zi_mul, zi_sub, zi_nat, zi_leT, zi_leF, zi_ltT, zi_ltF, zi_eqT, zi_eqF, zif_0z, zif_bz, zi_01l, zi_01r, not_true_eq_false, not_false_eq_true, Nat.reduceAdd, Nat.reduceMul, Nat.reduceSub, zFm_r ho]
  refine rs_mj (wF_of ?_ ?_ ?_ ?_ ?_ ?_ ?_ ?_)
  · simp (disch := omega) only [zg_s, zg_o, zg_j, zg_r, zg_ro, zg_d, yfl_o, fNm, fMk_0, cf_0, cf_13, cf_14, cf_15]
  · simp (disch := omega) only [zg_s, zg_o, zg_j, zg_r, zg_ro, zg_d, yfl_o, fNm, fMk_13, cf_0, cf_13, cf_14, cf_15]
  · simp (disch := omega) only [zg_s, zg_o, zg_j, zg_r, zg_ro, zg_d, yfl_o, fNm, fMk_14, cf_0, cf_13, cf_14, cf_15]
  · simp (disch := omega) only [zg_s, zg_o, zg_j, zg_r, zg_ro, zg_d, yfl_o, fNm, fMk_15, cf_0, cf_13, cf_14, cf_15]
  · intro j hj
    simp (disch := omega) only [zg_s, zg_o, zg_j, zg_r, zg_ro, zg_d, yfl_o]
  · intro j hj
    simp (disch := omega) only [zg_s, zg_o, zg_j, zg_r, zg_ro, zg_d, yfl_o, fNm, fMk_c, cf_13, cf_c]
    by_cases h : j = k
    · subst h; rw [if_pos rfl, zg_s]
    · rw [if_neg h, zg_j (by omega)]
  · intro j hj
    simp (disch := omega) only [zg_s, zg_o, zg_j, zg_r, zg_ro, zg_d, yfl_o, yfl_ge]
  · intro a ha
    simp (disch := omega) only [zg_s, zg_o, zg_j, zg_r, zg_ro, zg_d, yfl_o]
theorem m_24 (ho : zFm o) (hk : k < 12) : zCall 24 [.ref o, .int (zi k)] (SH Ls) mi mj (RF g) = some (none, SH Ls, mi, wF mj o (fCd (cf mj o) (if mi o 0 = zi 0 then zabs (mj (o + 1) k) else 0) k), RF g) := by
  simp (disch := (first | with_reducible exact (zFm_is ho) | with_reducible exact zi_at (zFm_is ho) (by omega) (by omega) | with_reducible exact (zFm_ic ho) | with_reducible exact zi_at (zFm_ic ho) (by omega) (by omega) | ((with_reducible refine zct_le ?_) <;> exact Nat.le_of_ble_eq_true rfl) | with_reducible exact zh_0 | with_reducible exact zh_1 | with_reducible exact zh_b | omega)) only [e_24, q_24_0r, q_24_0n, q_24_1r, q_24_1i, q_24_2, q_24_5r, q_24_5n, q_24_6, q_24_7, q_24_10, q_24_11, q_24_14r, q_24_14n, q_24_15, q_24_18, q_24_19, q_24_20, q_24_21, vf_s, vf_n, zk2_none, zk2_int, zk2_ref, zk2_null, zk2_long, zct_nil, zct_i, zct_l, zct_r, zct_n, Option.bind_some, Option.toList_some, Option.toList_none, List.cons_append, List.nil_append, zor_l, zor_r, if_true, if_false, ↓reduceIte, zi_lit, zi_of, zi_add, zi_mul, zi_sub, zi_nat, zi_leT, zi_leF, zi_ltT, zi_ltF, zi_eqT, zi_eqF, zif_0z, zif_bz, zi_01l, zi_01r, not_true_eq_false, not_false_eq_true, Nat.reduceAdd, Nat.reduceMul, Nat.reduceSub, zFm_r ho, m_23 ho hk]
  refine rs_mj (wF_of ?_ ?_ ?_ ?_ ?_ ?_ ?_ ?_)
  · simp (disch := omega) only [zg_s, zg_o, zg_j, zg_r, zg_ro, zg_d, yfl_o, fCd, fMk_0, cf_0, cf_13, cf_14, cf_15]
  · simp (disch := omega) only [zg_s, zg_o, zg_j, zg_r, zg_ro, zg_d, yfl_o, fCd, fMk_13, cf_0, cf_13, cf_14, cf_15]
  · simp (disch := omega) only [zg_s, zg_o, zg_j, zg_r, zg_ro, zg_d, yfl_o, fCd, fMk_14, cf_0, cf_13, cf_14, cf_15]
  · simp (disch := omega) only [zg_s, zg_o, zg_j, zg_r, zg_ro, zg_d, yfl_o, fCd, fMk_15, cf_0, cf_13, cf_14, cf_15]
  · intro j hj
    simp (disch := omega) only [zg_s, zg_o, zg_j, zg_r, zg_ro, zg_d, yfl_o]
  · intro j hj
    simp (disch := omega) only [zg_s, zg_o, zg_j, zg_r, zg_ro, zg_d, yfl_o, fCd, fMk_c, cf_13, cf_c]
    by_cases h : j = k
    · subst h; rw [if_pos rfl, zg_s]
    · rw [if_neg h]
      simp (disch := omega) only [zg_s, zg_o, zg_j, zg_r, zg_ro, zg_d, yfl_o]
  · intro j hj
    simp (disch := omega) only [zg_s, zg_o, zg_j, zg_r, zg_ro, zg_d, yfl_o, yfl_ge]
  · intro a ha
    simp (disch := omega) only [zg_s, zg_o, zg_j, zg_r, zg_ro, zg_d, yfl_o]
theorem m_26 (ho : zFm o) : zCall 26 [.ref o, .long u, .long v] (SH Ls) mi mj (RF g) = some (none, SH Ls, mi, wF mj o (fPl u v), RF g) := by
  simp (disch := (first | with_reducible exact (zFm_is ho) | with_reducible exact zi_at (zFm_is ho) (by omega) (by omega) | with_reducible exact (zFm_ic ho) | with_reducible exact zi_at (zFm_ic ho) (by omega) (by omega) | ((with_reducible refine zct_le ?_) <;> exact Nat.le_of_ble_eq_true rfl) | with_reducible exact zh_0 | with_reducible exact zh_1 | with_reducible exact zh_b | omega)) only [e_26, q_26_0r, q_26_0n, q_26_1, q_26_4, q_26_5, q_26_8r, q_26_8n, q_26_9, q_26_10, q_26_11, q_26_12, q_26_13, q_26_14, q_26_17r, q_26_17n, q_26_18, q_26_19r, q_26_19n, q_26_20, q_26_23, q_26_24r, q_26_24n, q_26_25, q_26_28, q_26_29, q_26_30, q_26_33, q_26_36r, q_26_36n, q_26_37, q_26_38, q_26_41r, q_26_41n, q_26_42, q_26_43, q_26_46, vf_s, vf_n, zk2_none, zk2_int, zk2_ref, zk2_null, zk2_long, zct_nil, zct_i, zct_l, zct_r, zct_n, Option.bind_some, Option.toList_some, Option.toList_none, List.cons_append, List.nil_append, zor_l, zor_r, if_true, if_false, ↓reduceIte, zi_lit, zi_of, zi_add, zi_mul, zi_sub, zi_nat, zi_leT, zi_leF, zi_ltT, zi_ltF, zi_eqT, zi_eqF, zif_0z, zif_bz, zi_01l, zi_01r, not_true_eq_false, not_false_eq_true, Nat.reduceAdd, Nat.reduceMul, Nat.reduceSub, zg_s, zg_o, zg_j, zg_r, zg_ro, zg_d, yfl_o, zFm_r ho, m_115, m_112, zs1_f]
  refine rs_mj (wF_of ?_ ?_ ?_ ?_ ?_ ?_ ?_ ?_)
  · simp (disch := omega) only [zg_s, zg_o, zg_j, zg_r, zg_ro, zg_d, yfl_o, fPl, fMk_0, cf_0, cf_13, cf_14, cf_15]
  · simp (disch := omega) only [zg_s, zg_o, zg_j, zg_r, zg_ro, zg_d, yfl_o, fPl, fMk_13, cf_0, cf_13, cf_14, cf_15]
  · simp (disch := omega) only [zg_s, zg_o, zg_j, zg_r, zg_ro, zg_d, yfl_o, fPl, fMk_14, cf_0, cf_13, cf_14, cf_15]
  · simp (disch := omega) only [zg_s, zg_o, zg_j, zg_r, zg_ro, zg_d, yfl_o, fPl, fMk_15, cf_0, cf_13, cf_14, cf_15]
  · intro j hj
    simp (disch := omega) only [zg_s, zg_o, zg_j, zg_r, zg_ro, zg_d, yfl_o]
  · intro j hj
    simp (disch := omega) only [zg_s, zg_o, zg_j, zg_r, zg_ro, zg_d, yfl_o, fPl, fMk_c, yfl_lt]
  · intro j hj
    simp (disch := omega) only [zg_s, zg_o, zg_j, zg_r, zg_ro, zg_d, yfl_o, yfl_ge]
  · intro a ha
    simp (disch := omega) only [zg_s, zg_o, zg_j, zg_r, zg_ro, zg_d, yfl_o]
theorem m_27 (ho : zFm o) : zCall 27 [.ref o, .int x] (SH Ls) mi mj (RF g) = some (none, SH Ls, mi, wF mj o (fNum x), RF g) := by
  simp (disch := (first | with_reducible exact (zFm_is ho) | with_reducible exact zi_at (zFm_is ho) (by omega) (by omega) | with_reducible exact (zFm_ic ho) | with_reducible exact zi_at (zFm_ic ho) (by omega) (by omega) | with_reducible exact zne_100 | with_reducible exact zi_at zne_100 (by omega) (by omega) | ((with_reducible refine zct_le ?_) <;> exact Nat.le_of_ble_eq_true rfl) | with_reducible exact zh_0 | with_reducible exact zh_1 | with_reducible exact zh_b | omega)) only [e_27, q_27_0r, q_27_0n, q_27_1, q_27_4, q_27_5, q_27_8, q_27_11, q_27_12, q_27_13, q_27_14r, q_27_14n, q_27_15, q_27_16, q_27_18, q_27_19, q_27_20, q_27_23r, q_27_23n, q_27_24, q_27_25, q_27_27, q_27_28, q_27_31, q_27_32, q_27_35, vf_s, vf_n, zk2_none, zk2_int, zk2_ref, zk2_null, zk2_long, zct_nil, zct_i, zct_l, zct_r, zct_n, Option.bind_some, Option.toList_some, Option.toList_none, List.cons_append, List.nil_append, zor_l, zor_r, if_true, if_false, ↓reduceIte, zi_lit, zi_of, zi_add, zi_mul, zi_sub, zi_nat, zi_leT, zi_leF, zi_ltT, zi_ltF, zi_eqT, zi_eqF, zif_0z, zif_bz, zi_01l, zi_01r, not_true_eq_false, not_false_eq_true, Nat.reduceAdd, Nat.reduceMul, Nat.reduceSub, zg_s, zg_o, zg_j, zg_r, zg_ro, zg_d, yfl_o, zFm_r ho, m_115]
  rw [mg_J]
  simp (disch := (first | with_reducible exact (zFm_is ho) | with_reducible exact zi_at (zFm_is ho) (by omega) (by omega) | with_reducible exact (zFm_ic ho) | with_reducible exact zi_at (zFm_ic ho) (by omega) (by omega) | with_reducible exact zne_100 | with_reducible exact zi_at zne_100 (by omega) (by omega) | ((with_reducible refine zct_le ?_) <;> exact Nat.le_of_ble_eq_true rfl) | with_reducible exact zh_0 | with_reducible exact zh_1 | with_reducible exact zh_b | omega)) only [q_27_36, q_27_39r, q_27_39n, q_27_40r, q_27_40n, q_27_41, q_27_44, q_27_47r, q_27_47n, q_27_48r, q_27_48n, q_27_49, q_27_52r, q_27_52n, q_27_53, q_27_56, q_27_57, q_27_60, vf_s, vf_n, zk2_none, zk2_int, zk2_ref, zk2_null, zk2_long, zct_nil, zct_i, zct_l, zct_r, zct_n, Option.bind_some, Option.toList_some, Option.toList_none, List.cons_append, List.nil_append, zor_l, zor_r, if_true, if_false, ↓reduceIte, zi_lit, zi_of, zi_add, zi_mul, zi_sub, zi_nat, zi_leT, zi_leF, zi_ltT, zi_ltF, zi_eqT, zi_eqF, zif_0z, zif_bz, zi_01l, zi_01r, not_true_eq_false, not_false_eq_true, Nat.reduceAdd, Nat.reduceMul, Nat.reduceSub, zg_s, zg_o, zg_j, zg_r, zg_ro, zg_d, yfl_o, zFm_r ho]
  have e : (if ¬ zi 256 * x - zi 256 * x / zi 100 * zi 100 = zi 0 then (1 : Int64) else 0) = fNumE x := by unfold fNumE; split <;> simp_all
  have e2 : (zi 256 * x / zi 100).toInt64 = fNumC x := rfl
  simp only [e, e2]
  refine rs_mj (wF_of ?_ ?_ ?_ ?_ ?_ ?_ ?_ ?_)
  · simp (disch := omega) only [zg_s, zg_o, zg_j, zg_r, zg_ro, zg_d, yfl_o, fNum, fMk_0, cf_0, cf_13, cf_14, cf_15]
  · simp (disch := omega) only [zg_s, zg_o, zg_j, zg_r, zg_ro, zg_d, yfl_o, fNum, fMk_13, cf_0, cf_13, cf_14, cf_15]
  · simp (disch := omega) only [zg_s, zg_o, zg_j, zg_r, zg_ro, zg_d, yfl_o, fNum, fMk_14, cf_0, cf_13, cf_14, cf_15]
  · simp (disch := omega) only [zg_s, zg_o, zg_j, zg_r, zg_ro, zg_d, yfl_o, fNum, fMk_15, cf_0, cf_13, cf_14, cf_15]
  · intro j hj
    simp (disch := omega) only [zg_s, zg_o, zg_j, zg_r, zg_ro, zg_d, yfl_o]
  · intro j hj
    simp (disch := omega) only [zg_s, zg_o, zg_j, zg_r, zg_ro, zg_d, yfl_o, fNum, fMk_c, yfl_lt]
  · intro j hj
    simp (disch := omega) only [zg_s, zg_o, zg_j, zg_r, zg_ro, zg_d, yfl_o, yfl_ge]
  · intro a ha
    simp (disch := omega) only [zg_s, zg_o, zg_j, zg_r, zg_ro, zg_d, yfl_o]
theorem m_28 (ho : zFm o) (hk : k < 12) : zCall 28 [.ref o, .int (zi k), .int y, .int z] (SH Ls) mi mj (RF g) = some (none, SH Ls, mi, wF (wF mj o (fPl y.toInt64 z.toInt64)) o (fNm (cf (wF mj o (fPl y.toInt64 z.toInt64)) o) k), RF g) := by
  simp (disch := (first | with_reducible exact (zFm_is ho) | with_reducible exact zi_at (zFm_is ho) (by omega) (by omega) | with_reducible exact (zFm_ic ho) | with_reducible exact zi_at (zFm_ic ho) (by omega) (by omega) | ((with_reducible refine zct_le ?_) <;> exact Nat.le_of_ble_eq_true rfl) | with_reducible exact zh_0 | with_reducible exact zh_1 | with_reducible exact zh_b | omega)) only [e_28, q_28_0r, q_28_0n, q_28_1, q_28_2, q_28_3, q_28_4, q_28_5, q_28_8r, q_28_8n, q_28_9, q_28_10, q_28_13, vf_s, vf_n, zk2_none, zk2_int, zk2_ref, zk2_null, zk2_long, zct_nil, zct_i, zct_l, zct_r, zct_n, Option.bind_some, Option.toList_some, Option.toList_none, List.cons_append, List.nil_append, zor_l, zor_r, if_true, if_false, ↓reduceIte, zi_lit, zi_of, zi_add, zi_mul, zi_sub, zi_nat, zi_leT, zi_leF, zi_ltT, zi_ltF, zi_eqT, zi_eqF, zif_0z, zif_bz, zi_01l, zi_01r, not_true_eq_false, not_false_eq_true, Nat.reduceAdd, Nat.reduceMul, Nat.reduceSub, m_26 ho, m_25 ho hk]
theorem m_29 (ho : zFm o) (hp : zFm p) (hne : ¬ p = o) : zCall 29 [.ref o, .ref p] (SH Ls) mi mj (RF g) = some (none, SH Ls, zup mi o 0 (mi p 0), wF mj o (cf mj p), RF g) := by
  have hoo := ho
  have hpp := hp
  obtain ⟨ho1, ho2, ho3⟩ := ho
  obtain ⟨hp1, hp2, hp3⟩ := hp
  simp (disch := (first | with_reducible exact (zFm_is hoo) | with_reducible exact zi_at (zFm_is hoo) (by omega) (by omega) | with_reducible exact (zFm_ic hoo) | with_reducible exact zi_at (zFm_ic hoo) (by omega) (by omega) | with_reducible exact (zFm_is hpp) | with_reducible exact zi_at (zFm_is hpp) (by omega) (by omega) | with_reducible exact (zFm_ic hpp) | with_reducible exact zi_at (zFm_ic hpp) (by omega) (by omega) | with_reducible exact hq12 | with_reducible exact zi_at hq12 (by omega) (by omega) | ((with_reducible refine zct_le ?_) <;> exact Nat.le_of_ble_eq_true rfl) | with_reducible exact zh_0 | with_reducible exact zh_1 | with_reducible exact zh_b | omega)) only [e_29, q_29_0r, q_29_0n, q_29_1r, q_29_1n, q_29_2, q_29_5, q_29_8r, q_29_8n, q_29_9r, q_29_9n, q_29_10, q_29_13, q_29_16r, q_29_16n, q_29_17r, q_29_17n, q_29_18, q_29_21, q_29_24r, q_29_24n, q_29_25r, q_29_25n, q_29_26, q_29_29, q_29_32r, q_29_32n, q_29_33r, q_29_33n, q_29_34, q_29_37, q_29_40r, q_29_40n, q_29_41, q_29_44, q_29_45r, q_29_45n, q_29_46, q_29_49, q_29_50, q_29_55, q_29_52j, vf_s, vf_n, zk2_none, zk2_int, zk2_ref, zk2_null, zk2_long, zct_nil, zct_i, zct_l, zct_r, zct_n, Option.bind_some, Option.toList_some, Option.toList_none, List.cons_append, List.nil_append, zor_l, zor_r, if_true, if_false, ↓reduceIte, zi_lit, zi_of, zi_add, zi_mul, zi_sub, zi_nat, zi_leT, zi_leF, zi_ltT, zi_ltF, zi_eqT, zi_eqF, zif_0z, zif_bz, zi_01l, zi_01r, not_true_eq_false, not_false_eq_true, Nat.reduceAdd, Nat.reduceMul, Nat.reduceSub, zg_s, zg_o, zg_j, zg_r, zg_ro, zg_d, yfl_o, zFm_r hoo, zFm_r hpp, cpy12]
  refine rs_mj (wF_of ?_ ?_ ?_ ?_ ?_ ?_ ?_ ?_)
  · simp (disch := omega) only [zg_s, zg_o, zg_j, zg_r, zg_ro, zg_d, yfl_o, cf, fMk_0, cf_0, cf_13, cf_14, cf_15]
  · simp (disch := omega) only [zg_s, zg_o, zg_j, zg_r, zg_ro, zg_d, yfl_o, cf, fMk_13, cf_0, cf_13, cf_14, cf_15]
  · simp (disch := omega) only [zg_s, zg_o, zg_j, zg_r, zg_ro, zg_d, yfl_o, cf, fMk_14, cf_0, cf_13, cf_14, cf_15]
  · simp (disch := omega) only [zg_s, zg_o, zg_j, zg_r, zg_ro, zg_d, yfl_o, cf, fMk_15, cf_0, cf_13, cf_14, cf_15]
  · intro j hj
    simp (disch := omega) only [zg_s, zg_o, zg_j, zg_r, zg_ro, zg_d, yfl_o]
  · intro j hj
    simp (disch := omega) only [zg_s, zg_o, zg_j, zg_r, zg_ro, zg_d, yfl_o, cf_c]
    rw [if_pos hj]
  · intro j hj
    simp (disch := omega) only [zg_s, zg_o, zg_j, zg_r, zg_ro, zg_d, yfl_o]
    rw [if_neg (by omega)]
  · intro a ha
    simp (disch := omega) only [zg_s, zg_o, zg_j, zg_r, zg_ro, zg_d, yfl_o]
theorem l_30 (ho : zFm o) (hp : zFm p) (hq : zFm q) (hne : ¬ p = o) (hne2 : ¬ q = o) (n : Nat) : ∀ k, k + n = 12 → zRun 30 15 [some (.ref o), some (.ref p), some (.ref q), some (.int (zi k))] [] (SH Ls) mi (yfl mj (o + 1) k fun j => mj (p + 1) j + mj (q + 1) j) (RF g) = zRun 30 46 [some (.ref o), some (.ref p), some (.ref q), some (.int (zi 12))] [] (SH Ls) mi (yfl mj (o + 1) 12 fun j => mj (p + 1) j + mj (q + 1) j) (RF g) := by
  have hoo := ho
  have hpp := hp
  have hqq := hq
  obtain ⟨ho1, ho2, ho3⟩ := ho
  obtain ⟨hp1, hp2, hp3⟩ := hp
  obtain ⟨hq1, hq2, hq3⟩ := hq
  induction n with
  | zero =>
    intro k hk
    obtain rfl : k = 12 := by omega
    rw [q_30_15]
    simp (disch := (first | ((with_reducible refine zct_le ?_) <;> exact Nat.le_of_ble_eq_true rfl) | with_reducible exact zh_0 | with_reducible exact zh_1 | with_reducible exact zh_b | omega)) only [q_30_16, q_30_18, vf_s, vf_n, zk2_none, zk2_int, zk2_ref, zk2_null, zk2_long, zct_nil, zct_i, zct_l, zct_r, zct_n, Option.bind_some, Option.toList_some, Option.toList_none, List.cons_append, List.nil_append, zor_l, zor_r, if_true, if_false, ↓reduceIte, zi_lit, zi_of, zi_add, zi_mul, zi_sub, zi_nat, zi_leT, zi_leF, zi_ltT, zi_ltF, zi_eqT, zi_eqF, zif_0z, zif_bz, zi_01l, zi_01r, not_true_eq_false, not_false_eq_true, Nat.reduceAdd, Nat.reduceMul, Nat.reduceSub]
  | succ n ih =>
    intro k hk
    rw [q_30_15]
    simp (disch := (first | with_reducible exact (zFm_is hoo) | with_reducible exact zi_at (zFm_is hoo) (by omega) (by omega) | with_reducible exact (zFm_ic hoo) | with_reducible exact zi_at (zFm_ic hoo) (by omega) (by omega) | with_reducible exact (zFm_is hpp) | with_reducible exact zi_at (zFm_is hpp) (by omega) (by omega) | with_reducible exact (zFm_ic hpp) | with_reducible exact zi_at (zFm_ic hpp) (by omega) (by omega) | with_reducible exact (zFm_is hqq) | with_reducible exact zi_at (zFm_is hqq) (by omega) (by omega) | with_reducible exact (zFm_ic hqq) | with_reducible exact zi_at (zFm_ic hqq) (by omega) (by omega) | ((with_reducible refine zct_le ?_) <;> exact Nat.le_of_ble_eq_true rfl) | with_reducible exact zh_0 | with_reducible exact zh_1 | with_reducible exact zh_b | omega)) only [q_30_16, q_30_18, q_30_21r, q_30_21n, q_30_22, q_30_25, q_30_26r, q_30_26n, q_30_27, q_30_30, q_30_31, q_30_32r, q_30_32n, q_30_33, q_30_36, q_30_37, q_30_38, q_30_39, q_30_40, q_30_43, vf_s, vf_n, zk2_none, zk2_int, zk2_ref, zk2_null, zk2_long, zct_nil, zct_i, zct_l, zct_r, zct_n, Option.bind_some, Option.toList_some, Option.toList_none, List.cons_append, List.nil_append, zor_l, zor_r, if_true, if_false, ↓reduceIte, zi_lit, zi_of, zi_add, zi_mul, zi_sub, zi_nat, zi_leT, zi_leF, zi_ltT, zi_ltF, zi_eqT, zi_eqF, zif_0z, zif_bz, zi_01l, zi_01r, not_true_eq_false, not_false_eq_true, Nat.reduceAdd, Nat.reduceMul, Nat.reduceSub, zg_s, zg_o, zg_j, zg_r, zg_ro, zg_d, yfl_o, zFm_r hoo, zFm_r hpp, zFm_r hqq]
    rw [yfl_s rfl]
    exact ih (k + 1) (by omega)
theorem m_30 (ho : zFm o) (hp : zFm p) (hq : zFm q) (hne : ¬ p = o) (hne2 : ¬ q = o) : zCall 30 [.ref o, .ref p, .ref q] (SH Ls) mi mj (RF g) = some (none, SH Ls, mi, wF mj o (fAdd (cf mj p) (cf mj q)), RF g) := by
  have hoo := ho
  have hpp := hp
  have hqq := hq
  obtain ⟨ho1, ho2, ho3⟩ := ho
  obtain ⟨hp1, hp2, hp3⟩ := hp
  obtain ⟨hq1, hq2, hq3⟩ := hq
  simp (disch := (first | with_reducible exact (zFm_is hoo) | with_reducible exact zi_at (zFm_is hoo) (by omega) (by omega) | with_reducible exact (zFm_is hpp) | with_reducible exact zi_at (zFm_is hpp) (by omega) (by omega) | with_reducible exact (zFm_is hqq) | with_reducible exact zi_at (zFm_is hqq) (by omega) (by omega) | ((with_reducible refine zct_le ?_) <;> exact Nat.le_of_ble_eq_true rfl) | with_reducible exact zh_0 | with_reducible exact zh_1 | with_reducible exact zh_b | omega)) only [e_30, q_30_0r, q_30_0n, q_30_1r, q_30_1n, q_30_2, q_30_5r, q_30_5n, q_30_6, q_30_9, q_30_10, q_30_13, q_30_14, vf_s, vf_n, zk2_none, zk2_int, zk2_ref, zk2_null, zk2_long, zct_nil, zct_i, zct_l, zct_r, zct_n, Option.bind_some, Option.toList_some, Option.toList_none, List.cons_append, List.nil_append, zor_l, zor_r, if_true, if_false, ↓reduceIte, zi_lit, zi_of, zi_add, zi_mul, zi_sub, zi_nat, zi_leT, zi_leF, zi_ltT, zi_ltF, zi_eqT, zi_eqF, zif_0z, zif_bz, zi_01l, zi_01r, not_true_eq_false, not_false_eq_true, Nat.reduceAdd, Nat.reduceMul, Nat.reduceSub, zg_s, zg_o, zg_j, zg_r, zg_ro, zg_d, yfl_o]
  have := l_30 (Ls := Ls) (g := g) (mi := mi) (mj := zup mj o 1 (mj p 1 + mj q 1)) hoo hpp hqq hne hne2 12 0 rfl
  rw [yfl_0] at this
  rw [this]
  simp (disch := (first | with_reducible exact (zFm_is hoo) | with_reducible exact zi_at (zFm_is hoo) (by omega) (by omega) | with_reducible exact (zFm_is hpp) | with_reducible exact zi_at (zFm_is hpp) (by omega) (by omega) | with_reducible exact (zFm_is hqq) | with_reducible exact zi_at (zFm_is hqq) (by omega) (by omega) | ((with_reducible refine zct_le ?_) <;> exact Nat.le_of_ble_eq_true rfl) | with_reducible exact zh_0 | with_reducible exact zh_1 | with_reducible exact zh_b | omega)) only [q_30_46r, q_30_46n, q_30_47r, q_30_47n, q_30_48, q_30_51r, q_30_51n, q_30_52, q_30_55, q_30_56, q_30_59r, q_30_59n, q_30_60r, q_30_60n, q_30_61, q_30_64r, q_30_64n, q_30_65, q_30_68, q_30_69, q_30_72r, q_30_72n, q_30_73r, q_30_73n, q_30_74, q_30_77r, q_30_77n, q_30_78, q_30_81, q_30_82, q_30_85, vf_s, vf_n, zk2_none, zk2_int, zk2_ref, zk2_null, zk2_long, zct_nil, zct_i, zct_l, zct_r, zct_n, Option.bind_some, Option.toList_some, Option.toList_none, List.cons_append, List.nil_append, zor_l, zor_r, if_true, if_false, ↓reduceIte, zi_lit, zi_of, zi_add, zi_mul, zi_sub, zi_nat, zi_leT, zi_leF, zi_ltT, zi_ltF, zi_eqT, zi_eqF, zif_0z, zif_bz, zi_01l, zi_01r, not_true_eq_false, not_false_eq_true, Nat.reduceAdd, Nat.reduceMul, Nat.reduceSub, zg_s, zg_o, zg_j, zg_r, zg_ro, zg_d, yfl_o]
  refine rs_mj (wF_of ?_ ?_ ?_ ?_ ?_ ?_ ?_ ?_)
  · simp (disch := omega) only [zg_s, zg_o, zg_j, zg_r, zg_ro, zg_d, yfl_o, fAdd, fMk_0, cf_0, cf_13, cf_14, cf_15]
  · simp (disch := omega) only [zg_s, zg_o, zg_j, zg_r, zg_ro, zg_d, yfl_o, fAdd, fMk_13, cf_0, cf_13, cf_14, cf_15]
  · simp (disch := omega) only [zg_s, zg_o, zg_j, zg_r, zg_ro, zg_d, yfl_o, fAdd, fMk_14, cf_0, cf_13, cf_14, cf_15]
  · simp (disch := omega) only [zg_s, zg_o, zg_j, zg_r, zg_ro, zg_d, yfl_o, fAdd, fMk_15, cf_0, cf_13, cf_14, cf_15]
  · intro j hj
    simp (disch := omega) only [zg_s, zg_o, zg_j, zg_r, zg_ro, zg_d, yfl_o]
  · intro j hj
    simp (disch := omega) only [zg_s, zg_o, zg_j, zg_r, zg_ro, zg_d, yfl_o, fAdd, fMk_c, yfl_lt, cf_c]
  · intro j hj
    simp (disch := omega) only [zg_s, zg_o, zg_j, zg_r, zg_ro, zg_d, yfl_o, yfl_ge]
  · intro a ha
    simp (disch := omega) only [zg_s, zg_o, zg_j, zg_r, zg_ro, zg_d, yfl_o]
theorem l_31 (ho : zFm o) (hp : zFm p) (hq : zFm q) (hne : ¬ p = o) (hne2 : ¬ q = o) (n : Nat) : ∀ k, k + n = 12 → zRun 31 15 [some (.ref o), some (.ref p), some (.ref q), some (.int (zi k))] [] (SH Ls) mi (yfl mj (o + 1) k fun j => mj (p + 1) j - mj (q + 1) j) (RF g) = zRun 31 46 [some (.ref o), some (.ref p), some (.ref q), some (.int (zi 12))] [] (SH Ls) mi (yfl mj (o + 1) 12 fun j => mj (p + 1) j - mj (q + 1) j) (RF g) := by
  have hoo := ho
  have hpp := hp
  have hqq := hq
  obtain ⟨ho1, ho2, ho3⟩ := ho
  obtain ⟨hp1, hp2, hp3⟩ := hp
  obtain ⟨hq1, hq2, hq3⟩ := hq
  induction n with
  | zero =>
    intro k hk
    obtain rfl : k = 12 := by omega
    rw [q_31_15]
    simp (disch := (first | ((with_reducible refine zct_le ?_) <;> exact Nat.le_of_ble_eq_true rfl) | with_reducible exact zh_0 | with_reducible exact zh_1 | with_reducible exact zh_b | omega)) only [q_31_16, q_31_18, vf_s, vf_n, zk2_none, zk2_int, zk2_ref, zk2_null, zk2_long, zct_nil, zct_i, zct_l, zct_r, zct_n, Option.bind_some, Option.toList_some, Option.toList_none, List.cons_append, List.nil_append, zor_l, zor_r, if_true, if_false, ↓reduceIte, zi_lit, zi_of, zi_add, zi_mul, zi_sub, zi_nat, zi_leT, zi_leF, zi_ltT, zi_ltF, zi_eqT, zi_eqF, zif_0z, zif_bz, zi_01l, zi_01r, not_true_eq_false, not_false_eq_true, Nat.reduceAdd, Nat.reduceMul, Nat.reduceSub]
  | succ n ih =>
    intro k hk
    rw [q_31_15]
    simp (disch := (first | with_reducible exact (zFm_is hoo) | with_reducible exact zi_at (zFm_is hoo) (by omega) (by omega) | with_reducible exact (zFm_ic hoo) | with_reducible exact zi_at (zFm_ic hoo) (by omega) (by omega) | with_reducible exact (zFm_is hpp) | with_reducible exact zi_at (zFm_is hpp) (by omega) (by omega) | with_reducible exact (zFm_ic hpp) | with_reducible exact zi_at (zFm_ic hpp) (by omega) (by omega) | with_reducible exact (zFm_is hqq) | with_reducible exact zi_at (zFm_is hqq) (by omega) (by omega) | with_reducible exact (zFm_ic hqq) | with_reducible exact zi_at (zFm_ic hqq) (by omega) (by omega) | ((with_reducible refine zct_le ?_) <;> exact Nat.le_of_ble_eq_true rfl) | with_reducible exact zh_0 | with_reducible exact zh_1 | with_reducible exact zh_b | omega)) only [q_31_16, q_31_18, q_31_21r, q_31_21n, q_31_22, q_31_25, q_31_26r, q_31_26n, q_31_27, q_31_30, q_31_31, q_31_32r, q_31_32n, q_31_33, q_31_36, q_31_37, q_31_38, q_31_39, q_31_40, q_31_43, vf_s, vf_n, zk2_none, zk2_int, zk2_ref, zk2_null, zk2_long, zct_nil, zct_i, zct_l, zct_r, zct_n, Option.bind_some, Option.toList_some, Option.toList_none, List.cons_append, List.nil_append, zor_l, zor_r, if_true, if_false, ↓reduceIte, zi_lit, zi_of, zi_add, zi_mul, zi_sub, zi_nat, zi_leT, zi_leF, zi_ltT, zi_ltF, zi_eqT, zi_eqF, zif_0z, zif_bz, zi_01l, zi_01r, not_true_eq_false, not_false_eq_true, Nat.reduceAdd, Nat.reduceMul, Nat.reduceSub, zg_s, zg_o, zg_j, zg_r, zg_ro, zg_d, yfl_o, zFm_r hoo, zFm_r hpp, zFm_r hqq]
    rw [yfl_s rfl]
    exact ih (k + 1) (by omega)
theorem m_31 (ho : zFm o) (hp : zFm p) (hq : zFm q) (hne : ¬ p = o) (hne2 : ¬ q = o) : zCall 31 [.ref o, .ref p, .ref q] (SH Ls) mi mj (RF g) = some (none, SH Ls, mi, wF mj o (fSub (cf mj p) (cf mj q)), RF g) := by
  have hoo := ho
  have hpp := hp
  have hqq := hq
  obtain ⟨ho1, ho2, ho3⟩ := ho
  obtain ⟨hp1, hp2, hp3⟩ := hp
  obtain ⟨hq1, hq2, hq3⟩ := hq
  simp (disch := (first | with_reducible exact (zFm_is hoo) | with_reducible exact zi_at (zFm_is hoo) (by omega) (by omega) | with_reducible exact (zFm_is hpp) | with_reducible exact zi_at (zFm_is hpp) (by omega) (by omega) | with_reducible exact (zFm_is hqq) | with_reducible exact zi_at (zFm_is hqq) (by omega) (by omega) | ((with_reducible refine zct_le ?_) <;> exact Nat.le_of_ble_eq_true rfl) | with_reducible exact zh_0 | with_reducible exact zh_1 | with_reducible exact zh_b | omega)) only [e_31, q_31_0r, q_31_0n, q_31_1r, q_31_1n, q_31_2, q_31_5r, q_31_5n, q_31_6, q_31_9, q_31_10, q_31_13, q_31_14, vf_s, vf_n, zk2_none, zk2_int, zk2_ref, zk2_null, zk2_long, zct_nil, zct_i, zct_l, zct_r, zct_n, Option.bind_some, Option.toList_some, Option.toList_none, List.cons_append, List.nil_append, zor_l, zor_r, if_true, if_false, ↓reduceIte, zi_lit, zi_of, zi_add, zi_mul, zi_sub, zi_nat, zi_leT, zi_leF, zi_ltT, zi_ltF, zi_eqT, zi_eqF, zif_0z, zif_bz, zi_01l, zi_01r, not_true_eq_false, not_false_eq_true, Nat.reduceAdd, Nat.reduceMul, Nat.reduceSub, zg_s, zg_o, zg_j, zg_r, zg_ro, zg_d, yfl_o]
  have := l_31 (Ls := Ls) (g := g) (mi := mi) (mj := zup mj o 1 (mj p 1 - mj q 1)) hoo hpp hqq hne hne2 12 0 rfl
  rw [yfl_0] at this
  rw [this]
  simp (disch := (first | with_reducible exact (zFm_is hoo) | with_reducible exact zi_at (zFm_is hoo) (by omega) (by omega) | with_reducible exact (zFm_is hpp) | with_reducible exact zi_at (zFm_is hpp) (by omega) (by omega) | with_reducible exact (zFm_is hqq) | with_reducible exact zi_at (zFm_is hqq) (by omega) (by omega) | ((with_reducible refine zct_le ?_) <;> exact Nat.le_of_ble_eq_true rfl) | with_reducible exact zh_0 | with_reducible exact zh_1 | with_reducible exact zh_b | omega)) only [q_31_46r, q_31_46n, q_31_47r, q_31_47n, q_31_48, q_31_51r, q_31_51n, q_31_52, q_31_55, q_31_56, q_31_59r, q_31_59n, q_31_60r, q_31_60n, q_31_61, q_31_64r, q_31_64n, q_31_65, q_31_68, q_31_69, q_31_72r, q_31_72n, q_31_73r, q_31_73n, q_31_74, q_31_77r, q_31_77n, q_31_78, q_31_81, q_31_82, q_31_85, vf_s, vf_n, zk2_none, zk2_int, zk2_ref, zk2_null, zk2_long, zct_nil, zct_i, zct_l, zct_r, zct_n, Option.bind_some, Option.toList_some, Option.toList_none, List.cons_append, List.nil_append, zor_l, zor_r, if_true, if_false, ↓reduceIte, zi_lit, zi_of, zi_add, zi_mul, zi_sub, zi_nat, zi_leT, zi_leF, zi_ltT, zi_ltF, zi_eqT, zi_eqF, zif_0z, zif_bz, zi_01l, zi_01r, not_true_eq_false, not_false_eq_true, Nat.reduceAdd, Nat.reduceMul, Nat.reduceSub, zg_s, zg_o, zg_j, zg_r, zg_ro, zg_d, yfl_o]
  refine rs_mj (wF_of ?_ ?_ ?_ ?_ ?_ ?_ ?_ ?_)
  · simp (disch := omega) only [zg_s, zg_o, zg_j, zg_r, zg_ro, zg_d, yfl_o, fSub, fMk_0, cf_0, cf_13, cf_14, cf_15]
  · simp (disch := omega) only [zg_s, zg_o, zg_j, zg_r, zg_ro, zg_d, yfl_o, fSub, fMk_13, cf_0, cf_13, cf_14, cf_15]
  · simp (disch := omega) only [zg_s, zg_o, zg_j, zg_r, zg_ro, zg_d, yfl_o, fSub, fMk_14, cf_0, cf_13, cf_14, cf_15]
  · simp (disch := omega) only [zg_s, zg_o, zg_j, zg_r, zg_ro, zg_d, yfl_o, fSub, fMk_15, cf_0, cf_13, cf_14, cf_15]
  · intro j hj
    simp (disch := omega) only [zg_s, zg_o, zg_j, zg_r, zg_ro, zg_d, yfl_o]
  · intro j hj
    simp (disch := omega) only [zg_s, zg_o, zg_j, zg_r, zg_ro, zg_d, yfl_o, fSub, fMk_c, yfl_lt, cf_c]
  · intro j hj
    simp (disch := omega) only [zg_s, zg_o, zg_j, zg_r, zg_ro, zg_d, yfl_o, yfl_ge]
  · intro a ha
    simp (disch := omega) only [zg_s, zg_o, zg_j, zg_r, zg_ro, zg_d, yfl_o]
theorem l_32 (ho : zFm o) (hp : zFm p) (hne : ¬ p = o) (n : Nat) : ∀ k, k + n = 12 → zRun 32 11 [some (.ref o), some (.ref p), some (.int (zi k))] [] (SH Ls) mi (yfl mj (o + 1) k fun j => -mj (p + 1) j) (RF g) = zRun 32 36 [some (.ref o), some (.ref p), some (.int (zi 12))] [] (SH Ls) mi (yfl mj (o + 1) 12 fun j => -mj (p + 1) j) (RF g) := by
  have hoo := ho
  have hpp := hp
  obtain ⟨ho1, ho2, ho3⟩ := ho
  obtain ⟨hp1, hp2, hp3⟩ := hp
  induction n with
  | zero =>
    intro k hk
    obtain rfl : k = 12 := by omega
    rw [q_32_11]
    simp (disch := (first | ((with_reducible refine zct_le ?_) <;> exact Nat.le_of_ble_eq_true rfl) | with_reducible exact zh_0 | with_reducible exact zh_1 | with_reducible exact zh_b | omega)) only [q_32_12, q_32_14, vf_s, vf_n, zk2_none, zk2_int, zk2_ref, zk2_null, zk2_long, zct_nil, zct_i, zct_l, zct_r, zct_n, Option.bind_some, Option.toList_some, Option.toList_none, List.cons_append, List.nil_append, zor_l, zor_r, if_true, if_false, ↓reduceIte, zi_lit, zi_of, zi_add, zi_mul, zi_sub, zi_nat, zi_leT, zi_leF, zi_ltT, zi_ltF, zi_eqT, zi_eqF, zif_0z, zif_bz, zi_01l, zi_01r, not_true_eq_false, not_false_eq_true, Nat.reduceAdd, Nat.reduceMul, Nat.reduceSub]
  | succ n ih =>
    intro k hk
    rw [q_32_11]
    simp (disch := (first | with_reducible exact (zFm_is hoo) | with_reducible exact zi_at (zFm_is hoo) (by omega) (by omega) | with_reducible exact (zFm_ic hoo) | with_reducible exact zi_at (zFm_ic hoo) (by omega) (by omega) | with_reducible exact (zFm_is hpp) | with_reducible exact zi_at (zFm_is hpp) (by omega) (by omega) | with_reducible exact (zFm_ic hpp) | with_reducible exact zi_at (zFm_ic hpp) (by omega) (by omega) | ((with_reducible refine zct_le ?_) <;> exact Nat.le_of_ble_eq_true rfl) | with_reducible exact zh_0 | with_reducible exact zh_1 | with_reducible exact zh_b | omega)) only [q_32_12, q_32_14, q_32_17r, q_32_17n, q_32_18, q_32_21, q_32_22r, q_32_22n, q_32_23, q_32_26, q_32_27, q_32_28, q_32_29, q_32_30, q_32_33, vf_s, vf_n, zk2_none, zk2_int, zk2_ref, zk2_null, zk2_long, zct_nil, zct_i, zct_l, zct_r, zct_n, Option.bind_some, Option.toList_some, Option.toList_none, List.cons_append, List.nil_append, zor_l, zor_r, if_true, if_false, ↓reduceIte, zi_lit, zi_of, zi_add, zi_mul, zi_sub, zi_nat, zi_leT, zi_leF, zi_ltT, zi_ltF, zi_eqT, zi_eqF, zif_0z, zif_bz, zi_01l, zi_01r, not_true_eq_false, not_false_eq_true, Nat.reduceAdd, Nat.reduceMul, Nat.reduceSub, zg_s, zg_o, zg_j, zg_r, zg_ro, zg_d, yfl_o, zFm_r hoo, zFm_r hpp]
    rw [yfl_s rfl]
    exact ih (k + 1) (by omega)
theorem m_32 (ho : zFm o) (hp : zFm p) (hne : ¬ p = o) : zCall 32 [.ref o, .ref p] (SH Ls) mi mj (RF g) = some (none, SH Ls, mi, wF mj o (fNeg (cf mj p)), RF g) := by
  have hoo := ho
  have hpp := hp
  obtain ⟨ho1, ho2, ho3⟩ := ho
  obtain ⟨hp1, hp2, hp3⟩ := hp
  simp (disch := (first | with_reducible exact (zFm_is hoo) | with_reducible exact zi_at (zFm_is hoo) (by omega) (by omega) | with_reducible exact (zFm_is hpp) | with_reducible exact zi_at (zFm_is hpp) (by omega) (by omega) | ((with_reducible refine zct_le ?_) <;> exact Nat.le_of_ble_eq_true rfl) | with_reducible exact zh_0 | with_reducible exact zh_1 | with_reducible exact zh_b | omega)) only [e_32, q_32_0r, q_32_0n, q_32_1r, q_32_1n, q_32_2, q_32_5, q_32_6, q_32_9, q_32_10, vf_s, vf_n, zk2_none, zk2_int, zk2_ref, zk2_null, zk2_long, zct_nil, zct_i, zct_l, zct_r, zct_n, Option.bind_some, Option.toList_some, Option.toList_none, List.cons_append, List.nil_append, zor_l, zor_r, if_true, if_false, ↓reduceIte, zi_lit, zi_of, zi_add, zi_mul, zi_sub, zi_nat, zi_leT, zi_leF, zi_ltT, zi_ltF, zi_eqT, zi_eqF, zif_0z, zif_bz, zi_01l, zi_01r, not_true_eq_false, not_false_eq_true, Nat.reduceAdd, Nat.reduceMul, Nat.reduceSub, zg_s, zg_o, zg_j, zg_r, zg_ro, zg_d, yfl_o]
  have := l_32 (Ls := Ls) (g := g) (mi := mi) (mj := zup mj o 1 (-mj p 1)) hoo hpp hne 12 0 rfl
  rw [yfl_0] at this
  rw [this]
  simp (disch := (first | with_reducible exact (zFm_is hoo) | with_reducible exact zi_at (zFm_is hoo) (by omega) (by omega) | with_reducible exact (zFm_is hpp) | with_reducible exact zi_at (zFm_is hpp) (by omega) (by omega) | ((with_reducible refine zct_le ?_) <;> exact Nat.le_of_ble_eq_true rfl) | with_reducible exact zh_0 | with_reducible exact zh_1 | with_reducible exact zh_b | omega)) only [q_32_36r, q_32_36n, q_32_37r, q_32_37n, q_32_38, q_32_41, q_32_44r, q_32_44n, q_32_45r, q_32_45n, q_32_46, q_32_49, q_32_50, q_32_53r, q_32_53n, q_32_54r, q_32_54n, q_32_55, q_32_58, q_32_59, q_32_62, vf_s, vf_n, zk2_none, zk2_int, zk2_ref, zk2_null, zk2_long, zct_nil, zct_i, zct_l, zct_r, zct_n, Option.bind_some, Option.toList_some, Option.toList_none, List.cons_append, List.nil_append, zor_l, zor_r, if_true, if_false, ↓reduceIte, zi_lit, zi_of, zi_add, zi_mul, zi_sub, zi_nat, zi_leT, zi_leF, zi_ltT, zi_ltF, zi_eqT, zi_eqF, zif_0z, zif_bz, zi_01l, zi_01r, not_true_eq_false, not_false_eq_true, Nat.reduceAdd, Nat.reduceMul, Nat.reduceSub, zg_s, zg_o, zg_j, zg_r, zg_ro, zg_d, yfl_o]
  refine rs_mj (wF_of ?_ ?_ ?_ ?_ ?_ ?_ ?_ ?_)
  · simp (disch := omega) only [zg_s, zg_o, zg_j, zg_r, zg_ro, zg_d, yfl_o, fNeg, fMk_0, cf_0, cf_13, cf_14, cf_15]
  · simp (disch := omega) only [zg_s, zg_o, zg_j, zg_r, zg_ro, zg_d, yfl_o, fNeg, fMk_13, cf_0, cf_13, cf_14, cf_15]
  · simp (disch := omega) only [zg_s, zg_o, zg_j, zg_r, zg_ro, zg_d, yfl_o, fNeg, fMk_14, cf_0, cf_13, cf_14, cf_15]
  · simp (disch := omega) only [zg_s, zg_o, zg_j, zg_r, zg_ro, zg_d, yfl_o, fNeg, fMk_15, cf_0, cf_13, cf_14, cf_15]
  · intro j hj
    simp (disch := omega) only [zg_s, zg_o, zg_j, zg_r, zg_ro, zg_d, yfl_o]
  · intro j hj
    simp (disch := omega) only [zg_s, zg_o, zg_j, zg_r, zg_ro, zg_d, yfl_o, fNeg, fMk_c, yfl_lt, cf_c]
  · intro j hj
    simp (disch := omega) only [zg_s, zg_o, zg_j, zg_r, zg_ro, zg_d, yfl_o, yfl_ge]
  · intro a ha
    simp (disch := omega) only [zg_s, zg_o, zg_j, zg_r, zg_ro, zg_d, yfl_o]
end
