/-! ===== the constructors (1) ===== -/
def tkS (Ls n : Nat) : zSh := (SH Ls).take n
def g0 (i : Nat) : Nat := if i = 32 then 29 else 33 + 2 * i
def ptc (mr : zR) (a b : Nat) : zR := fun x j => if a ≤ x ∧ x < b then RF g0 x j else mr x j
theorem zSHt_len : zSHt.length = 147 := by decide +kernel
theorem SH_len {Ls : Nat} : (SH Ls).length = 148 := by show zSHt.length + 1 = 148; rw [zSHt_len]
theorem tkS_a {Ls n : Nat} {q : Nat × Nat} (h : (SH Ls)[n]? = some q) : tkS Ls n ++ [q] = tkS Ls (n + 1) := by
  unfold tkS
  rw [List.take_succ, h]
  rfl
theorem tkS_l {Ls n : Nat} (h : n ≤ 148) : (tkS Ls n).length = n := by
  unfold tkS
  rw [List.length_take, SH_len]
  omega
theorem tkS_i {Ls o t n m : Nat} (h : zIs (SH Ls) o t n) (hm : o < m) : zIs (tkS Ls m) o t n := ⟨by
  unfold tkS
  rw [List.getElem?_take, if_pos hm]
  exact h.1, h.2⟩
theorem tkS_f {Ls : Nat} : tkS Ls 148 = SH Ls := List.take_of_length_le (by rw [SH_len]; omega)
theorem tkS_1 {Ls : Nat} : tkS Ls 1 = [(99, Ls)] := rfl
theorem zi_atg {sh : zSh} {o t n a : Nat} (hi : zIs sh o t n) (h : a < n) (h2 : n < 2147483648) : zAt sh o t (zi a) := (zAt_iff hi).mpr (zi_in h h2)
theorem row_bx {o : Nat} (h : zBx o) (j : Nat) : RF g0 o j = (if j = 0 then some (o + 1) else if j = 1 then some (o + 2) else none) ∧ RF g0 (o + 1) j = none ∧ RF g0 (o + 2) j = none := by
  simp only [zBx, List.mem_cons, List.not_mem_nil, or_false] at h
  rcases h with rfl | rfl | rfl | rfl | rfl | rfl | rfl <;> rcases j with _ | _ | j <;> exact ⟨rfl, rfl, rfl⟩
theorem row_sp {o : Nat} (h : zSp o) (j : Nat) : RF g0 o j = (if j = 0 then some (o + 1) else if j = 1 then some (o + 2) else none) ∧ RF g0 (o + 1) j = none ∧ RF g0 (o + 2) j = none := by
  simp only [zSp, List.mem_cons, List.not_mem_nil, or_false] at h
  rcases h with rfl | rfl | rfl | rfl | rfl | rfl | rfl | rfl | rfl | rfl | rfl | rfl | rfl <;> rcases j with _ | _ | j <;> exact ⟨rfl, rfl, rfl⟩
theorem row_fb : ((List.range 96).all fun o => !(decide (29 ≤ o)) || (!(o % 2 == 1) || (decide (zR0[o]? = some [0, 0, 0, 0, 0, o + 1]) && decide (zR0[o + 1]? = some [])))) = true := by decide +kernel
theorem row_fm {o : Nat} (h : zFm o) (j : Nat) : RF g0 o j = (if j = 5 then some (o + 1) else none) ∧ RF g0 (o + 1) j = none := by
  have h1 := h.1
  have h2 := h.2.1
  have h3 := h.2.2
  have hb := List.all_eq_true.mp row_fb o (List.mem_range.mpr (by omega))
  simp only [Bool.or_eq_true, Bool.and_eq_true, Bool.not_eq_true', decide_eq_false_iff_not, decide_eq_true_eq, beq_eq_false_iff_ne] at hb
  have hb2 : zR0[o]? = some [0, 0, 0, 0, 0, o + 1] ∧ zR0[o + 1]? = some [] := by
    rcases hb with hb | hb | hb
    · exact absurd h1 hb
    · exact absurd h3 hb
    · exact hb
  have e1 : RF g0 o j = R0 o j := by unfold RF; rw [if_neg (by omega), if_neg (by omega)]
  have e2 : RF g0 (o + 1) j = R0 (o + 1) j := by unfold RF; rw [if_neg (by omega), if_neg (by omega)]
  rw [e1, e2]
  unfold R0
  rw [hb2.1, hb2.2]
  rcases j with _ | _ | _ | _ | _ | _ | j <;> exact ⟨rfl, rfl⟩
section
variable {Ls : Nat} {mi mi' : zI} {mj : zJ} {mr : zR} {o n k e : Nat} {x y z : Int32}
theorem ptc_bx (hr : ∀ j, RF g0 o j = (if j = 0 then some (o + 1) else if j = 1 then some (o + 2) else none) ∧ RF g0 (o + 1) j = none ∧ RF g0 (o + 2) j = none) (hm : ∀ x, o ≤ x → ∀ j, mr x j = none) : zup (zup mr o 0 (some (o + 1))) o 1 (some (o + 2)) = ptc mr o (o + 3) := by
  funext x j
  obtain ⟨r1, r2, r3⟩ := hr j
  unfold ptc
  by_cases c : o ≤ x ∧ x < o + 3
  · rw [if_pos c]
    have hx : x = o ∨ x = o + 1 ∨ x = o + 2 := by omega
    rcases hx with rfl | rfl | rfl
    · rw [r1]
      rcases j with _ | _ | j
      · simp (disch := omega) only [zg_s, zg_o, zg_j, zg_r, zg_ro, zg_d, yfl_o]; rfl
      · simp (disch := omega) only [zg_s, zg_o, zg_j, zg_r, zg_ro, zg_d, yfl_o]; rfl
      · simp (disch := omega) only [zg_s, zg_o, zg_j, zg_r, zg_ro, zg_d, yfl_o]
        rw [hm _ (by omega), if_neg (by omega), if_neg (by omega)]
    · rw [r2, zup_ne (by omega), zup_ne (by omega), hm _ (by omega)]
    · rw [r3, zup_ne (by omega), zup_ne (by omega), hm _ (by omega)]
  · rw [if_neg c, zup_ne (by omega), zup_ne (by omega)]
theorem zup_self {f : zI} {a j : Nat} (h : f a j = x) : zup f a j x = f := by
  funext p q
  unfold zup
  split
  · rename_i c; obtain ⟨rfl, rfl⟩ := c; exact h.symm
  · rfl
theorem i_1 (ho : zBx o) (ho2 : o + 3 ≤ 148) (hm : ∀ x, o ≤ x → ∀ j, mr x j = none) : zCall 1 [.ref o] (tkS Ls (o + 1)) mi mj mr = some (none, tkS Ls (o + 3), mi, mj, ptc mr o (o + 3)) := by
  have i0 := zBx_is (Ls := Ls) ho
  have i1 := zBx_i1 (Ls := Ls) ho
  have i2 := zBx_i2 (Ls := Ls) ho
  have a1 := tkS_a i1.1
  have a2 := tkS_a i2.1
  have l1 := tkS_l (Ls := Ls) (n := o + 1) (by omega)
  have l2 := tkS_l (Ls := Ls) (n := o + 1 + 1) (by omega)
  rw [← ptc_bx (row_bx ho) hm]
  simp (disch := (first | exact tkS_i i0 (by omega) | decide | (first | ((with_reducible refine zct_le ?_) <;> exact Nat.le_of_ble_eq_true rfl) | with_reducible exact zh_0 | with_reducible exact zh_1 | with_reducible exact zh_b | omega))) only [e_1, q_1_0r, q_1_0n, q_1_1, q_1_4r, q_1_4n, q_1_5, q_1_6, q_1_8, q_1_11r, q_1_11n, q_1_12, q_1_13, q_1_15, q_1_18, vf_s, vf_n, zk2_none, zk2_int, zk2_ref, zk2_null, zk2_long, zct_nil, zct_i, zct_l, zct_r, zct_n, Option.bind_some, Option.toList_some, Option.toList_none, List.cons_append, List.nil_append, zor_l, zor_r, if_true, if_false, ↓reduceIte, zi_lit, zi_of, zi_add, zi_mul, zi_sub, zi_nat, zi_leT, zi_leF, zi_ltT, zi_ltF, zi_eqT, zi_eqF, zif_0z, zif_bz, zi_01l, zi_01r, not_true_eq_false, not_false_eq_true, Nat.reduceAdd, Nat.reduceMul, Nat.reduceSub, a1, a2, l1, l2]
theorem i_73 (ho : zSp o) (ho2 : o + 3 ≤ 148) (hm : ∀ x, o ≤ x → ∀ j, mr x j = none) (hz : ∀ x, o ≤ x → ∀ j, mi x j = 0) : zCall 73 [.ref o] (tkS Ls (o + 1)) mi mj mr = some (none, tkS Ls (o + 3), mi, mj, ptc mr o (o + 3)) := by
  have i0 := zSp_is (Ls := Ls) ho
  have i1 := zSp_i1 (Ls := Ls) ho
  have i2 := zSp_i2 (Ls := Ls) ho
  have a1 := tkS_a i1.1
  have a2 := tkS_a i2.1
  have l1 := tkS_l (Ls := Ls) (n := o + 1) (by omega)
  have l2 := tkS_l (Ls := Ls) (n := o + 1 + 1) (by omega)
  have e0 : zup mi o 2 (zi 0) = mi := zup_self (by rw [hz o (by omega)]; rfl)
  rw [← ptc_bx (row_sp ho) hm]
  simp (disch := (first | exact tkS_i i0 (by omega) | decide | (first | ((with_reducible refine zct_le ?_) <;> exact Nat.le_of_ble_eq_true rfl) | with_reducible exact zh_0 | with_reducible exact zh_1 | with_reducible exact zh_b | omega))) only [e_73, q_73_0r, q_73_0n, q_73_1, q_73_4r, q_73_4n, q_73_5, q_73_7, q_73_9, q_73_12r, q_73_12n, q_73_13, q_73_15, q_73_17, q_73_20r, q_73_20n, q_73_21, q_73_22, q_73_25, vf_s, vf_n, zk2_none, zk2_int, zk2_ref, zk2_null, zk2_long, zct_nil, zct_i, zct_l, zct_r, zct_n, Option.bind_some, Option.toList_some, Option.toList_none, List.cons_append, List.nil_append, zor_l, zor_r, if_true, if_false, ↓reduceIte, zi_lit, zi_of, zi_add, zi_mul, zi_sub, zi_nat, zi_leT, zi_leF, zi_ltT, zi_ltF, zi_eqT, zi_eqF, zif_0z, zif_bz, zi_01l, zi_01r, not_true_eq_false, not_false_eq_true, Nat.reduceAdd, Nat.reduceMul, Nat.reduceSub, a1, a2, l1, l2, e0]
theorem i_18 (ho : zFm o) (hm : ∀ x, o ≤ x → ∀ j, mr x j = none) : zCall 18 [.ref o] (tkS Ls (o + 1)) mi mj mr = some (none, tkS Ls (o + 2), mi, mj, ptc mr o (o + 2)) := by
  have h2 := ho.2.1
  have i0 := zFm_is (Ls := Ls) ho
  have i1 := zFm_ic (Ls := Ls) ho
  have a1 := tkS_a i1.1
  have l1 := tkS_l (Ls := Ls) (n := o + 1) (by omega)
  have e : zup mr o 5 (some (o + 1)) = ptc mr o (o + 2) := by
    funext x j
    obtain ⟨r1, r2⟩ := row_fm ho j
    unfold ptc
    by_cases c : o ≤ x ∧ x < o + 2
    · rw [if_pos c]
      have hx : x = o ∨ x = o + 1 := by omega
      rcases hx with rfl | rfl
      · rw [r1]
        by_cases c5 : j = 5
        · subst c5; rw [if_pos rfl, zg_s]
        · rw [if_neg c5, zg_j (by omega), hm _ (by omega)]
      · rw [r2, zup_ne (by omega), hm _ (by omega)]
    · rw [if_neg c, zup_ne (by omega)]
  rw [← e]
  simp (disch := (first | exact tkS_i i0 (by omega) | decide | (first | ((with_reducible refine zct_le ?_) <;> exact Nat.le_of_ble_eq_true rfl) | with_reducible exact zh_0 | with_reducible exact zh_1 | with_reducible exact zh_b | omega))) only [e_18, q_18_0r, q_18_0n, q_18_1, q_18_4r, q_18_4n, q_18_5, q_18_7, q_18_9, q_18_12, vf_s, vf_n, zk2_none, zk2_int, zk2_ref, zk2_null, zk2_long, zct_nil, zct_i, zct_l, zct_r, zct_n, Option.bind_some, Option.toList_some, Option.toList_none, List.cons_append, List.nil_append, zor_l, zor_r, if_true, if_false, ↓reduceIte, zi_lit, zi_of, zi_add, zi_mul, zi_sub, zi_nat, zi_leT, zi_leF, zi_ltT, zi_ltF, zi_eqT, zi_eqF, zif_0z, zif_bz, zi_01l, zi_01r, not_true_eq_false, not_false_eq_true, Nat.reduceAdd, Nat.reduceMul, Nat.reduceSub, a1, l1]
end
