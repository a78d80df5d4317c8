/-! ===== the start, and the whole run of the law ===== -/
def mi0 (xs : Nat → Int32) : zI := fun o j => if o = 0 then xs j else 0
def miF (xs : Nat → Int32) : zI := zup (zup (zup (zup (zup (stm (stm (stm (mi0 xs) 3) 114) 131) 149 4 (zi 256)) 149 5 (zi 256)) 149 6 (zi 256)) 149 7 (zi 256)) 149 8 (zi 4)
theorem zR0_len : zR0.length ≤ 169 := by decide +kernel
theorem RF_hi {x j : Nat} (h : 169 ≤ x) : RF g0 x j = none := by
  have e : zR0[x]? = none := List.getElem?_eq_none (by have := zR0_len; omega)
  unfold RF
  rw [if_neg (by omega), if_neg (by omega)]
  unfold R0
  rw [e]
  rfl
theorem ptc_all : ptc (ptc (fun _ _ => none) 1 148) 148 169 = RF g0 := by
  funext x j
  by_cases c : 148 ≤ x ∧ x < 169
  · rw [ptc_i c.1 c.2]
  · rw [ptc_o (by omega)]
    by_cases c2 : 1 ≤ x ∧ x < 148
    · rw [ptc_i c2.1 c2.2]
    · rw [ptc_o (by omega)]
      by_cases c0 : x = 0
      · subst c0
        rcases j with _ | j <;> rfl
      · exact (RF_hi (by omega)).symm
section
variable {xs : Nat → Int32} {mi : zI} {x j o k : Nat} {Ls : Nat}
theorem stm_o (h : ¬ x = o) (h2 : ¬ x = o + 3) : stm mi o x = mi x := by
  unfold stm
  rw [yfl_o (by omega), zup_ne h]
theorem stm_2 : stm mi o o 2 = zi 4 := by
  unfold stm
  rw [yfl_o (by omega), zg_s]
theorem stm_3 (h : k < 4) : stm mi o (o + 3) k = zi 256 := by
  unfold stm
  rw [yfl_lt h]
theorem miF_o (h : ¬ x = 0) (h1 : ¬ x = 3) (h2 : ¬ x = 6) (h3 : ¬ x = 114) (h4 : ¬ x = 117) (h5 : ¬ x = 131) (h6 : ¬ x = 134) (h7 : ¬ x = 149) : miF xs x j = zi 0 := by
  unfold miF
  rw [zup_ne h7, zup_ne h7, zup_ne h7, zup_ne h7, zup_ne h7, stm_o h5 h6, stm_o h3 h4, stm_o h1 h2]
  exact if_neg h
theorem miF_9 (h : j < 4 ∨ 8 < j) : miF xs 149 j = zi 0 := by
  unfold miF
  rw [zg_j (by omega), zg_j (by omega), zg_j (by omega), zg_j (by omega), zg_j (by omega), stm_o (by omega) (by omega), stm_o (by omega) (by omega), stm_o (by omega) (by omega)]
  exact if_neg (by omega)
theorem inv_0 {mj : zJ} : INV (miF xs) mj g0 := by
  have r3 : ∀ j, miF xs 3 j = stm (mi0 xs) 3 3 j := fun j => by
    unfold miF
    rw [zup_ne (by omega), zup_ne (by omega), zup_ne (by omega), zup_ne (by omega), zup_ne (by omega), stm_o (by omega) (by omega), stm_o (by omega) (by omega)]
  have r6 : ∀ j, miF xs 6 j = stm (mi0 xs) 3 6 j := fun j => by
    unfold miF
    rw [zup_ne (by omega), zup_ne (by omega), zup_ne (by omega), zup_ne (by omega), zup_ne (by omega), stm_o (by omega) (by omega), stm_o (by omega) (by omega)]
  have hb : boxIn (fun _ => zi 0) (fun _ => zi 256) := fun k _ => by
    show -100000 ≤ (zi 0).toInt ∧ (zi 0).toInt ≤ (zi 256).toInt ∧ (zi 256).toInt ≤ 100000
    decide
  refine ⟨fun i hi => ⟨?_, ?_, fun j hj hij => ?_⟩, ⟨fun _ => zi 0, fun _ => zi 256, 4, fun _ => 0, fun _ _ => 0, fun _ _ => zi 0, hb, by omega, fun k hk => ⟨?_, ?_, ?_, ?_⟩, ?_, ?_, fun e he => ⟨Nat.zero_le 60, ?_, ?_, fun k hk => absurd hk (Nat.not_lt_zero k), fun h => absurd h (Nat.not_lt_zero 0)⟩⟩, fun s hs => ⟨?_, Or.inl ?_⟩, ⟨0, by omega, ?_, ?_, fun k hk => absurd hk (by omega)⟩, Or.inl ⟨?_, ?_⟩⟩
  · unfold g0
    split
    · exact ⟨by omega, by omega, by omega⟩
    · exact ⟨by omega, by omega, by omega⟩
  · unfold g0
    split <;> omega
  · unfold g0
    split <;> split <;> omega
  · exact miF_o (by omega) (by omega) (by omega) (by omega) (by omega) (by omega) (by omega) (by omega)
  · rw [r6]; exact stm_3 hk
  · exact miF_9 (by omega)
  · have hk4 : k = 0 ∨ k = 1 ∨ k = 2 ∨ k = 3 := by omega
    unfold miF
    rcases hk4 with rfl | rfl | rfl | rfl <;> simp (disch := omega) only [zg_s, zg_o, zg_j, zg_r, zg_ro, zg_d, yfl_o, Nat.reduceAdd]
  · rw [r3]; exact stm_2
  · unfold miF
    exact zg_s
  · exact miF_o (by omega) (by omega) (by omega) (by omega) (by omega) (by omega) (by omega) (by omega)
  · exact miF_9 (by omega)
  · rw [miF_o (by omega) (by omega) (by omega) (by omega) (by omega) (by omega) (by omega) (by omega), miF_o (by omega) (by omega) (by omega) (by omega) (by omega) (by omega) (by omega) (by omega)]
  · exact miF_o (by omega) (by omega) (by omega) (by omega) (by omega) (by omega) (by omega) (by omega)
  · exact miF_o (by omega) (by omega) (by omega) (by omega) (by omega) (by omega) (by omega) (by omega)
  · exact miF_o (by omega) (by omega) (by omega) (by omega) (by omega) (by omega) (by omega) (by omega)
  · exact miF_o (by omega) (by omega) (by omega) (by omega) (by omega) (by omega) (by omega) (by omega)
  · exact miF_o (by omega) (by omega) (by omega) (by omega) (by omega) (by omega) (by omega) (by omega)
theorem law_run (hL : Ls ≤ 2048) : ∃ mi' mj' g', zRun 0 0 [some (.ref 0), none, none, none] [] [(99, Ls)] (mi0 xs) (fun _ _ => 0) (fun _ _ => none) = some (some (.int (zi 1)), SH Ls, mi', mj', RF g') := by
  obtain ⟨mi', mj', g', r⟩ := l_0 (Ls := Ls) hL Ls 0 (miF xs) (fun _ _ => 0) g0 (by omega) (by omega) inv_0
  refine ⟨mi', mj', g', ?_⟩
  have hz : ∀ x, 1 ≤ x → ∀ j, mi0 xs x j = 0 := fun x hx j => if_neg (by omega)
  have q1 := i_78 (Ls := Ls) (mi := mi0 xs) (mj := fun _ _ => 0) (mr := fun _ _ => none) (fun _ _ _ => rfl) hz
  have q2 : zCall 110 [.ref 148] (tkS Ls 149) (stm (stm (stm (mi0 xs) 3) 114) 131) (fun _ _ => 0) (ptc (fun _ _ => none) 1 148) = some (none, SH Ls, miF xs, fun _ _ => 0, RF g0) := by
    have := i_110 (Ls := Ls) (mi := stm (stm (stm (mi0 xs) 3) 114) 131) (mj := fun _ _ => 0) (mr := ptc (fun _ _ => none) 1 148) (fun x hx j => by rw [ptc_o (by omega)])
    rw [ptc_all, tkS_f] at this
    exact this
  have a1 := tkS_a (is_1 (Ls := Ls)).1
  have a2 := tkS_a (is_148 (Ls := Ls)).1
  have l1 := tkS_l (Ls := Ls) (n := 1) (by omega)
  have l2 := tkS_l (Ls := Ls) (n := 148) (by omega)
  rw [← tkS_1]
  simp (disch := (first | decide | omega | (first | ((with_reducible refine zct_le ?_) <;> exact Nat.le_of_ble_eq_true rfl) | with_reducible exact zh_0 | with_reducible exact zh_1 | with_reducible exact zh_b | omega))) only [e_0, q_0_0, q_0_3r, q_0_3i, q_0_4, q_0_7r, q_0_7n, q_0_8, q_0_11r, q_0_11i, q_0_12, q_0_15r, q_0_15n, q_0_16, q_0_17, vf_s, vf_n, zk2_none, zk2_int, zk2_ref, zk2_null, zk2_long, zct_nil, zct_i, zct_l, zct_r, zct_n, Option.bind_some, Option.toList_some, Option.toList_none, List.cons_append, List.nil_append, zor_l, zor_r, if_true, if_false, ↓reduceIte, zi_lit, zi_of, zi_add, zi_mul, zi_sub, zi_nat, zi_leT, zi_leF, zi_ltT, zi_ltF, zi_eqT, zi_eqF, zif_0z, zif_bz, zi_01l, zi_01r, not_true_eq_false, not_false_eq_true, Nat.reduceAdd, Nat.reduceMul, Nat.reduceSub, a1, a2, l1, l2, q1, q2]
  exact r
end
