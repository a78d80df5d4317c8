/-! ===== the start, and the whole run of the law ===== -/
def mi0 (xs : Nat → Int32) : zI := fun o j => if o = 0 then xs j else 0
def miF (xs : Nat → Int32) : zI := stm (stm (stm (mi0 xs) 3) 114) 131
theorem zR0_len : zR0.length ≤ 148 := by decide +kernel
theorem RF_hi {x j : Nat} (h : 148 ≤ x) : RF g0 x j = none := by
  have e : zR0[x]? = none := List.getElem?_eq_none (by have := zR0_len; omega)
  unfold RF
  rw [if_neg (by omega), if_neg (by omega)]
  unfold R0
  rw [e]
  rfl
theorem ptc_all : ptc (fun _ _ => none) 1 148 = RF g0 := by
  funext x j
  by_cases c2 : 1 ≤ x ∧ x < 148
  · rw [ptc_i c2.1 c2.2]
  · rw [ptc_o (by omega)]
    by_cases c0 : x = 0
    · subst c0
      rcases j with _ | j <;> rfl
    · exact (RF_hi (by omega)).symm
section
variable {xs : Nat → Int32} {mi : zI} {x j o k : Nat} {Ls : Nat}
theorem stm_o (h : ¬ x = o) (h2 : ¬ x = o + 3) : stm mi o x = mi x := by
  unfold stm
  rw [yfl_o (by omega), zup_ne h]
theorem stm_2 : stm mi o o 2 = zi 4 := by
  unfold stm
  rw [yfl_o (by omega), zg_s]
theorem stm_3 (h : k < 4) : stm mi o (o + 3) k = zi 256 := by
  unfold stm
  rw [yfl_lt h]
theorem miF_o (h : ¬ x = 0) (h1 : ¬ x = 3) (h2 : ¬ x = 6) (h3 : ¬ x = 114) (h4 : ¬ x = 117) (h5 : ¬ x = 131) (h6 : ¬ x = 134) : miF xs x j = zi 0 := by
  unfold miF
  rw [stm_o h5 h6, stm_o h3 h4, stm_o h1 h2]
  exact if_neg h
theorem g0_ok : gOk g0 := fun i hi => by
  refine ⟨?_, ?_, fun j hj hij => ?_⟩
  · unfold g0
    split
    · exact ⟨by omega, by omega, by omega⟩
    · exact ⟨by omega, by omega, by omega⟩
  · unfold g0
    split <;> omega
  · unfold g0
    split <;> split <;> omega
theorem st_0 : ST (miF xs) g0 (fun _ => zi 0) (fun _ => zi 256) 4 (fun _ => 0) (fun _ _ => 0) (fun _ _ => zi 0) := by
  have r3 : ∀ j, miF xs 3 j = stm (mi0 xs) 3 3 j := fun j => by
    unfold miF
    rw [stm_o (by omega) (by omega), stm_o (by omega) (by omega)]
  have r6 : ∀ j, miF xs 6 j = stm (mi0 xs) 3 6 j := fun j => by
    unfold miF
    rw [stm_o (by omega) (by omega), stm_o (by omega) (by omega)]
  have hb : boxIn (fun _ => zi 0) (fun _ => zi 256) := fun k _ => by
    show -100000 ≤ (zi 0).toInt ∧ (zi 0).toInt ≤ (zi 256).toInt ∧ (zi 256).toInt ≤ 100000
    decide
  refine ⟨g0_ok, hb, by omega, fun k hk => ⟨?_, ?_⟩, ?_, fun e he => ⟨Nat.zero_le 60, ?_, fun k hk => absurd hk (Nat.not_lt_zero k), fun h => absurd h (Nat.not_lt_zero 0)⟩⟩
  · exact miF_o (by omega) (by omega) (by omega) (by omega) (by omega) (by omega) (by omega)
  · show miF xs 6 k = _
    rw [r6]; exact stm_3 hk
  · rw [r3]; exact stm_2
  · exact miF_o (by omega) (by omega) (by omega) (by omega) (by omega) (by omega) (by omega)
theorem law_run (hL : Ls ≤ 260) : ∃ mi' mj' g', zRun 0 0 [some (.ref 0), none, none, none, none, none, none] [] [(99, Ls)] (mi0 xs) (fun _ _ => 0) (fun _ _ => none) = some (some (.int (zi 1)), SH Ls, mi', mj', RF g') := by
  obtain ⟨mi', mj', g', r⟩ := law_go (Ls := Ls) (mi := miF xs) (mj := fun _ _ => 0) (g := g0) hL st_0 (miF_o (by omega) (by omega) (by omega) (by omega) (by omega) (by omega) (by omega)) (fun k _ => ⟨rfl, rfl⟩)
  refine ⟨mi', mj', g', ?_⟩
  have hz : ∀ x, 1 ≤ x → ∀ j, mi0 xs x j = 0 := fun x hx j => if_neg (by omega)
  have q1 : zCall 78 [.ref 1] (tkS Ls 2) (mi0 xs) (fun _ _ => 0) (fun _ _ => none) = some (none, SH Ls, miF xs, fun _ _ => 0, RF g0) := by
    have := i_78 (Ls := Ls) (mi := mi0 xs) (mj := fun _ _ => 0) (mr := fun _ _ => none) (fun _ _ _ => rfl) hz
    rw [ptc_all, tkS_f] at this
    exact this
  have a1 := tkS_a (is_1 (Ls := Ls)).1
  have l1 := tkS_l (Ls := Ls) (n := 1) (by omega)
  rw [← tkS_1]
  simp (disch := (first | decide | omega | (first | ((with_reducible refine zct_le ?_) <;> exact Nat.le_of_ble_eq_true rfl) | with_reducible exact zh_0 | with_reducible exact zh_1 | with_reducible exact zh_b | omega))) only [e_0, q_0_0, q_0_3r, q_0_3i, q_0_4, q_0_7r, q_0_7n, q_0_8, q_0_9, vf_s, vf_n, zk2_none, zk2_int, zk2_ref, zk2_null, zk2_long, zct_nil, zct_i, zct_l, zct_r, zct_n, Option.bind_some, Option.toList_some, Option.toList_none, List.cons_append, List.nil_append, zor_l, zor_r, if_true, if_false, ↓reduceIte, zi_lit, zi_of, zi_add, zi_mul, zi_sub, zi_nat, zi_leT, zi_leF, zi_ltT, zi_ltF, zi_eqT, zi_eqF, zif_0z, zif_bz, zi_01l, zi_01r, not_true_eq_false, not_false_eq_true, Nat.reduceAdd, Nat.reduceMul, Nat.reduceSub, a1, l1, q1]
  exact r
end
