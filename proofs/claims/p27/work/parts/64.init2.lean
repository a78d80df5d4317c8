/-! ===== the constructors (2) ===== -/
def stm (mi : zI) (o : Nat) : zI := yfl (zup mi o 2 (zi 4)) (o + 3) 4 (fun _ => zi 256)
def rkS (mr : zR) (o k : Nat) : zR := fun x j => if x = o + 4 then (if j < k then some (o + 5 + 3 * j) else none) else if o ≤ x ∧ x < o + 5 + 3 * k then RF g0 x j else mr x j
def rkM (mr : zR) (k : Nat) : zR := fun x j => if x = 28 then (if j < k then some (33 + 2 * j) else none) else if 27 ≤ x ∧ x < 33 + 2 * k then RF g0 x j else mr x j
theorem row_st {o : Nat} (h : zSt o) (j : Nat) : RF g0 o j = (if j = 0 then some (o + 1) else if j = 1 then some (o + 4) else none) ∧ RF g0 (o + 4) j = (if j < 4 then some (o + 5 + 3 * j) else none) := by
  rcases h with rfl | rfl | rfl <;> rcases j with _ | _ | _ | _ | j <;> first | exact ⟨rfl, rfl⟩ | exact ⟨rfl, (if_neg (by omega)).symm ▸ rfl⟩
theorem ptc_i {mr : zR} {a b x j : Nat} (h1 : a ≤ x) (h2 : x < b) : ptc mr a b x j = RF g0 x j := if_pos ⟨h1, h2⟩
theorem ptc_o {mr : zR} {a b x j : Nat} (h : x < a ∨ b ≤ x) : ptc mr a b x j = mr x j := if_neg (by omega)
theorem ptc_n {mr : zR} {a b n : Nat} (hb : b ≤ n) (h : ∀ x, n ≤ x → ∀ j, mr x j = none) : ∀ x, n ≤ x → ∀ j, ptc mr a b x j = none := fun x hx j => by rw [ptc_o (by omega)]; exact h x hx j
theorem zup_n {mr : zR} {a i n : Nat} {v : Option Nat} (ha : a < n) (h : ∀ x, n ≤ x → ∀ j, mr x j = none) : ∀ x, n ≤ x → ∀ j, zup mr a i v x j = none := fun x hx j => by rw [zup_ne (by omega)]; exact h x hx j
theorem stm_z {mi : zI} {o n : Nat} (ho : o + 3 < n) (h : ∀ x, n ≤ x → ∀ j, mi x j = 0) : ∀ x, n ≤ x → ∀ j, stm mi o x j = 0 := fun x hx j => by
  unfold stm
  rw [yfl_o (by omega), zup_ne (by omega)]
  exact h x hx j
section
variable {Ls : Nat} {mi mi' : zI} {mj : zJ} {mr : zR} {o n k e b : Nat} {x y z : Int32} {sh : zSh}
theorem i_2 (h0 : zIs sh b 0 0) (h1 : zIs sh (b + 1) 1 4) (h2 : zIs sh (b + 2) 1 4) (r0 : mr b 0 = some (b + 1)) (r1 : mr b 1 = some (b + 2)) (hk : k < 4) : zCall 2 [.ref b, .int (zi k), .int y, .int z] sh mi mj mr = some (none, sh, zup (zup mi (b + 1) k y) (b + 2) k z, mj, mr) := by
  simp (disch := (first | exact h0 | exact zi_atg h1 (by omega) (by omega) | exact zi_atg h2 (by omega) (by omega) | (first | ((with_reducible refine zct_le ?_) <;> exact Nat.le_of_ble_eq_true rfl) | with_reducible exact zh_0 | with_reducible exact zh_1 | with_reducible exact zh_b | omega))) only [e_2, q_2_0r, q_2_0n, q_2_1, q_2_4, q_2_5, q_2_6, q_2_7r, q_2_7n, q_2_8, q_2_11, q_2_12, q_2_13, q_2_14, vf_s, vf_n, zk2_none, zk2_int, zk2_ref, zk2_null, zk2_long, zct_nil, zct_i, zct_l, zct_r, zct_n, Option.bind_some, Option.toList_some, Option.toList_none, List.cons_append, List.nil_append, zor_l, zor_r, if_true, if_false, ↓reduceIte, zi_lit, zi_of, zi_add, zi_mul, zi_sub, zi_nat, zi_leT, zi_leF, zi_ltT, zi_ltF, zi_eqT, zi_eqF, zif_0z, zif_bz, zi_01l, zi_01r, not_true_eq_false, not_false_eq_true, Nat.reduceAdd, Nat.reduceMul, Nat.reduceSub, r0, r1]
theorem l_70a (ho : zSt o) (h1 : zIs sh o 0 5) (h2 : zIs sh (o + 1) 0 0) (h3 : zIs sh (o + 1 + 1) 1 4) (h4 : zIs sh (o + 1 + 2) 1 4) (r0 : mr o 0 = some (o + 1)) (r1 : mr (o + 1) 0 = some (o + 1 + 1)) (r2 : mr (o + 1) 1 = some (o + 1 + 2)) (hz : ∀ j, mi (o + 2) j = 0) (m : Nat) : ∀ k, k + m = 4 → zRun 70 30 [some (.ref o), some (.int (zi k))] [] sh (yfl mi (o + 3) k fun _ => zi 256) mj mr = zRun 70 53 [some (.ref o), some (.int (zi 4))] [] sh (yfl mi (o + 3) 4 fun _ => zi 256) mj mr := by
  induction m with
  | zero =>
    intro k hk
    obtain rfl : k = 4 := by omega
    rw [q_70_30]
    simp (disch := (first | ((with_reducible refine zct_le ?_) <;> exact Nat.le_of_ble_eq_true rfl) | with_reducible exact zh_0 | with_reducible exact zh_1 | with_reducible exact zh_b | omega)) only [q_70_31, q_70_32, q_70_35r, q_70_35n, q_70_36, q_70_39, q_70_40, q_70_41, q_70_44, q_70_47, q_70_50, vf_s, vf_n, zk2_none, zk2_int, zk2_ref, zk2_null, zk2_long, zct_nil, zct_i, zct_l, zct_r, zct_n, Option.bind_some, Option.toList_some, Option.toList_none, List.cons_append, List.nil_append, zor_l, zor_r, if_true, if_false, ↓reduceIte, zi_lit, zi_of, zi_add, zi_mul, zi_sub, zi_nat, zi_leT, zi_leF, zi_ltT, zi_ltF, zi_eqT, zi_eqF, zif_0z, zif_bz, zi_01l, zi_01r, not_true_eq_false, not_false_eq_true, Nat.reduceAdd, Nat.reduceMul, Nat.reduceSub]
  | succ m ih =>
    intro k hk
    have m2 := i_2 (mi := yfl mi (o + 3) k fun _ => zi 256) (mj := mj) (y := zi 0) (z := zi 256) h2 h3 h4 r1 r2 (show k < 4 by omega)
    have e0 : zup (yfl mi (o + 3) k fun _ => zi 256) (o + 1 + 1) k (zi 0) = yfl mi (o + 3) k fun _ => zi 256 := zup_self (by rw [yfl_o (by omega)]; exact hz k)
    have e1 : zup (yfl mi (o + 3) k fun _ => zi 256) (o + 1 + 2) k (zi 256) = yfl mi (o + 3) (k + 1) fun _ => zi 256 := yfl_s rfl
    rw [e0, e1] at m2
    rw [q_70_30, ← ih (k + 1) (by omega)]
    simp (disch := (first | exact h1 | exact h2 | (first | ((with_reducible refine zct_le ?_) <;> exact Nat.le_of_ble_eq_true rfl) | with_reducible exact zh_0 | with_reducible exact zh_1 | with_reducible exact zh_b | omega))) only [q_70_31, q_70_32, q_70_35r, q_70_35n, q_70_36, q_70_39, q_70_40, q_70_41, q_70_44, q_70_47, q_70_50, vf_s, vf_n, zk2_none, zk2_int, zk2_ref, zk2_null, zk2_long, zct_nil, zct_i, zct_l, zct_r, zct_n, Option.bind_some, Option.toList_some, Option.toList_none, List.cons_append, List.nil_append, zor_l, zor_r, if_true, if_false, ↓reduceIte, zi_lit, zi_of, zi_add, zi_mul, zi_sub, zi_nat, zi_leT, zi_leF, zi_ltT, zi_ltF, zi_eqT, zi_eqF, zif_0z, zif_bz, zi_01l, zi_01r, not_true_eq_false, not_false_eq_true, Nat.reduceAdd, Nat.reduceMul, Nat.reduceSub, r0, m2]
theorem l_70b (ho : zSt o) (hm : ∀ x, o ≤ x → ∀ j, mr x j = none) (hz : ∀ x, o + 4 ≤ x → ∀ j, mi x j = 0) (m : Nat) : ∀ k, k + m = 4 → zRun 70 55 [some (.ref o), some (.int (zi k))] [] (tkS Ls (o + 5 + 3 * k)) mi mj (rkS mr o k) = some (none, tkS Ls (o + 5 + 3 * 4), mi, mj, rkS mr o 4) := by
  have hoo : o + 17 ≤ 148 := by unfold zSt at ho; omega
  have i0 := zSt_is (Ls := Ls) ho
  have ie := zSt_ie (Ls := Ls) ho
  induction m with
  | zero =>
    intro k hk
    obtain rfl : k = 4 := by omega
    rw [q_70_55]
    simp (disch := (first | ((with_reducible refine zct_le ?_) <;> exact Nat.le_of_ble_eq_true rfl) | with_reducible exact zh_0 | with_reducible exact zh_1 | with_reducible exact zh_b | omega)) only [q_70_56, q_70_57, q_70_60r, q_70_60n, q_70_61, q_70_64, q_70_65, q_70_68r, q_70_68i, q_70_69, q_70_72t7, q_70_72t10, q_70_72t11, q_70_73, q_70_76, q_70_79, vf_s, vf_n, zk2_none, zk2_int, zk2_ref, zk2_null, zk2_long, zct_nil, zct_i, zct_l, zct_r, zct_n, Option.bind_some, Option.toList_some, Option.toList_none, List.cons_append, List.nil_append, zor_l, zor_r, if_true, if_false, ↓reduceIte, zi_lit, zi_of, zi_add, zi_mul, zi_sub, zi_nat, zi_leT, zi_leF, zi_ltT, zi_ltF, zi_eqT, zi_eqF, zif_0z, zif_bz, zi_01l, zi_01r, not_true_eq_false, not_false_eq_true, Nat.reduceAdd, Nat.reduceMul, Nat.reduceSub]
  | succ m ih =>
    intro k hk
    have hsp := zSt_sp ho (show k < 4 by omega)
    have is := zSp_is (Ls := Ls) hsp
    have a1 := tkS_a is.1
    have l1 := tkS_l (Ls := Ls) (n := o + 5 + 3 * k) (by omega)
    have m73 := i_73 (Ls := Ls) (mi := mi) (mj := mj) (mr := rkS mr o k) hsp (by omega) (fun x hx j => by
      unfold rkS
      rw [if_neg (by omega), if_neg (by omega)]
      exact hm x (by omega) j) (fun x hx j => hz x (by omega) j)
    have r1 : rkS mr o k o 1 = some (o + 4) := by
      unfold rkS
      rw [if_neg (by omega), if_pos (by omega), (row_st ho 1).1]; rfl
    have r2 : ptc (rkS mr o k) (o + 5 + 3 * k) (o + 5 + 3 * k + 3) o 1 = some (o + 4) := by rw [ptc_o (by omega)]; exact r1
    have e1 : zup (ptc (rkS mr o k) (o + 5 + 3 * k) (o + 5 + 3 * k + 3)) (o + 4) k (some (o + 5 + 3 * k)) = rkS mr o (k + 1) := by
      funext x j
      by_cases c : x = o + 4
      · subst c
        by_cases cj : j = k
        · subst cj
          rw [zg_s]
          unfold rkS
          rw [if_pos rfl, if_pos (by omega)]
        · rw [zg_j (by omega), ptc_o (by omega)]
          unfold rkS
          rw [if_pos rfl, if_pos rfl]
          by_cases cl : j < k
          · rw [if_pos cl, if_pos (by omega)]
          · rw [if_neg cl, if_neg (by omega)]
      · rw [zup_ne (by omega)]
        by_cases c2 : o + 5 + 3 * k ≤ x ∧ x < o + 5 + 3 * k + 3
        · rw [ptc_i c2.1 c2.2]
          unfold rkS
          rw [if_neg c, if_pos (by omega)]
        · rw [ptc_o (by omega)]
          unfold rkS
          rw [if_neg c, if_neg c]
          by_cases c3 : o ≤ x ∧ x < o + 5 + 3 * k
          · rw [if_pos c3, if_pos (by omega)]
          · rw [if_neg c3, if_neg (by omega)]
    have key := ih (k + 1) (by omega)
    rw [show o + 5 + 3 * (k + 1) = o + 5 + 3 * k + 3 by omega] at key
    rw [q_70_55]
    simp (disch := (first | exact tkS_i i0 (by omega) | exact tkS_i is (by omega) | exact zi_atg (tkS_i ie (by omega)) (by omega) (by omega) | omega | (first | ((with_reducible refine zct_le ?_) <;> exact Nat.le_of_ble_eq_true rfl) | with_reducible exact zh_0 | with_reducible exact zh_1 | with_reducible exact zh_b | omega))) only [q_70_56, q_70_57, q_70_60r, q_70_60n, q_70_61, q_70_64, q_70_65, q_70_68r, q_70_68i, q_70_69, q_70_72t7, q_70_72t10, q_70_72t11, q_70_73, q_70_76, q_70_79, vf_s, vf_n, zk2_none, zk2_int, zk2_ref, zk2_null, zk2_long, zct_nil, zct_i, zct_l, zct_r, zct_n, Option.bind_some, Option.toList_some, Option.toList_none, List.cons_append, List.nil_append, zor_l, zor_r, if_true, if_false, ↓reduceIte, zi_lit, zi_of, zi_add, zi_mul, zi_sub, zi_nat, zi_leT, zi_leF, zi_ltT, zi_ltF, zi_eqT, zi_eqF, zif_0z, zif_bz, zi_01l, zi_01r, not_true_eq_false, not_false_eq_true, Nat.reduceAdd, Nat.reduceMul, Nat.reduceSub, l1, a1, m73, r1, r2, e1]
    exact key
theorem i_70 (ho : zSt o) (hm : ∀ x, o ≤ x → ∀ j, mr x j = none) (hz : ∀ x, o ≤ x → ∀ j, mi x j = 0) : zCall 70 [.ref o] (tkS Ls (o + 1)) mi mj mr = some (none, tkS Ls (o + 17), stm mi o, mj, ptc mr o (o + 17)) := by
  have hoo : o + 17 ≤ 148 := by unfold zSt at ho; omega
  have i0 := zSt_is (Ls := Ls) ho
  have ie := zSt_ie (Ls := Ls) ho
  have hbx := zSt_bx ho
  have ib := zBx_is (Ls := Ls) hbx
  have ib1 := zBx_i1 (Ls := Ls) hbx
  have ib2 := zBx_i2 (Ls := Ls) hbx
  have a1 := tkS_a ib.1
  have a2 := tkS_a ie.1
  have l1 := tkS_l (Ls := Ls) (n := o + 1) (by omega)
  have l2 := tkS_l (Ls := Ls) (n := o + 4) (by omega)
  have m1 := i_1 (Ls := Ls) (mi := mi) (mj := mj) (mr := mr) hbx (by omega) (fun x hx j => hm x (by omega) j)
  have e0 : zup (zup (ptc mr (o + 1) (o + 1 + 3)) o 0 (some (o + 1))) o 1 (some (o + 4)) = rkS mr o 0 := by
    funext x j
    unfold rkS
    by_cases c4 : x = o + 4
    · subst c4
      rw [if_pos rfl, if_neg (by omega), zup_ne (by omega), zup_ne (by omega), ptc_o (by omega)]
      exact hm _ (by omega) j
    · rw [if_neg c4]
      by_cases c0 : x = o
      · subst c0
        rw [if_pos (by omega), (row_st ho j).1]
        rcases j with _ | _ | j
        · simp (disch := omega) only [zg_s, zg_o, zg_j, zg_r, zg_ro, zg_d, yfl_o]; rfl
        · simp (disch := omega) only [zg_s, zg_o, zg_j, zg_r, zg_ro, zg_d, yfl_o]; rfl
        · simp (disch := omega) only [zg_s, zg_o, zg_j, zg_r, zg_ro, zg_d, yfl_o]
          rw [ptc_o (by omega), hm _ (by omega), if_neg (by omega), if_neg (by omega)]
      · rw [zup_ne (by omega), zup_ne (by omega)]
        by_cases c1 : o + 1 ≤ x ∧ x < o + 4
        · rw [ptc_i (by omega) (by omega), if_pos (by omega)]
        · rw [ptc_o (by omega), if_neg (by omega)]
  have r00 : rkS mr o 0 o 0 = some (o + 1) := by
    unfold rkS
    rw [if_neg (by omega), if_pos (by omega), (row_st ho 0).1]; rfl
  have r10 : rkS mr o 0 (o + 1) 0 = some (o + 1 + 1) := by
    unfold rkS
    rw [if_neg (by omega), if_pos (by omega), (row_bx hbx 0).1]; rfl
  have r11 : rkS mr o 0 (o + 1) 1 = some (o + 1 + 2) := by
    unfold rkS
    rw [if_neg (by omega), if_pos (by omega), (row_bx hbx 1).1]; rfl
  have hl1 := l_70a (mi := zup mi o 2 (zi 4)) (mj := mj) (mr := rkS mr o 0) (sh := tkS Ls (o + 5)) ho (tkS_i i0 (by omega)) (tkS_i ib (by omega)) (tkS_i ib1 (by omega)) (tkS_i ib2 (by omega)) r00 r10 r11 (fun j => by rw [zup_ne (by omega)]; exact hz _ (by omega) j) 4 0 rfl
  rw [yfl_0] at hl1
  have hl2 := l_70b (Ls := Ls) (mi := stm mi o) (mj := mj) ho hm (fun x hx j => by
    unfold stm
    rw [yfl_o (by omega), zup_ne (by omega)]
    exact hz x (by omega) j) 4 0 rfl
  have e4 : rkS mr o 4 = ptc mr o (o + 17) := by
    funext x j
    unfold rkS
    by_cases c4 : x = o + 4
    · subst c4
      rw [if_pos rfl, ptc_i (by omega) (by omega), (row_st ho j).2]
    · rw [if_neg c4]
      by_cases c : o ≤ x ∧ x < o + 17
      · rw [if_pos (by omega), ptc_i c.1 c.2]
      · rw [if_neg (by omega), ptc_o (by omega)]
  rw [← e4]
  simp (disch := (first | exact tkS_i i0 (by omega) | decide | omega | (first | ((with_reducible refine zct_le ?_) <;> exact Nat.le_of_ble_eq_true rfl) | with_reducible exact zh_0 | with_reducible exact zh_1 | with_reducible exact zh_b | omega))) only [e_70, q_70_0r, q_70_0n, q_70_1, q_70_4r, q_70_4n, q_70_5, q_70_8r, q_70_8i, q_70_9, q_70_12, q_70_15r, q_70_15n, q_70_16, q_70_17, q_70_20, q_70_23r, q_70_23n, q_70_24, q_70_25, q_70_28, q_70_29, vf_s, vf_n, zk2_none, zk2_int, zk2_ref, zk2_null, zk2_long, zct_nil, zct_i, zct_l, zct_r, zct_n, Option.bind_some, Option.toList_some, Option.toList_none, List.cons_append, List.nil_append, zor_l, zor_r, if_true, if_false, ↓reduceIte, zi_lit, zi_of, zi_add, zi_mul, zi_sub, zi_nat, zi_leT, zi_leF, zi_ltT, zi_ltF, zi_eqT, zi_eqF, zif_0z, zif_bz, zi_01l, zi_01r, not_true_eq_false, not_false_eq_true, Nat.reduceAdd, Nat.reduceMul, Nat.reduceSub, l1, l2, a1, a2, m1, e0]
  rw [hl1]
  simp (disch := (first | ((with_reducible refine zct_le ?_) <;> exact Nat.le_of_ble_eq_true rfl) | with_reducible exact zh_0 | with_reducible exact zh_1 | with_reducible exact zh_b | omega)) only [q_70_53, q_70_54, vf_s, vf_n, zk2_none, zk2_int, zk2_ref, zk2_null, zk2_long, zct_nil, zct_i, zct_l, zct_r, zct_n, Option.bind_some, Option.toList_some, Option.toList_none, List.cons_append, List.nil_append, zor_l, zor_r, if_true, if_false, ↓reduceIte, zi_lit, zi_of, zi_add, zi_mul, zi_sub, zi_nat, zi_leT, zi_leF, zi_ltT, zi_ltF, zi_eqT, zi_eqF, zif_0z, zif_bz, zi_01l, zi_01r, not_true_eq_false, not_false_eq_true, Nat.reduceAdd, Nat.reduceMul, Nat.reduceSub]
  exact hl2
theorem i_10 (hm : ∀ x, 97 ≤ x → ∀ j, mr x j = none) (hz : ∀ x, 97 ≤ x → ∀ j, mi x j = 0) : zCall 10 [.ref 97] (tkS Ls 98) mi mj mr = some (none, tkS Ls 102, mi, mj, ptc mr 97 102) := by
  have a1 := tkS_a (is_98 (Ls := Ls)).1
  have a2 := tkS_a (is_99 (Ls := Ls)).1
  have a3 := tkS_a (is_100 (Ls := Ls)).1
  have a4 := tkS_a (is_101 (Ls := Ls)).1
  have l1 := tkS_l (Ls := Ls) (n := 98) (by omega)
  have l2 := tkS_l (Ls := Ls) (n := 99) (by omega)
  have l3 := tkS_l (Ls := Ls) (n := 100) (by omega)
  have l4 := tkS_l (Ls := Ls) (n := 101) (by omega)
  have e0 : zup mi 97 4 (zi 0) = mi := zup_self (by rw [hz 97 (by omega)]; rfl)
  have e1 : zup (zup (zup (zup mr 97 0 (some 98)) 97 1 (some 99)) 97 2 (some 100)) 97 3 (some 101) = ptc mr 97 102 := by
    funext x j
    by_cases c : x = 97
    · subst c
      rw [ptc_i (by omega) (by omega)]
      rcases j with _ | _ | _ | _ | j
      · simp (disch := omega) only [zg_s, zg_o, zg_j, zg_r, zg_ro, zg_d, yfl_o]; rfl
      · simp (disch := omega) only [zg_s, zg_o, zg_j, zg_r, zg_ro, zg_d, yfl_o]; rfl
      · simp (disch := omega) only [zg_s, zg_o, zg_j, zg_r, zg_ro, zg_d, yfl_o]; rfl
      · simp (disch := omega) only [zg_s, zg_o, zg_j, zg_r, zg_ro, zg_d, yfl_o]; rfl
      · simp (disch := omega) only [zg_s, zg_o, zg_j, zg_r, zg_ro, zg_d, yfl_o]
        rw [hm _ (by omega)]; rfl
    · simp (disch := omega) only [zg_s, zg_o, zg_j, zg_r, zg_ro, zg_d, yfl_o]
      by_cases c2 : 97 ≤ x ∧ x < 102
      · rw [ptc_i c2.1 c2.2, hm _ (by omega)]
        have hx : x = 98 ∨ x = 99 ∨ x = 100 ∨ x = 101 := by omega
        rcases hx with rfl | rfl | rfl | rfl <;> rfl
      · rw [ptc_o (by omega)]
  rw [← e1]
  simp (disch := (first | exact tkS_i is_97 (by omega) | decide | (first | ((with_reducible refine zct_le ?_) <;> exact Nat.le_of_ble_eq_true rfl) | with_reducible exact zh_0 | with_reducible exact zh_1 | with_reducible exact zh_b | omega))) only [e_10, q_10_0r, q_10_0n, q_10_1, q_10_4r, q_10_4n, q_10_5, q_10_8, q_10_10, q_10_13r, q_10_13n, q_10_14, q_10_17, q_10_19, q_10_22r, q_10_22n, q_10_23, q_10_26, q_10_28, q_10_31r, q_10_31n, q_10_32, q_10_35, q_10_37, q_10_40r, q_10_40n, q_10_41, q_10_42, q_10_45, vf_s, vf_n, zk2_none, zk2_int, zk2_ref, zk2_null, zk2_long, zct_nil, zct_i, zct_l, zct_r, zct_n, Option.bind_some, Option.toList_some, Option.toList_none, List.cons_append, List.nil_append, zor_l, zor_r, if_true, if_false, ↓reduceIte, zi_lit, zi_of, zi_add, zi_mul, zi_sub, zi_nat, zi_leT, zi_leF, zi_ltT, zi_ltF, zi_eqT, zi_eqF, zif_0z, zif_bz, zi_01l, zi_01r, not_true_eq_false, not_false_eq_true, Nat.reduceAdd, Nat.reduceMul, Nat.reduceSub, a1, a2, a3, a4, l1, l2, l3, l4, e0]
theorem i_54 (hm : ∀ x, 22 ≤ x → ∀ j, mr x j = none) (hz : ∀ x, 22 ≤ x → ∀ j, mi x j = 0) : zCall 54 [.ref 22] (tkS Ls 23) mi mj mr = some (none, tkS Ls 27, mi, mj, ptc mr 22 27) := by
  have a1 := tkS_a (is_23 (Ls := Ls)).1
  have a2 := tkS_a (is_26 (Ls := Ls)).1
  have l1 := tkS_l (Ls := Ls) (n := 23) (by omega)
  have l2 := tkS_l (Ls := Ls) (n := 26) (by omega)
  have m73 := i_73 (Ls := Ls) (mi := mi) (mj := mj) (mr := mr) zSp23 (by omega) (fun x hx j => hm x (by omega) j) (fun x hx j => hz x (by omega) j)
  have e1 : zup (zup (ptc mr 23 26) 22 0 (some 23)) 22 1 (some 26) = ptc mr 22 27 := by
    funext x j
    by_cases c : x = 22
    · subst c
      rw [ptc_i (by omega) (by omega)]
      rcases j with _ | _ | j
      · simp (disch := omega) only [zg_s, zg_o, zg_j, zg_r, zg_ro, zg_d, yfl_o]; rfl
      · simp (disch := omega) only [zg_s, zg_o, zg_j, zg_r, zg_ro, zg_d, yfl_o]; rfl
      · simp (disch := omega) only [zg_s, zg_o, zg_j, zg_r, zg_ro, zg_d, yfl_o]
        rw [ptc_o (by omega), hm _ (by omega)]; rfl
    · simp (disch := omega) only [zg_s, zg_o, zg_j, zg_r, zg_ro, zg_d, yfl_o]
      by_cases c1 : x = 26
      · subst c1
        rw [ptc_o (by omega), ptc_i (by omega) (by omega), hm _ (by omega)]; rfl
      · by_cases c2 : 23 ≤ x ∧ x < 26
        · rw [ptc_i c2.1 c2.2, ptc_i (by omega) (by omega)]
        · rw [ptc_o (by omega), ptc_o (by omega)]
  rw [← e1]
  simp (disch := (first | exact tkS_i is_22 (by omega) | decide | omega | (first | ((with_reducible refine zct_le ?_) <;> exact Nat.le_of_ble_eq_true rfl) | with_reducible exact zh_0 | with_reducible exact zh_1 | with_reducible exact zh_b | omega))) only [e_54, q_54_0r, q_54_0n, q_54_1, q_54_4r, q_54_4n, q_54_5, q_54_8r, q_54_8i, q_54_9, q_54_12, q_54_15r, q_54_15n, q_54_16, q_54_18, q_54_20, q_54_23, vf_s, vf_n, zk2_none, zk2_int, zk2_ref, zk2_null, zk2_long, zct_nil, zct_i, zct_l, zct_r, zct_n, Option.bind_some, Option.toList_some, Option.toList_none, List.cons_append, List.nil_append, zor_l, zor_r, if_true, if_false, ↓reduceIte, zi_lit, zi_of, zi_add, zi_mul, zi_sub, zi_nat, zi_leT, zi_leF, zi_ltT, zi_ltF, zi_eqT, zi_eqF, zif_0z, zif_bz, zi_01l, zi_01r, not_true_eq_false, not_false_eq_true, Nat.reduceAdd, Nat.reduceMul, Nat.reduceSub, a1, a2, l1, l2, m73]
theorem zFm_k (hk : k < 32) : zFm (33 + 2 * k) := ⟨by omega, by omega, by omega⟩
theorem is_28' : zIs (SH Ls) 28 7 32 := ⟨rfl, by decide⟩
theorem l_44i (hm : ∀ x, 27 ≤ x → ∀ j, mr x j = none) (m : Nat) : ∀ k, k + m = 32 → zRun 44 37 [some (.ref 27), some (.int (zi k))] [] (tkS Ls (33 + 2 * k)) mi mj (rkM mr k) = some (none, tkS Ls (33 + 2 * 32), mi, mj, rkM mr 32) := by
  induction m with
  | zero =>
    intro k hk
    obtain rfl : k = 32 := by omega
    rw [q_44_37]
    simp (disch := (first | ((with_reducible refine zct_le ?_) <;> exact Nat.le_of_ble_eq_true rfl) | with_reducible exact zh_0 | with_reducible exact zh_1 | with_reducible exact zh_b | omega)) only [q_44_38, q_44_40, q_44_43r, q_44_43n, q_44_44, q_44_47, q_44_48, q_44_51r, q_44_51i, q_44_52, q_44_55t7, q_44_55t10, q_44_55t11, q_44_56, q_44_59, q_44_62, vf_s, vf_n, zk2_none, zk2_int, zk2_ref, zk2_null, zk2_long, zct_nil, zct_i, zct_l, zct_r, zct_n, Option.bind_some, Option.toList_some, Option.toList_none, List.cons_append, List.nil_append, zor_l, zor_r, if_true, if_false, ↓reduceIte, zi_lit, zi_of, zi_add, zi_mul, zi_sub, zi_nat, zi_leT, zi_leF, zi_ltT, zi_ltF, zi_eqT, zi_eqF, zif_0z, zif_bz, zi_01l, zi_01r, not_true_eq_false, not_false_eq_true, Nat.reduceAdd, Nat.reduceMul, Nat.reduceSub]
  | succ m ih =>
    intro k hk
    have hf := zFm_k (show k < 32 by omega)
    have is := zFm_is (Ls := Ls) hf
    have a1 := tkS_a is.1
    have l1 := tkS_l (Ls := Ls) (n := 33 + 2 * k) (by omega)
    have m18 := i_18 (Ls := Ls) (mi := mi) (mj := mj) (mr := rkM mr k) hf (fun x hx j => by
      unfold rkM
      rw [if_neg (by omega), if_neg (by omega)]
      exact hm x (by omega) j)
    have r1 : rkM mr k 27 0 = some 28 := by
      unfold rkM
      rw [if_neg (by omega), if_pos (by omega)]; rfl
    have r2 : ptc (rkM mr k) (33 + 2 * k) (33 + 2 * k + 2) 27 0 = some 28 := by rw [ptc_o (by omega)]; exact r1
    have e1 : zup (ptc (rkM mr k) (33 + 2 * k) (33 + 2 * k + 2)) 28 k (some (33 + 2 * k)) = rkM mr (k + 1) := by
      funext x j
      by_cases c : x = 28
      · subst c
        by_cases cj : j = k
        · subst cj
          rw [zg_s]
          unfold rkM
          rw [if_pos rfl, if_pos (by omega)]
        · rw [zg_j (by omega), ptc_o (by omega)]
          unfold rkM
          rw [if_pos rfl, if_pos rfl]
          by_cases cl : j < k
          · rw [if_pos cl, if_pos (by omega)]
          · rw [if_neg cl, if_neg (by omega)]
      · rw [zup_ne (by omega)]
        by_cases c2 : 33 + 2 * k ≤ x ∧ x < 33 + 2 * k + 2
        · rw [ptc_i c2.1 c2.2]
          unfold rkM
          rw [if_neg c, if_pos (by omega)]
        · rw [ptc_o (by omega)]
          unfold rkM
          rw [if_neg c, if_neg c]
          by_cases c3 : 27 ≤ x ∧ x < 33 + 2 * k
          · rw [if_pos c3, if_pos (by omega)]
          · rw [if_neg c3, if_neg (by omega)]
    have key := ih (k + 1) (by omega)
    rw [show 33 + 2 * (k + 1) = 33 + 2 * k + 2 by omega] at key
    rw [q_44_37]
    simp (disch := (first | exact tkS_i is_27 (by omega) | exact tkS_i is (by omega) | exact zi_atg (tkS_i is_28' (by omega)) (by omega) (by omega) | omega | (first | ((with_reducible refine zct_le ?_) <;> exact Nat.le_of_ble_eq_true rfl) | with_reducible exact zh_0 | with_reducible exact zh_1 | with_reducible exact zh_b | omega))) only [q_44_38, q_44_40, q_44_43r, q_44_43n, q_44_44, q_44_47, q_44_48, q_44_51r, q_44_51i, q_44_52, q_44_55t7, q_44_55t10, q_44_55t11, q_44_56, q_44_59, q_44_62, vf_s, vf_n, zk2_none, zk2_int, zk2_ref, zk2_null, zk2_long, zct_nil, zct_i, zct_l, zct_r, zct_n, Option.bind_some, Option.toList_some, Option.toList_none, List.cons_append, List.nil_append, zor_l, zor_r, if_true, if_false, ↓reduceIte, zi_lit, zi_of, zi_add, zi_mul, zi_sub, zi_nat, zi_leT, zi_leF, zi_ltT, zi_ltF, zi_eqT, zi_eqF, zif_0z, zif_bz, zi_01l, zi_01r, not_true_eq_false, not_false_eq_true, Nat.reduceAdd, Nat.reduceMul, Nat.reduceSub, l1, a1, m18, r1, r2, e1]
    exact key
theorem i_44 (hm : ∀ x, 27 ≤ x → ∀ j, mr x j = none) : zCall 44 [.ref 27] (tkS Ls 28) mi mj mr = some (none, tkS Ls 97, mi, mj, ptc mr 27 97) := by
  have f29 : zFm 29 := ⟨by omega, by omega, by omega⟩
  have f31 : zFm 31 := ⟨by omega, by omega, by omega⟩
  have i29 := zFm_is (Ls := Ls) f29
  have i31 := zFm_is (Ls := Ls) f31
  have a0 := tkS_a (is_28' (Ls := Ls)).1
  have a1 := tkS_a i29.1
  have a2 := tkS_a i31.1
  have l1 := tkS_l (Ls := Ls) (n := 28) (by omega)
  have l2 := tkS_l (Ls := Ls) (n := 29) (by omega)
  have l3 := tkS_l (Ls := Ls) (n := 31) (by omega)
  have q1 := i_18 (Ls := Ls) (mi := mi) (mj := mj) (mr := zup mr 27 0 (some 28)) f29 (fun x hx j => by rw [zup_ne (by omega)]; exact hm x (by omega) j)
  have q2 := i_18 (Ls := Ls) (mi := mi) (mj := mj) (mr := zup (ptc (zup mr 27 0 (some 28)) 29 31) 27 1 (some 29)) f31 (fun x hx j => by rw [zup_ne (by omega), ptc_o (by omega), zup_ne (by omega)]; exact hm x (by omega) j)
  have e0 : zup (ptc (zup (ptc (zup mr 27 0 (some 28)) 29 31) 27 1 (some 29)) 31 33) 27 2 (some 31) = rkM mr 0 := by
    funext x j
    unfold rkM
    by_cases c8 : x = 28
    · subst c8
      rw [if_pos rfl, if_neg (by omega), zup_ne (by omega), ptc_o (by omega), zup_ne (by omega), ptc_o (by omega), zup_ne (by omega)]
      exact hm _ (by omega) j
    · rw [if_neg c8]
      by_cases c7 : x = 27
      · subst c7
        rw [if_pos (by omega)]
        rcases j with _ | _ | _ | j
        · simp (disch := omega) only [zg_s, zg_o, zg_j, zg_r, zg_ro, zg_d, yfl_o, ptc_o]; rfl
        · simp (disch := omega) only [zg_s, zg_o, zg_j, zg_r, zg_ro, zg_d, yfl_o, ptc_o]; rfl
        · simp (disch := omega) only [zg_s, zg_o, zg_j, zg_r, zg_ro, zg_d, yfl_o, ptc_o]; rfl
        · simp (disch := omega) only [zg_s, zg_o, zg_j, zg_r, zg_ro, zg_d, yfl_o, ptc_o]
          rw [hm _ (by omega)]; rfl
      · rw [zup_ne (by omega)]
        by_cases c1 : 31 ≤ x ∧ x < 33
        · rw [ptc_i c1.1 c1.2, if_pos (by omega)]
        · rw [ptc_o (by omega), zup_ne (by omega)]
          by_cases c2 : 29 ≤ x ∧ x < 31
          · rw [ptc_i c2.1 c2.2, if_pos (by omega)]
          · rw [ptc_o (by omega), zup_ne (by omega), if_neg (by omega)]
  have hl := l_44i (Ls := Ls) (mi := mi) (mj := mj) hm 32 0 rfl
  have e4 : rkM mr 32 = ptc mr 27 97 := by
    funext x j
    unfold rkM
    by_cases c4 : x = 28
    · subst c4
      rw [if_pos rfl, ptc_i (by omega) (by omega)]
      show (if j < 32 then some (33 + 2 * j) else none) = if j < 32 then some (g0 j) else none
      by_cases cj : j < 32
      · rw [if_pos cj, if_pos cj]
        unfold g0
        rw [if_neg (by omega)]
      · rw [if_neg cj, if_neg cj]
    · rw [if_neg c4]
      by_cases c : 27 ≤ x ∧ x < 97
      · rw [if_pos (by omega), ptc_i c.1 c.2]
      · rw [if_neg (by omega), ptc_o (by omega)]
  rw [← e4]
  simp (disch := (first | exact tkS_i is_27 (by omega) | decide | omega | (first | ((with_reducible refine zct_le ?_) <;> exact Nat.le_of_ble_eq_true rfl) | with_reducible exact zh_0 | with_reducible exact zh_1 | with_reducible exact zh_b | omega))) only [e_44, q_44_0r, q_44_0n, q_44_1, q_44_4r, q_44_4n, q_44_5, q_44_7, q_44_10, q_44_13r, q_44_13n, q_44_14, q_44_17r, q_44_17i, q_44_18, q_44_21, q_44_24r, q_44_24n, q_44_25, q_44_28r, q_44_28i, q_44_29, q_44_32, q_44_35, q_44_36, vf_s, vf_n, zk2_none, zk2_int, zk2_ref, zk2_null, zk2_long, zct_nil, zct_i, zct_l, zct_r, zct_n, Option.bind_some, Option.toList_some, Option.toList_none, List.cons_append, List.nil_append, zor_l, zor_r, if_true, if_false, ↓reduceIte, zi_lit, zi_of, zi_add, zi_mul, zi_sub, zi_nat, zi_leT, zi_leF, zi_ltT, zi_ltF, zi_eqT, zi_eqF, zif_0z, zif_bz, zi_01l, zi_01r, not_true_eq_false, not_false_eq_true, Nat.reduceAdd, Nat.reduceMul, Nat.reduceSub, l1, l2, l3, a0, a1, a2, q1, q2, e0]
  exact hl
end
