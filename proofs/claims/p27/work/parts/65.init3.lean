/-! ===== the constructors (3): both objects, and what stands then ===== -/
section
variable {Ls : Nat} {mi mi' : zI} {mj : zJ} {mr : zR} {o n k e b : Nat} {x y z : Int32} {sh : zSh}
theorem is_20' : zIs (SH Ls) 20 10 2 := ⟨rfl, by decide⟩
theorem is_21' : zIs (SH Ls) 21 4 2 := ⟨rfl, by decide⟩

theorem i_78 (hm : ∀ x, 1 ≤ x → ∀ j, mr x j = none) (hz : ∀ x, 1 ≤ x → ∀ j, mi x j = 0) : zCall 78 [.ref 1] (tkS Ls 2) mi mj mr = some (none, tkS Ls 148, stm (stm (stm mi 3) 114) 131, mj, ptc mr 1 148) := by
  have hz1 : ∀ x, 20 ≤ x → ∀ j, stm mi 3 x j = 0 := stm_z (by omega) (fun x hx j => hz x (by omega) j)
  have hz2 : ∀ x, 131 ≤ x → ∀ j, stm (stm mi 3) 114 x j = 0 := stm_z (by omega) (fun x hx j => hz1 x (by omega) j)
  have a2 := tkS_a (is_2 (Ls := Ls)).1
  have l2 := tkS_l (Ls := Ls) (n := 2) (by omega)
  have a3 := tkS_a (is_3 (Ls := Ls)).1
  have l3 := tkS_l (Ls := Ls) (n := 3) (by omega)
  have a20 := tkS_a (is_20' (Ls := Ls)).1
  have l20 := tkS_l (Ls := Ls) (n := 20) (by omega)
  have a21 := tkS_a (is_21' (Ls := Ls)).1
  have l21 := tkS_l (Ls := Ls) (n := 21) (by omega)
  have a22 := tkS_a (is_22 (Ls := Ls)).1
  have l22 := tkS_l (Ls := Ls) (n := 22) (by omega)
  have a27 := tkS_a (is_27 (Ls := Ls)).1
  have l27 := tkS_l (Ls := Ls) (n := 27) (by omega)
  have a97 := tkS_a (is_97 (Ls := Ls)).1
  have l97 := tkS_l (Ls := Ls) (n := 97) (by omega)
  have a102 := tkS_a (is_102 (Ls := Ls)).1
  have l102 := tkS_l (Ls := Ls) (n := 102) (by omega)
  have a105 := tkS_a (is_105 (Ls := Ls)).1
  have l105 := tkS_l (Ls := Ls) (n := 105) (by omega)
  have a108 := tkS_a (is_108 (Ls := Ls)).1
  have l108 := tkS_l (Ls := Ls) (n := 108) (by omega)
  have a111 := tkS_a (is_111 (Ls := Ls)).1
  have l111 := tkS_l (Ls := Ls) (n := 111) (by omega)
  have a114 := tkS_a (is_114 (Ls := Ls)).1
  have l114 := tkS_l (Ls := Ls) (n := 114) (by omega)
  have a131 := tkS_a (is_131 (Ls := Ls)).1
  have l131 := tkS_l (Ls := Ls) (n := 131) (by omega)
  have q0 : zCall 70 [.ref 3] (tkS Ls 4) mi mj (zup mr 1 0 (some 2)) = some (none, tkS Ls 20, (stm mi 3), mj, (ptc (zup mr 1 0 (some 2)) 3 20)) := i_70 (Or.inl rfl) (fun x hx j => by simp (disch := omega) only [zg_s, zg_o, zg_j, zg_r, zg_ro, zg_d, yfl_o, ptc_o]; exact hm x (by omega) j) (fun x hx j => hz x (by omega) j)
  have q1 : zCall 54 [.ref 22] (tkS Ls 23) (stm mi 3) mj (zup (zup (zup (ptc (zup mr 1 0 (some 2)) 3 20) 1 2 (some 3)) 1 3 (some 20)) 1 4 (some 21)) = some (none, tkS Ls 27, (stm mi 3), mj, (ptc (zup (zup (zup (ptc (zup mr 1 0 (some 2)) 3 20) 1 2 (some 3)) 1 3 (some 20)) 1 4 (some 21)) 22 27)) := i_54  (fun x hx j => by simp (disch := omega) only [zg_s, zg_o, zg_j, zg_r, zg_ro, zg_d, yfl_o, ptc_o]; exact hm x (by omega) j) (fun x hx j => hz1 x (by omega) j)
  have q2 : zCall 44 [.ref 27] (tkS Ls 28) (stm mi 3) mj (zup (ptc (zup (zup (zup (ptc (zup mr 1 0 (some 2)) 3 20) 1 2 (some 3)) 1 3 (some 20)) 1 4 (some 21)) 22 27) 1 5 (some 22)) = some (none, tkS Ls 97, (stm mi 3), mj, (ptc (zup (ptc (zup (zup (zup (ptc (zup mr 1 0 (some 2)) 3 20) 1 2 (some 3)) 1 3 (some 20)) 1 4 (some 21)) 22 27) 1 5 (some 22)) 27 97)) := i_44  (fun x hx j => by simp (disch := omega) only [zg_s, zg_o, zg_j, zg_r, zg_ro, zg_d, yfl_o, ptc_o]; exact hm x (by omega) j)
  have q3 : zCall 10 [.ref 97] (tkS Ls 98) (stm mi 3) mj (zup (ptc (zup (ptc (zup (zup (zup (ptc (zup mr 1 0 (some 2)) 3 20) 1 2 (some 3)) 1 3 (some 20)) 1 4 (some 21)) 22 27) 1 5 (some 22)) 27 97) 1 6 (some 27)) = some (none, tkS Ls 102, (stm mi 3), mj, (ptc (zup (ptc (zup (ptc (zup (zup (zup (ptc (zup mr 1 0 (some 2)) 3 20) 1 2 (some 3)) 1 3 (some 20)) 1 4 (some 21)) 22 27) 1 5 (some 22)) 27 97) 1 6 (some 27)) 97 102)) := i_10  (fun x hx j => by simp (disch := omega) only [zg_s, zg_o, zg_j, zg_r, zg_ro, zg_d, yfl_o, ptc_o]; exact hm x (by omega) j) (fun x hx j => hz1 x (by omega) j)
  have q4 : zCall 1 [.ref 102] (tkS Ls 103) (stm mi 3) mj (zup (ptc (zup (ptc (zup (ptc (zup (zup (zup (ptc (zup mr 1 0 (some 2)) 3 20) 1 2 (some 3)) 1 3 (some 20)) 1 4 (some 21)) 22 27) 1 5 (some 22)) 27 97) 1 6 (some 27)) 97 102) 1 7 (some 97)) = some (none, tkS Ls 105, (stm mi 3), mj, (ptc (zup (ptc (zup (ptc (zup (ptc (zup (zup (zup (ptc (zup mr 1 0 (some 2)) 3 20) 1 2 (some 3)) 1 3 (some 20)) 1 4 (some 21)) 22 27) 1 5 (some 22)) 27 97) 1 6 (some 27)) 97 102) 1 7 (some 97)) 102 105)) := i_1 bx102 (by omega) (fun x hx j => by simp (disch := omega) only [zg_s, zg_o, zg_j, zg_r, zg_ro, zg_d, yfl_o, ptc_o]; exact hm x (by omega) j)
  have q5 : zCall 1 [.ref 105] (tkS Ls 106) (stm mi 3) mj (zup (ptc (zup (ptc (zup (ptc (zup (ptc (zup (zup (zup (ptc (zup mr 1 0 (some 2)) 3 20) 1 2 (some 3)) 1 3 (some 20)) 1 4 (some 21)) 22 27) 1 5 (some 22)) 27 97) 1 6 (some 27)) 97 102) 1 7 (some 97)) 102 105) 1 8 (some 102)) = some (none, tkS Ls 108, (stm mi 3), mj, (ptc (zup (ptc (zup (ptc (zup (ptc (zup (ptc (zup (zup (zup (ptc (zup mr 1 0 (some 2)) 3 20) 1 2 (some 3)) 1 3 (some 20)) 1 4 (some 21)) 22 27) 1 5 (some 22)) 27 97) 1 6 (some 27)) 97 102) 1 7 (some 97)) 102 105) 1 8 (some 102)) 105 108)) := i_1 bx105 (by omega) (fun x hx j => by simp (disch := omega) only [zg_s, zg_o, zg_j, zg_r, zg_ro, zg_d, yfl_o, ptc_o]; exact hm x (by omega) j)
  have q6 : zCall 1 [.ref 108] (tkS Ls 109) (stm mi 3) mj (zup (ptc (zup (ptc (zup (ptc (zup (ptc (zup (ptc (zup (zup (zup (ptc (zup mr 1 0 (some 2)) 3 20) 1 2 (some 3)) 1 3 (some 20)) 1 4 (some 21)) 22 27) 1 5 (some 22)) 27 97) 1 6 (some 27)) 97 102) 1 7 (some 97)) 102 105) 1 8 (some 102)) 105 108) 1 10 (some 105)) = some (none, tkS Ls 111, (stm mi 3), mj, (ptc (zup (ptc (zup (ptc (zup (ptc (zup (ptc (zup (ptc (zup (zup (zup (ptc (zup mr 1 0 (some 2)) 3 20) 1 2 (some 3)) 1 3 (some 20)) 1 4 (some 21)) 22 27) 1 5 (some 22)) 27 97) 1 6 (some 27)) 97 102) 1 7 (some 97)) 102 105) 1 8 (some 102)) 105 108) 1 10 (some 105)) 108 111)) := i_1 bx108 (by omega) (fun x hx j => by simp (disch := omega) only [zg_s, zg_o, zg_j, zg_r, zg_ro, zg_d, yfl_o, ptc_o]; exact hm x (by omega) j)
  have q7 : zCall 1 [.ref 111] (tkS Ls 112) (stm mi 3) mj (zup (ptc (zup (ptc (zup (ptc (zup (ptc (zup (ptc (zup (ptc (zup (zup (zup (ptc (zup mr 1 0 (some 2)) 3 20) 1 2 (some 3)) 1 3 (some 20)) 1 4 (some 21)) 22 27) 1 5 (some 22)) 27 97) 1 6 (some 27)) 97 102) 1 7 (some 97)) 102 105) 1 8 (some 102)) 105 108) 1 10 (some 105)) 108 111) 1 11 (some 108)) = some (none, tkS Ls 114, (stm mi 3), mj, (ptc (zup (ptc (zup (ptc (zup (ptc (zup (ptc (zup (ptc (zup (ptc (zup (zup (zup (ptc (zup mr 1 0 (some 2)) 3 20) 1 2 (some 3)) 1 3 (some 20)) 1 4 (some 21)) 22 27) 1 5 (some 22)) 27 97) 1 6 (some 27)) 97 102) 1 7 (some 97)) 102 105) 1 8 (some 102)) 105 108) 1 10 (some 105)) 108 111) 1 11 (some 108)) 111 114)) := i_1 bx111 (by omega) (fun x hx j => by simp (disch := omega) only [zg_s, zg_o, zg_j, zg_r, zg_ro, zg_d, yfl_o, ptc_o]; exact hm x (by omega) j)
  have q8 : zCall 70 [.ref 114] (tkS Ls 115) (stm mi 3) mj (zup (ptc (zup (ptc (zup (ptc (zup (ptc (zup (ptc (zup (ptc (zup (ptc (zup (zup (zup (ptc (zup mr 1 0 (some 2)) 3 20) 1 2 (some 3)) 1 3 (some 20)) 1 4 (some 21)) 22 27) 1 5 (some 22)) 27 97) 1 6 (some 27)) 97 102) 1 7 (some 97)) 102 105) 1 8 (some 102)) 105 108) 1 10 (some 105)) 108 111) 1 11 (some 108)) 111 114) 1 12 (some 111)) = some (none, tkS Ls 131, (stm (stm mi 3) 114), mj, (ptc (zup (ptc (zup (ptc (zup (ptc (zup (ptc (zup (ptc (zup (ptc (zup (ptc (zup (zup (zup (ptc (zup mr 1 0 (some 2)) 3 20) 1 2 (some 3)) 1 3 (some 20)) 1 4 (some 21)) 22 27) 1 5 (some 22)) 27 97) 1 6 (some 27)) 97 102) 1 7 (some 97)) 102 105) 1 8 (some 102)) 105 108) 1 10 (some 105)) 108 111) 1 11 (some 108)) 111 114) 1 12 (some 111)) 114 131)) := i_70 (Or.inr (Or.inl rfl)) (fun x hx j => by simp (disch := omega) only [zg_s, zg_o, zg_j, zg_r, zg_ro, zg_d, yfl_o, ptc_o]; exact hm x (by omega) j) (fun x hx j => hz1 x (by omega) j)
  have q9 : zCall 70 [.ref 131] (tkS Ls 132) (stm (stm mi 3) 114) mj (zup (ptc (zup (ptc (zup (ptc (zup (ptc (zup (ptc (zup (ptc (zup (ptc (zup (ptc (zup (zup (zup (ptc (zup mr 1 0 (some 2)) 3 20) 1 2 (some 3)) 1 3 (some 20)) 1 4 (some 21)) 22 27) 1 5 (some 22)) 27 97) 1 6 (some 27)) 97 102) 1 7 (some 97)) 102 105) 1 8 (some 102)) 105 108) 1 10 (some 105)) 108 111) 1 11 (some 108)) 111 114) 1 12 (some 111)) 114 131) 20 0 (some 114)) = some (none, tkS Ls 148, (stm (stm (stm mi 3) 114) 131), mj, (ptc (zup (ptc (zup (ptc (zup (ptc (zup (ptc (zup (ptc (zup (ptc (zup (ptc (zup (ptc (zup (zup (zup (ptc (zup mr 1 0 (some 2)) 3 20) 1 2 (some 3)) 1 3 (some 20)) 1 4 (some 21)) 22 27) 1 5 (some 22)) 27 97) 1 6 (some 27)) 97 102) 1 7 (some 97)) 102 105) 1 8 (some 102)) 105 108) 1 10 (some 105)) 108 111) 1 11 (some 108)) 111 114) 1 12 (some 111)) 114 131) 20 0 (some 114)) 131 148)) := i_70 (Or.inr (Or.inr rfl)) (fun x hx j => by simp (disch := omega) only [zg_s, zg_o, zg_j, zg_r, zg_ro, zg_d, yfl_o, ptc_o]; exact hm x (by omega) j) (fun x hx j => hz2 x (by omega) j)
  have fin : (zup (ptc (zup (ptc (zup (ptc (zup (ptc (zup (ptc (zup (ptc (zup (ptc (zup (ptc (zup (ptc (zup (zup (zup (ptc (zup mr 1 0 (some 2)) 3 20) 1 2 (some 3)) 1 3 (some 20)) 1 4 (some 21)) 22 27) 1 5 (some 22)) 27 97) 1 6 (some 27)) 97 102) 1 7 (some 97)) 102 105) 1 8 (some 102)) 105 108) 1 10 (some 105)) 108 111) 1 11 (some 108)) 111 114) 1 12 (some 111)) 114 131) 20 0 (some 114)) 131 148) 20 1 (some 131)) = ptc mr 1 148 := by
    funext x j
    by_cases c1 : x = 1
    · subst c1
      rw [ptc_i (by omega) (by omega)]
      rcases j with _ | _ | _ | _ | _ | _ | _ | _ | _ | _ | _ | _ | _ | j
      · simp (disch := omega) only [zg_s, zg_o, zg_j, zg_r, zg_ro, zg_d, yfl_o, ptc_o]; rfl
      · simp (disch := omega) only [zg_s, zg_o, zg_j, zg_r, zg_ro, zg_d, yfl_o, ptc_o]; rw [hm 1 (by omega)]; rfl
      · simp (disch := omega) only [zg_s, zg_o, zg_j, zg_r, zg_ro, zg_d, yfl_o, ptc_o]; rfl
      · simp (disch := omega) only [zg_s, zg_o, zg_j, zg_r, zg_ro, zg_d, yfl_o, ptc_o]; rfl
      · simp (disch := omega) only [zg_s, zg_o, zg_j, zg_r, zg_ro, zg_d, yfl_o, ptc_o]; rfl
      · simp (disch := omega) only [zg_s, zg_o, zg_j, zg_r, zg_ro, zg_d, yfl_o, ptc_o]; rfl
      · simp (disch := omega) only [zg_s, zg_o, zg_j, zg_r, zg_ro, zg_d, yfl_o, ptc_o]; rfl
      · simp (disch := omega) only [zg_s, zg_o, zg_j, zg_r, zg_ro, zg_d, yfl_o, ptc_o]; rfl
      · simp (disch := omega) only [zg_s, zg_o, zg_j, zg_r, zg_ro, zg_d, yfl_o, ptc_o]; rfl
      · simp (disch := omega) only [zg_s, zg_o, zg_j, zg_r, zg_ro, zg_d, yfl_o, ptc_o]; rw [hm 1 (by omega)]; rfl
      · simp (disch := omega) only [zg_s, zg_o, zg_j, zg_r, zg_ro, zg_d, yfl_o, ptc_o]; rfl
      · simp (disch := omega) only [zg_s, zg_o, zg_j, zg_r, zg_ro, zg_d, yfl_o, ptc_o]; rfl
      · simp (disch := omega) only [zg_s, zg_o, zg_j, zg_r, zg_ro, zg_d, yfl_o, ptc_o]; rfl
      · simp (disch := omega) only [zg_s, zg_o, zg_j, zg_r, zg_ro, zg_d, yfl_o, ptc_o]; rw [hm 1 (by omega)]; rfl
    · by_cases c20 : x = 20
      · subst c20
        rw [ptc_i (a := 1) (b := 148) (by omega) (by omega)]
        rcases j with _ | _ | j
        · simp (disch := omega) only [zg_s, zg_o, zg_j, zg_r, zg_ro, zg_d, yfl_o, ptc_o]; rfl
        · simp (disch := omega) only [zg_s, zg_o, zg_j, zg_r, zg_ro, zg_d, yfl_o, ptc_o]; rfl
        · simp (disch := omega) only [zg_s, zg_o, zg_j, zg_r, zg_ro, zg_d, yfl_o, ptc_o]; rw [hm 20 (by omega)]; rfl
      · by_cases c2 : x = 2
        · subst c2
          rw [ptc_i (a := 1) (b := 148) (by omega) (by omega)]
          simp (disch := omega) only [zg_s, zg_o, zg_j, zg_r, zg_ro, zg_d, yfl_o, ptc_o]
          rw [hm 2 (by omega)]; rfl
        · by_cases c21 : x = 21
          · subst c21
            rw [ptc_i (a := 1) (b := 148) (by omega) (by omega)]
            simp (disch := omega) only [zg_s, zg_o, zg_j, zg_r, zg_ro, zg_d, yfl_o, ptc_o]
            rw [hm 21 (by omega)]; rfl
          · by_cases d3 : 3 ≤ x ∧ x < 20
            · rw [ptc_i (a := 1) (b := 148) (by omega) (by omega)]
              simp (disch := omega) only [zg_s, zg_o, zg_j, zg_r, zg_ro, zg_d, yfl_o, ptc_o, ptc_i]
            · by_cases d22 : 22 ≤ x ∧ x < 27
              · rw [ptc_i (a := 1) (b := 148) (by omega) (by omega)]
                simp (disch := omega) only [zg_s, zg_o, zg_j, zg_r, zg_ro, zg_d, yfl_o, ptc_o, ptc_i]
              · by_cases d27 : 27 ≤ x ∧ x < 97
                · rw [ptc_i (a := 1) (b := 148) (by omega) (by omega)]
                  simp (disch := omega) only [zg_s, zg_o, zg_j, zg_r, zg_ro, zg_d, yfl_o, ptc_o, ptc_i]
                · by_cases d97 : 97 ≤ x ∧ x < 102
                  · rw [ptc_i (a := 1) (b := 148) (by omega) (by omega)]
                    simp (disch := omega) only [zg_s, zg_o, zg_j, zg_r, zg_ro, zg_d, yfl_o, ptc_o, ptc_i]
                  · by_cases d102 : 102 ≤ x ∧ x < 105
                    · rw [ptc_i (a := 1) (b := 148) (by omega) (by omega)]
                      simp (disch := omega) only [zg_s, zg_o, zg_j, zg_r, zg_ro, zg_d, yfl_o, ptc_o, ptc_i]
                    · by_cases d105 : 105 ≤ x ∧ x < 108
                      · rw [ptc_i (a := 1) (b := 148) (by omega) (by omega)]
                        simp (disch := omega) only [zg_s, zg_o, zg_j, zg_r, zg_ro, zg_d, yfl_o, ptc_o, ptc_i]
                      · by_cases d108 : 108 ≤ x ∧ x < 111
                        · rw [ptc_i (a := 1) (b := 148) (by omega) (by omega)]
                          simp (disch := omega) only [zg_s, zg_o, zg_j, zg_r, zg_ro, zg_d, yfl_o, ptc_o, ptc_i]
                        · by_cases d111 : 111 ≤ x ∧ x < 114
                          · rw [ptc_i (a := 1) (b := 148) (by omega) (by omega)]
                            simp (disch := omega) only [zg_s, zg_o, zg_j, zg_r, zg_ro, zg_d, yfl_o, ptc_o, ptc_i]
                          · by_cases d114 : 114 ≤ x ∧ x < 131
                            · rw [ptc_i (a := 1) (b := 148) (by omega) (by omega)]
                              simp (disch := omega) only [zg_s, zg_o, zg_j, zg_r, zg_ro, zg_d, yfl_o, ptc_o, ptc_i]
                            · by_cases d131 : 131 ≤ x ∧ x < 148
                              · rw [ptc_i (a := 1) (b := 148) (by omega) (by omega)]
                                simp (disch := omega) only [zg_s, zg_o, zg_j, zg_r, zg_ro, zg_d, yfl_o, ptc_o, ptc_i]
                              · rw [ptc_o (a := 1) (b := 148) (by omega)]
                                simp (disch := omega) only [zg_s, zg_o, zg_j, zg_r, zg_ro, zg_d, yfl_o, ptc_o]
  rw [← fin]
  have e1 : ∀ j, zup mi 1 j (zi 0) = mi := fun j => zup_self (by rw [hz 1 (by omega)]; rfl)
  have e2 : zup (stm mi 3) 1 9 (zi 0) = stm mi 3 := zup_self (by unfold stm; rw [yfl_o (by omega), zup_ne (by omega), hz 1 (by omega)]; rfl)
  have r1 : (zup (ptc (zup (ptc (zup (ptc (zup (ptc (zup (ptc (zup (ptc (zup (ptc (zup (zup (zup (ptc (zup mr 1 0 (some 2)) 3 20) 1 2 (some 3)) 1 3 (some 20)) 1 4 (some 21)) 22 27) 1 5 (some 22)) 27 97) 1 6 (some 27)) 97 102) 1 7 (some 97)) 102 105) 1 8 (some 102)) 105 108) 1 10 (some 105)) 108 111) 1 11 (some 108)) 111 114) 1 12 (some 111)) 1 3 = some 20 := by simp (disch := omega) only [zg_s, zg_o, zg_j, zg_r, zg_ro, zg_d, yfl_o, ptc_o]
  have r2 : (zup (ptc (zup (ptc (zup (ptc (zup (ptc (zup (ptc (zup (ptc (zup (ptc (zup (ptc (zup (zup (zup (ptc (zup mr 1 0 (some 2)) 3 20) 1 2 (some 3)) 1 3 (some 20)) 1 4 (some 21)) 22 27) 1 5 (some 22)) 27 97) 1 6 (some 27)) 97 102) 1 7 (some 97)) 102 105) 1 8 (some 102)) 105 108) 1 10 (some 105)) 108 111) 1 11 (some 108)) 111 114) 1 12 (some 111)) 114 131) 20 0 (some 114)) 1 3 = some 20 := by simp (disch := omega) only [zg_s, zg_o, zg_j, zg_r, zg_ro, zg_d, yfl_o, ptc_o]
  simp (disch := (first | exact tkS_i is_1 (by omega) | exact tkS_i is_114 (by omega) | exact tkS_i is_131 (by omega) | exact zi_atg (tkS_i is_20' (by omega)) (by omega) (by omega) | decide | omega | (first | ((with_reducible refine zct_le ?_) <;> exact Nat.le_of_ble_eq_true rfl) | with_reducible exact zh_0 | with_reducible exact zh_1 | with_reducible exact zh_b | omega))) only [e_78, q_78_0r, q_78_0n, q_78_1, q_78_4r, q_78_4n, q_78_5, q_78_7, q_78_9, q_78_12r, q_78_12n, q_78_13, q_78_14, q_78_17r, q_78_17n, q_78_18, q_78_21r, q_78_21i, q_78_22, q_78_25, q_78_28r, q_78_28n, q_78_29, q_78_30, q_78_33, q_78_36r, q_78_36n, q_78_37, q_78_38, q_78_40, q_78_43r, q_78_43n, q_78_44, q_78_47r, q_78_47i, q_78_48, q_78_51, q_78_54r, q_78_54n, q_78_55, q_78_58r, q_78_58i, q_78_59, q_78_62, q_78_65r, q_78_65n, q_78_66, q_78_69r, q_78_69i, q_78_70, q_78_73, q_78_76r, q_78_76n, q_78_77, q_78_80r, q_78_80i, q_78_81, q_78_84, q_78_87r, q_78_87n, q_78_88, q_78_89, q_78_92r, q_78_92n, q_78_93, q_78_96r, q_78_96i, q_78_97, q_78_100, q_78_103r, q_78_103n, q_78_104, q_78_107r, q_78_107i, q_78_108, q_78_111, q_78_114r, q_78_114n, q_78_115, q_78_118r, q_78_118i, q_78_119, q_78_122, q_78_125, q_78_126, vf_s, vf_n, zk2_none, zk2_int, zk2_ref, zk2_null, zk2_long, zct_nil, zct_i, zct_l, zct_r, zct_n, Option.bind_some, Option.toList_some, Option.toList_none, List.cons_append, List.nil_append, zor_l, zor_r, if_true, if_false, ↓reduceIte, zi_lit, zi_of, zi_add, zi_mul, zi_sub, zi_nat, zi_leT, zi_leF, zi_ltT, zi_ltF, zi_eqT, zi_eqF, zif_0z, zif_bz, zi_01l, zi_01r, not_true_eq_false, not_false_eq_true, Nat.reduceAdd, Nat.reduceMul, Nat.reduceSub, a2, l2, a3, l3, a20, l20, a21, l21, a22, l22, a27, l27, a97, l97, a102, l102, a105, l105, a108, l108, a111, l111, a114, l114, a131, l131, q0, q1, q2, q3, q4, q5, q6, q7, e1, e2]
  rw [q_78_127]
  simp (disch := (first | exact tkS_i is_1 (by omega) | exact tkS_i is_114 (by omega) | exact tkS_i is_131 (by omega) | exact zi_atg (tkS_i is_20' (by omega)) (by omega) (by omega) | decide | omega | (first | ((with_reducible refine zct_le ?_) <;> exact Nat.le_of_ble_eq_true rfl) | with_reducible exact zh_0 | with_reducible exact zh_1 | with_reducible exact zh_b | omega))) only [q_78_128, q_78_129, q_78_132r, q_78_132n, q_78_133, q_78_136, q_78_137, q_78_140r, q_78_140i, q_78_141, q_78_144t7, q_78_144t10, q_78_144t11, q_78_145, q_78_148, q_78_151, vf_s, vf_n, zk2_none, zk2_int, zk2_ref, zk2_null, zk2_long, zct_nil, zct_i, zct_l, zct_r, zct_n, Option.bind_some, Option.toList_some, Option.toList_none, List.cons_append, List.nil_append, zor_l, zor_r, if_true, if_false, ↓reduceIte, zi_lit, zi_of, zi_add, zi_mul, zi_sub, zi_nat, zi_leT, zi_leF, zi_ltT, zi_ltF, zi_eqT, zi_eqF, zif_0z, zif_bz, zi_01l, zi_01r, not_true_eq_false, not_false_eq_true, Nat.reduceAdd, Nat.reduceMul, Nat.reduceSub, a2, l2, a3, l3, a20, l20, a21, l21, a22, l22, a27, l27, a97, l97, a102, l102, a105, l105, a108, l108, a111, l111, a114, l114, a131, l131, q8, r1]
  rw [q_78_127]
  simp (disch := (first | exact tkS_i is_1 (by omega) | exact tkS_i is_114 (by omega) | exact tkS_i is_131 (by omega) | exact zi_atg (tkS_i is_20' (by omega)) (by omega) (by omega) | decide | omega | (first | ((with_reducible refine zct_le ?_) <;> exact Nat.le_of_ble_eq_true rfl) | with_reducible exact zh_0 | with_reducible exact zh_1 | with_reducible exact zh_b | omega))) only [q_78_128, q_78_129, q_78_132r, q_78_132n, q_78_133, q_78_136, q_78_137, q_78_140r, q_78_140i, q_78_141, q_78_144t7, q_78_144t10, q_78_144t11, q_78_145, q_78_148, q_78_151, vf_s, vf_n, zk2_none, zk2_int, zk2_ref, zk2_null, zk2_long, zct_nil, zct_i, zct_l, zct_r, zct_n, Option.bind_some, Option.toList_some, Option.toList_none, List.cons_append, List.nil_append, zor_l, zor_r, if_true, if_false, ↓reduceIte, zi_lit, zi_of, zi_add, zi_mul, zi_sub, zi_nat, zi_leT, zi_leF, zi_ltT, zi_ltF, zi_eqT, zi_eqF, zif_0z, zif_bz, zi_01l, zi_01r, not_true_eq_false, not_false_eq_true, Nat.reduceAdd, Nat.reduceMul, Nat.reduceSub, a2, l2, a3, l3, a20, l20, a21, l21, a22, l22, a27, l27, a97, l97, a102, l102, a105, l105, a108, l108, a111, l111, a114, l114, a131, l131, q9, r2]
  rw [q_78_127]
  simp (disch := (first | exact tkS_i is_1 (by omega) | exact tkS_i is_114 (by omega) | exact tkS_i is_131 (by omega) | exact zi_atg (tkS_i is_20' (by omega)) (by omega) (by omega) | decide | omega | (first | ((with_reducible refine zct_le ?_) <;> exact Nat.le_of_ble_eq_true rfl) | with_reducible exact zh_0 | with_reducible exact zh_1 | with_reducible exact zh_b | omega))) only [q_78_128, q_78_129, q_78_132r, q_78_132n, q_78_133, q_78_136, q_78_137, q_78_140r, q_78_140i, q_78_141, q_78_144t7, q_78_144t10, q_78_144t11, q_78_145, q_78_148, q_78_151, vf_s, vf_n, zk2_none, zk2_int, zk2_ref, zk2_null, zk2_long, zct_nil, zct_i, zct_l, zct_r, zct_n, Option.bind_some, Option.toList_some, Option.toList_none, List.cons_append, List.nil_append, zor_l, zor_r, if_true, if_false, ↓reduceIte, zi_lit, zi_of, zi_add, zi_mul, zi_sub, zi_nat, zi_leT, zi_leF, zi_ltT, zi_ltF, zi_eqT, zi_eqF, zif_0z, zif_bz, zi_01l, zi_01r, not_true_eq_false, not_false_eq_true, Nat.reduceAdd, Nat.reduceMul, Nat.reduceSub]
end
