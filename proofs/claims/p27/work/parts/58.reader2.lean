/-! ===== reading (2): what stands after each character ===== -/
section
variable {s s' : Rd} {a b c k n v x p : Nat} {W : List Nat} {K : Nat → Nat}
theorem cst_0 (h : p = 0 ∨ p = 1) : cst p = 1 ∧ beh p = 0 := by rcases h with rfl | rfl <;> decide
theorem cst_b (h : p = 3 ∨ p = 5 ∨ p = 6 ∨ p = 8) : cst p ≤ 2 ∧ beh p = 1 := by rcases h with rfl | rfl | rfl | rfl <;> decide
theorem opn_lo (h : k < 5) : opn k = 0 := by unfold opn; rw [if_pos h]
theorem rdI_Z {q : Nat} : rdI 0 (rdZ q) := ⟨by show 0 ≤ 8; omega, fun a ha => absurd ha (List.not_mem_nil), Nat.le_refl _, by show 4 * (0 + 0) + 1 ≤ 5 * 0 + 1; omega, rfl, Nat.le_refl _, fun i hi => absurd hi (Nat.not_lt_zero i), fun i hi => absurd hi (Nat.not_lt_zero i), fun h => by have h' : (0 : Nat) = 3 ∨ (0 : Nat) = 4 ∨ (0 : Nat) = 5 := h; omega, fun h => by have h' : (0 : Nat) = 2 := h; omega⟩
theorem pc_no {P : Prop} (h : p = 3 ∨ p = 4 ∨ p = 5) (h2 : ¬ p = 3 ∧ ¬ p = 4 ∧ ¬ p = 5) : P := absurd h (by omega)
theorem tkO_I (h : rdI c s) (hc : c < 48) (h0 : s.p = 0 ∨ s.p = 1) (ht : tkO s x = some s') : rdI (c + 1) s' := by
  obtain ⟨hp, hW, hl, hS, hd, h2, hw, hv, h3, hq⟩ := h
  obtain ⟨e1, e2⟩ := cst_0 h0
  rw [e1] at hS
  rw [e2] at hd h2
  have hho : ∀ a, okA a → (a = 16 ∨ ¬ (a = 5 ∨ a = 6 ∨ a = 9 ∨ a = 11 ∨ a = 14 ∨ a = 15)) → a = 16 → rdI (c + 1) (s.ho a 0) := fun a ha _ hb => by
    subst hb
    refine ⟨by show 0 ≤ 8; omega, fun b hb => ?_, by show (16 :: s.W).length ≤ _; rw [List.length_cons]; omega, by show 4 * (s.n + (0 + pnd s.W)) + 1 ≤ _; omega, by show dep s.K s.n = 0 + bnr s.W + 0; omega, by show 2 * (0 + bnr s.W) + 0 ≤ _; omega, hw, hv, fun h => ?_, fun h => ?_⟩
    · rcases List.mem_cons.mp hb with rfl | hb
      · exact ha
      · exact hW b hb
    · have h' : (0 : Nat) = 3 ∨ (0 : Nat) = 4 ∨ (0 : Nat) = 5 := h
      omega
    · have h' : (0 : Nat) = 2 := h
      omega
  have hop : ∀ q, (q = 12 ∨ q = 13 ∨ q = 46 ∨ q = 47) → rdI (c + 1) (s.op q) := fun q hq => ⟨by show 2 ≤ 8; omega, hW, by show s.W.length ≤ _; omega, by show 4 * (s.n + pnd s.W) + 6 ≤ _; omega, hd, by show 2 * bnr s.W + 0 ≤ _; omega, hw, hv, fun h => by have h' : (2 : Nat) = 3 ∨ (2 : Nat) = 4 ∨ (2 : Nat) = 5 := h; omega, fun _ => hq⟩
  unfold tkO at ht
  split at ht
  · rename_i q
    obtain rfl := Option.some.inj ht
    have ho : opn (1 + (x - 97)) = 0 := opn_lo (by omega)
    refine ⟨by show 6 ≤ 8; omega, hW, by show s.W.length ≤ _; omega, by show 4 * (s.n + 1 + pnd s.W) + 2 ≤ _; omega, ?_, by show 2 * bnr s.W + 1 ≤ _; omega, ap_w hw (by omega) (by omega) (by omega) (fun _ => by omega), ap_v hv, fun h => ?_, fun h => ?_⟩
    · show dep (s.ap (1 + (x - 97))).K (s.n + 1) = bnr s.W + 1
      rw [ap_d, ho]; omega
    · have h' : (6 : Nat) = 3 ∨ (6 : Nat) = 4 ∨ (6 : Nat) = 5 := h
      omega
    · have h' : (6 : Nat) = 2 := h
      omega
  · split at ht
    · rename_i q
      obtain rfl := Option.some.inj ht
      have ho : opn 0 = 0 := rfl
      have hV : ((s.ap 0).sv ((x - 48) * 100) 3).V (s.n + 1 - 1) = (x - 48) * 100 := if_pos rfl
      refine ⟨by show 3 ≤ 8; omega, hW, by show s.W.length ≤ _; omega, by show 4 * (s.n + 1 + pnd s.W) + 2 ≤ _; omega, ?_, by show 2 * bnr s.W + 1 ≤ _; omega, ap_w hw (by omega) (by omega) (by omega) (fun _ => by omega), fun i hi => ?_, fun _ => ?_, fun h => ?_⟩
      · show dep (s.ap 0).K (s.n + 1) = bnr s.W + 1
        rw [ap_d, ho]; omega
      · have hi' : i < s.n + 1 := hi
        show (if i = s.n + 1 - 1 then (x - 48) * 100 else (s.ap 0).V i) ≤ 99999
        split
        · omega
        · exact ap_v hv i hi'
      · refine ⟨by show 1 ≤ s.n + 1; omega, Or.inr ?_, ?_, ?_⟩
        · show ((s.ap 0).sv ((x - 48) * 100) 3).V (s.n + 1 - 1) % 100 = 0
          rw [hV]; omega
        · show ((s.ap 0).sv ((x - 48) * 100) 3).V (s.n + 1 - 1) % 10 = 0
          rw [hV]; omega
        · show ((s.ap 0).sv ((x - 48) * 100) 3).V (s.n + 1 - 1) ≤ _
          rw [hV]; omega
      · have h' : (3 : Nat) = 2 := h
        omega
    · split at ht
      · obtain rfl := Option.some.inj ht
        exact hho 16 (by unfold okA; omega) (Or.inl rfl) rfl
      · split at ht
        · obtain rfl := Option.some.inj ht
          exact hop 12 (by omega)
        · split at ht
          · obtain rfl := Option.some.inj ht
            exact hop 47 (by omega)
          · split at ht
            · obtain rfl := Option.some.inj ht
              exact hop 46 (by omega)
            · split at ht
              · obtain rfl := Option.some.inj ht
                exact hop 13 (by omega)
              · exact absurd ht (fun h => by cases h)
theorem tkB_I (h : rdI c s) (hc : c < 48) (h0 : s.p = 3 ∨ s.p = 5 ∨ s.p = 6 ∨ s.p = 8) (ht : tkB s x = some s') : rdI (c + 1) s' := by
  obtain ⟨hp, hW, hl, hS, hd, h2, hw, hv, h3, hq⟩ := h
  obtain ⟨e1, e2⟩ := cst_b h0
  have e3 : s.p = 8 ∨ cst s.p = 2 := by rcases h0 with q | q | q | q <;> rw [q] <;> first | exact Or.inl rfl | exact Or.inr rfl
  rw [e2] at hd h2
  have hh : ∀ b, 1 ≤ b → _ := fun b hb => cpl_I (b := b) hb s.W s hW (by omega) hd hw hv
  have hop : ∀ b a, 1 ≤ b → (a = 9 ∨ a = 11 ∨ a = 5 ∨ a = 6) → rdI (c + 1) ((cpl b s.W s).ho a 1) := fun b a hb ha => by
    obtain ⟨r1, r2, r3, r4, r5, r6, r7, r8, r9⟩ := hh b hb
    have hpn : pnd (a :: (cpl b s.W s).W) = 1 + pnd (cpl b s.W s).W := by rcases ha with rfl | rfl | rfl | rfl <;> rfl
    have hbn : bnr (a :: (cpl b s.W s).W) = 1 + bnr (cpl b s.W s).W := by rcases ha with rfl | rfl | rfl | rfl <;> rfl
    refine ⟨by show 1 ≤ 8; omega, fun b hb => ?_, by show (a :: (cpl b s.W s).W).length ≤ _; rw [List.length_cons]; omega, by show 4 * ((cpl b s.W s).n + pnd (a :: (cpl b s.W s).W)) + 1 ≤ _; rw [hpn]; omega, by show dep (cpl b s.W s).K (cpl b s.W s).n = bnr (a :: (cpl b s.W s).W) + 0; rw [hbn]; omega, by show 2 * bnr (a :: (cpl b s.W s).W) + 0 ≤ _; rw [hbn]; omega, r6, r7, fun h => ?_, fun h => ?_⟩
    · rcases List.mem_cons.mp hb with rfl | hb
      · unfold okA; omega
      · exact r1 b hb
    · have h' : (1 : Nat) = 3 ∨ (1 : Nat) = 4 ∨ (1 : Nat) = 5 := h
      omega
    · have h' : (1 : Nat) = 2 := h
      omega
  unfold tkB at ht
  split at ht
  · obtain ⟨r1, r2, r3, r4, r5, r6, r7, r8, r9⟩ := hh 1 (by omega)
    have hhd := cpl_hd s.W s
    generalize cpl 1 s.W s = t at ht r1 r2 r3 r4 r5 r6 r7 r8 r9 hhd
    rcases hhd with q | ⟨a, U, q, q2⟩
    · rw [q] at ht; exact absurd ht (fun h => by cases h)
    · rw [q] at ht r1 r2 r3 r4 r5
      have oa := okA_0 (r1 a List.mem_cons_self) q2
      have hU : ∀ b ∈ U, okA b := fun b hb => r1 b (List.mem_cons_of_mem _ hb)
      rw [List.length_cons] at r2
      have ht2 : (if 32 ≤ a then none else if a = 16 then some ((t.wt U).st 6) else some (((t.wt U).ap a).st 6)) = some s' := ht
      split at ht2
      · exact absurd ht2 (fun h => by cases h)
      · split at ht2
        · rename_i _ c16
          obtain rfl := Option.some.inj ht2
          subst c16
          have hpn : pnd (16 :: U) = pnd U := Nat.zero_add _
          have hbn : bnr (16 :: U) = bnr U := Nat.zero_add _
          refine ⟨by show 6 ≤ 8; omega, hU, by show U.length ≤ _; omega, by show 4 * (t.n + pnd U) + 2 ≤ _; omega, by show dep t.K t.n = bnr U + 1; omega, by show 2 * bnr U + 1 ≤ _; omega, r6, r7, fun h => ?_, fun h => ?_⟩
          · have h' : (6 : Nat) = 3 ∨ (6 : Nat) = 4 ∨ (6 : Nat) = 5 := h
            omega
          · have h' : (6 : Nat) = 2 := h
            omega
        · rename_i c32 c16
          obtain rfl := Option.some.inj ht2
          have hpn : pnd (a :: U) = 1 + pnd U := by show (if a = 16 then 0 else 1) + pnd U = _; rw [if_neg c16]
          have ho : a < 16 ∧ ¬ a = 8 ∧ ((opn a = 1 ∧ bnr (a :: U) = bnr U) ∨ (opn a = 2 ∧ bnr (a :: U) = 1 + bnr U)) := by
            rcases oa with rfl | rfl | rfl | rfl | rfl | rfl | rfl
            · exact ⟨by omega, by omega, Or.inl ⟨rfl, Nat.zero_add _⟩⟩
            · exact ⟨by omega, by omega, Or.inl ⟨rfl, Nat.zero_add _⟩⟩
            · exact ⟨by omega, by omega, Or.inr ⟨rfl, rfl⟩⟩
            · exact ⟨by omega, by omega, Or.inr ⟨rfl, rfl⟩⟩
            · omega
            · omega
            · omega
          refine ⟨by show 6 ≤ 8; omega, hU, by show U.length ≤ _; omega, by show 4 * (t.n + 1 + pnd U) + 2 ≤ _; omega, ?_, by show 2 * bnr U + 1 ≤ _; omega, ap_w (s := t.wt U) r6 ho.1 (by show opn a ≤ dep t.K t.n; omega) (by show dep t.K t.n - opn a < 28; omega) (fun q => absurd q ho.2.1), ap_v (s := t.wt U) r7, fun h => ?_, fun h => ?_⟩
          · show dep ((t.wt U).ap a).K ((t.wt U).n + 1) = bnr U + 1
            rw [ap_d]
            show dep t.K t.n - opn a + 1 = _
            omega
          · have h' : (6 : Nat) = 3 ∨ (6 : Nat) = 4 ∨ (6 : Nat) = 5 := h
            omega
          · have h' : (6 : Nat) = 2 := h
            omega
  · split at ht
    · obtain rfl := Option.some.inj ht
      exact hop 2 9 (by omega) (by omega)
    · split at ht
      · obtain rfl := Option.some.inj ht
        exact hop 1 5 (by omega) (by omega)
      · split at ht
        · obtain ⟨r1, r2, r3, r4, r5, r6, r7, r8, r9⟩ := hh 1 (by omega)
          have hhd := cpl_hd s.W s
          generalize cpl 1 s.W s = t at ht r1 r2 r3 r4 r5 r6 r7 r8 r9 hhd
          rcases hhd with q | ⟨a, U, q, q2⟩
          · rw [q] at ht; exact absurd ht (fun h => by cases h)
          · rw [q] at ht r1 r2 r3 r4 r5
            have oa := okA_0 (r1 a List.mem_cons_self) q2
            rw [List.length_cons] at r2
            have ht2 : (if a < 32 then none else some ((t.wt ((a - 32) :: U)).st 0)) = some s' := ht
            split at ht2
            · exact absurd ht2 (fun h => by cases h)
            · rename_i c32
              obtain rfl := Option.some.inj ht2
              have hx : (a = 46 ∨ a = 47) := by omega
              have hpn : pnd (a :: U) = 1 + pnd U ∧ pnd ((a - 32) :: U) = 1 + pnd U ∧ bnr (a :: U) = bnr U ∧ bnr ((a - 32) :: U) = 1 + bnr U ∧ okA (a - 32) := by
                rcases hx with rfl | rfl
                · exact ⟨rfl, rfl, Nat.zero_add _, rfl, by unfold okA; omega⟩
                · exact ⟨rfl, rfl, Nat.zero_add _, rfl, by unfold okA; omega⟩
              obtain ⟨p1, p2, p3, p4, p5⟩ := hpn
              refine ⟨by show 0 ≤ 8; omega, fun b hb => ?_, by show ((a - 32) :: U).length ≤ _; rw [List.length_cons]; omega, by show 4 * (t.n + pnd ((a - 32) :: U)) + 1 ≤ _; omega, by show dep t.K t.n = bnr ((a - 32) :: U) + 0; omega, by show 2 * bnr ((a - 32) :: U) + 0 ≤ _; omega, r6, r7, fun h => ?_, fun h => ?_⟩
              · rcases List.mem_cons.mp hb with rfl | hb
                · exact p5
                · exact r1 b (List.mem_cons_of_mem _ hb)
              · have h' : (0 : Nat) = 3 ∨ (0 : Nat) = 4 ∨ (0 : Nat) = 5 := h
                omega
              · have h' : (0 : Nat) = 2 := h
                omega
        · split at ht
          · obtain rfl := Option.some.inj ht
            exact hop 1 6 (by omega) (by omega)
          · split at ht
            · obtain rfl := Option.some.inj ht
              exact hop 2 11 (by omega) (by omega)
            · split at ht
              · split at ht
                · exact absurd ht (fun h => by cases h)
                · rename_i c8
                  obtain rfl := Option.some.inj ht
                  refine ⟨by show 7 ≤ 8; omega, hW, by show s.W.length ≤ _; omega, by show 4 * (s.n + pnd s.W) + 7 ≤ _; omega, hd, by show 2 * bnr s.W + 1 ≤ _; omega, hw, hv, fun h => ?_, fun h => ?_⟩
                  · have h' : (7 : Nat) = 3 ∨ (7 : Nat) = 4 ∨ (7 : Nat) = 5 := h
                    omega
                  · have h' : (7 : Nat) = 2 := h
                    omega
              · exact absurd ht (fun h => by cases h)
theorem sv_I (h : rdI c s) (hc : c < 48) (h0 : s.p = 3 ∨ s.p = 4 ∨ s.p = 5) {p' : Nat} (hp' : p' = 3 ∨ p' = 5 ∨ p' = 6) (hv9 : v ≤ 99999) (hv3 : p' = 3 → v % 100 = 0) (hv5 : p' = 5 → v % 10 = 0) : rdI (c + 1) (s.sv v p') := by
  obtain ⟨hp, hW, hl, hS, hd, h2, hw, hv, h3, hq⟩ := h
  obtain ⟨n1, -⟩ := h3 h0
  have hV : (s.sv v p').V (s.n - 1) = v := if_pos rfl
  have e1 : cst s.p = 2 ∧ beh s.p = 1 := by rcases h0 with q | q | q <;> rw [q] <;> decide
  have e2 : cst p' = 2 ∧ beh p' = 1 := by rcases hp' with q | q | q <;> rw [q] <;> decide
  rw [e1.1] at hS
  rw [e1.2] at hd h2
  refine ⟨by show p' ≤ 8; omega, hW, by show s.W.length ≤ _; omega, by show 4 * (s.n + pnd s.W) + cst p' ≤ _; omega, by show dep s.K s.n = bnr s.W + beh p'; omega, by show 2 * bnr s.W + beh p' ≤ _; omega, hw, fun i hi => ?_, fun h => ?_, fun h => ?_⟩
  · show (if i = s.n - 1 then v else s.V i) ≤ _
    split
    · omega
    · exact hv i hi
  · have h' : p' = 3 ∨ p' = 4 ∨ p' = 5 := h
    refine ⟨n1, ?_, ?_, ?_⟩
    · show p' = 5 ∨ (s.sv v p').V (s.n - 1) % 100 = 0
      rw [hV]; omega
    · show (s.sv v p').V (s.n - 1) % 10 = 0
      rw [hV]; omega
    · show (s.sv v p').V (s.n - 1) ≤ _
      rw [hV]; omega
  · have h' : p' = 2 := h
    omega
theorem tk_I (h : rdI c s) (hc : c < 48) (ht : tk s x = some s') : rdI (c + 1) s' := by
  have hI := h
  obtain ⟨hp, hW, hl, hS, hd, h2, hw, hv, h3, hq⟩ := h
  unfold tk at ht
  split at ht
  · rename_i p0
    split at ht
    · obtain rfl := Option.some.inj ht
      obtain ⟨e1, e2⟩ := cst_0 (Or.inl p0)
      rw [e1] at hS
      rw [e2] at hd h2
      refine ⟨by show 1 ≤ 8; omega, fun b hb => ?_, by show (7 :: s.W).length ≤ _; rw [List.length_cons]; omega, by show 4 * (s.n + (1 + pnd s.W)) + 1 ≤ _; omega, by show dep s.K s.n = 0 + bnr s.W + 0; omega, by show 2 * (0 + bnr s.W) + 0 ≤ _; omega, hw, hv, fun h => ?_, fun h => ?_⟩
      · rcases List.mem_cons.mp hb with rfl | hb
        · unfold okA; omega
        · exact hW b hb
      · have h' : (1 : Nat) = 3 ∨ (1 : Nat) = 4 ∨ (1 : Nat) = 5 := h
        omega
      · have h' : (1 : Nat) = 2 := h
        omega
    · exact tkO_I hI hc (Or.inl p0) ht
  · split at ht
    · rename_i p1
      exact tkO_I hI hc (Or.inr p1) ht
    · split at ht
      · rename_i p2
        split at ht
        · obtain rfl := Option.some.inj ht
          have hq2 := hq p2
          have e1 : cst s.p = 6 ∧ beh s.p = 0 := by rw [p2]; decide
          rw [e1.1] at hS
          rw [e1.2] at hd h2
          have hpn : pnd (s.q :: s.W) = 1 + pnd s.W ∧ bnr (s.q :: s.W) = bnr s.W ∧ okA s.q := by
            rcases hq2 with q | q | q | q <;> rw [q] <;> exact ⟨rfl, Nat.zero_add _, by unfold okA; omega⟩
          obtain ⟨p1, p2, p3⟩ := hpn
          refine ⟨by show 0 ≤ 8; omega, fun b hb => ?_, by show (s.q :: s.W).length ≤ _; rw [List.length_cons]; omega, by show 4 * (s.n + pnd (s.q :: s.W)) + 1 ≤ _; omega, by show dep s.K s.n = bnr (s.q :: s.W) + 0; omega, by show 2 * bnr (s.q :: s.W) + 0 ≤ _; omega, hw, hv, fun h => ?_, fun h => ?_⟩
          · rcases List.mem_cons.mp hb with rfl | hb
            · exact p3
            · exact hW b hb
          · have h' : (0 : Nat) = 3 ∨ (0 : Nat) = 4 ∨ (0 : Nat) = 5 := h
            omega
          · have h' : (0 : Nat) = 2 := h
            omega
        · exact absurd ht (fun h => by cases h)
      · split at ht
        · rename_i p3
          obtain ⟨v1, v2, v3, v4⟩ := h3 (Or.inl p3)
          unfold tkW at ht
          split at ht
          · rename_i d
            split at ht
            · exact absurd ht (fun h => by cases h)
            · rename_i nv
              obtain rfl := Option.some.inj ht
              exact sv_I hI hc (Or.inl p3) (by omega) (by omega) (fun _ => by omega) (fun _ => by omega)
          · split at ht
            · obtain rfl := Option.some.inj ht
              have e1 : cst s.p = 2 ∧ beh s.p = 1 := by rw [p3]; decide
              rw [e1.1] at hS
              rw [e1.2] at hd h2
              exact ⟨by show 4 ≤ 8; omega, hW, by show s.W.length ≤ _; omega, by show 4 * (s.n + pnd s.W) + 2 ≤ _; omega, hd, by show 2 * bnr s.W + 1 ≤ _; omega, hw, hv, fun _ => ⟨v1, Or.inr (by show s.V (s.n - 1) % 100 = 0; omega), v3, v4⟩, fun h => by have h' : (4 : Nat) = 2 := h; omega⟩
            · exact tkB_I hI hc (Or.inl p3) ht
        · split at ht
          · rename_i p4
            obtain ⟨v1, v2, v3, v4⟩ := h3 (Or.inr (Or.inl p4))
            split at ht
            · obtain rfl := Option.some.inj ht
              exact sv_I hI hc (Or.inr (Or.inl p4)) (by omega) (by omega) (fun _ => by omega) (fun _ => by omega)
            · exact absurd ht (fun h => by cases h)
          · split at ht
            · rename_i p5
              obtain ⟨v1, v2, v3, v4⟩ := h3 (Or.inr (Or.inr p5))
              split at ht
              · obtain rfl := Option.some.inj ht
                exact sv_I hI hc (Or.inr (Or.inr p5)) (by omega) (by omega) (fun _ => by omega) (fun _ => by omega)
              · exact tkB_I hI hc (Or.inr (Or.inl p5)) ht
            · split at ht
              · rename_i p7
                have e1 : cst s.p = 7 ∧ beh s.p = 1 := by rw [p7]; decide
                rw [e1.1] at hS
                rw [e1.2] at hd h2
                unfold tkP at ht
                have fin : ∀ t : Rd, t.W = s.W → t.n ≤ s.n + 3 → dep t.K t.n = dep s.K s.n → wfX t.K t.n → (∀ k, k < t.n → t.V k ≤ 99999) → rdI (c + 1) (t.st 8) := fun t t1 t2 t3 t4 t5 => by
                  refine ⟨by show 8 ≤ 8; omega, fun b hb => hW b (by rw [← t1]; exact hb), by show t.W.length ≤ _; rw [t1]; omega, by show 4 * (t.n + pnd t.W) + 0 ≤ _; rw [t1]; omega, by show dep t.K t.n = bnr t.W + 1; rw [t1, t3]; omega, by show 2 * bnr t.W + 1 ≤ _; rw [t1]; omega, t4, t5, fun h => ?_, fun h => ?_⟩
                  · have h' : (8 : Nat) = 3 ∨ (8 : Nat) = 4 ∨ (8 : Nat) = 5 := h
                    omega
                  · have h' : (8 : Nat) = 2 := h
                    omega
                have o10 : opn 10 = 1 := rfl
                have o8 : opn 8 = 0 := rfl
                have o9 : opn 9 = 2 := rfl
                have n1 : ∀ (s : Rd) k, (s.ap k).n = s.n + 1 := fun _ _ => rfl
                have dd : ∀ (s : Rd) k, dep (s.ap k).K (s.ap k).n = dep s.K s.n - opn k + 1 := fun s k => ap_d
                have w10 := ap_w (k := 10) hw (by omega) (by omega) (by omega) (fun q => by omega)
                have v10 := ap_v (k := 10) hv
                have w8 := ap_w (k := 8) hw (by omega) (by omega) (by omega) (fun q => by omega)
                have v8 := ap_v (k := 8) hv
                split at ht
                · obtain rfl := Option.some.inj ht
                  exact fin (s.ap 10) rfl (by rw [n1]; omega) (by rw [dd]; omega) w10 v10
                · split at ht
                  · obtain rfl := Option.some.inj ht
                    have d8 := dd s 8
                    have w810 := ap_w (s := s.ap 8) (k := 10) w8 (by omega) (by omega) (by omega) (fun q => by omega)
                    have d810 := dd (s.ap 8) 10
                    have w8109 := ap_w (s := (s.ap 8).ap 10) (k := 9) w810 (by omega) (by omega) (by omega) (fun q => by omega)
                    exact fin (((s.ap 8).ap 10).ap 9) rfl (by rw [n1, n1, n1]; omega) (by rw [dd]; omega) w8109 (ap_v (s := (s.ap 8).ap 10) (ap_v (s := s.ap 8) v8))
                  · split at ht
                    · obtain rfl := Option.some.inj ht
                      have d10 := dd s 10
                      exact fin ((s.ap 10).ap 10) rfl (by rw [n1, n1]; omega) (by rw [dd]; omega) (ap_w (s := s.ap 10) (k := 10) w10 (by omega) (by omega) (by omega) (fun q => by omega)) (ap_v (s := s.ap 10) v10)
                    · exact absurd ht (fun h => by cases h)
              · exact tkB_I hI hc (by omega) ht
theorem rdS_I {q0 : Nat} {P : Nat → Nat} (i : Nat) : i ≤ 48 → ∀ s, rdS q0 P i = some s → rdI i s := by
  induction i with
  | zero =>
    intro _ s hs
    obtain rfl := Option.some.inj hs
    exact rdI_Z
  | succ i ih =>
    intro hi s hs
    rw [rdS] at hs
    cases hr : rdS q0 P i with
    | none => rw [hr] at hs; exact absurd hs (fun h => by cases h)
    | some t =>
      rw [hr] at hs
      exact tk_I (ih (by omega) t hr) (by omega) hs
end
