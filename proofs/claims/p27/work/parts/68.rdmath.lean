/-! ===== the law's texts: what has been read ===== -/
def opsL (O : List Nat) : Prop := ∀ a ∈ O, 1 ≤ bdg a
/-- within a bracket: an operand is due (phA); behind an operand (phB); no power yet (phC) -/
def phW (base : List Nat) (f tot : Nat) (s : Rd) : Prop := ∃ O, opsL O ∧ s.W = O ++ f :: base ∧ s.n + pnd s.W = tot
def phA (base : List Nat) (f tot : Nat) (s : Rd) : Prop := (s.p = 0 ∨ s.p = 1) ∧ phW base f tot s
def phB (base : List Nat) (f tot : Nat) (s : Rd) : Prop := (s.p = 3 ∨ s.p = 6 ∨ s.p = 8) ∧ phW base f tot s
def phC (base : List Nat) (f tot : Nat) (s : Rd) : Prop := (s.p = 3 ∨ s.p = 6) ∧ phW base f tot s
def phP (base : List Nat) (f tot : Nat) (s : Rd) : Prop := s.p = 7 ∧ phW base f tot s
def sidZ (base : List Nat) (tot : Nat) (s : Rd) : Prop := (s.p = 0 ∨ s.p = 1) ∧ s.W = base ∧ s.n + pnd base = tot
def sidE (base : List Nat) (tot : Nat) (s : Rd) : Prop := s.p = 6 ∧ s.W = base ∧ s.n + pnd base = tot
section
variable {s s' : Rd} {a b c k n f tot : Nat} {base O : List Nat}
theorem bd16 (h : 1 ≤ bdg a) : ¬ a = 16 := fun q => by subst q; exact absurd h (by decide)
theorem pnd_op (h : 1 ≤ bdg a) (W : List Nat) : pnd (a :: W) = 1 + pnd W := by
  show (if a = 16 then 0 else 1) + pnd W = _
  rw [if_neg (bd16 h)]
theorem cpl_ph (hf : bdg f = 0) (hb : 1 ≤ b) (O : List Nat) : ∀ s : Rd, opsL O → ∃ O', opsL O' ∧ (cpl b (O ++ f :: base) s).W = O' ++ f :: base ∧ (cpl b (O ++ f :: base) s).n + pnd (cpl b (O ++ f :: base) s).W = s.n + pnd (O ++ f :: base) ∧ (cpl b (O ++ f :: base) s).p = s.p ∧ (b = 1 → O' = []) := by
  induction O with
  | nil =>
    intro s _
    refine ⟨[], fun a ha => absurd ha List.not_mem_nil, ?_⟩
    have e : cpl b ([] ++ f :: base) s = s.wt (f :: base) := by
      show (if b ≤ bdg f then cpl b base (s.ap f) else s.wt (f :: base)) = _
      rw [if_neg (by omega)]
    rw [e]
    exact ⟨rfl, rfl, rfl, fun _ => rfl⟩
  | cons a O ih =>
    intro s hO
    have ha : 1 ≤ bdg a := hO a List.mem_cons_self
    have hO2 : opsL O := fun x hx => hO x (List.mem_cons_of_mem _ hx)
    by_cases c : b ≤ bdg a
    · have e : cpl b (a :: O ++ f :: base) s = cpl b (O ++ f :: base) (s.ap a) := by
        show (if b ≤ bdg a then cpl b (O ++ f :: base) (s.ap a) else s.wt (a :: (O ++ f :: base))) = _
        rw [if_pos c]
      obtain ⟨O', o1, o2, o3, o4, o5⟩ := ih (s.ap a) hO2
      rw [e]
      refine ⟨O', o1, o2, ?_, o4, o5⟩
      rw [o3]
      have : (s.ap a).n = s.n + 1 := rfl
      have hp : pnd (a :: O ++ f :: base) = 1 + pnd (O ++ f :: base) := pnd_op ha _
      rw [hp, this]
      omega
    · have e : cpl b (a :: O ++ f :: base) s = s.wt (a :: O ++ f :: base) := by
        show (if b ≤ bdg a then cpl b (O ++ f :: base) (s.ap a) else s.wt (a :: (O ++ f :: base))) = _
        rw [if_neg c]
        rfl
      rw [e]
      exact ⟨a :: O, hO, rfl, rfl, rfl, fun q => by omega⟩
theorem tkO_a (h : phA base f tot s) (h1 : 97 ≤ c) (h2 : c ≤ 100) : ∃ s', tk s c = some s' ∧ phC base f (tot + 1) s' := by
  obtain ⟨hp, O, o1, o2, o3⟩ := h
  refine ⟨(s.ap (1 + (c - 97))).st 6, ?_, Or.inr rfl, O, o1, o2, ?_⟩
  · have e : tkO s c = some ((s.ap (1 + (c - 97))).st 6) := if_pos ⟨h1, h2⟩
    unfold tk
    rcases hp with hp | hp
    · rw [if_pos hp, if_neg (by omega), e]
    · rw [if_neg (by omega), if_pos hp, e]
  · show s.n + 1 + pnd s.W = _
    omega
theorem tkO_d (h : phA base f tot s) (h1 : 48 ≤ c) (h2 : c ≤ 57) : ∃ s', tk s c = some s' ∧ phC base f (tot + 1) s' := by
  obtain ⟨hp, O, o1, o2, o3⟩ := h
  refine ⟨(s.ap 0).sv ((c - 48) * 100) 3, ?_, Or.inl rfl, O, o1, o2, ?_⟩
  · have e : tkO s c = some ((s.ap 0).sv ((c - 48) * 100) 3) := by
      unfold tkO
      rw [if_neg (by omega), if_pos ⟨h1, h2⟩]
    unfold tk
    rcases hp with hp | hp
    · rw [if_pos hp, if_neg (by omega), e]
    · rw [if_neg (by omega), if_pos hp, e]
  · show s.n + 1 + pnd s.W = _
    omega
theorem tk_min (h : phA base f tot s) (h0 : s.p = 0) : ∃ s', tk s 45 = some s' ∧ phA base f (tot + 1) s' := by
  obtain ⟨hp, O, o1, o2, o3⟩ := h
  refine ⟨s.ho 7 1, ?_, Or.inr rfl, 7 :: O, fun x hx => ?_, ?_, ?_⟩
  · unfold tk
    rw [if_pos h0, if_pos rfl]
  · rcases List.mem_cons.mp hx with rfl | hx
    · decide
    · exact o1 x hx
  · show 7 :: s.W = _
    rw [o2]; rfl
  · show s.n + (1 + pnd s.W) = _
    omega
theorem tk_B (h : s.p = 3 ∨ s.p = 6 ∨ s.p = 8) (hc : ¬ (48 ≤ c ∧ c ≤ 57)) (hc2 : ¬ c = 46) : tk s c = tkB s c := by
  unfold tk
  rcases h with h | h | h
  · rw [if_neg (by omega), if_neg (by omega), if_neg (by omega), if_pos h]
    unfold tkW
    rw [if_neg hc, if_neg hc2]
  · rw [if_neg (by omega), if_neg (by omega), if_neg (by omega), if_neg (by omega), if_neg (by omega), if_neg (by omega), if_neg (by omega)]
  · rw [if_neg (by omega), if_neg (by omega), if_neg (by omega), if_neg (by omega), if_neg (by omega), if_neg (by omega), if_neg (by omega)]
theorem tk_hat (h : phC base f tot s) : ∃ s', tk s 94 = some s' ∧ phP base f tot s' := by
  obtain ⟨hp, hw⟩ := h
  refine ⟨s.st 7, ?_, rfl, hw⟩
  rw [tk_B (by omega) (by omega) (by omega)]
  unfold tkB
  rw [if_neg (by omega), if_neg (by omega), if_neg (by omega), if_neg (by omega), if_neg (by omega), if_neg (by omega), if_pos rfl, if_neg (by omega)]
theorem tk_pow (h : phP base f tot s) (hk : k < 3) : ∃ s', tk s (50 + k) = some s' ∧ phB base f (tot + (if k = 0 then 1 else if k = 1 then 3 else 2)) s' := by
  obtain ⟨hp, O, o1, o2, o3⟩ := h
  have e : tk s (50 + k) = tkP s (50 + k) := by
    unfold tk
    rw [if_neg (by omega), if_neg (by omega), if_neg (by omega), if_neg (by omega), if_neg (by omega), if_neg (by omega), if_pos hp]
  rw [e]
  unfold tkP
  rcases (show k = 0 ∨ k = 1 ∨ k = 2 by omega) with rfl | rfl | rfl
  · refine ⟨(s.ap 10).st 8, rfl, Or.inr (Or.inr rfl), O, o1, o2, ?_⟩
    show s.n + 1 + pnd s.W = tot + 1
    omega
  · refine ⟨(((s.ap 8).ap 10).ap 9).st 8, rfl, Or.inr (Or.inr rfl), O, o1, o2, ?_⟩
    show s.n + 1 + 1 + 1 + pnd s.W = tot + 3
    omega
  · refine ⟨((s.ap 10).ap 10).st 8, rfl, Or.inr (Or.inr rfl), O, o1, o2, ?_⟩
    show s.n + 1 + 1 + pnd s.W = tot + 2
    omega
theorem tk_op (hf : bdg f = 0) (h : phB base f tot s) (hc : c = 42 ∨ c = 43 ∨ c = 45) : ∃ s', tk s c = some s' ∧ phA base f (tot + 1) s' := by
  obtain ⟨hp, O, o1, o2, o3⟩ := h
  have fin : ∀ b a, 1 ≤ b → 1 ≤ bdg a → phA base f (tot + 1) ((cpl b s.W s).ho a 1) := by
    intro b a hb ha
    obtain ⟨O', q1, q2, q3, q4, -⟩ := cpl_ph (base := base) hf hb O s o1
    rw [← o2] at q2 q3 q4
    refine ⟨Or.inr rfl, a :: O', fun x hx => ?_, ?_, ?_⟩
    · rcases List.mem_cons.mp hx with rfl | hx
      · exact ha
      · exact q1 x hx
    · show a :: (cpl b s.W s).W = _
      rw [q2]; rfl
    · show (cpl b s.W s).n + pnd (a :: (cpl b s.W s).W) = _
      rw [pnd_op ha]
      omega
  rw [tk_B hp (by omega) (by omega)]
  unfold tkB
  rcases hc with rfl | rfl | rfl
  · exact ⟨(cpl 2 s.W s).ho 9 1, rfl, fin 2 9 (by omega) (by decide)⟩
  · exact ⟨(cpl 1 s.W s).ho 5 1, rfl, fin 1 5 (by omega) (by decide)⟩
  · exact ⟨(cpl 1 s.W s).ho 6 1, rfl, fin 1 6 (by omega) (by decide)⟩
theorem tk_clo (hf : f = 16 ∨ f = 12 ∨ f = 13) (h : phB base f tot s) : ∃ s', tk s 41 = some s' ∧ sidE base tot s' := by
  obtain ⟨hp, O, o1, o2, o3⟩ := h
  have hf0 : bdg f = 0 := by rcases hf with rfl | rfl | rfl <;> decide
  obtain ⟨O', q1, q2, q3, q4, q5⟩ := cpl_ph (base := base) hf0 (Nat.le_refl 1) O s o1
  rw [← o2] at q2 q3 q4
  rw [q5 rfl] at q2
  have q2 : (cpl 1 s.W s).W = f :: base := q2
  rw [tk_B hp (by omega) (by omega)]
  have e : tkB s 41 = clo (cpl 1 s.W s) (cpl 1 s.W s).W := rfl
  rw [e, q2]
  rw [q2] at q3
  have hp2 : pnd (f :: base) = (if f = 16 then 0 else 1) + pnd base := rfl
  rw [hp2] at q3
  show ∃ s', (if 32 ≤ f then none else if f = 16 then some (((cpl 1 s.W s).wt base).st 6) else some ((((cpl 1 s.W s).wt base).ap f).st 6)) = some s' ∧ _
  rcases hf with rfl | rfl | rfl
  · refine ⟨_, rfl, rfl, rfl, ?_⟩
    show (cpl 1 s.W s).n + pnd base = tot
    rw [if_pos rfl] at q3
    omega
  · refine ⟨_, rfl, rfl, rfl, ?_⟩
    show (cpl 1 s.W s).n + 1 + pnd base = tot
    rw [if_neg (by omega)] at q3
    omega
  · refine ⟨_, rfl, rfl, rfl, ?_⟩
    show (cpl 1 s.W s).n + 1 + pnd base = tot
    rw [if_neg (by omega)] at q3
    omega
theorem tk_bra (h : sidZ base tot s) : ∃ s', tk s 40 = some s' ∧ phA base 16 tot s' ∧ s'.p = 0 := by
  obtain ⟨hp, hw, ht⟩ := h
  have e : tkO s 40 = some (s.ho 16 0) := rfl
  refine ⟨s.ho 16 0, ?_, ⟨Or.inl rfl, [], fun a ha => absurd ha List.not_mem_nil, ?_, ?_⟩, rfl⟩
  · unfold tk
    rcases hp with hp | hp
    · rw [if_pos hp, if_neg (by omega), e]
    · rw [if_neg (by omega), if_pos hp, e]
  · show 16 :: s.W = _
    rw [hw]; rfl
  · show s.n + (0 + pnd s.W) = _
    rw [hw]; omega
theorem tk_fun (h : sidZ base tot s) (hc : (c = 65 ∧ f = 12) ∨ (c = 82 ∧ f = 13)) : ∃ s' s'', tk s c = some s' ∧ tk s' 40 = some s'' ∧ phA base f (tot + 1) s'' ∧ s''.p = 0 := by
  obtain ⟨hp, hw, ht⟩ := h
  have e : tkO s c = some (s.op f) := by rcases hc with ⟨rfl, rfl⟩ | ⟨rfl, rfl⟩ <;> rfl
  have hf : ¬ f = 16 := by omega
  refine ⟨s.op f, (s.op f).ho f 0, ?_, rfl, ⟨Or.inl rfl, [], fun a ha => absurd ha List.not_mem_nil, ?_, ?_⟩, rfl⟩
  · unfold tk
    rcases hp with hp | hp
    · rw [if_pos hp, if_neg (by omega), e]
    · rw [if_neg (by omega), if_pos hp, e]
  · show f :: s.W = _
    rw [hw]; rfl
  · show s.n + ((if f = 16 then 0 else 1) + pnd s.W) = _
    rw [hw, if_neg hf]; omega
/-- the operation between the two sides -/
theorem tk_mid (hc : c = 42 ∨ c = 43 ∨ c = 45 ∨ c = 47) : ∃ a, 1 ≤ bdg a ∧ ∀ s, sidE [] tot s → ∃ s', tk s c = some s' ∧ sidZ [a] (tot + 1) s' := by
  have fin : ∀ b a, 1 ≤ bdg a → ∀ s, sidE [] tot s → sidZ [a] (tot + 1) ((cpl b s.W s).ho a 1) := by
    intro b a ha s h
    obtain ⟨hp, hw, ht⟩ := h
    have e : cpl b s.W s = s.wt [] := by rw [hw]; rfl
    rw [e]
    refine ⟨Or.inr rfl, rfl, ?_⟩
    show s.n + pnd [a] = _
    rw [pnd_op ha]
    have : pnd [] = 0 := rfl
    omega
  have e : ∀ s, sidE [] tot s → tk s c = tkB s c := fun s h => tk_B (by have := h.1; omega) (by omega) (by omega)
  rcases hc with rfl | rfl | rfl | rfl
  · exact ⟨9, by decide, fun s h => ⟨_, (e s h).trans rfl, fin 2 9 (by decide) s h⟩⟩
  · exact ⟨5, by decide, fun s h => ⟨_, (e s h).trans rfl, fin 1 5 (by decide) s h⟩⟩
  · exact ⟨6, by decide, fun s h => ⟨_, (e s h).trans rfl, fin 1 6 (by decide) s h⟩⟩
  · exact ⟨11, by decide, fun s h => ⟨_, (e s h).trans rfl, fin 2 11 (by decide) s h⟩⟩
theorem fin_rd (h : sidE [a] tot s) (ha : 1 ≤ bdg a) : ¬ rdB s ∧ (cpl 1 s.W s).W = [] ∧ (cpl 1 s.W s).n = tot := by
  obtain ⟨hp, hw, ht⟩ := h
  have e : cpl 1 s.W s = (s.ap a).wt [] := by
    rw [hw]
    show (if 1 ≤ bdg a then cpl 1 [] (s.ap a) else s.wt [a]) = _
    rw [if_pos ha]
    rfl
  refine ⟨?_, by rw [e]; rfl, ?_⟩
  · unfold rdB; omega
  · rw [e]
    show s.n + 1 = tot
    rw [pnd_op ha] at ht
    have : pnd [] = 0 := rfl
    omega
end
