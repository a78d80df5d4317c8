/-! ===== reading (1): the characters, taken one by one ===== -/
def Rd : Type := Nat × List Nat × Nat × Nat × (Nat → Nat) × (Nat → Nat)
def Rd.mk (p : Nat) (W : List Nat) (q n : Nat) (K V : Nat → Nat) : Rd := (p, W, q, n, K, V)
def Rd.p (s : Rd) : Nat := s.1
def Rd.W (s : Rd) : List Nat := s.2.1
def Rd.q (s : Rd) : Nat := s.2.2.1
def Rd.n (s : Rd) : Nat := s.2.2.2.1
def Rd.K (s : Rd) : Nat → Nat := s.2.2.2.2.1
def Rd.V (s : Rd) : Nat → Nat := s.2.2.2.2.2
def Rd.ap (s : Rd) (k : Nat) : Rd := Rd.mk s.p s.W s.q (s.n + 1) (fun i => if i = s.n then k else s.K i) (fun i => if i = s.n then 0 else s.V i)
def Rd.st (s : Rd) (p : Nat) : Rd := Rd.mk p s.W s.q s.n s.K s.V
def Rd.ho (s : Rd) (a p : Nat) : Rd := Rd.mk p (a :: s.W) s.q s.n s.K s.V
def Rd.sv (s : Rd) (v p : Nat) : Rd := Rd.mk p s.W s.q s.n s.K (fun i => if i = s.n - 1 then v else s.V i)
def Rd.op (s : Rd) (q : Nat) : Rd := Rd.mk 2 s.W q s.n s.K s.V
def Rd.wt (s : Rd) (W : List Nat) : Rd := Rd.mk s.p W s.q s.n s.K s.V
def bdg (a : Nat) : Nat := if a = 9 ∨ a = 11 then 2 else if a = 5 ∨ a = 6 ∨ a = 7 then 1 else 0
def cpl (b : Nat) : List Nat → Rd → Rd
  | [], s => s.wt []
  | a :: W, s => if b ≤ bdg a then cpl b W (s.ap a) else s.wt (a :: W)
def tkO (s : Rd) (c : Nat) : Option Rd :=
  if 97 ≤ c ∧ c ≤ 100 then some ((s.ap (1 + (c - 97))).st 6)
  else if 48 ≤ c ∧ c ≤ 57 then some ((s.ap 0).sv ((c - 48) * 100) 3)
  else if c = 40 then some (s.ho 16 0) else if c = 65 then some (s.op 12) else if c = 71 then some (s.op 47) else if c = 76 then some (s.op 46) else if c = 82 then some (s.op 13) else none
def clo (s : Rd) : List Nat → Option Rd
  | [] => none
  | a :: W => if 32 ≤ a then none else if a = 16 then some ((s.wt W).st 6) else some (((s.wt W).ap a).st 6)
def com (s : Rd) : List Nat → Option Rd
  | [] => none
  | a :: W => if a < 32 then none else some ((s.wt ((a - 32) :: W)).st 0)
def tkB (s : Rd) (c : Nat) : Option Rd :=
  if c = 41 then clo (cpl 1 s.W s) (cpl 1 s.W s).W
  else if c = 42 then some ((cpl 2 s.W s).ho 9 1)
  else if c = 43 then some ((cpl 1 s.W s).ho 5 1)
  else if c = 44 then com (cpl 1 s.W s) (cpl 1 s.W s).W
  else if c = 45 then some ((cpl 1 s.W s).ho 6 1)
  else if c = 47 then some ((cpl 2 s.W s).ho 11 1)
  else if c = 94 then (if s.p = 8 then none else some (s.st 7))
  else none
def tkP (s : Rd) (c : Nat) : Option Rd :=
  if c = 50 then some ((s.ap 10).st 8) else if c = 51 then some ((((s.ap 8).ap 10).ap 9).st 8) else if c = 52 then some (((s.ap 10).ap 10).st 8) else none
def tkW (s : Rd) (c : Nat) : Option Rd :=
  if 48 ≤ c ∧ c ≤ 57 then (if s.V (s.n - 1) = 0 ∨ 10000 ≤ s.V (s.n - 1) then none else some (s.sv (s.V (s.n - 1) * 10 + (c - 48) * 100) 3))
  else if c = 46 then some (s.st 4) else tkB s c
def tk (s : Rd) (c : Nat) : Option Rd :=
  if s.p = 0 then (if c = 45 then some (s.ho 7 1) else tkO s c)
  else if s.p = 1 then tkO s c
  else if s.p = 2 then (if c = 40 then some (s.ho s.q 0) else none)
  else if s.p = 3 then tkW s c
  else if s.p = 4 then (if 48 ≤ c ∧ c ≤ 57 then some (s.sv (s.V (s.n - 1) + (c - 48) * 10) 5) else none)
  else if s.p = 5 then (if 48 ≤ c ∧ c ≤ 57 then some (s.sv (s.V (s.n - 1) + (c - 48)) 6) else tkB s c)
  else if s.p = 7 then tkP s c
  else tkB s c
def rdZ (q : Nat) : Rd := Rd.mk 0 [] q 0 (fun _ => 0) (fun _ => 0)
def rdS (q0 : Nat) (P : Nat → Nat) : Nat → Option Rd
  | 0 => some (rdZ q0)
  | i + 1 => (rdS q0 P i).bind fun s => tk s (P i)
def pnd : List Nat → Nat
  | [] => 0
  | a :: W => (if a = 16 then 0 else 1) + pnd W
def bnr : List Nat → Nat
  | [] => 0
  | a :: W => (if a = 5 ∨ a = 6 ∨ a = 9 ∨ a = 11 ∨ a = 14 ∨ a = 15 then 1 else 0) + bnr W
def okA (a : Nat) : Prop := a = 5 ∨ a = 6 ∨ a = 7 ∨ a = 9 ∨ a = 11 ∨ a = 12 ∨ a = 13 ∨ a = 14 ∨ a = 15 ∨ a = 16 ∨ a = 46 ∨ a = 47
def cst (p : Nat) : Nat := if p < 2 then 1 else if p = 2 then 6 else if p = 7 then 7 else if p = 8 then 0 else 2
def beh (p : Nat) : Nat := if p < 3 then 0 else 1
def rdI (c : Nat) (s : Rd) : Prop := s.p ≤ 8 ∧ (∀ a ∈ s.W, okA a) ∧ s.W.length ≤ c ∧ 4 * (s.n + pnd s.W) + cst s.p ≤ 5 * c + 1 ∧ dep s.K s.n = bnr s.W + beh s.p ∧ 2 * bnr s.W + beh s.p ≤ c ∧ wfX s.K s.n ∧ (∀ k, k < s.n → s.V k ≤ 99999) ∧
  (s.p = 3 ∨ s.p = 4 ∨ s.p = 5 → 1 ≤ s.n ∧ (s.p = 5 ∨ s.V (s.n - 1) % 100 = 0) ∧ s.V (s.n - 1) % 10 = 0 ∧ s.V (s.n - 1) ≤ 99990) ∧ (s.p = 2 → s.q = 12 ∨ s.q = 13 ∨ s.q = 46 ∨ s.q = 47)
section
variable {s s' : Rd} {a b c k n v : Nat} {W : List Nat} {K : Nat → Nat}
theorem dep_u (m : Nat) (h : m ≤ n) : dep (fun i => if i = n then k else K i) m = dep K m := by
  induction m with
  | zero => rfl
  | succ m ih =>
    show dep (fun i => if i = n then k else K i) m - opn (if m = n then k else K m) + 1 = dep K m - opn (K m) + 1
    rw [ih (by omega), if_neg (by omega)]
theorem ap_d : dep (s.ap k).K (s.n + 1) = dep s.K s.n - opn k + 1 := by
  show dep (fun i => if i = s.n then k else s.K i) s.n - opn (if s.n = s.n then k else s.K s.n) + 1 = _
  rw [dep_u s.n (Nat.le_refl _), if_pos rfl]
theorem ap_w (hw : wfX s.K s.n) (hk : k < 16) (ho : opn k ≤ dep s.K s.n) (hd : dep s.K s.n - opn k < 28) (h8 : k = 8 → 1 ≤ dep s.K s.n) : wfX (s.ap k).K (s.n + 1) := by
  intro i hi
  show (if i = s.n then k else s.K i) < 16 ∧ opn (if i = s.n then k else s.K i) ≤ dep (fun i => if i = s.n then k else s.K i) i ∧ dep (fun i => if i = s.n then k else s.K i) i - opn (if i = s.n then k else s.K i) < 28 ∧ ((if i = s.n then k else s.K i) = 8 → 1 ≤ dep (fun i => if i = s.n then k else s.K i) i)
  rw [dep_u i (by omega)]
  by_cases c : i = s.n
  · subst c; rw [if_pos rfl]; exact ⟨hk, ho, hd, h8⟩
  · rw [if_neg c]; exact hw i (by omega)
theorem ap_v (hv : ∀ k, k < s.n → s.V k ≤ 99999) : ∀ i, i < s.n + 1 → (s.ap k).V i ≤ 99999 := by
  intro i hi
  show (if i = s.n then 0 else s.V i) ≤ _
  by_cases c : i = s.n
  · rw [if_pos c]; omega
  · rw [if_neg c]; exact hv i (by omega)
theorem bdg_k (h : 1 ≤ bdg a) : a = 5 ∨ a = 6 ∨ a = 7 ∨ a = 9 ∨ a = 11 := by
  unfold bdg at h
  split at h
  · omega
  · split at h <;> omega
theorem opn_k (h : a = 5 ∨ a = 6 ∨ a = 7 ∨ a = 9 ∨ a = 11) : a < 16 ∧ ¬ a = 8 ∧ ¬ a = 16 ∧ ((a = 7 ∧ opn a = 1) ∨ (¬ a = 7 ∧ opn a = 2 ∧ (a = 5 ∨ a = 6 ∨ a = 9 ∨ a = 11 ∨ a = 14 ∨ a = 15))) := by
  rcases h with rfl | rfl | rfl | rfl | rfl <;> decide
/-- what completing keeps -/
theorem cpl_I (hb : 1 ≤ b) (W : List Nat) : ∀ s : Rd, (∀ a ∈ W, okA a) → bnr W ≤ 26 → dep s.K s.n = bnr W + 1 → wfX s.K s.n → (∀ k, k < s.n → s.V k ≤ 99999) → (∀ a ∈ (cpl b W s).W, okA a) ∧ (cpl b W s).W.length ≤ W.length ∧ (cpl b W s).n + pnd (cpl b W s).W = s.n + pnd W ∧ dep (cpl b W s).K (cpl b W s).n = bnr (cpl b W s).W + 1 ∧ bnr (cpl b W s).W ≤ bnr W ∧ wfX (cpl b W s).K (cpl b W s).n ∧ (∀ k, k < (cpl b W s).n → (cpl b W s).V k ≤ 99999) ∧ (cpl b W s).p = s.p ∧ (cpl b W s).q = s.q := by
  induction W with
  | nil => exact fun s h1 h2 h3 h4 h5 => ⟨fun a ha => absurd ha (List.not_mem_nil), Nat.le_refl _, rfl, h3, Nat.le_refl _, h4, h5, rfl, rfl⟩
  | cons a W ih =>
    intro s h1 h2 h3 h4 h5
    rw [cpl]
    by_cases c : b ≤ bdg a
    · rw [if_pos c]
      have ka := bdg_k (a := a) (by omega)
      obtain ⟨o1, o2, o3, o4⟩ := opn_k ka
      have hbn : bnr (a :: W) = (if a = 5 ∨ a = 6 ∨ a = 9 ∨ a = 11 ∨ a = 14 ∨ a = 15 then 1 else 0) + bnr W := rfl
      have hpn : pnd (a :: W) = (if a = 16 then 0 else 1) + pnd W := rfl
      rw [if_neg o3] at hpn
      have hop : opn a ≤ dep s.K s.n ∧ dep s.K s.n - opn a + 1 = bnr W + 1 ∧ bnr W ≤ bnr (a :: W) := by
        rcases o4 with ⟨q1, q2⟩ | ⟨q1, q2, q3⟩
        · rw [if_neg (by omega)] at hbn
          omega
        · rw [if_pos q3] at hbn
          omega
      obtain ⟨r1, r2, r3, r4, r5, r6, r7, r8, r9⟩ := ih (s.ap a) (fun a ha => h1 a (List.mem_cons_of_mem _ ha)) (by omega) (by show dep (s.ap a).K (s.n + 1) = _; rw [ap_d]; exact hop.2.1) (ap_w h4 o1 hop.1 (by omega) (fun q => absurd q o2)) (ap_v h5)
      refine ⟨r1, by rw [List.length_cons]; omega, ?_, r4, by omega, r6, r7, r8, r9⟩
      have : (s.ap a).n = s.n + 1 := rfl
      omega
    · rw [if_neg c]
      exact ⟨h1, Nat.le_refl _, rfl, h3, Nat.le_refl _, h4, h5, rfl, rfl⟩
theorem cpl_hd (W : List Nat) : ∀ s : Rd, (cpl 1 W s).W = [] ∨ ∃ a U, (cpl 1 W s).W = a :: U ∧ bdg a = 0 := by
  induction W with
  | nil => exact fun s => Or.inl rfl
  | cons a W ih =>
    intro s
    rw [cpl]
    by_cases c : 1 ≤ bdg a
    · rw [if_pos c]; exact ih _
    · rw [if_neg c]; exact Or.inr ⟨a, W, rfl, by omega⟩
theorem okA_0 (h : okA a) (h0 : bdg a = 0) : a = 12 ∨ a = 13 ∨ a = 14 ∨ a = 15 ∨ a = 16 ∨ a = 46 ∨ a = 47 := by
  unfold okA at h
  rcases h with rfl | rfl | rfl | rfl | rfl | h
  all_goals first | exact h | (exact absurd h0 (by decide))
end
