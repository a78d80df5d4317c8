/-! ===== the script stays as it is ===== -/
theorem zwrite_m0 {c : Nat} {init : Bool} {ins : Instr} {S S' : List Value} {sh sh' : zSh} {mi mi' : zI} {mj mj' : zJ} {mr mr' : zR} (h : zwrite c init ins S sh mi mj mr = some (S', sh', mi', mj', mr')) : mi' 0 = mi 0 := by
  unfold zwrite at h
  (repeat' split at h) <;> first
    | (cases h; rfl)
    | (cases h; refine zup_ne (fun q => ?_); subst q; simp_all; done)
    | (cases h; refine zrw_ne (fun q => ?_); subst q; simp_all; done)
    | (cases h; done)
theorem zstep_m0 {k pc : Nat} {L : zLS} {S : List Value} {sh : zSh} {mi : zI} {mj : zJ} {mr : zR} {pc' : Nat} {L' : zLS} {S' : List Value} {sh' : zSh} {mi' : zI} {mj' : zJ} {mr' : zR}
    (h : zstep k pc L S sh mi mj mr = some (.inl (pc', L', S', sh', mi', mj', mr'))) : mi' 0 = mi 0 := by
  unfold zstep at h
  split at h
  · split at h
    · split at h
      · unfold zins at h
        split at h
        · cases h; rfl
        · split at h
          · split at h
            · cases h; rfl
            · cases h
          · split at h
            · cases h; rfl
            · split at h
              · cases h; rfl
              · split at h
                · rename_i hw
                  cases h
                  exact zwrite_m0 hw
                · split at h
                  · cases h
                  · split at h <;> cases h
      · cases h
    · cases h
  · cases h
theorem zex_m0 : ∀ (n k pc : Nat) (L : zLS) (S : List Value) (sh : zSh) (mi : zI) (mj : zJ) (mr : zR) (r : zRes), zex n k pc L S sh mi mj mr = some r → r.2.2.1 0 = mi 0 := by
  intro n
  induction n with
  | zero => intro k pc L S sh mi mj mr r h; simp [zex] at h
  | succ n ih =>
    intro k pc L S sh mi mj mr r h
    rw [zex] at h
    split at h
    · rename_i hs
      exact (ih _ _ _ _ _ _ _ _ _ h).trans (zstep_m0 hs)
    · cases h; rfl
    · obtain ⟨q, h1, h2⟩ := Option.bind_eq_some_iff.mp h
      exact (ih _ _ _ _ _ _ _ _ _ h2).trans (ih _ _ _ _ _ _ _ _ _ h1)
    · cases h
theorem zCall_m0 {k : Nat} {as : List Value} {sh sh' : zSh} {mi mi' : zI} {mj mj' : zJ} {mr mr' : zR} {v : Option Value} (h : zCall k as sh mi mj mr = some (v, sh', mi', mj', mr')) : mi' 0 = mi 0 := by
  unfold zCall at h
  rcases zRun_spec k 0 (zent (zml k) as) [] sh mi mj mr with ⟨n, r, h1, h2⟩ | ⟨h1, h2⟩
  · rw [h] at h2
    have := Option.some.inj h2
    rw [← this] at h1
    exact zex_m0 _ _ _ _ _ _ _ _ _ _ h1
  · rw [h] at h2; cases h2
/-- the calls of both, from the script -/
theorem cok.m0 {Ls kc km : Nat} {as : List Value} {mi : zI} {mj : zJ} {g : Nat → Nat} (h : cok Ls kc km as mi mj g) : ∃ v mi1 mj1 g1 mi2 mj2, zCall kc (.ref 1 :: as) (SH Ls) mi mj (RF g) = some (some v, SH Ls, mi1, mj1, RF g1) ∧ zCall km (.ref 148 :: as) (SH Ls) mi1 mj1 (RF g1) = some (some v, SH Ls, mi2, mj2, RF g1) ∧ INV mi2 mj2 g1 ∧ ((∃ x, v = .int x) ∨ ∃ u, v = .long u) ∧ mi1 0 = mi 0 ∧ mi2 0 = mi 0 := by
  obtain ⟨v, mi1, mj1, g1, mi2, mj2, h1, h2, h3, h4⟩ := h
  exact ⟨v, mi1, mj1, g1, mi2, mj2, h1, h2, h3, h4, zCall_m0 h1, (zCall_m0 h2).trans (zCall_m0 h1)⟩
theorem cokJ.m0 {Ls kc km : Nat} {as : List Value} {mi : zI} {mj : zJ} {g : Nat → Nat} (h : cokJ Ls kc km as mi mj g) : ∃ v mi1 mj1 g1 mi2 mj2, zCall kc (.ref 1 :: as) (SH Ls) mi mj (RF g) = some (some v, SH Ls, mi1, mj1, RF g1) ∧ zCall km (.ref 148 :: as) (SH Ls) mi1 mj1 (RF g1) = some (some v, SH Ls, mi2, mj2, RF g1) ∧ INV mi2 mj2 g1 ∧ (∃ u, v = .long u) ∧ mi1 0 = mi 0 ∧ mi2 0 = mi 0 := by
  obtain ⟨v, mi1, mj1, g1, mi2, mj2, h1, h2, h3, h4⟩ := h
  exact ⟨v, mi1, mj1, g1, mi2, mj2, h1, h2, h3, h4, zCall_m0 h1, (zCall_m0 h2).trans (zCall_m0 h1)⟩
