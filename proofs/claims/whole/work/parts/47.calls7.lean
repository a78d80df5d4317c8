/-! ===== calls (7): sample, compare ===== -/
section
variable {Ls : Nat} {g : Nat → Nat} {mi mi' : zI} {mj : zJ} {x y z : Int32} {a b e n p q k c m u e' N M : Nat} {v w : Value} {lo hi lo' hi' : Nat → Int32} {NN : Nat → Nat} {KK : Nat → Nat → Nat} {VV : Nat → Nat → Int32} {T : En} {o : Nat} {K : Nat → Nat}
theorem FrD.two {mi1 : zI} {mj : zJ} {p q : Nat} (hp : ¬ (p < 22 ∨ (102 ≤ p ∧ p ≤ 104) ∨ (114 ≤ p ∧ p ≤ 152))) (hq : ¬ (q < 22 ∨ (102 ≤ q ∧ q ≤ 104) ∨ (114 ≤ q ∧ q ≤ 152))) (h : ∀ a, ¬ a = p → ¬ a = q → mi1 a = mi a) : FrD mi mj mi1 mj := ⟨fun a ha => h a (by omega) (by omega), by rw [h 148 (by omega) (by omega)], by rw [h 148 (by omega) (by omega)], rfl⟩
theorem sam (h : INV mi mj g) (hs : stRel mi 3 149 0 lo hi u NN KK VV) (he : e < 4) (hn : 0 < NN e) (y : Int32) :
    ∃ mi1 mj1 g1 o mi2 mj2 mi3 mj3, (∀ l1 l3 l6, ∃ l6', zRun 94 44 [some (.ref 1), l1, some (.int y), l3, some (.ref (8 + 3 * e)), some (.int (zi 0)), l6] [] (SH Ls) mi mj (RF g) = zRun 94 91 [some (.ref 1), l1, some (.int y), l3, some (.ref (8 + 3 * e)), some (.int (zi 4)), l6'] [] (SH Ls) mi1 mj (RF g)) ∧ mi1 (8 + 3 * e) 2 = zi (NN e) ∧ mi1 3 2 = zi u ∧ zCall 45 [.ref 27, .ref (8 + 3 * e), .int (zi (NN e)), .ref 105, .int (zi u)] (SH Ls) mi1 mj (RF g) = some (some (.ref o), SH Ls, mi2, mj1, RF g1) ∧ zFm o ∧ cE mi2 mj1 o T ∧ mi2 149 (9 + e) = zi (NN e) ∧ True := by
  sorry
end
