/-! ===== the machine of the class (2): names, steps ===== -/
/-- what a step leaves alone: all but the forms, and the depth -/
def FrM (mi : zI) (mj : zJ) (mi' : zI) (mj' : zJ) : Prop := (∀ a, a < 27 ∨ 96 < a → mi' a = mi a) ∧ (∀ j, ¬ j = 3 → mi' 27 j = mi 27 j) ∧ (∀ a, a < 29 ∨ 96 < a → mj' a = mj a)
theorem FrM.rf {mi : zI} {mj : zJ} : FrM mi mj mi mj := ⟨fun _ _ => rfl, fun _ _ => rfl, fun _ _ => rfl⟩
theorem FrM.tr {mi mi1 mi2 : zI} {mj mj1 mj2 : zJ} (h : FrM mi mj mi1 mj1) (h2 : FrM mi1 mj1 mi2 mj2) : FrM mi mj mi2 mj2 :=
  ⟨fun a ha => (h2.1 a ha).trans (h.1 a ha), fun j hj => (h2.2.1 j hj).trans (h.2.1 j hj), fun a ha => (h2.2.2 a ha).trans (h.2.2 a ha)⟩
section
variable {Ls : Nat} {g : Nat → Nat} {mi : zI} {mj : zJ} {x y z : Int32} {o p q k n d s b u : Nat} {v w : Int64} {e e1 e2 : En} {E : Nat → En} {Z : Option zRes}
theorem l_52a (hg : gOk g) (hS : cS mi mj g d E) (hd : mi 27 3 = zi d) (h2 : d ≤ 32) (hu : mi 27 4 = zi u) (hu1 : 1 ≤ u) (hu8 : u ≤ 8)
    (hZ : ∀ l6, zRun 52 56 [some (.ref 27), some (.ref o), some (.int (zi (chs (fun s => wsm E s d) (u - 1)))), some (.long (wsm E (chs (fun s => wsm E s d) (u - 1)) d)), none, some (.int (zi (4 + u))), l6, none] [] (SH Ls) mi mj (RF g) = Z)
    (n : Nat) : ∀ k, k + n = u - 1 → ∀ l6, zRun 52 11 [some (.ref 27), some (.ref o), some (.int (zi (chs (fun s => wsm E s d) k))), some (.long (wsm E (chs (fun s => wsm E s d) k) d)), none, some (.int (zi (5 + k))), l6, none] [] (SH Ls) mi mj (RF g) = Z := by
  induction n with
  | zero =>
    intro k hk l6
    obtain rfl : k = u - 1 := by omega
    rw [q_52_11]
    simp (disch := (first | with_reducible exact is_27 | with_reducible exact zi_at is_27 (by omega) (by omega) | ((with_reducible refine zct_le ?_) <;> exact Nat.le_of_ble_eq_true rfl) | with_reducible exact zh_0 | with_reducible exact zh_1 | with_reducible exact zh_b | omega)) only [q_52_13, q_52_14r, q_52_14n, q_52_15, q_52_18, q_52_19, vf_s, vf_n, zk2_none, zk2_int, zk2_ref, zk2_null, zk2_long, zct_nil, zct_i, zct_l, zct_r, zct_n, Option.bind_some, Option.toList_some, Option.toList_none, List.cons_append, List.nil_append, zor_l, zor_r, if_true, if_false, ↓reduceIte, zi_lit, zi_of, zi_add, zi_mul, zi_sub, zi_nat, zi_leT, zi_leF, zi_ltT, zi_ltF, zi_eqT, zi_eqF, zif_0z, zif_bz, zi_01l, zi_01r, not_true_eq_false, not_false_eq_true, Nat.reduceAdd, Nat.reduceMul, Nat.reduceSub, hu]
    rw [show 5 + (u - 1) = 4 + u by omega]
    exact hZ l6
  | succ n ih =>
    intro k hk l6
    rw [q_52_11]
    simp (disch := (first | with_reducible exact is_27 | with_reducible exact zi_at is_27 (by omega) (by omega) | ((with_reducible refine zct_le ?_) <;> exact Nat.le_of_ble_eq_true rfl) | with_reducible exact zh_0 | with_reducible exact zh_1 | with_reducible exact zh_b | omega)) only [q_52_13, q_52_14r, q_52_14n, q_52_15, q_52_18, q_52_19, q_52_22, q_52_24, q_52_26, q_52_29r, q_52_29n, q_52_30, q_52_32, q_52_35, q_52_37, q_52_39, q_52_40, q_52_41, q_52_44, q_52_46, q_52_47, q_52_49, q_52_50, q_52_53, vf_s, vf_n, zk2_none, zk2_int, zk2_ref, zk2_null, zk2_long, zct_nil, zct_i, zct_l, zct_r, zct_n, Option.bind_some, Option.toList_some, Option.toList_none, List.cons_append, List.nil_append, zor_l, zor_r, if_true, if_false, ↓reduceIte, zi_lit, zi_of, zi_add, zi_mul, zi_sub, zi_nat, zi_leT, zi_leF, zi_ltT, zi_ltF, zi_eqT, zi_eqF, zif_0z, zif_bz, zi_01l, zi_01r, not_true_eq_false, not_false_eq_true, Nat.reduceAdd, Nat.reduceMul, Nat.reduceSub, hu, m_53 hg (show 5 + k < 12 by omega) hS hd h2]
    by_cases h : wsm E (5 + k) d < wsm E (chs (fun s => wsm E s d) k) d
    · have e1 : chs (fun s => wsm E s d) (k + 1) = 5 + k := by rw [chs, if_pos h]
      have := ih (k + 1) (by omega) (some (.long (wsm E (5 + k) d)))
      rw [e1] at this
      rw [if_neg (lg_lt_not_le h)]
      exact this
    · have e1 : chs (fun s => wsm E s d) (k + 1) = chs (fun s => wsm E s d) k := by rw [chs, if_neg h]
      have := ih (k + 1) (by omega) (some (.long (wsm E (5 + k) d)))
      rw [e1] at this
      rw [if_pos (by rw [zj_le]; rw [zj_lt] at h; omega)]
      exact this
/-- a form that is written leaves the others -/
theorem cE_wF {F : FF} (ho : zFm o) (hp : zFm p) (h : ¬ p = o) (hE : cE mi mj p e) : cE mi (wF mj o F) p e := by
  obtain ⟨o1, o2, o3⟩ := ho
  obtain ⟨p1, p2, p3⟩ := hp
  have a2 : wF mj o F p = mj p := wF_ro (by omega)
  have a3 : wF mj o F (p + 1) = mj (p + 1) := wF_ro (by omega)
  unfold cE
  rw [a2, cf_congr a2 a3]
  exact hE
theorem l_52b (hg : gOk g) (hs : s < 12) (hd : mi 27 3 = zi d) (h2 : d ≤ 32) (n : Nat) : ∀ i, i + n = d → ∀ mj : zJ, (∀ j, j < d → cE mi mj (g j) (if j < i then cdE (E j) s else E j)) →
    ∃ mj', (∀ l3 l6 l7, zRun 52 59 [some (.ref 27), some (.ref o), some (.int (zi s)), l3, none, some (.int (zi i)), l6, l7] [] (SH Ls) mi mj (RF g) = zRun 52 85 [some (.ref 27), some (.ref o), some (.int (zi s)), l3, none, some (.int (zi d)), l6, l7] [] (SH Ls) mi mj' (RF g)) ∧ cS mi mj' g d (fun j => cdE (E j) s) ∧ (∀ a, a < 29 ∨ 96 < a → mj' a = mj a) := by
  induction n with
  | zero =>
    intro i hi mj hE
    obtain rfl : i = d := by omega
    refine ⟨mj, fun l3 l6 l7 => ?_, fun j hj => ?_, fun _ _ => rfl⟩
    · rw [q_52_59]
      simp (disch := (first | with_reducible exact is_27 | with_reducible exact zi_at is_27 (by omega) (by omega) | ((with_reducible refine zct_le ?_) <;> exact Nat.le_of_ble_eq_true rfl) | with_reducible exact zh_0 | with_reducible exact zh_1 | with_reducible exact zh_b | omega)) only [q_52_61r, q_52_61n, q_52_62, q_52_65, vf_s, vf_n, zk2_none, zk2_int, zk2_ref, zk2_null, zk2_long, zct_nil, zct_i, zct_l, zct_r, zct_n, Option.bind_some, Option.toList_some, Option.toList_none, List.cons_append, List.nil_append, zor_l, zor_r, if_true, if_false, ↓reduceIte, zi_lit, zi_of, zi_add, zi_mul, zi_sub, zi_nat, zi_leT, zi_leF, zi_ltT, zi_ltF, zi_eqT, zi_eqF, zif_0z, zif_bz, zi_01l, zi_01r, not_true_eq_false, not_false_eq_true, Nat.reduceAdd, Nat.reduceMul, Nat.reduceSub, hd]
    · have := hE j hj
      rw [if_pos hj] at this
      exact this
  | succ n ih =>
    intro i hi mj hE
    have hgi := (hg i (by omega)).1
    have hEi := hE i (by omega)
    rw [if_neg (by omega)] at hEi
    obtain ⟨mj', h3, h4, h5⟩ := ih (i + 1) (by omega) (wF mj (g i) (fCd (cf mj (g i)) (wt (E i) s) s)) (by
      intro j hj
      by_cases e : j = i
      · subst e
        rw [if_pos (by omega)]
        exact cE_cd hs hEi (cf_wFc fCan_cd) (wF_5 (by omega)) (wF_5 (by omega)) (wF_5 (by omega))
      · have hgj := (hg j (by omega))
        have := cE_wF (F := fCd (cf mj (g i)) (wt (E i) s) s) hgi hgj.1 (hgj.2.2 i (by omega) e) (hE j hj)
        by_cases h : j < i
        · rw [if_pos h] at this
          rw [if_pos (by omega)]
          exact this
        · rw [if_neg h] at this
          rw [if_neg (by omega)]
          exact this)
    refine ⟨mj', fun l3 l6 l7 => ?_, h4, fun a ha => ?_⟩
    · rw [q_52_59]
      simp (disch := (first | with_reducible exact is_27 | with_reducible exact zi_at is_27 (by omega) (by omega) | with_reducible exact is_28 | with_reducible exact zi_at is_28 (by omega) (by omega) | with_reducible exact (zFm_is hgi) | with_reducible exact zi_at (zFm_is hgi) (by omega) (by omega) | ((with_reducible refine zct_le ?_) <;> exact Nat.le_of_ble_eq_true rfl) | with_reducible exact zh_0 | with_reducible exact zh_1 | with_reducible exact zh_b | omega)) only [q_52_61r, q_52_61n, q_52_62, q_52_65, q_52_68r, q_52_68n, q_52_69, q_52_72, q_52_74t7, q_52_74t10, q_52_74t11, q_52_75, q_52_76, q_52_79, q_52_82, vf_s, vf_n, zk2_none, zk2_int, zk2_ref, zk2_null, zk2_long, zct_nil, zct_i, zct_l, zct_r, zct_n, Option.bind_some, Option.toList_some, Option.toList_none, List.cons_append, List.nil_append, zor_l, zor_r, if_true, if_false, ↓reduceIte, zi_lit, zi_of, zi_add, zi_mul, zi_sub, zi_nat, zi_leT, zi_leF, zi_ltT, zi_ltF, zi_eqT, zi_eqF, zif_0z, zif_bz, zi_01l, zi_01r, not_true_eq_false, not_false_eq_true, Nat.reduceAdd, Nat.reduceMul, Nat.reduceSub, hd, rf_27_0, rf_fo, m_24 hgi hs, wt_cE hEi hs]
      exact h3 l3 l6 l7
    · rw [h5 a ha]
      obtain ⟨o1, o2, o3⟩ := hgi
      exact wF_ro (by omega)
theorem m_52 (hg : gOk g) (hS : cS mi mj g d E) (hd : mi 27 3 = zi d) (h1 : 1 ≤ d) (h2 : d ≤ 32) (hu : mi 27 4 = zi u) (hu1 : 1 ≤ u) (hu8 : u ≤ 8) (hp : ∀ s, s < 12 → (E (d - 1)).1 = zi 0 → 0 ≤ (E (d - 1)).2 13 + zabs ((E (d - 1)).2 (s + 1))) :
    ∃ mj', zCall 52 [.ref 27, .ref (g (d - 1))] (SH Ls) mi mj (RF g) = some (none, SH Ls, mi, mj', RF g) ∧ cS mi mj' g d (nmS E d u) ∧ (∀ a, a < 29 ∨ 96 < a → mj' a = mj a) := by
  have hs : chs (fun s => wsm E s d) (u - 1) < 12 := by have := chs_lt (fun s => wsm E s d) (u - 1); omega
  generalize hs' : chs (fun s => wsm E s d) (u - 1) = s at hs
  have hgd := (hg (d - 1) (by omega)).1
  obtain ⟨mj1, h3, h4, h5⟩ := l_52b (Ls := Ls) (o := g (d - 1)) (E := E) (s := s) hg hs hd h2 d 0 (by omega) mj (fun j hj => by rw [if_neg (by omega)]; exact hS j hj)
  refine ⟨wF mj1 (g (d - 1)) (fNm (cf mj1 (g (d - 1))) s), ?_, ?_, ?_⟩
  · simp (disch := (first | with_reducible exact is_27 | with_reducible exact zi_at is_27 (by omega) (by omega) | with_reducible exact (zFm_is hgd) | with_reducible exact zi_at (zFm_is hgd) (by omega) (by omega) | ((with_reducible refine zct_le ?_) <;> exact Nat.le_of_ble_eq_true rfl) | with_reducible exact zh_0 | with_reducible exact zh_1 | with_reducible exact zh_b | omega)) only [e_52, q_52_0, q_52_1, q_52_2r, q_52_2n, q_52_3, q_52_4, q_52_7, q_52_8, q_52_9, vf_s, vf_n, zk2_none, zk2_int, zk2_ref, zk2_null, zk2_long, zct_nil, zct_i, zct_l, zct_r, zct_n, Option.bind_some, Option.toList_some, Option.toList_none, List.cons_append, List.nil_append, zor_l, zor_r, if_true, if_false, ↓reduceIte, zi_lit, zi_of, zi_add, zi_mul, zi_sub, zi_nat, zi_leT, zi_leF, zi_ltT, zi_ltF, zi_eqT, zi_eqF, zif_0z, zif_bz, zi_01l, zi_01r, not_true_eq_false, not_false_eq_true, Nat.reduceAdd, Nat.reduceMul, Nat.reduceSub, m_53 hg (show 4 < 12 by omega) hS hd h2]
    refine l_52a (o := g (d - 1)) hg hS hd h2 hu hu1 hu8 (fun l6 => ?_) (u - 1) 0 (by omega) none
    rw [hs']
    simp (disch := (first | with_reducible exact is_27 | with_reducible exact zi_at is_27 (by omega) (by omega) | with_reducible exact (zFm_is hgd) | with_reducible exact zi_at (zFm_is hgd) (by omega) (by omega) | ((with_reducible refine zct_le ?_) <;> exact Nat.le_of_ble_eq_true rfl) | with_reducible exact zh_0 | with_reducible exact zh_1 | with_reducible exact zh_b | omega)) only [q_52_56, q_52_57, vf_s, vf_n, zk2_none, zk2_int, zk2_ref, zk2_null, zk2_long, zct_nil, zct_i, zct_l, zct_r, zct_n, Option.bind_some, Option.toList_some, Option.toList_none, List.cons_append, List.nil_append, zor_l, zor_r, if_true, if_false, ↓reduceIte, zi_lit, zi_of, zi_add, zi_mul, zi_sub, zi_nat, zi_leT, zi_leF, zi_ltT, zi_ltF, zi_eqT, zi_eqF, zif_0z, zif_bz, zi_01l, zi_01r, not_true_eq_false, not_false_eq_true, Nat.reduceAdd, Nat.reduceMul, Nat.reduceSub]
    rw [h3]
    simp (disch := (first | with_reducible exact is_27 | with_reducible exact zi_at is_27 (by omega) (by omega) | with_reducible exact (zFm_is hgd) | with_reducible exact zi_at (zFm_is hgd) (by omega) (by omega) | ((with_reducible refine zct_le ?_) <;> exact Nat.le_of_ble_eq_true rfl) | with_reducible exact zh_0 | with_reducible exact zh_1 | with_reducible exact zh_b | omega)) only [q_52_85r, q_52_85n, q_52_86, q_52_87, q_52_90, vf_s, vf_n, zk2_none, zk2_int, zk2_ref, zk2_null, zk2_long, zct_nil, zct_i, zct_l, zct_r, zct_n, Option.bind_some, Option.toList_some, Option.toList_none, List.cons_append, List.nil_append, zor_l, zor_r, if_true, if_false, ↓reduceIte, zi_lit, zi_of, zi_add, zi_mul, zi_sub, zi_nat, zi_leT, zi_leF, zi_ltT, zi_ltF, zi_eqT, zi_eqF, zif_0z, zif_bz, zi_01l, zi_01r, not_true_eq_false, not_false_eq_true, Nat.reduceAdd, Nat.reduceMul, Nat.reduceSub, m_25 hgd hs]
  · intro i hi
    unfold nmS
    rw [hs']
    have hE := h4 i hi
    by_cases e : i = d - 1
    · subst e
      rw [if_pos rfl]
      refine cE_nm hs hE (fun _ => ?_) (fun hz => ?_) (cf_wFc fCan_nm) (wF_5 (by omega)) (wF_5 (by omega)) (wF_5 (by omega))
      · show fCd _ _ s (s + 1) = 0
        unfold fCd
        rw [fMk_c hs, if_pos rfl]
      · have hz : (E (d - 1)).1 = zi 0 := hz
        show 0 ≤ (E (d - 1)).2 13 + wt (E (d - 1)) s
        unfold wt
        rw [if_pos hz]
        exact hp s hs hz
    · rw [if_neg e]
      exact cE_wF hgd (hg i (by omega)).1 ((hg i (by omega)).2.2 (d - 1) (by omega) e) hE
  · intro a ha
    rw [← h5 a ha]
    obtain ⟨o1, o2, o3⟩ := hgd
    exact wF_ro (by omega)
end
/-! one step -/
abbrev fBig (F : FF) : Prop := zbig (F 0) ∨ zbig (frad F 12) ∨ zbig (F 14) ∨ zbig (F 15)
def fin (e : En) : En := if e.1 = zi 0 ∧ fBig e.2 then (zi 3, e.2) else e
def mkE (lo hi : Nat → Int32) (n : Nat) (v : Int32) (d : Nat) (E : Nat → En) : En :=
  if n = 0 then (zi 0, fNum v) else if n < 5 then (zi 0, fInp (n - 1) (lo (n - 1)) (hi (n - 1))) else if n = 8 then E (d - 1)
  else if opn n = 1 then uop n (E (d - 1)) else bop n (E (d - 2)) (E (d - 1))
def stP (E : Nat → En) (i : Nat) (e : En) : Nat → En := fun j => if j = i then e else E j
def stE (lo hi : Nat → Int32) (u n : Nat) (v : Int32) (d : Nat) (E : Nat → En) : Nat → En :=
  if 9 ≤ n ∧ (fin (mkE lo hi n v d E)).1 = zi 0 ∧ 0 < (fin (mkE lo hi n v d E)).2 13 ∧ 1 ≤ u then nmS (stP E (d - opn n) (fin (mkE lo hi n v d E))) (d - opn n + 1) u
  else stP E (d - opn n) (fin (mkE lo hi n v d E))
theorem cE_same {mi mi' : zI} {mj mj' : zJ} {p : Nat} {e : En} (a1 : mi' p 0 = mi p 0) (a2 : mj' p = mj p) (a3 : mj' (p + 1) = mj (p + 1)) (hE : cE mi mj p e) : cE mi' mj' p e := by
  unfold cE
  rw [a1, a2, cf_congr a2 a3]
  exact hE
theorem opn_le (n : Nat) : opn n ≤ 2 := by
  unfold opn
  repeat' split
  all_goals omega
theorem opn_1 : ∀ n, n < 16 → opn n = 1 → n = 7 ∨ n = 10 ∨ n = 12 ∨ n = 13 := by decide
theorem opn_2' : ∀ n, n < 16 → (n < 5 ∨ n = 8 ∨ opn n = 1) ∨ ((n = 5 ∨ n = 6 ∨ n = 9 ∨ n = 11 ∨ n = 14 ∨ n = 15) ∧ opn n = 2) := by decide
theorem opn_2 (n : Nat) (h : n < 16) (h1 : ¬ n < 5) (h2 : ¬ n = 8) (h3 : ¬ opn n = 1) : (n = 5 ∨ n = 6 ∨ n = 9 ∨ n = 11 ∨ n = 14 ∨ n = 15) ∧ opn n = 2 := by
  rcases opn_2' n h with q | q
  · exact absurd q (by simp [h1, h2, h3])
  · exact q
section
variable {Ls : Nat} {g : Nat → Nat} {mi : zI} {mj : zJ} {x y z : Int32} {o p q k n d s b u : Nat} {v w : Int32} {e e1 e2 : En} {E : Nat → En} {Z : Option zRes} {lo hi : Nat → Int32}
/-- what a step makes, in the spare form -/
theorem pA (hg : gOk g) (hS : cS mi mj g d E) (hd : mi 27 3 = zi d) (hd2 : d ≤ 32) (hn : n < 16) (ho1 : opn n ≤ d) (ho2 : d - opn n < 32) (h8 : n = 8 → 1 ≤ d) (hb : zBx b) (hlo : ∀ k, k < 4 → mi (b + 1) k = lo k) (hhi : ∀ k, k < 4 → mi (b + 2) k = hi k) (hne : ∀ i, i < d → (E i).1 = zi 0 → flow (E i).2 ≤ fhigh (E i).2) :
    ∃ mi1 mj1, zCall 48 [.ref 27, .int (zi n), .int v, .ref b] (SH Ls) mi mj (RF g) = zRun 48 158 [some (.ref 27), some (.int (zi n)), some (.int v), some (.ref b), some (.ref (g 32)), some (.int (zi (opn n)))] [] (SH Ls) mi1 mj1 (RF g) ∧ mi1 (g 32) 0 = (mkE lo hi n v d E).1 ∧ ((mkE lo hi n v d E).1 = zi 0 → cf mj1 (g 32) = (mkE lo hi n v d E).2) ∧ FrO (g 32) mi mj mi1 mj1 := by
  have hG := hg 32 (by omega)
  have hgo := hG.1
  obtain ⟨go1, go2, go3⟩ := id hgo
  have hopn := opn_le n
  have hbo : b + 2 < g 32 ∨ g 32 < b := by
    simp only [zBx, List.mem_cons, List.not_mem_nil, or_false] at hb
    omega
  have hw0 : zup mi (g 32) 0 (zi 0) (g 32) 0 = zi 0 := zg_s
  have hE0 : ∀ i, i < d → cE (zup mi (g 32) 0 (zi 0)) mj (g i) (E i) := fun i hi => by
    refine cE_same ?_ rfl rfl (hS i hi)
    rw [zup_ne ((hg i (by omega)).2.2 32 (by omega) (by omega))]
  have hF0 : ∀ {mi' : zI} {mj' : zJ}, FrO (g 32) (zup mi (g 32) 0 (zi 0)) mj mi' mj' → FrO (g 32) mi mj mi' mj' := fun h => ⟨fun a h1 h2 => (h.1 a h1 h2).trans (zup_ne h1), h.2⟩
  by_cases c0 : n = 0
  · subst c0
    refine ⟨_, wF mj (g 32) (fNum v), ?_, hw0, fun _ => cf_wFc fCan_num, hF0 FrO.w⟩
    simp (disch := (first | with_reducible exact is_27 | with_reducible exact zi_at is_27 (by omega) (by omega) | with_reducible exact (zFm_is hgo) | with_reducible exact zi_at (zFm_is hgo) (by omega) (by omega) | ((with_reducible refine zct_le ?_) <;> exact Nat.le_of_ble_eq_true rfl) | with_reducible exact zh_0 | with_reducible exact zh_1 | with_reducible exact zh_b | omega)) only [e_48, q_48_0r, q_48_0n, q_48_1, q_48_4r, q_48_4n, q_48_6r, q_48_6n, q_48_8, q_48_9, q_48_12, q_48_13, q_48_16, q_48_18r, q_48_18n, q_48_19, q_48_22, q_48_24, q_48_27r, q_48_27n, q_48_28, q_48_31, q_48_33, q_48_34, q_48_36, q_48_39, q_48_40, q_48_41, q_48_44r, q_48_44n, q_48_46, q_48_47, q_48_50, q_48_53, q_48_54, q_48_55, q_48_58r, q_48_58n, q_48_60, q_48_61, q_48_62, q_48_63r, q_48_63n, q_48_64, q_48_67, q_48_68, q_48_69, q_48_70, q_48_71r, q_48_71n, q_48_72, q_48_75, q_48_76, q_48_77, q_48_78, q_48_79, q_48_82, q_48_85, q_48_86, q_48_88, q_48_91r, q_48_91n, q_48_93r, q_48_93n, q_48_94, q_48_97, q_48_100, q_48_103, q_48_105, q_48_106, q_48_109, q_48_110r, q_48_110n, q_48_111, q_48_114r, q_48_114n, q_48_115, q_48_118, q_48_119, q_48_120t7, q_48_120t10, q_48_120t11, q_48_121r, q_48_121n, q_48_123, q_48_126, q_48_129r, q_48_129n, q_48_130, q_48_131r, q_48_131n, q_48_132, q_48_135r, q_48_135n, q_48_136, q_48_139, q_48_140, q_48_141t7, q_48_141t10, q_48_141t11, q_48_142r, q_48_142n, q_48_143, q_48_146r, q_48_146n, q_48_147, q_48_150, q_48_151, q_48_152t7, q_48_152t10, q_48_152t11, q_48_153r, q_48_153n, q_48_155, vf_s, vf_n, zk2_none, zk2_int, zk2_ref, zk2_null, zk2_long, zct_nil, zct_i, zct_l, zct_r, zct_n, Option.bind_some, Option.toList_some, Option.toList_none, List.cons_append, List.nil_append, zor_l, zor_r, if_true, if_false, ↓reduceIte, zi_lit, zi_of, zi_add, zi_mul, zi_sub, zi_nat, zi_leT, zi_leF, zi_ltT, zi_ltF, zi_eqT, zi_eqF, zif_0z, zif_bz, zi_01l, zi_01r, not_true_eq_false, not_false_eq_true, Nat.reduceAdd, Nat.reduceMul, Nat.reduceSub, zg_s, zg_o, zg_j, zg_r, zg_ro, zg_d, yfl_o, rf_sp, m_49, hd, m_27 hgo]
  · by_cases c5 : n < 5
    · obtain ⟨k, rfl⟩ : ∃ k, n = k + 1 := ⟨n - 1, by omega⟩
      have ho : opn (k + 1) = 0 := by unfold opn; rw [if_pos c5]
      have em : mkE lo hi (k + 1) v d E = (zi 0, fInp k (lo k) (hi k)) := by
        unfold mkE
        rw [if_neg (by omega), if_pos c5]
        rfl
      rw [em]
      refine ⟨_, wF mj (g 32) (fInp k (lo k) (hi k)), ?_, hw0, fun _ => cf_wFc fCan_inp, hF0 FrO.w⟩
      simp (disch := (first | with_reducible exact is_27 | with_reducible exact zi_at is_27 (by omega) (by omega) | with_reducible exact (zFm_is hgo) | with_reducible exact zi_at (zFm_is hgo) (by omega) (by omega) | with_reducible exact (zBx_is hb) | with_reducible exact zi_at (zBx_is hb) (by omega) (by omega) | with_reducible exact (zBx_i1 hb) | with_reducible exact zi_at (zBx_i1 hb) (by omega) (by omega) | with_reducible exact (zBx_i2 hb) | with_reducible exact zi_at (zBx_i2 hb) (by omega) (by omega) | ((with_reducible refine zct_le ?_) <;> exact Nat.le_of_ble_eq_true rfl) | with_reducible exact zh_0 | with_reducible exact zh_1 | with_reducible exact zh_b | omega)) only [e_48, q_48_0r, q_48_0n, q_48_1, q_48_4r, q_48_4n, q_48_6r, q_48_6n, q_48_8, q_48_9, q_48_12, q_48_13, q_48_16, q_48_18r, q_48_18n, q_48_19, q_48_22, q_48_24, q_48_27r, q_48_27n, q_48_28, q_48_31, q_48_33, q_48_34, q_48_36, q_48_39, q_48_40, q_48_41, q_48_44r, q_48_44n, q_48_46, q_48_47, q_48_50, q_48_53, q_48_54, q_48_55, q_48_58r, q_48_58n, q_48_60, q_48_61, q_48_62, q_48_63r, q_48_63n, q_48_64, q_48_67, q_48_68, q_48_69, q_48_70, q_48_71r, q_48_71n, q_48_72, q_48_75, q_48_76, q_48_77, q_48_78, q_48_79, q_48_82, q_48_85, q_48_86, q_48_88, q_48_91r, q_48_91n, q_48_93r, q_48_93n, q_48_94, q_48_97, q_48_100, q_48_103, q_48_105, q_48_106, q_48_109, q_48_110r, q_48_110n, q_48_111, q_48_114r, q_48_114n, q_48_115, q_48_118, q_48_119, q_48_120t7, q_48_120t10, q_48_120t11, q_48_121r, q_48_121n, q_48_123, q_48_126, q_48_129r, q_48_129n, q_48_130, q_48_131r, q_48_131n, q_48_132, q_48_135r, q_48_135n, q_48_136, q_48_139, q_48_140, q_48_141t7, q_48_141t10, q_48_141t11, q_48_142r, q_48_142n, q_48_143, q_48_146r, q_48_146n, q_48_147, q_48_150, q_48_151, q_48_152t7, q_48_152t10, q_48_152t11, q_48_153r, q_48_153n, q_48_155, vf_s, vf_n, zk2_none, zk2_int, zk2_ref, zk2_null, zk2_long, zct_nil, zct_i, zct_l, zct_r, zct_n, Option.bind_some, Option.toList_some, Option.toList_none, List.cons_append, List.nil_append, zor_l, zor_r, if_true, if_false, ↓reduceIte, zi_lit, zi_of, zi_add, zi_mul, zi_sub, zi_nat, zi_leT, zi_leF, zi_ltT, zi_ltF, zi_eqT, zi_eqF, zif_0z, zif_bz, zi_01l, zi_01r, not_true_eq_false, not_false_eq_true, Nat.reduceAdd, Nat.reduceMul, Nat.reduceSub, zg_s, zg_o, zg_j, zg_r, zg_ro, zg_d, yfl_o, rf_sp, m_49, hd, zBx_r0 hb, zBx_r1 hb, Nat.add_sub_cancel, hlo, hhi, m_28i hgo, ho]
    · by_cases c8 : n = 8
      · subst c8
        have hd1 := h8 rfl
        have hp := hg (d - 1) (by omega)
        have hpf := hp.1
        have em : mkE lo hi 8 v d E = E (d - 1) := rfl
        have hop8 : opn 8 = 0 := rfl
        rw [hop8] at ho2
        have hpo : ¬ g (d - 1) = g 32 := hp.2.2 32 (by omega) (by omega)
        have hE1 := hE0 (d - 1) (by omega)
        have hd' : zup mi (g 32) 0 (zi 0) 27 3 = zi d := by rw [zg_o (by omega), hd]
        rw [em]
        refine ⟨zup (zup mi (g 32) 0 (zi 0)) (g 32) 0 (E (d - 1)).1, wF mj (g 32) (cf mj (g (d - 1))), ?_, ?_, ?_, ?_⟩
        · simp (disch := (first | with_reducible exact is_27 | with_reducible exact zi_at is_27 (by omega) (by omega) | with_reducible exact (zFm_is hgo) | with_reducible exact zi_at (zFm_is hgo) (by omega) (by omega) | ((with_reducible refine zct_le ?_) <;> exact Nat.le_of_ble_eq_true rfl) | with_reducible exact zh_0 | with_reducible exact zh_1 | with_reducible exact zh_b | omega)) only [e_48, q_48_0r, q_48_0n, q_48_1, q_48_4r, q_48_4n, q_48_6r, q_48_6n, q_48_8, q_48_9, q_48_12, q_48_13, q_48_16, q_48_18r, q_48_18n, q_48_19, q_48_22, q_48_24, q_48_27r, q_48_27n, q_48_28, q_48_31, q_48_33, q_48_34, q_48_36, q_48_39, q_48_40, q_48_41, q_48_44r, q_48_44n, q_48_46, q_48_47, q_48_50, q_48_53, q_48_54, q_48_55, q_48_58r, q_48_58n, q_48_60, q_48_61, q_48_62, q_48_63r, q_48_63n, q_48_64, q_48_67, q_48_68, q_48_69, q_48_70, q_48_71r, q_48_71n, q_48_72, q_48_75, q_48_76, q_48_77, q_48_78, q_48_79, q_48_82, q_48_85, q_48_86, q_48_88, q_48_91r, q_48_91n, q_48_93r, q_48_93n, q_48_94, q_48_97, q_48_100, q_48_103, q_48_105, q_48_106, q_48_109, q_48_110r, q_48_110n, q_48_111, q_48_114r, q_48_114n, q_48_115, q_48_118, q_48_119, q_48_120t7, q_48_120t10, q_48_120t11, q_48_121r, q_48_121n, q_48_123, q_48_126, q_48_129r, q_48_129n, q_48_130, q_48_131r, q_48_131n, q_48_132, q_48_135r, q_48_135n, q_48_136, q_48_139, q_48_140, q_48_141t7, q_48_141t10, q_48_141t11, q_48_142r, q_48_142n, q_48_143, q_48_146r, q_48_146n, q_48_147, q_48_150, q_48_151, q_48_152t7, q_48_152t10, q_48_152t11, q_48_153r, q_48_153n, q_48_155, vf_s, vf_n, zk2_none, zk2_int, zk2_ref, zk2_null, zk2_long, zct_nil, zct_i, zct_l, zct_r, zct_n, Option.bind_some, Option.toList_some, Option.toList_none, List.cons_append, List.nil_append, zor_l, zor_r, if_true, if_false, ↓reduceIte, zi_lit, zi_of, zi_add, zi_mul, zi_sub, zi_nat, zi_leT, zi_leF, zi_ltT, zi_ltF, zi_eqT, zi_eqF, zif_0z, zif_bz, zi_01l, zi_01r, not_true_eq_false, not_false_eq_true, Nat.reduceAdd, Nat.reduceMul, Nat.reduceSub, rf_sp, m_49, hd', m_47 hd' hd1 hd2, m_29 hgo hpf hpo, hE1.1, hop8]
        · rw [zg_s]
        · intro hz
          rw [cf_wFc fCan_cf, (hE1.2 hz).1]
        · exact ⟨fun a h1 h2 => by rw [zup_ne h1, zup_ne h1], fun a h1 h2 _ _ => wF_ro (by omega)⟩
      · by_cases c1 : opn n = 1
        · have hcase := opn_1 n hn c1
          have hd1 : 1 ≤ d := by omega
          have hp := hg (d - 1) (by omega)
          have hpf := hp.1
          have hd' : zup mi (g 32) 0 (zi 0) 27 3 = zi d := by rw [zg_o (by omega), hd]
          have em : mkE lo hi n v d E = uop n (E (d - 1)) := by unfold mkE; rw [if_neg c0, if_neg c5, if_neg c8, if_pos c1]
          rw [em]
          obtain ⟨mi1, mj1, r1, r2, r3, r4⟩ := m_50 (Ls := Ls) (g := g) hcase hpf hgo (hp.2.2 32 (by omega) (by omega)) (hE0 (d - 1) (by omega)) hw0
          refine ⟨mi1, mj1, ?_, r2, r3, hF0 r4⟩
          simp (disch := (first | with_reducible exact is_27 | with_reducible exact zi_at is_27 (by omega) (by omega) | with_reducible exact is_28 | with_reducible exact zi_at is_28 (by omega) (by omega) | with_reducible exact (zFm_is hgo) | with_reducible exact zi_at (zFm_is hgo) (by omega) (by omega) | ((with_reducible refine zct_le ?_) <;> exact Nat.le_of_ble_eq_true rfl) | with_reducible exact zh_0 | with_reducible exact zh_1 | with_reducible exact zh_b | omega)) only [e_48, q_48_0r, q_48_0n, q_48_1, q_48_4r, q_48_4n, q_48_6r, q_48_6n, q_48_8, q_48_9, q_48_12, q_48_13, q_48_16, q_48_18r, q_48_18n, q_48_19, q_48_22, q_48_24, q_48_27r, q_48_27n, q_48_28, q_48_31, q_48_33, q_48_34, q_48_36, q_48_39, q_48_40, q_48_41, q_48_44r, q_48_44n, q_48_46, q_48_47, q_48_50, q_48_53, q_48_54, q_48_55, q_48_58r, q_48_58n, q_48_60, q_48_61, q_48_62, q_48_63r, q_48_63n, q_48_64, q_48_67, q_48_68, q_48_69, q_48_70, q_48_71r, q_48_71n, q_48_72, q_48_75, q_48_76, q_48_77, q_48_78, q_48_79, q_48_82, q_48_85, q_48_86, q_48_88, q_48_91r, q_48_91n, q_48_93r, q_48_93n, q_48_94, q_48_97, q_48_100, q_48_103, q_48_105, q_48_106, q_48_109, q_48_110r, q_48_110n, q_48_111, q_48_114r, q_48_114n, q_48_115, q_48_118, q_48_119, q_48_120t7, q_48_120t10, q_48_120t11, q_48_121r, q_48_121n, q_48_123, q_48_126, q_48_129r, q_48_129n, q_48_130, q_48_131r, q_48_131n, q_48_132, q_48_135r, q_48_135n, q_48_136, q_48_139, q_48_140, q_48_141t7, q_48_141t10, q_48_141t11, q_48_142r, q_48_142n, q_48_143, q_48_146r, q_48_146n, q_48_147, q_48_150, q_48_151, q_48_152t7, q_48_152t10, q_48_152t11, q_48_153r, q_48_153n, q_48_155, vf_s, vf_n, zk2_none, zk2_int, zk2_ref, zk2_null, zk2_long, zct_nil, zct_i, zct_l, zct_r, zct_n, Option.bind_some, Option.toList_some, Option.toList_none, List.cons_append, List.nil_append, zor_l, zor_r, if_true, if_false, ↓reduceIte, zi_lit, zi_of, zi_add, zi_mul, zi_sub, zi_nat, zi_leT, zi_leF, zi_ltT, zi_ltF, zi_eqT, zi_eqF, zif_0z, zif_bz, zi_01l, zi_01r, not_true_eq_false, not_false_eq_true, Nat.reduceAdd, Nat.reduceMul, Nat.reduceSub, rf_sp, rf_27_0, rf_fo, m_49, hd', c1, r1]
        · obtain ⟨hcase, h2⟩ := opn_2 n hn c5 c8 c1
          have hd1 : 2 ≤ d := by omega
          have hp := hg (d - 1) (by omega)
          have hpf := hp.1
          have hq := hg (d - 2) (by omega)
          have hqf := hq.1
          have hd' : zup mi (g 32) 0 (zi 0) 27 3 = zi d := by rw [zg_o (by omega), hd]
          have em : mkE lo hi n v d E = bop n (E (d - 2)) (E (d - 1)) := by unfold mkE; rw [if_neg c0, if_neg c5, if_neg c8, if_neg c1]
          rw [em]
          obtain ⟨mi1, mj1, r1, r2, r3, r4⟩ := m_51 (Ls := Ls) (g := g) hcase hqf hpf hgo (hq.2.2 32 (by omega) (by omega)) (hp.2.2 32 (by omega) (by omega)) (fun h => hG.2.1 h.symm) hq.2.1 hp.2.1 (hE0 (d - 2) (by omega)) (hE0 (d - 1) (by omega)) hw0 (hne (d - 1) (by omega))
          refine ⟨mi1, mj1, ?_, r2, r3, hF0 r4⟩
          simp (disch := (first | with_reducible exact is_27 | with_reducible exact zi_at is_27 (by omega) (by omega) | with_reducible exact is_28 | with_reducible exact zi_at is_28 (by omega) (by omega) | with_reducible exact (zFm_is hgo) | with_reducible exact zi_at (zFm_is hgo) (by omega) (by omega) | ((with_reducible refine zct_le ?_) <;> exact Nat.le_of_ble_eq_true rfl) | with_reducible exact zh_0 | with_reducible exact zh_1 | with_reducible exact zh_b | omega)) only [e_48, q_48_0r, q_48_0n, q_48_1, q_48_4r, q_48_4n, q_48_6r, q_48_6n, q_48_8, q_48_9, q_48_12, q_48_13, q_48_16, q_48_18r, q_48_18n, q_48_19, q_48_22, q_48_24, q_48_27r, q_48_27n, q_48_28, q_48_31, q_48_33, q_48_34, q_48_36, q_48_39, q_48_40, q_48_41, q_48_44r, q_48_44n, q_48_46, q_48_47, q_48_50, q_48_53, q_48_54, q_48_55, q_48_58r, q_48_58n, q_48_60, q_48_61, q_48_62, q_48_63r, q_48_63n, q_48_64, q_48_67, q_48_68, q_48_69, q_48_70, q_48_71r, q_48_71n, q_48_72, q_48_75, q_48_76, q_48_77, q_48_78, q_48_79, q_48_82, q_48_85, q_48_86, q_48_88, q_48_91r, q_48_91n, q_48_93r, q_48_93n, q_48_94, q_48_97, q_48_100, q_48_103, q_48_105, q_48_106, q_48_109, q_48_110r, q_48_110n, q_48_111, q_48_114r, q_48_114n, q_48_115, q_48_118, q_48_119, q_48_120t7, q_48_120t10, q_48_120t11, q_48_121r, q_48_121n, q_48_123, q_48_126, q_48_129r, q_48_129n, q_48_130, q_48_131r, q_48_131n, q_48_132, q_48_135r, q_48_135n, q_48_136, q_48_139, q_48_140, q_48_141t7, q_48_141t10, q_48_141t11, q_48_142r, q_48_142n, q_48_143, q_48_146r, q_48_146n, q_48_147, q_48_150, q_48_151, q_48_152t7, q_48_152t10, q_48_152t11, q_48_153r, q_48_153n, q_48_155, vf_s, vf_n, zk2_none, zk2_int, zk2_ref, zk2_null, zk2_long, zct_nil, zct_i, zct_l, zct_r, zct_n, Option.bind_some, Option.toList_some, Option.toList_none, List.cons_append, List.nil_append, zor_l, zor_r, if_true, if_false, ↓reduceIte, zi_lit, zi_of, zi_add, zi_mul, zi_sub, zi_nat, zi_leT, zi_leF, zi_ltT, zi_ltF, zi_eqT, zi_eqF, zif_0z, zif_bz, zi_01l, zi_01r, not_true_eq_false, not_false_eq_true, Nat.reduceAdd, Nat.reduceMul, Nat.reduceSub, rf_sp, rf_27_0, rf_fo, m_49, hd', h2, r1]
theorem m_20e (ho : zFm o) (hz : e.1 = zi 0) (h0 : mi o 0 = e.1) (hc : cf mj o = e.2) : ∃ mi' mj', zCall 20 [.ref o] (SH Ls) mi mj (RF g) = some (none, SH Ls, mi', mj', RF g) ∧ cE mi' mj' o (fin e) ∧ mi' o 0 = (fin e).1 ∧ mj' o 2 = e.2 13 ∧ (∀ a, ¬ a = o → mi' a = mi a) ∧ (∀ a, ¬ a = o → mj' a = mj a) := by
  have c0 : mj o 1 = e.2 0 := by rw [← hc]; rfl
  have c13 : mj o 2 = e.2 13 := by rw [← hc]; rfl
  have c14 : mj o 3 = e.2 14 := by rw [← hc]; rfl
  have c15 : mj o 4 = e.2 15 := by rw [← hc]; rfl
  have hm := m_20 (Ls := Ls) (g := g) (mi := mi) (mj := mj) ho
  rw [c0, c14, c15, hc] at hm
  refine ⟨_, _, hm, ?_, ?_, ?_, ?_, ?_⟩
  · by_cases hb : fBig e.2
    · have hf : fin e = (zi 3, e.2) := if_pos ⟨hz, hb⟩
      rw [hf, if_pos hb]
      exact ⟨zg_s, fun h => absurd (show zi 3 = zi 0 from h) (by decide)⟩
    · have hf : fin e = e := if_neg fun h => hb h.2
      rw [hf, if_neg hb]
      refine ⟨h0, fun _ => ⟨by rw [cf_ms, hc], ?_, ?_, ?_⟩⟩
      all_goals simp (disch := omega) only [zg_s, zg_o, zg_j, zg_r, zg_ro, zg_d, yfl_o]
  · by_cases hb : fBig e.2
    · have hf : fin e = (zi 3, e.2) := if_pos ⟨hz, hb⟩
      rw [hf, if_pos hb, zg_s]
    · have hf : fin e = e := if_neg fun h => hb h.2
      rw [hf, if_neg hb, h0]
  · simp (disch := omega) only [zg_s, zg_o, zg_j, zg_r, zg_ro, zg_d, yfl_o]
    exact c13
  · intro a h
    split
    · exact zup_ne h
    · rfl
  · intro a h
    rw [zup_ne h, zup_ne h, zup_ne h]
def gSw (g : Nat → Nat) (i : Nat) : Nat → Nat := fun j => if j = i then g 32 else if j = 32 then g i else g j
theorem gSw_ok (hg : gOk g) {i : Nat} (hi : i < 32) : gOk (gSw g i) := by
  intro j hj
  have key : ∀ j, j ≤ 32 → ∃ a, a ≤ 32 ∧ gSw g i j = g a ∧ a = (if j = i then 32 else if j = 32 then i else j) := fun j hj => by
    refine ⟨_, ?_, ?_, rfl⟩
    · split
      · omega
      · split <;> omega
    · unfold gSw
      split
      · rfl
      · split <;> rfl
  obtain ⟨a, a1, a2, a3⟩ := key j hj
  rw [a2]
  refine ⟨(hg a a1).1, (hg a a1).2.1, fun k hk hne => ?_⟩
  obtain ⟨c, c1, c2, c3⟩ := key k hk
  rw [c2]
  refine (hg a a1).2.2 c c1 ?_
  rw [a3, c3]
  repeat' split
  all_goals omega
theorem pB (hg : gOk g) (hS : cS mi mj g d E) (hd : mi 27 3 = zi d) (hd2 : d ≤ 32) (hu : mi 27 4 = zi u) (hu8 : u ≤ 8) (hn : n < 16) (hk1 : k ≤ d) (hk2 : d - k < 32) (h0 : mi (g 32) 0 = e.1) (hc : e.1 = zi 0 → cf mj (g 32) = e.2)
    (hp : ∀ s, s < 12 → (fin e).1 = zi 0 → 0 ≤ (fin e).2 13 + zabs ((fin e).2 (s + 1))) :
    ∃ mi' mj', zRun 48 158 [some (.ref 27), some (.int (zi n)), some (.int v), some (.ref b), some (.ref (g 32)), some (.int (zi k))] [] (SH Ls) mi mj (RF g) = some (none, SH Ls, mi', mj', RF (gSw g (d - k))) ∧
      cS mi' mj' (gSw g (d - k)) (d - k + 1) (if 9 ≤ n ∧ (fin e).1 = zi 0 ∧ 0 < (fin e).2 13 ∧ 1 ≤ u then nmS (stP E (d - k) (fin e)) (d - k + 1) u else stP E (d - k) (fin e)) ∧ mi' 27 3 = zi (d - k + 1) ∧ FrM mi mj mi' mj' := by
  have hG := hg 32 (by omega)
  have hgo := hG.1
  obtain ⟨go1, go2, go3⟩ := id hgo
  have hg' := gSw_ok hg hk2
  have gt : gSw g (d - k) (d - k) = g 32 := if_pos rfl
  have gl : ∀ i, i < d - k → gSw g (d - k) i = g i := fun i hi => by unfold gSw; rw [if_neg (by omega), if_neg (by omega)]
  have eR : RF (fun i => if i = d - k then g 32 else if i = 32 then g (d - k) else g i) = RF (gSw g (d - k)) := rfl
  have hst : ∀ {mi' : zI} {mj' : zJ}, (∀ a, ¬ a = 27 → ¬ a = g 32 → mi' a = mi a) → (∀ a, ¬ a = g 32 → mj' a = mj a) → cE mi' mj' (g 32) (fin e) → cS mi' mj' (gSw g (d - k)) (d - k + 1) (stP E (d - k) (fin e)) := by
    intro mi' mj' f1 f2 f3 i hi
    unfold stP
    by_cases c : i = d - k
    · subst c
      rw [if_pos rfl, gt]
      exact f3
    · rw [if_neg c, gl i (by omega)]
      have hgi := hg i (by omega)
      obtain ⟨i1, i2, i3⟩ := hgi.1
      have hne := hgi.2.2 32 (by omega) (by omega)
      exact cE_same (by rw [f1 _ (by omega) hne]) (f2 _ hne) (f2 _ (by omega)) (hS i (by omega))
  by_cases hz : e.1 = zi 0
  · obtain ⟨mi1, mj1, r1, r2, r3, r4, r5, r6⟩ := m_20e (Ls := Ls) (g := gSw g (d - k)) (mi := zup mi 27 3 (zi (d - k + 1))) (mj := mj) (e := e) hgo hz (by rw [zg_o (by omega), h0]) (hc hz)
    have hS1 := hst (mi' := mi1) (mj' := mj1) (fun a h1 h2 => by rw [r5 a h2, zup_ne h1]) r6 r2
    have h27 : ∀ j, ¬ j = 3 → mi1 27 j = mi 27 j := fun j hj => by rw [r5 27 (by omega), zg_j (by omega)]
    have hd' : mi1 27 3 = zi (d - k + 1) := by rw [r5 27 (by omega), zg_s]
    have hu' : mi1 27 4 = zi u := by rw [h27 4 (by omega), hu]
    have hF : FrM mi mj mi1 mj1 := ⟨fun a ha => by rw [r5 a (by omega), zup_ne (by omega)], h27, fun a ha => r6 a (by omega)⟩
    have h13 : (fin e).2 = e.2 := by unfold fin; split <;> rfl
    have hzz : zup mi 27 3 (zi (d - k + 1)) (g 32) 0 = zi 0 := by rw [zg_o (by omega), h0, hz]
    have run : zRun 48 158 [some (.ref 27), some (.int (zi n)), some (.int v), some (.ref b), some (.ref (g 32)), some (.int (zi k))] [] (SH Ls) mi mj (RF g) = zRun 48 213 [some (.ref 27), some (.int (zi n)), some (.int v), some (.ref b), some (.ref (g 32)), some (.int (zi k))] [] (SH Ls) mi1 mj1 (RF (gSw g (d - k))) := by
      simp (disch := (first | with_reducible exact is_27 | with_reducible exact zi_at is_27 (by omega) (by omega) | with_reducible exact is_28 | with_reducible exact zi_at is_28 (by omega) (by omega) | with_reducible exact (zFm_is hgo) | with_reducible exact zi_at (zFm_is hgo) (by omega) (by omega) | ((with_reducible refine zct_le ?_) <;> exact Nat.le_of_ble_eq_true rfl) | with_reducible exact zh_0 | with_reducible exact zh_1 | with_reducible exact zh_b | omega)) only [q_48_158r, q_48_158n, q_48_159r, q_48_159n, q_48_160, q_48_163, q_48_165, q_48_166, q_48_167, q_48_168, q_48_171r, q_48_171n, q_48_172r, q_48_172n, q_48_173, q_48_176r, q_48_176n, q_48_177, q_48_180, q_48_181, q_48_182t7, q_48_182t10, q_48_182t11, q_48_183, q_48_186r, q_48_186n, q_48_187, q_48_190r, q_48_190n, q_48_191, q_48_194, q_48_195, q_48_196r, q_48_196n, q_48_198t7, q_48_198t10, q_48_198t11, q_48_199r, q_48_199n, q_48_201, q_48_204, q_48_207, q_48_208r, q_48_208n, q_48_210, vf_s, vf_n, zk2_none, zk2_int, zk2_ref, zk2_null, zk2_long, zct_nil, zct_i, zct_l, zct_r, zct_n, Option.bind_some, Option.toList_some, Option.toList_none, List.cons_append, List.nil_append, zor_l, zor_r, if_true, if_false, ↓reduceIte, zi_lit, zi_of, zi_add, zi_mul, zi_sub, zi_nat, zi_leT, zi_leF, zi_ltT, zi_ltF, zi_eqT, zi_eqF, zif_0z, zif_bz, zi_01l, zi_01r, not_true_eq_false, not_false_eq_true, Nat.reduceAdd, Nat.reduceMul, Nat.reduceSub, rf_27_0, rf_fo, rf_upS, rf_upF, hd, zg_s, hzz, Nat.add_sub_cancel, eR, r1]
    by_cases c9 : 9 ≤ n
    · by_cases cw : (fin e).1 = zi 0
      · rw [cw] at r3
        by_cases cl : 0 < (fin e).2 13
        · rw [h13] at cl
          by_cases cu : 1 ≤ u
          · obtain ⟨mj2, q1, q2, q3⟩ := m_52 (Ls := Ls) hg' hS1 hd' (by omega) (by omega) hu' cu hu8 (by
              intro s hs hz
              rw [Nat.add_sub_cancel] at hz ⊢
              unfold stP at hz ⊢
              rw [if_pos rfl] at hz ⊢
              exact hp s hs hz)
            rw [Nat.add_sub_cancel, gt] at q1
            refine ⟨mi1, mj2, ?_, ?_, hd', hF.tr ⟨fun _ _ => rfl, fun _ _ => rfl, q3⟩⟩
            · rw [run]
              simp (disch := (first | with_reducible exact is_27 | with_reducible exact zi_at is_27 (by omega) (by omega) | with_reducible exact (zFm_is hgo) | with_reducible exact zi_at (zFm_is hgo) (by omega) (by omega) | ((with_reducible refine zct_le ?_) <;> exact Nat.le_of_ble_eq_true rfl) | with_reducible exact zh_0 | with_reducible exact zh_1 | with_reducible exact zh_b | omega)) only [q_48_213, q_48_214, q_48_216, q_48_219r, q_48_219n, q_48_221, q_48_224, q_48_227r, q_48_227n, q_48_229, q_48_232, q_48_233, q_48_234, q_48_237r, q_48_237n, q_48_238, q_48_241, q_48_244r, q_48_244n, q_48_245r, q_48_245n, q_48_247, q_48_250, vf_s, vf_n, zk2_none, zk2_int, zk2_ref, zk2_null, zk2_long, zct_nil, zct_i, zct_l, zct_r, zct_n, Option.bind_some, Option.toList_some, Option.toList_none, List.cons_append, List.nil_append, zor_l, zor_r, if_true, if_false, ↓reduceIte, zi_lit, zi_of, zi_add, zi_mul, zi_sub, zi_nat, zi_leT, zi_leF, zi_ltT, zi_ltF, zi_eqT, zi_eqF, zif_0z, zif_bz, zi_01l, zi_01r, not_true_eq_false, not_false_eq_true, Nat.reduceAdd, Nat.reduceMul, Nat.reduceSub, r3, r4, hu', q1, lg_lt_not_le cl]
            · rw [if_pos ⟨c9, cw, by rw [h13]; exact cl, cu⟩]
              exact q2
          · refine ⟨mi1, mj1, ?_, ?_, hd', hF⟩
            · rw [run]
              simp (disch := (first | with_reducible exact is_27 | with_reducible exact zi_at is_27 (by omega) (by omega) | with_reducible exact (zFm_is hgo) | with_reducible exact zi_at (zFm_is hgo) (by omega) (by omega) | ((with_reducible refine zct_le ?_) <;> exact Nat.le_of_ble_eq_true rfl) | with_reducible exact zh_0 | with_reducible exact zh_1 | with_reducible exact zh_b | omega)) only [q_48_213, q_48_214, q_48_216, q_48_219r, q_48_219n, q_48_221, q_48_224, q_48_227r, q_48_227n, q_48_229, q_48_232, q_48_233, q_48_234, q_48_237r, q_48_237n, q_48_238, q_48_241, q_48_244r, q_48_244n, q_48_245r, q_48_245n, q_48_247, q_48_250, vf_s, vf_n, zk2_none, zk2_int, zk2_ref, zk2_null, zk2_long, zct_nil, zct_i, zct_l, zct_r, zct_n, Option.bind_some, Option.toList_some, Option.toList_none, List.cons_append, List.nil_append, zor_l, zor_r, if_true, if_false, ↓reduceIte, zi_lit, zi_of, zi_add, zi_mul, zi_sub, zi_nat, zi_leT, zi_leF, zi_ltT, zi_ltF, zi_eqT, zi_eqF, zif_0z, zif_bz, zi_01l, zi_01r, not_true_eq_false, not_false_eq_true, Nat.reduceAdd, Nat.reduceMul, Nat.reduceSub, r3, r4, hu', lg_lt_not_le cl]
            · rw [if_neg (fun h => cu h.2.2.2)]
              exact hS1
        · rw [h13] at cl
          have cl' : e.2 13 ≤ 0 := by rw [zj_le]; rw [zj_lt] at cl; omega
          refine ⟨mi1, mj1, ?_, ?_, hd', hF⟩
          · rw [run]
            simp (disch := (first | with_reducible exact is_27 | with_reducible exact zi_at is_27 (by omega) (by omega) | with_reducible exact (zFm_is hgo) | with_reducible exact zi_at (zFm_is hgo) (by omega) (by omega) | ((with_reducible refine zct_le ?_) <;> exact Nat.le_of_ble_eq_true rfl) | with_reducible exact zh_0 | with_reducible exact zh_1 | with_reducible exact zh_b | omega)) only [q_48_213, q_48_214, q_48_216, q_48_219r, q_48_219n, q_48_221, q_48_224, q_48_227r, q_48_227n, q_48_229, q_48_232, q_48_233, q_48_234, q_48_237r, q_48_237n, q_48_238, q_48_241, q_48_244r, q_48_244n, q_48_245r, q_48_245n, q_48_247, q_48_250, vf_s, vf_n, zk2_none, zk2_int, zk2_ref, zk2_null, zk2_long, zct_nil, zct_i, zct_l, zct_r, zct_n, Option.bind_some, Option.toList_some, Option.toList_none, List.cons_append, List.nil_append, zor_l, zor_r, if_true, if_false, ↓reduceIte, zi_lit, zi_of, zi_add, zi_mul, zi_sub, zi_nat, zi_leT, zi_leF, zi_ltT, zi_ltF, zi_eqT, zi_eqF, zif_0z, zif_bz, zi_01l, zi_01r, not_true_eq_false, not_false_eq_true, Nat.reduceAdd, Nat.reduceMul, Nat.reduceSub, r3, r4, cl']
          · rw [if_neg (fun h => cl (by rw [← h13]; exact h.2.2.1))]
            exact hS1
      · have cw' : ¬ mi1 (g 32) 0 = zi 0 := by rw [r3]; exact cw
        refine ⟨mi1, mj1, ?_, ?_, hd', hF⟩
        · rw [run]
          simp (disch := (first | with_reducible exact is_27 | with_reducible exact zi_at is_27 (by omega) (by omega) | with_reducible exact (zFm_is hgo) | with_reducible exact zi_at (zFm_is hgo) (by omega) (by omega) | ((with_reducible refine zct_le ?_) <;> exact Nat.le_of_ble_eq_true rfl) | with_reducible exact zh_0 | with_reducible exact zh_1 | with_reducible exact zh_b | omega)) only [q_48_213, q_48_214, q_48_216, q_48_219r, q_48_219n, q_48_221, q_48_224, q_48_227r, q_48_227n, q_48_229, q_48_232, q_48_233, q_48_234, q_48_237r, q_48_237n, q_48_238, q_48_241, q_48_244r, q_48_244n, q_48_245r, q_48_245n, q_48_247, q_48_250, vf_s, vf_n, zk2_none, zk2_int, zk2_ref, zk2_null, zk2_long, zct_nil, zct_i, zct_l, zct_r, zct_n, Option.bind_some, Option.toList_some, Option.toList_none, List.cons_append, List.nil_append, zor_l, zor_r, if_true, if_false, ↓reduceIte, zi_lit, zi_of, zi_add, zi_mul, zi_sub, zi_nat, zi_leT, zi_leF, zi_ltT, zi_ltF, zi_eqT, zi_eqF, zif_0z, zif_bz, zi_01l, zi_01r, not_true_eq_false, not_false_eq_true, Nat.reduceAdd, Nat.reduceMul, Nat.reduceSub, cw']
        · rw [if_neg (fun h => cw h.2.1)]
          exact hS1
    · refine ⟨mi1, mj1, ?_, ?_, hd', hF⟩
      · rw [run]
        simp (disch := (first | with_reducible exact is_27 | with_reducible exact zi_at is_27 (by omega) (by omega) | with_reducible exact (zFm_is hgo) | with_reducible exact zi_at (zFm_is hgo) (by omega) (by omega) | ((with_reducible refine zct_le ?_) <;> exact Nat.le_of_ble_eq_true rfl) | with_reducible exact zh_0 | with_reducible exact zh_1 | with_reducible exact zh_b | omega)) only [q_48_213, q_48_214, q_48_216, q_48_219r, q_48_219n, q_48_221, q_48_224, q_48_227r, q_48_227n, q_48_229, q_48_232, q_48_233, q_48_234, q_48_237r, q_48_237n, q_48_238, q_48_241, q_48_244r, q_48_244n, q_48_245r, q_48_245n, q_48_247, q_48_250, vf_s, vf_n, zk2_none, zk2_int, zk2_ref, zk2_null, zk2_long, zct_nil, zct_i, zct_l, zct_r, zct_n, Option.bind_some, Option.toList_some, Option.toList_none, List.cons_append, List.nil_append, zor_l, zor_r, if_true, if_false, ↓reduceIte, zi_lit, zi_of, zi_add, zi_mul, zi_sub, zi_nat, zi_leT, zi_leF, zi_ltT, zi_ltF, zi_eqT, zi_eqF, zif_0z, zif_bz, zi_01l, zi_01r, not_true_eq_false, not_false_eq_true, Nat.reduceAdd, Nat.reduceMul, Nat.reduceSub]
      · rw [if_neg (fun h => c9 h.1)]
        exact hS1
  · have hz' : ¬ zup mi 27 3 (zi (d - k + 1)) (g 32) 0 = zi 0 := by rw [zg_o (by omega), h0]; exact hz
    have hf : fin e = e := if_neg fun h => hz h.1
    refine ⟨zup mi 27 3 (zi (d - k + 1)), mj, ?_, ?_, zg_s, ⟨fun a ha => zup_ne (by omega), fun j hj => zg_j (by omega), fun _ _ => rfl⟩⟩
    · simp (disch := (first | with_reducible exact is_27 | with_reducible exact zi_at is_27 (by omega) (by omega) | with_reducible exact is_28 | with_reducible exact zi_at is_28 (by omega) (by omega) | with_reducible exact (zFm_is hgo) | with_reducible exact zi_at (zFm_is hgo) (by omega) (by omega) | ((with_reducible refine zct_le ?_) <;> exact Nat.le_of_ble_eq_true rfl) | with_reducible exact zh_0 | with_reducible exact zh_1 | with_reducible exact zh_b | omega)) only [q_48_158r, q_48_158n, q_48_159r, q_48_159n, q_48_160, q_48_163, q_48_165, q_48_166, q_48_167, q_48_168, q_48_171r, q_48_171n, q_48_172r, q_48_172n, q_48_173, q_48_176r, q_48_176n, q_48_177, q_48_180, q_48_181, q_48_182t7, q_48_182t10, q_48_182t11, q_48_183, q_48_186r, q_48_186n, q_48_187, q_48_190r, q_48_190n, q_48_191, q_48_194, q_48_195, q_48_196r, q_48_196n, q_48_198t7, q_48_198t10, q_48_198t11, q_48_199r, q_48_199n, q_48_201, q_48_204, q_48_207, q_48_208r, q_48_208n, q_48_210, vf_s, vf_n, zk2_none, zk2_int, zk2_ref, zk2_null, zk2_long, zct_nil, zct_i, zct_l, zct_r, zct_n, Option.bind_some, Option.toList_some, Option.toList_none, List.cons_append, List.nil_append, zor_l, zor_r, if_true, if_false, ↓reduceIte, zi_lit, zi_of, zi_add, zi_mul, zi_sub, zi_nat, zi_leT, zi_leF, zi_ltT, zi_ltF, zi_eqT, zi_eqF, zif_0z, zif_bz, zi_01l, zi_01r, not_true_eq_false, not_false_eq_true, Nat.reduceAdd, Nat.reduceMul, Nat.reduceSub, rf_27_0, rf_fo, rf_upS, rf_upF, hd, zg_s, hz', Nat.add_sub_cancel, eR]
    · rw [if_neg (fun h => hz (by rw [← hf]; exact h.2.1))]
      refine hst (fun a h1 _ => zup_ne h1) (fun _ _ => rfl) ?_
      rw [hf]
      exact ⟨by rw [zg_o (by omega), h0], fun h => absurd h hz⟩
end
