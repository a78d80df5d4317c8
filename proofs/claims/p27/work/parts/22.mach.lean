/-! ===== the machine of the class: what a stack of forms is ===== -/
abbrev En : Type := Int32 × FF
def cE (mi : zI) (mj : zJ) (o : Nat) (e : En) : Prop := mi o 0 = e.1 ∧ (e.1 = zi 0 → cf mj o = e.2 ∧ mj o 6 = frad e.2 12 ∧ mj o 7 = flow e.2 ∧ mj o 8 = fhigh e.2)
def fCan (F : FF) : Prop := F = fMk (F 0) (fun j => F (j + 1)) (F 13) (F 14) (F 15)
theorem fCan_mk {c e l u : Int64} {a : Nat → Int64} : fCan (fMk c a e l u) := by
  unfold fCan
  simp only [fMk_0, fMk_13, fMk_14, fMk_15]
  exact fMk_eq fun k hk => (fMk_c hk).symm
theorem fCan_cf {mj : zJ} {o : Nat} : fCan (cf mj o) := fCan_mk
theorem cf_wFc {mj : zJ} {o : Nat} {F : FF} (h : fCan F) : cf (wF mj o F) o = F := by
  rw [h]
  unfold cf
  simp only [wF_1, wF_2, wF_3, wF_4, fMk_0, fMk_13, fMk_14, fMk_15]
  exact fMk_eq fun k hk => by rw [wF_c hk, fMk_c hk]
theorem wF_wF {mj : zJ} {o : Nat} {F G : FF} : wF (wF mj o F) o G = wF mj o G := by
  funext a j
  unfold wF
  by_cases h : a = o
  · subst h
    simp only [if_true]
    (repeat' split) <;> rfl
  · by_cases h2 : a = o + 1
    · subst h2
      simp only [if_neg h, if_true]
      split <;> rfl
    · simp only [if_neg h, if_neg h2]
def fInp (k : Nat) (lo hi : Int32) : FF := fNm (fPl lo.toInt64 hi.toInt64) k
def opn (n : Nat) : Nat := if n < 5 then 0 else if n = 7 then 1 else if n = 8 then 0 else if n = 10 then 1 else if n = 12 then 1 else if n = 13 then 1 else 2
def uop (n : Nat) (e : En) : En := if e.1 = zi 0 then (if n = 7 then (zi 0, fNeg e.2) else if n = 10 then (zi 0, fSq e.2 (frad e.2 12)) else if n = 12 then (zi 0, fAbs e.2 (flow e.2) (fhigh e.2)) else if fhigh e.2 < 0 then (zi 2, e.2) else (zi 0, fRoot (flow e.2) (fhigh e.2))) else e
def fDiv (x y : FF) : FF := fMul x (frad x 12) (fRec (flow y) (fhigh y)) (frad (fRec (flow y) (fhigh y)) 12)
def bop (n : Nat) (a b : En) : En := if a.1 = zi 0 then (if b.1 = zi 0 then
    (if n = 5 then (zi 0, fAdd a.2 b.2) else if n = 6 then (zi 0, fSub a.2 b.2) else if n = 9 then (zi 0, fMul a.2 (frad a.2 12) b.2 (frad b.2 12))
     else if n = 11 then (if flow b.2 ≤ 0 ∧ 0 ≤ fhigh b.2 then (zi 1, a.2) else (zi 0, fDiv a.2 b.2))
     else if n = 14 then (zi 0, fLea a.2 (flow a.2) (fhigh a.2) b.2 (flow b.2) (fhigh b.2)) else (zi 0, fGre a.2 (flow a.2) (fhigh a.2) b.2 (flow b.2) (fhigh b.2)))
   else b) else a
/-- what an operation leaves alone -/
def FrO (o : Nat) (mi : zI) (mj : zJ) (mi' : zI) (mj' : zJ) : Prop := (∀ a, ¬ a = o → ¬ a = 31 → mi' a = mi a) ∧ (∀ a, ¬ a = o → ¬ a = o + 1 → ¬ a = 31 → ¬ a = 32 → mj' a = mj a)
theorem FrO.rf {o : Nat} {mi : zI} {mj : zJ} : FrO o mi mj mi mj := ⟨fun _ _ _ => rfl, fun _ _ _ _ _ => rfl⟩
theorem FrO.w {o : Nat} {mi : zI} {mj : zJ} {F : FF} : FrO o mi mj mi (wF mj o F) := ⟨fun _ _ _ => rfl, fun a h1 h2 _ _ => wF_ro (by omega)⟩
theorem FrO.i {o : Nat} {mi : zI} {mj : zJ} {x : Int32} : FrO o mi mj (zup mi o 0 x) mj := ⟨fun a h _ => zup_ne h, fun _ _ _ _ _ => rfl⟩
theorem cE_fr {o p : Nat} {mi mi' : zI} {mj mj' : zJ} {e : En} (F : FrO o mi mj mi' mj') (ho : zFm o) (hp : zFm p) (h : ¬ p = o) (h31 : ¬ p = 31) (hE : cE mi mj p e) : cE mi' mj' p e := by
  obtain ⟨o1, o2, o3⟩ := ho
  obtain ⟨p1, p2, p3⟩ := hp
  obtain ⟨f1, f2⟩ := F
  have a1 := f1 p h h31
  have a2 := f2 p h (by omega) h31 (by omega)
  have a3 := f2 (p + 1) (by omega) (by omega) (by omega) (by omega)
  unfold cE
  rw [a1, a2, cf_congr a2 a3]
  exact hE
theorem fCan_neg {x : FF} : fCan (fNeg x) := fCan_mk
theorem fCan_pl {l u : Int64} : fCan (fPl l u) := fCan_mk
theorem fCan_nm {x : FF} {s : Nat} : fCan (fNm x s) := fCan_mk
theorem fCan_cd {x : FF} {w : Int64} {s : Nat} : fCan (fCd x w s) := fCan_mk
theorem fCan_num {x : Int32} : fCan (fNum x) := fCan_mk
theorem fCan_inp {k : Nat} {x y : Int32} : fCan (fInp k x y) := fCan_nm
theorem fCan_add {x y : FF} : fCan (fAdd x y) := fCan_mk
theorem fCan_sub {x y : FF} : fCan (fSub x y) := fCan_mk
theorem fCan_mul {x y : FF} {a b : Int64} : fCan (fMul x a y b) := fCan_mk
theorem fCan_sq {x : FF} {a : Int64} : fCan (fSq x a) := fCan_mk
theorem fCan_root {l u : Int64} : fCan (fRoot l u) := fCan_pl
theorem fCan_rec {l u : Int64} : fCan (fRec l u) := fCan_pl
theorem fCan_div {x y : FF} : fCan (fDiv x y) := fCan_mul
theorem fCan_abs {x : FF} {l u : Int64} (h : fCan x) : fCan (fAbs x l u) := by
  unfold fAbs
  split
  · exact h
  · split <;> exact fCan_mk
theorem fCan_lea {x y : FF} {l u m n : Int64} (h : fCan x) (h2 : fCan y) : fCan (fLea x l u y m n) := by
  unfold fLea
  split
  · exact h
  · split
    · exact h2
    · exact fCan_mk
theorem fCan_gre {x y : FF} {l u m n : Int64} (h : fCan x) (h2 : fCan y) : fCan (fGre x l u y m n) := by
  unfold fGre
  split
  · exact h
  · split
    · exact h2
    · exact fCan_mk
section
variable {Ls : Nat} {g : Nat → Nat} {mi : zI} {mj : zJ} {x y z : Int32} {o p q k n d : Nat} {u v w : Int64} {e e1 e2 : En}
theorem fin_w {R : Option zRes} {F : FF} (hrun : R = some (none, SH Ls, mi, wF mj o F, RF g)) (hF : fCan F) (he : e = (zi 0, F)) (hw : mi o 0 = zi 0) : ∃ mi' mj', R = some (none, SH Ls, mi', mj', RF g) ∧ mi' o 0 = e.1 ∧ (e.1 = zi 0 → cf mj' o = e.2) ∧ FrO o mi mj mi' mj' := by
  subst he
  exact ⟨mi, _, hrun, hw, fun _ => cf_wFc hF, FrO.w⟩
theorem fin_i {R : Option zRes} {x : Int32} (hrun : R = some (none, SH Ls, zup mi o 0 x, mj, RF g)) (he : e.1 = x) (hx : ¬ x = zi 0) : ∃ mi' mj', R = some (none, SH Ls, mi', mj', RF g) ∧ mi' o 0 = e.1 ∧ (e.1 = zi 0 → cf mj' o = e.2) ∧ FrO o mi mj mi' mj' :=
  ⟨_, mj, hrun, by rw [zg_s, he], fun h => absurd (he.symm.trans h) hx, FrO.i⟩
theorem m_28i (ho : zFm o) (hk : k < 12) : zCall 28 [.ref o, .int (zi k), .int y, .int z] (SH Ls) mi mj (RF g) = some (none, SH Ls, mi, wF mj o (fInp k y z), RF g) := by
  rw [m_28 ho hk, wF_wF, cf_wFc fCan_pl]
  rfl
theorem m_49 (hn : n < 16) : zCall 49 [.int (zi n)] (SH Ls) mi mj (RF g) = some (some (.int (zi (opn n))), SH Ls, mi, mj, RF g) := by
  rcases (show n = 0 ∨ n = 1 ∨ n = 2 ∨ n = 3 ∨ n = 4 ∨ n = 5 ∨ n = 6 ∨ n = 7 ∨ n = 8 ∨ n = 9 ∨ n = 10 ∨ n = 11 ∨ n = 12 ∨ n = 13 ∨ n = 14 ∨ n = 15 by omega) with rfl | rfl | rfl | rfl | rfl | rfl | rfl | rfl | rfl | rfl | rfl | rfl | rfl | rfl | rfl | rfl
  all_goals simp (disch := (first | ((with_reducible refine zct_le ?_) <;> exact Nat.le_of_ble_eq_true rfl) | with_reducible exact zh_0 | with_reducible exact zh_1 | with_reducible exact zh_b | omega)) only [e_49, q_49_0, q_49_1, q_49_44, q_49_45, q_49_46, q_49_47, q_49_48, q_49_49, q_49_50, q_49_53, q_49_54, q_49_57, q_49_58, vf_s, vf_n, zk2_none, zk2_int, zk2_ref, zk2_null, zk2_long, zct_nil, zct_i, zct_l, zct_r, zct_n, Option.bind_some, Option.toList_some, Option.toList_none, List.cons_append, List.nil_append, zor_l, zor_r, if_true, if_false, ↓reduceIte, zi_lit, zi_of, zi_add, zi_mul, zi_sub, zi_nat, zi_leT, zi_leF, zi_ltT, zi_ltF, zi_eqT, zi_eqF, zif_0z, zif_bz, zi_01l, zi_01r, not_true_eq_false, not_false_eq_true, Nat.reduceAdd, Nat.reduceMul, Nat.reduceSub]
  all_goals rfl
theorem m_50 (hn : n = 7 ∨ n = 10 ∨ n = 12 ∨ n = 13) (hp : zFm p) (ho : zFm o) (hne : ¬ p = o) (hE : cE mi mj p e) (hw : mi o 0 = zi 0) : ∃ mi' mj', zCall 50 [.int (zi n), .ref p, .ref o] (SH Ls) mi mj (RF g) = some (none, SH Ls, mi', mj', RF g) ∧ mi' o 0 = (uop n e).1 ∧ ((uop n e).1 = zi 0 → cf mj' o = (uop n e).2) ∧ FrO o mi mj mi' mj' := by
  obtain ⟨h1, h2⟩ := hE
  by_cases hz : e.1 = zi 0
  · obtain ⟨h3, h4, h5, h6⟩ := h2 hz
    rw [hz] at h1
    have hpo : mi p 0 = mi o 0 := h1.trans hw.symm
    rcases hn with rfl | rfl | rfl | rfl
    · exact fin_w (F := fNeg e.2) (by simp (disch := (first | with_reducible exact (zFm_is hp) | with_reducible exact zi_at (zFm_is hp) (by omega) (by omega) | with_reducible exact (zFm_is ho) | with_reducible exact zi_at (zFm_is ho) (by omega) (by omega) | ((with_reducible refine zct_le ?_) <;> exact Nat.le_of_ble_eq_true rfl) | with_reducible exact zh_0 | with_reducible exact zh_1 | with_reducible exact zh_b | omega)) only [e_50, q_50_0r, q_50_0n, q_50_1, q_50_4, q_50_7r, q_50_7n, q_50_8r, q_50_8n, q_50_9, q_50_12, q_50_15, q_50_16, q_50_17, q_50_52r, q_50_52n, q_50_53r, q_50_53n, q_50_54, q_50_57, q_50_60r, q_50_60n, q_50_61r, q_50_61n, q_50_62, q_50_65, q_50_68r, q_50_68n, q_50_69r, q_50_69n, q_50_70, q_50_73, q_50_76r, q_50_76n, q_50_77r, q_50_77n, q_50_78, q_50_81, vf_s, vf_n, zk2_none, zk2_int, zk2_ref, zk2_null, zk2_long, zct_nil, zct_i, zct_l, zct_r, zct_n, Option.bind_some, Option.toList_some, Option.toList_none, List.cons_append, List.nil_append, zor_l, zor_r, if_true, if_false, ↓reduceIte, zi_lit, zi_of, zi_add, zi_mul, zi_sub, zi_nat, zi_leT, zi_leF, zi_ltT, zi_ltF, zi_eqT, zi_eqF, zif_0z, zif_bz, zi_01l, zi_01r, not_true_eq_false, not_false_eq_true, Nat.reduceAdd, Nat.reduceMul, Nat.reduceSub, h1, m_32 ho hp hne, h3]) fCan_neg (by simp [uop, hz]) hw
    · exact fin_w (F := fSq e.2 (frad e.2 12)) (by simp (disch := (first | with_reducible exact (zFm_is hp) | with_reducible exact zi_at (zFm_is hp) (by omega) (by omega) | with_reducible exact (zFm_is ho) | with_reducible exact zi_at (zFm_is ho) (by omega) (by omega) | ((with_reducible refine zct_le ?_) <;> exact Nat.le_of_ble_eq_true rfl) | with_reducible exact zh_0 | with_reducible exact zh_1 | with_reducible exact zh_b | omega)) only [e_50, q_50_0r, q_50_0n, q_50_1, q_50_4, q_50_7r, q_50_7n, q_50_8r, q_50_8n, q_50_9, q_50_12, q_50_15, q_50_16, q_50_17, q_50_52r, q_50_52n, q_50_53r, q_50_53n, q_50_54, q_50_57, q_50_60r, q_50_60n, q_50_61r, q_50_61n, q_50_62, q_50_65, q_50_68r, q_50_68n, q_50_69r, q_50_69n, q_50_70, q_50_73, q_50_76r, q_50_76n, q_50_77r, q_50_77n, q_50_78, q_50_81, vf_s, vf_n, zk2_none, zk2_int, zk2_ref, zk2_null, zk2_long, zct_nil, zct_i, zct_l, zct_r, zct_n, Option.bind_some, Option.toList_some, Option.toList_none, List.cons_append, List.nil_append, zor_l, zor_r, if_true, if_false, ↓reduceIte, zi_lit, zi_of, zi_add, zi_mul, zi_sub, zi_nat, zi_leT, zi_leF, zi_ltT, zi_ltF, zi_eqT, zi_eqF, zif_0z, zif_bz, zi_01l, zi_01r, not_true_eq_false, not_false_eq_true, Nat.reduceAdd, Nat.reduceMul, Nat.reduceSub, h1, m_34 ho hp hne, h3, h4]) fCan_sq (by simp [uop, hz]) hw
    · exact fin_w (F := fAbs e.2 (flow e.2) (fhigh e.2)) (by simp (disch := (first | with_reducible exact (zFm_is hp) | with_reducible exact zi_at (zFm_is hp) (by omega) (by omega) | with_reducible exact (zFm_is ho) | with_reducible exact zi_at (zFm_is ho) (by omega) (by omega) | ((with_reducible refine zct_le ?_) <;> exact Nat.le_of_ble_eq_true rfl) | with_reducible exact zh_0 | with_reducible exact zh_1 | with_reducible exact zh_b | omega)) only [e_50, q_50_0r, q_50_0n, q_50_1, q_50_4, q_50_7r, q_50_7n, q_50_8r, q_50_8n, q_50_9, q_50_12, q_50_15, q_50_16, q_50_17, q_50_52r, q_50_52n, q_50_53r, q_50_53n, q_50_54, q_50_57, q_50_60r, q_50_60n, q_50_61r, q_50_61n, q_50_62, q_50_65, q_50_68r, q_50_68n, q_50_69r, q_50_69n, q_50_70, q_50_73, q_50_76r, q_50_76n, q_50_77r, q_50_77n, q_50_78, q_50_81, vf_s, vf_n, zk2_none, zk2_int, zk2_ref, zk2_null, zk2_long, zct_nil, zct_i, zct_l, zct_r, zct_n, Option.bind_some, Option.toList_some, Option.toList_none, List.cons_append, List.nil_append, zor_l, zor_r, if_true, if_false, ↓reduceIte, zi_lit, zi_of, zi_add, zi_mul, zi_sub, zi_nat, zi_leT, zi_leF, zi_ltT, zi_ltF, zi_eqT, zi_eqF, zif_0z, zif_bz, zi_01l, zi_01r, not_true_eq_false, not_false_eq_true, Nat.reduceAdd, Nat.reduceMul, Nat.reduceSub, h1, m_36 ho hp hne hpo, h3, h5, h6]) (fCan_abs (h3 ▸ fCan_cf)) (by simp [uop, hz]) hw
    · by_cases hh : fhigh e.2 < 0
      · exact fin_i (x := zi 2) (by simp (disch := (first | with_reducible exact (zFm_is hp) | with_reducible exact zi_at (zFm_is hp) (by omega) (by omega) | with_reducible exact (zFm_is ho) | with_reducible exact zi_at (zFm_is ho) (by omega) (by omega) | ((with_reducible refine zct_le ?_) <;> exact Nat.le_of_ble_eq_true rfl) | with_reducible exact zh_0 | with_reducible exact zh_1 | with_reducible exact zh_b | omega)) only [e_50, q_50_0r, q_50_0n, q_50_1, q_50_4, q_50_7r, q_50_7n, q_50_8r, q_50_8n, q_50_9, q_50_12, q_50_15, q_50_16, q_50_17, q_50_52r, q_50_52n, q_50_53r, q_50_53n, q_50_54, q_50_57, q_50_60r, q_50_60n, q_50_61r, q_50_61n, q_50_62, q_50_65, q_50_68r, q_50_68n, q_50_69r, q_50_69n, q_50_70, q_50_73, q_50_76r, q_50_76n, q_50_77r, q_50_77n, q_50_78, q_50_81, vf_s, vf_n, zk2_none, zk2_int, zk2_ref, zk2_null, zk2_long, zct_nil, zct_i, zct_l, zct_r, zct_n, Option.bind_some, Option.toList_some, Option.toList_none, List.cons_append, List.nil_append, zor_l, zor_r, if_true, if_false, ↓reduceIte, zi_lit, zi_of, zi_add, zi_mul, zi_sub, zi_nat, zi_leT, zi_leF, zi_ltT, zi_ltF, zi_eqT, zi_eqF, zif_0z, zif_bz, zi_01l, zi_01r, not_true_eq_false, not_false_eq_true, Nat.reduceAdd, Nat.reduceMul, Nat.reduceSub, h1, m_37 ho hp hne, h6, hh]) (by simp [uop, hz, hh]) (by decide)
      · exact fin_w (F := fRoot (flow e.2) (fhigh e.2)) (by simp (disch := (first | with_reducible exact (zFm_is hp) | with_reducible exact zi_at (zFm_is hp) (by omega) (by omega) | with_reducible exact (zFm_is ho) | with_reducible exact zi_at (zFm_is ho) (by omega) (by omega) | ((with_reducible refine zct_le ?_) <;> exact Nat.le_of_ble_eq_true rfl) | with_reducible exact zh_0 | with_reducible exact zh_1 | with_reducible exact zh_b | omega)) only [e_50, q_50_0r, q_50_0n, q_50_1, q_50_4, q_50_7r, q_50_7n, q_50_8r, q_50_8n, q_50_9, q_50_12, q_50_15, q_50_16, q_50_17, q_50_52r, q_50_52n, q_50_53r, q_50_53n, q_50_54, q_50_57, q_50_60r, q_50_60n, q_50_61r, q_50_61n, q_50_62, q_50_65, q_50_68r, q_50_68n, q_50_69r, q_50_69n, q_50_70, q_50_73, q_50_76r, q_50_76n, q_50_77r, q_50_77n, q_50_78, q_50_81, vf_s, vf_n, zk2_none, zk2_int, zk2_ref, zk2_null, zk2_long, zct_nil, zct_i, zct_l, zct_r, zct_n, Option.bind_some, Option.toList_some, Option.toList_none, List.cons_append, List.nil_append, zor_l, zor_r, if_true, if_false, ↓reduceIte, zi_lit, zi_of, zi_add, zi_mul, zi_sub, zi_nat, zi_leT, zi_leF, zi_ltT, zi_ltF, zi_eqT, zi_eqF, zif_0z, zif_bz, zi_01l, zi_01r, not_true_eq_false, not_false_eq_true, Nat.reduceAdd, Nat.reduceMul, Nat.reduceSub, h1, m_37 ho hp hne, h5, h6, hh]) fCan_root (by simp [uop, hz, hh]) hw
  · have hz' : ¬ mi p 0 = zi 0 := by rw [h1]; exact hz
    exact fin_i (x := mi p 0) (by simp (disch := (first | with_reducible exact (zFm_is hp) | with_reducible exact zi_at (zFm_is hp) (by omega) (by omega) | with_reducible exact (zFm_is ho) | with_reducible exact zi_at (zFm_is ho) (by omega) (by omega) | ((with_reducible refine zct_le ?_) <;> exact Nat.le_of_ble_eq_true rfl) | with_reducible exact zh_0 | with_reducible exact zh_1 | with_reducible exact zh_b | omega)) only [e_50, q_50_0r, q_50_0n, q_50_1, q_50_4, q_50_7r, q_50_7n, q_50_8r, q_50_8n, q_50_9, q_50_12, q_50_15, q_50_16, q_50_17, q_50_52r, q_50_52n, q_50_53r, q_50_53n, q_50_54, q_50_57, q_50_60r, q_50_60n, q_50_61r, q_50_61n, q_50_62, q_50_65, q_50_68r, q_50_68n, q_50_69r, q_50_69n, q_50_70, q_50_73, q_50_76r, q_50_76n, q_50_77r, q_50_77n, q_50_78, q_50_81, vf_s, vf_n, zk2_none, zk2_int, zk2_ref, zk2_null, zk2_long, zct_nil, zct_i, zct_l, zct_r, zct_n, Option.bind_some, Option.toList_some, Option.toList_none, List.cons_append, List.nil_append, zor_l, zor_r, if_true, if_false, ↓reduceIte, zi_lit, zi_of, zi_add, zi_mul, zi_sub, zi_nat, zi_leT, zi_leF, zi_ltT, zi_ltF, zi_eqT, zi_eqF, zif_0z, zif_bz, zi_01l, zi_01r, not_true_eq_false, not_false_eq_true, Nat.reduceAdd, Nat.reduceMul, Nat.reduceSub, hz', m_19 ho]) (by simp [uop, hz, h1]) hz'
theorem zFm_31 : zFm 31 := ⟨by omega, by omega, rfl⟩
theorem cf_ms {r l h : Int64} : cf (zup (zup (zup mj o 6 r) o 7 l) o 8 h) o = cf mj o := by
  unfold cf
  simp (disch := omega) only [zg_s, zg_o, zg_j, zg_r, zg_ro, zg_d, yfl_o]
theorem m_20r {F : FF} (hF : fCan F) : ∃ mi2 mj2, zCall 20 [.ref 31] (SH Ls) mi (wF mj 31 F) (RF g) = some (none, SH Ls, mi2, mj2, RF g) ∧ (∀ a, ¬ a = 31 → mi2 a = mi a) ∧ cf mj2 31 = F ∧ mj2 31 6 = frad F 12 ∧ (∀ a, ¬ a = 31 → ¬ a = 32 → mj2 a = mj a) := by
  refine ⟨_, _, m_20 zFm_31, ?_, ?_, ?_, ?_⟩
  · intro a h
    split
    · exact zup_ne h
    · rfl
  · rw [cf_ms, cf_wFc hF]
  · simp (disch := omega) only [zg_s, zg_o, zg_j, zg_r, zg_ro, zg_d, yfl_o]
    rw [cf_wFc hF]
  · intro a h1 h2
    rw [zup_ne h1, zup_ne h1, zup_ne h1, wF_ro (by omega)]
theorem m_51 (hn : n = 5 ∨ n = 6 ∨ n = 9 ∨ n = 11 ∨ n = 14 ∨ n = 15) (hp : zFm p) (hq : zFm q) (ho : zFm o) (hne : ¬ p = o) (hne2 : ¬ q = o) (ho31 : ¬ 31 = o) (hp31 : ¬ p = 31) (hq31 : ¬ q = 31) (hE : cE mi mj p e1) (hE2 : cE mi mj q e2) (hw : mi o 0 = zi 0) (hd : e2.1 = zi 0 → flow e2.2 ≤ fhigh e2.2) : ∃ mi' mj', zCall 51 [.ref 27, .int (zi n), .ref p, .ref q, .ref o] (SH Ls) mi mj (RF g) = some (none, SH Ls, mi', mj', RF g) ∧ mi' o 0 = (bop n e1 e2).1 ∧ ((bop n e1 e2).1 = zi 0 → cf mj' o = (bop n e1 e2).2) ∧ FrO o mi mj mi' mj' := by
  obtain ⟨h1, h2⟩ := hE
  obtain ⟨k1, k2⟩ := hE2
  by_cases hz : e1.1 = zi 0
  · obtain ⟨h3, h4, h5, h6⟩ := h2 hz
    rw [hz] at h1
    have hpo : mi p 0 = mi o 0 := h1.trans hw.symm
    by_cases hy : e2.1 = zi 0
    · obtain ⟨k3, k4, k5, k6⟩ := k2 hy
      rw [hy] at k1
      have hqo : mi q 0 = mi o 0 := k1.trans hw.symm
      rcases hn with rfl | rfl | rfl | rfl | rfl | rfl
      · exact fin_w (F := fAdd e1.2 e2.2) (by simp (disch := (first | with_reducible exact is_27 | with_reducible exact zi_at is_27 (by omega) (by omega) | with_reducible exact (zFm_is hp) | with_reducible exact zi_at (zFm_is hp) (by omega) (by omega) | with_reducible exact (zFm_is hq) | with_reducible exact zi_at (zFm_is hq) (by omega) (by omega) | with_reducible exact (zFm_is ho) | with_reducible exact zi_at (zFm_is ho) (by omega) (by omega) | ((with_reducible refine zct_le ?_) <;> exact Nat.le_of_ble_eq_true rfl) | with_reducible exact zh_0 | with_reducible exact zh_1 | with_reducible exact zh_b | omega)) only [e_51, q_51_0r, q_51_0n, q_51_1, q_51_4, q_51_7r, q_51_7n, q_51_8, q_51_11, q_51_14r, q_51_14n, q_51_16r, q_51_16n, q_51_17, q_51_20, q_51_23r, q_51_23n, q_51_24, q_51_27, q_51_30r, q_51_30n, q_51_31, q_51_34, q_51_37, q_51_38, q_51_39, q_51_92r, q_51_92n, q_51_94r, q_51_94n, q_51_95r, q_51_95n, q_51_96, q_51_99, q_51_102r, q_51_102n, q_51_104r, q_51_104n, q_51_105r, q_51_105n, q_51_106, q_51_109, q_51_112r, q_51_112n, q_51_114r, q_51_114n, q_51_115r, q_51_115n, q_51_116, q_51_119, q_51_122r, q_51_122n, q_51_123, q_51_126, q_51_129r, q_51_129n, q_51_131, q_51_132, q_51_135, q_51_138r, q_51_138n, q_51_139, q_51_142r, q_51_142n, q_51_143, q_51_146r, q_51_146n, q_51_147, q_51_150, q_51_153r, q_51_153n, q_51_155r, q_51_155n, q_51_156r, q_51_156n, q_51_157, q_51_160, q_51_163, q_51_166r, q_51_166n, q_51_168r, q_51_168n, q_51_169r, q_51_169n, q_51_170, q_51_173, q_51_176r, q_51_176n, q_51_178r, q_51_178n, q_51_179r, q_51_179n, q_51_180, q_51_183, vf_s, vf_n, zk2_none, zk2_int, zk2_ref, zk2_null, zk2_long, zct_nil, zct_i, zct_l, zct_r, zct_n, Option.bind_some, Option.toList_some, Option.toList_none, List.cons_append, List.nil_append, zor_l, zor_r, if_true, if_false, ↓reduceIte, zi_lit, zi_of, zi_add, zi_mul, zi_sub, zi_nat, zi_leT, zi_leF, zi_ltT, zi_ltF, zi_eqT, zi_eqF, zif_0z, zif_bz, zi_01l, zi_01r, not_true_eq_false, not_false_eq_true, Nat.reduceAdd, Nat.reduceMul, Nat.reduceSub, h1, k1, m_30 ho hp hq hne hne2, h3, k3]) fCan_add (by simp [bop, hz, hy]) hw
      · exact fin_w (F := fSub e1.2 e2.2) (by simp (disch := (first | with_reducible exact is_27 | with_reducible exact zi_at is_27 (by omega) (by omega) | with_reducible exact (zFm_is hp) | with_reducible exact zi_at (zFm_is hp) (by omega) (by omega) | with_reducible exact (zFm_is hq) | with_reducible exact zi_at (zFm_is hq) (by omega) (by omega) | with_reducible exact (zFm_is ho) | with_reducible exact zi_at (zFm_is ho) (by omega) (by omega) | ((with_reducible refine zct_le ?_) <;> exact Nat.le_of_ble_eq_true rfl) | with_reducible exact zh_0 | with_reducible exact zh_1 | with_reducible exact zh_b | omega)) only [e_51, q_51_0r, q_51_0n, q_51_1, q_51_4, q_51_7r, q_51_7n, q_51_8, q_51_11, q_51_14r, q_51_14n, q_51_16r, q_51_16n, q_51_17, q_51_20, q_51_23r, q_51_23n, q_51_24, q_51_27, q_51_30r, q_51_30n, q_51_31, q_51_34, q_51_37, q_51_38, q_51_39, q_51_92r, q_51_92n, q_51_94r, q_51_94n, q_51_95r, q_51_95n, q_51_96, q_51_99, q_51_102r, q_51_102n, q_51_104r, q_51_104n, q_51_105r, q_51_105n, q_51_106, q_51_109, q_51_112r, q_51_112n, q_51_114r, q_51_114n, q_51_115r, q_51_115n, q_51_116, q_51_119, q_51_122r, q_51_122n, q_51_123, q_51_126, q_51_129r, q_51_129n, q_51_131, q_51_132, q_51_135, q_51_138r, q_51_138n, q_51_139, q_51_142r, q_51_142n, q_51_143, q_51_146r, q_51_146n, q_51_147, q_51_150, q_51_153r, q_51_153n, q_51_155r, q_51_155n, q_51_156r, q_51_156n, q_51_157, q_51_160, q_51_163, q_51_166r, q_51_166n, q_51_168r, q_51_168n, q_51_169r, q_51_169n, q_51_170, q_51_173, q_51_176r, q_51_176n, q_51_178r, q_51_178n, q_51_179r, q_51_179n, q_51_180, q_51_183, vf_s, vf_n, zk2_none, zk2_int, zk2_ref, zk2_null, zk2_long, zct_nil, zct_i, zct_l, zct_r, zct_n, Option.bind_some, Option.toList_some, Option.toList_none, List.cons_append, List.nil_append, zor_l, zor_r, if_true, if_false, ↓reduceIte, zi_lit, zi_of, zi_add, zi_mul, zi_sub, zi_nat, zi_leT, zi_leF, zi_ltT, zi_ltF, zi_eqT, zi_eqF, zif_0z, zif_bz, zi_01l, zi_01r, not_true_eq_false, not_false_eq_true, Nat.reduceAdd, Nat.reduceMul, Nat.reduceSub, h1, k1, m_31 ho hp hq hne hne2, h3, k3]) fCan_sub (by simp [bop, hz, hy]) hw
      · exact fin_w (F := fMul e1.2 (frad e1.2 12) e2.2 (frad e2.2 12)) (by simp (disch := (first | with_reducible exact is_27 | with_reducible exact zi_at is_27 (by omega) (by omega) | with_reducible exact (zFm_is hp) | with_reducible exact zi_at (zFm_is hp) (by omega) (by omega) | with_reducible exact (zFm_is hq) | with_reducible exact zi_at (zFm_is hq) (by omega) (by omega) | with_reducible exact (zFm_is ho) | with_reducible exact zi_at (zFm_is ho) (by omega) (by omega) | ((with_reducible refine zct_le ?_) <;> exact Nat.le_of_ble_eq_true rfl) | with_reducible exact zh_0 | with_reducible exact zh_1 | with_reducible exact zh_b | omega)) only [e_51, q_51_0r, q_51_0n, q_51_1, q_51_4, q_51_7r, q_51_7n, q_51_8, q_51_11, q_51_14r, q_51_14n, q_51_16r, q_51_16n, q_51_17, q_51_20, q_51_23r, q_51_23n, q_51_24, q_51_27, q_51_30r, q_51_30n, q_51_31, q_51_34, q_51_37, q_51_38, q_51_39, q_51_92r, q_51_92n, q_51_94r, q_51_94n, q_51_95r, q_51_95n, q_51_96, q_51_99, q_51_102r, q_51_102n, q_51_104r, q_51_104n, q_51_105r, q_51_105n, q_51_106, q_51_109, q_51_112r, q_51_112n, q_51_114r, q_51_114n, q_51_115r, q_51_115n, q_51_116, q_51_119, q_51_122r, q_51_122n, q_51_123, q_51_126, q_51_129r, q_51_129n, q_51_131, q_51_132, q_51_135, q_51_138r, q_51_138n, q_51_139, q_51_142r, q_51_142n, q_51_143, q_51_146r, q_51_146n, q_51_147, q_51_150, q_51_153r, q_51_153n, q_51_155r, q_51_155n, q_51_156r, q_51_156n, q_51_157, q_51_160, q_51_163, q_51_166r, q_51_166n, q_51_168r, q_51_168n, q_51_169r, q_51_169n, q_51_170, q_51_173, q_51_176r, q_51_176n, q_51_178r, q_51_178n, q_51_179r, q_51_179n, q_51_180, q_51_183, vf_s, vf_n, zk2_none, zk2_int, zk2_ref, zk2_null, zk2_long, zct_nil, zct_i, zct_l, zct_r, zct_n, Option.bind_some, Option.toList_some, Option.toList_none, List.cons_append, List.nil_append, zor_l, zor_r, if_true, if_false, ↓reduceIte, zi_lit, zi_of, zi_add, zi_mul, zi_sub, zi_nat, zi_leT, zi_leF, zi_ltT, zi_ltF, zi_eqT, zi_eqF, zif_0z, zif_bz, zi_01l, zi_01r, not_true_eq_false, not_false_eq_true, Nat.reduceAdd, Nat.reduceMul, Nat.reduceSub, h1, k1, m_33 ho hp hq hne hne2, h3, h4, k3, k4]) fCan_mul (by simp [bop, hz, hy]) hw
      · by_cases hh : flow e2.2 ≤ 0 ∧ 0 ≤ fhigh e2.2
        · exact fin_i (x := zi 1) (by simp (disch := (first | with_reducible exact is_27 | with_reducible exact zi_at is_27 (by omega) (by omega) | with_reducible exact (zFm_is hp) | with_reducible exact zi_at (zFm_is hp) (by omega) (by omega) | with_reducible exact (zFm_is hq) | with_reducible exact zi_at (zFm_is hq) (by omega) (by omega) | with_reducible exact (zFm_is ho) | with_reducible exact zi_at (zFm_is ho) (by omega) (by omega) | ((with_reducible refine zct_le ?_) <;> exact Nat.le_of_ble_eq_true rfl) | with_reducible exact zh_0 | with_reducible exact zh_1 | with_reducible exact zh_b | omega)) only [e_51, q_51_0r, q_51_0n, q_51_1, q_51_4, q_51_7r, q_51_7n, q_51_8, q_51_11, q_51_14r, q_51_14n, q_51_16r, q_51_16n, q_51_17, q_51_20, q_51_23r, q_51_23n, q_51_24, q_51_27, q_51_30r, q_51_30n, q_51_31, q_51_34, q_51_37, q_51_38, q_51_39, q_51_92r, q_51_92n, q_51_94r, q_51_94n, q_51_95r, q_51_95n, q_51_96, q_51_99, q_51_102r, q_51_102n, q_51_104r, q_51_104n, q_51_105r, q_51_105n, q_51_106, q_51_109, q_51_112r, q_51_112n, q_51_114r, q_51_114n, q_51_115r, q_51_115n, q_51_116, q_51_119, q_51_122r, q_51_122n, q_51_123, q_51_126, q_51_129r, q_51_129n, q_51_131, q_51_132, q_51_135, q_51_138r, q_51_138n, q_51_139, q_51_142r, q_51_142n, q_51_143, q_51_146r, q_51_146n, q_51_147, q_51_150, q_51_153r, q_51_153n, q_51_155r, q_51_155n, q_51_156r, q_51_156n, q_51_157, q_51_160, q_51_163, q_51_166r, q_51_166n, q_51_168r, q_51_168n, q_51_169r, q_51_169n, q_51_170, q_51_173, q_51_176r, q_51_176n, q_51_178r, q_51_178n, q_51_179r, q_51_179n, q_51_180, q_51_183, vf_s, vf_n, zk2_none, zk2_int, zk2_ref, zk2_null, zk2_long, zct_nil, zct_i, zct_l, zct_r, zct_n, Option.bind_some, Option.toList_some, Option.toList_none, List.cons_append, List.nil_append, zor_l, zor_r, if_true, if_false, ↓reduceIte, zi_lit, zi_of, zi_add, zi_mul, zi_sub, zi_nat, zi_leT, zi_leF, zi_ltT, zi_ltF, zi_eqT, zi_eqF, zif_0z, zif_bz, zi_01l, zi_01r, not_true_eq_false, not_false_eq_true, Nat.reduceAdd, Nat.reduceMul, Nat.reduceSub, h1, k1, m_22 hq, m_19 ho, k5, k6, hh, true_and, and_true, and_self]) (by simp [bop, hz, hy, hh]) (by decide)
        · have hl := hd hy
          have n1 : ¬ mj q 7 = 0 := by
            intro h
            rw [k5] at h
            rw [h] at hh hl
            exact hh ⟨by decide, hl⟩
          have n2 : ¬ mj q 8 = 0 := by
            intro h
            rw [k6] at h
            rw [h] at hh hl
            exact hh ⟨hl, by decide⟩
          obtain ⟨mi2, mj2, g1, g2, g3, g4, g5⟩ := m_20r (Ls := Ls) (g := g) (mi := mi) (mj := mj) (F := fRec (flow e2.2) (fhigh e2.2)) fCan_rec
          have hpA := hp
          obtain ⟨hp1, hp2, hp3⟩ := hp
          have c1 : cf mj2 p = e1.2 := by rw [cf_congr (g5 p (by omega) (by omega)) (g5 (p + 1) (by omega) (by omega)), h3]
          have c2 : mj2 p 6 = frad e1.2 12 := by rw [g5 p (by omega) (by omega), h4]
          refine ⟨mi2, wF mj2 o (fDiv e1.2 e2.2), ?_, ?_, ?_, ?_⟩
          · simp (disch := (first | with_reducible exact is_27 | with_reducible exact zi_at is_27 (by omega) (by omega) | with_reducible exact (zFm_is hpA) | with_reducible exact zi_at (zFm_is hpA) (by omega) (by omega) | with_reducible exact (zFm_is hq) | with_reducible exact zi_at (zFm_is hq) (by omega) (by omega) | with_reducible exact (zFm_is ho) | with_reducible exact zi_at (zFm_is ho) (by omega) (by omega) | with_reducible exact is_31 | with_reducible exact zi_at is_31 (by omega) (by omega) | ((with_reducible refine zct_le ?_) <;> exact Nat.le_of_ble_eq_true rfl) | with_reducible exact zh_0 | with_reducible exact zh_1 | with_reducible exact zh_b | omega)) only [e_51, q_51_0r, q_51_0n, q_51_1, q_51_4, q_51_7r, q_51_7n, q_51_8, q_51_11, q_51_14r, q_51_14n, q_51_16r, q_51_16n, q_51_17, q_51_20, q_51_23r, q_51_23n, q_51_24, q_51_27, q_51_30r, q_51_30n, q_51_31, q_51_34, q_51_37, q_51_38, q_51_39, q_51_92r, q_51_92n, q_51_94r, q_51_94n, q_51_95r, q_51_95n, q_51_96, q_51_99, q_51_102r, q_51_102n, q_51_104r, q_51_104n, q_51_105r, q_51_105n, q_51_106, q_51_109, q_51_112r, q_51_112n, q_51_114r, q_51_114n, q_51_115r, q_51_115n, q_51_116, q_51_119, q_51_122r, q_51_122n, q_51_123, q_51_126, q_51_129r, q_51_129n, q_51_131, q_51_132, q_51_135, q_51_138r, q_51_138n, q_51_139, q_51_142r, q_51_142n, q_51_143, q_51_146r, q_51_146n, q_51_147, q_51_150, q_51_153r, q_51_153n, q_51_155r, q_51_155n, q_51_156r, q_51_156n, q_51_157, q_51_160, q_51_163, q_51_166r, q_51_166n, q_51_168r, q_51_168n, q_51_169r, q_51_169n, q_51_170, q_51_173, q_51_176r, q_51_176n, q_51_178r, q_51_178n, q_51_179r, q_51_179n, q_51_180, q_51_183, vf_s, vf_n, zk2_none, zk2_int, zk2_ref, zk2_null, zk2_long, zct_nil, zct_i, zct_l, zct_r, zct_n, Option.bind_some, Option.toList_some, Option.toList_none, List.cons_append, List.nil_append, zor_l, zor_r, if_true, if_false, ↓reduceIte, zi_lit, zi_of, zi_add, zi_mul, zi_sub, zi_nat, zi_leT, zi_leF, zi_ltT, zi_ltF, zi_eqT, zi_eqF, zif_0z, zif_bz, zi_01l, zi_01r, not_true_eq_false, not_false_eq_true, Nat.reduceAdd, Nat.reduceMul, Nat.reduceSub, h1, k1, m_22 hq, m_35 zFm_31 hq n1 n2, k5, k6, hh, rf_27_2, g1, m_33 ho hpA zFm_31 hne ho31, g3, g4, c1, c2]
            rfl
          · rw [g2 o (fun h => ho31 h.symm), hw]
            simp [bop, hz, hy, hh]
          · intro _
            rw [cf_wFc fCan_div]
            simp [bop, hz, hy, hh]
          · refine ⟨fun a _ h => g2 a h, fun a x1 x2 x3 x4 => ?_⟩
            rw [wF_ro (by omega)]
            exact g5 a x3 x4
      · exact fin_w (F := fLea e1.2 (flow e1.2) (fhigh e1.2) e2.2 (flow e2.2) (fhigh e2.2)) (by simp (disch := (first | with_reducible exact is_27 | with_reducible exact zi_at is_27 (by omega) (by omega) | with_reducible exact (zFm_is hp) | with_reducible exact zi_at (zFm_is hp) (by omega) (by omega) | with_reducible exact (zFm_is hq) | with_reducible exact zi_at (zFm_is hq) (by omega) (by omega) | with_reducible exact (zFm_is ho) | with_reducible exact zi_at (zFm_is ho) (by omega) (by omega) | ((with_reducible refine zct_le ?_) <;> exact Nat.le_of_ble_eq_true rfl) | with_reducible exact zh_0 | with_reducible exact zh_1 | with_reducible exact zh_b | omega)) only [e_51, q_51_0r, q_51_0n, q_51_1, q_51_4, q_51_7r, q_51_7n, q_51_8, q_51_11, q_51_14r, q_51_14n, q_51_16r, q_51_16n, q_51_17, q_51_20, q_51_23r, q_51_23n, q_51_24, q_51_27, q_51_30r, q_51_30n, q_51_31, q_51_34, q_51_37, q_51_38, q_51_39, q_51_92r, q_51_92n, q_51_94r, q_51_94n, q_51_95r, q_51_95n, q_51_96, q_51_99, q_51_102r, q_51_102n, q_51_104r, q_51_104n, q_51_105r, q_51_105n, q_51_106, q_51_109, q_51_112r, q_51_112n, q_51_114r, q_51_114n, q_51_115r, q_51_115n, q_51_116, q_51_119, q_51_122r, q_51_122n, q_51_123, q_51_126, q_51_129r, q_51_129n, q_51_131, q_51_132, q_51_135, q_51_138r, q_51_138n, q_51_139, q_51_142r, q_51_142n, q_51_143, q_51_146r, q_51_146n, q_51_147, q_51_150, q_51_153r, q_51_153n, q_51_155r, q_51_155n, q_51_156r, q_51_156n, q_51_157, q_51_160, q_51_163, q_51_166r, q_51_166n, q_51_168r, q_51_168n, q_51_169r, q_51_169n, q_51_170, q_51_173, q_51_176r, q_51_176n, q_51_178r, q_51_178n, q_51_179r, q_51_179n, q_51_180, q_51_183, vf_s, vf_n, zk2_none, zk2_int, zk2_ref, zk2_null, zk2_long, zct_nil, zct_i, zct_l, zct_r, zct_n, Option.bind_some, Option.toList_some, Option.toList_none, List.cons_append, List.nil_append, zor_l, zor_r, if_true, if_false, ↓reduceIte, zi_lit, zi_of, zi_add, zi_mul, zi_sub, zi_nat, zi_leT, zi_leF, zi_ltT, zi_ltF, zi_eqT, zi_eqF, zif_0z, zif_bz, zi_01l, zi_01r, not_true_eq_false, not_false_eq_true, Nat.reduceAdd, Nat.reduceMul, Nat.reduceSub, h1, k1, m_38 ho hp hq hne hne2 hpo hqo, h3, h5, h6, k3, k5, k6]) (fCan_lea (h3 ▸ fCan_cf) (k3 ▸ fCan_cf)) (by simp [bop, hz, hy]) hw
      · exact fin_w (F := fGre e1.2 (flow e1.2) (fhigh e1.2) e2.2 (flow e2.2) (fhigh e2.2)) (by simp (disch := (first | with_reducible exact is_27 | with_reducible exact zi_at is_27 (by omega) (by omega) | with_reducible exact (zFm_is hp) | with_reducible exact zi_at (zFm_is hp) (by omega) (by omega) | with_reducible exact (zFm_is hq) | with_reducible exact zi_at (zFm_is hq) (by omega) (by omega) | with_reducible exact (zFm_is ho) | with_reducible exact zi_at (zFm_is ho) (by omega) (by omega) | ((with_reducible refine zct_le ?_) <;> exact Nat.le_of_ble_eq_true rfl) | with_reducible exact zh_0 | with_reducible exact zh_1 | with_reducible exact zh_b | omega)) only [e_51, q_51_0r, q_51_0n, q_51_1, q_51_4, q_51_7r, q_51_7n, q_51_8, q_51_11, q_51_14r, q_51_14n, q_51_16r, q_51_16n, q_51_17, q_51_20, q_51_23r, q_51_23n, q_51_24, q_51_27, q_51_30r, q_51_30n, q_51_31, q_51_34, q_51_37, q_51_38, q_51_39, q_51_92r, q_51_92n, q_51_94r, q_51_94n, q_51_95r, q_51_95n, q_51_96, q_51_99, q_51_102r, q_51_102n, q_51_104r, q_51_104n, q_51_105r, q_51_105n, q_51_106, q_51_109, q_51_112r, q_51_112n, q_51_114r, q_51_114n, q_51_115r, q_51_115n, q_51_116, q_51_119, q_51_122r, q_51_122n, q_51_123, q_51_126, q_51_129r, q_51_129n, q_51_131, q_51_132, q_51_135, q_51_138r, q_51_138n, q_51_139, q_51_142r, q_51_142n, q_51_143, q_51_146r, q_51_146n, q_51_147, q_51_150, q_51_153r, q_51_153n, q_51_155r, q_51_155n, q_51_156r, q_51_156n, q_51_157, q_51_160, q_51_163, q_51_166r, q_51_166n, q_51_168r, q_51_168n, q_51_169r, q_51_169n, q_51_170, q_51_173, q_51_176r, q_51_176n, q_51_178r, q_51_178n, q_51_179r, q_51_179n, q_51_180, q_51_183, vf_s, vf_n, zk2_none, zk2_int, zk2_ref, zk2_null, zk2_long, zct_nil, zct_i, zct_l, zct_r, zct_n, Option.bind_some, Option.toList_some, Option.toList_none, List.cons_append, List.nil_append, zor_l, zor_r, if_true, if_false, ↓reduceIte, zi_lit, zi_of, zi_add, zi_mul, zi_sub, zi_nat, zi_leT, zi_leF, zi_ltT, zi_ltF, zi_eqT, zi_eqF, zif_0z, zif_bz, zi_01l, zi_01r, not_true_eq_false, not_false_eq_true, Nat.reduceAdd, Nat.reduceMul, Nat.reduceSub, h1, k1, m_39 ho hp hq hne hne2 hpo hqo, h3, h5, h6, k3, k5, k6]) (fCan_gre (h3 ▸ fCan_cf) (k3 ▸ fCan_cf)) (by simp [bop, hz, hy]) hw
    · have hy' : ¬ mi q 0 = zi 0 := by rw [k1]; exact hy
      exact fin_i (x := mi q 0) (by simp (disch := (first | with_reducible exact is_27 | with_reducible exact zi_at is_27 (by omega) (by omega) | with_reducible exact (zFm_is hp) | with_reducible exact zi_at (zFm_is hp) (by omega) (by omega) | with_reducible exact (zFm_is hq) | with_reducible exact zi_at (zFm_is hq) (by omega) (by omega) | with_reducible exact (zFm_is ho) | with_reducible exact zi_at (zFm_is ho) (by omega) (by omega) | ((with_reducible refine zct_le ?_) <;> exact Nat.le_of_ble_eq_true rfl) | with_reducible exact zh_0 | with_reducible exact zh_1 | with_reducible exact zh_b | omega)) only [e_51, q_51_0r, q_51_0n, q_51_1, q_51_4, q_51_7r, q_51_7n, q_51_8, q_51_11, q_51_14r, q_51_14n, q_51_16r, q_51_16n, q_51_17, q_51_20, q_51_23r, q_51_23n, q_51_24, q_51_27, q_51_30r, q_51_30n, q_51_31, q_51_34, q_51_37, q_51_38, q_51_39, q_51_92r, q_51_92n, q_51_94r, q_51_94n, q_51_95r, q_51_95n, q_51_96, q_51_99, q_51_102r, q_51_102n, q_51_104r, q_51_104n, q_51_105r, q_51_105n, q_51_106, q_51_109, q_51_112r, q_51_112n, q_51_114r, q_51_114n, q_51_115r, q_51_115n, q_51_116, q_51_119, q_51_122r, q_51_122n, q_51_123, q_51_126, q_51_129r, q_51_129n, q_51_131, q_51_132, q_51_135, q_51_138r, q_51_138n, q_51_139, q_51_142r, q_51_142n, q_51_143, q_51_146r, q_51_146n, q_51_147, q_51_150, q_51_153r, q_51_153n, q_51_155r, q_51_155n, q_51_156r, q_51_156n, q_51_157, q_51_160, q_51_163, q_51_166r, q_51_166n, q_51_168r, q_51_168n, q_51_169r, q_51_169n, q_51_170, q_51_173, q_51_176r, q_51_176n, q_51_178r, q_51_178n, q_51_179r, q_51_179n, q_51_180, q_51_183, vf_s, vf_n, zk2_none, zk2_int, zk2_ref, zk2_null, zk2_long, zct_nil, zct_i, zct_l, zct_r, zct_n, Option.bind_some, Option.toList_some, Option.toList_none, List.cons_append, List.nil_append, zor_l, zor_r, if_true, if_false, ↓reduceIte, zi_lit, zi_of, zi_add, zi_mul, zi_sub, zi_nat, zi_leT, zi_leF, zi_ltT, zi_ltF, zi_eqT, zi_eqF, zif_0z, zif_bz, zi_01l, zi_01r, not_true_eq_false, not_false_eq_true, Nat.reduceAdd, Nat.reduceMul, Nat.reduceSub, h1, hy', m_19 ho]) (by simp [bop, hz, hy, k1]) hy'
  · have hz' : ¬ mi p 0 = zi 0 := by rw [h1]; exact hz
    exact fin_i (x := mi p 0) (by simp (disch := (first | with_reducible exact is_27 | with_reducible exact zi_at is_27 (by omega) (by omega) | with_reducible exact (zFm_is hp) | with_reducible exact zi_at (zFm_is hp) (by omega) (by omega) | with_reducible exact (zFm_is hq) | with_reducible exact zi_at (zFm_is hq) (by omega) (by omega) | with_reducible exact (zFm_is ho) | with_reducible exact zi_at (zFm_is ho) (by omega) (by omega) | ((with_reducible refine zct_le ?_) <;> exact Nat.le_of_ble_eq_true rfl) | with_reducible exact zh_0 | with_reducible exact zh_1 | with_reducible exact zh_b | omega)) only [e_51, q_51_0r, q_51_0n, q_51_1, q_51_4, q_51_7r, q_51_7n, q_51_8, q_51_11, q_51_14r, q_51_14n, q_51_16r, q_51_16n, q_51_17, q_51_20, q_51_23r, q_51_23n, q_51_24, q_51_27, q_51_30r, q_51_30n, q_51_31, q_51_34, q_51_37, q_51_38, q_51_39, q_51_92r, q_51_92n, q_51_94r, q_51_94n, q_51_95r, q_51_95n, q_51_96, q_51_99, q_51_102r, q_51_102n, q_51_104r, q_51_104n, q_51_105r, q_51_105n, q_51_106, q_51_109, q_51_112r, q_51_112n, q_51_114r, q_51_114n, q_51_115r, q_51_115n, q_51_116, q_51_119, q_51_122r, q_51_122n, q_51_123, q_51_126, q_51_129r, q_51_129n, q_51_131, q_51_132, q_51_135, q_51_138r, q_51_138n, q_51_139, q_51_142r, q_51_142n, q_51_143, q_51_146r, q_51_146n, q_51_147, q_51_150, q_51_153r, q_51_153n, q_51_155r, q_51_155n, q_51_156r, q_51_156n, q_51_157, q_51_160, q_51_163, q_51_166r, q_51_166n, q_51_168r, q_51_168n, q_51_169r, q_51_169n, q_51_170, q_51_173, q_51_176r, q_51_176n, q_51_178r, q_51_178n, q_51_179r, q_51_179n, q_51_180, q_51_183, vf_s, vf_n, zk2_none, zk2_int, zk2_ref, zk2_null, zk2_long, zct_nil, zct_i, zct_l, zct_r, zct_n, Option.bind_some, Option.toList_some, Option.toList_none, List.cons_append, List.nil_append, zor_l, zor_r, if_true, if_false, ↓reduceIte, zi_lit, zi_of, zi_add, zi_mul, zi_sub, zi_nat, zi_leT, zi_leF, zi_ltT, zi_ltF, zi_eqT, zi_eqF, zif_0z, zif_bz, zi_01l, zi_01r, not_true_eq_false, not_false_eq_true, Nat.reduceAdd, Nat.reduceMul, Nat.reduceSub, hz', m_19 ho]) (by simp [bop, hz, h1]) hz'
end
/-! the stack -/
def gOk (g : Nat → Nat) : Prop := ∀ i, i ≤ 32 → zFm (g i) ∧ ¬ g i = 31 ∧ ∀ j, j ≤ 32 → ¬ i = j → ¬ g i = g j
def cS (mi : zI) (mj : zJ) (g : Nat → Nat) (d : Nat) (E : Nat → En) : Prop := ∀ i, i < d → cE mi mj (g i) (E i)
def wt (e : En) (s : Nat) : Int64 := if e.1 = zi 0 then zabs (e.2 (s + 1)) else 0
def wsm (E : Nat → En) (s : Nat) : Nat → Int64
  | 0 => 0
  | i + 1 => wsm E s i + wt (E i) s
def chs (W : Nat → Int64) : Nat → Nat
  | 0 => 4
  | n + 1 => if W (5 + n) < W (chs W n) then 5 + n else chs W n
theorem chs_lt (W : Nat → Int64) (n : Nat) : chs W n < 5 + n := by
  induction n with
  | zero => exact Nat.lt_succ_self 4
  | succ n ih => rw [chs]; split <;> omega
def cdE (e : En) (s : Nat) : En := (e.1, fCd e.2 (wt e s) s)
def nmE (e : En) (s : Nat) : En := (e.1, fNm e.2 s)
/-- the last form's loose part gets a symbol -/
def nmS (E : Nat → En) (d u : Nat) : Nat → En := fun i => if i = d - 1 then nmE (cdE (E i) (chs (fun s => wsm E s d) (u - 1))) (chs (fun s => wsm E s d) (u - 1)) else cdE (E i) (chs (fun s => wsm E s d) (u - 1))
theorem wt_cE {mi : zI} {mj : zJ} {o s : Nat} {e : En} (h : cE mi mj o e) (hs : s < 12) : (if mi o 0 = zi 0 then zabs (mj (o + 1) s) else 0) = wt e s := by
  unfold wt
  rw [h.1]
  by_cases hz : e.1 = zi 0
  · rw [if_pos hz, if_pos hz, ← (h.2 hz).1, cf_c hs]
  · rw [if_neg hz, if_neg hz]
theorem i64_ac (a b c : Int64) : a + b + c = a + c + b := by rw [Int64.add_assoc, Int64.add_comm b c, ← Int64.add_assoc]
theorem zabs_0 : zabs 0 = 0 := by decide
theorem frad_cd {F : FF} {w : Int64} {s : Nat} (hs : s < 12) (n : Nat) (hn : n ≤ 12) : frad (fCd F w s) n = if s < n then frad F n + w - zabs (F (s + 1)) else frad F n + w := by
  induction n with
  | zero => rfl
  | succ n ih =>
    rw [frad, frad, ih (by omega)]
    have e : fCd F w s (n + 1) = if n = s then 0 else F (n + 1) := fMk_c (by omega)
    rw [e]
    by_cases h1 : n = s
    · subst h1
      rw [if_pos rfl, if_neg (by omega), if_pos (by omega), zabs_0, Int64.add_zero, i64_ac, Int64.add_sub_cancel]
    · rw [if_neg h1]
      by_cases h2 : s < n
      · rw [if_pos h2, if_pos (by omega), Int64.sub_eq_add_neg, Int64.sub_eq_add_neg, i64_ac, i64_ac (frad F n)]
      · rw [if_neg h2, if_neg (by omega), i64_ac]
theorem frad_cdE {e : En} {s : Nat} (hs : s < 12) (hz : e.1 = zi 0) : frad (cdE e s).2 12 = frad e.2 12 := by
  show frad (fCd e.2 (wt e s) s) 12 = _
  rw [frad_cd hs 12 (by omega), if_pos hs, wt, if_pos hz, Int64.add_sub_cancel]
theorem frad_nm {F : FF} {s : Nat} (hs : s < 12) (h0 : F (s + 1) = 0) (hp : 0 ≤ F 13) (n : Nat) (hn : n ≤ 12) : frad (fNm F s) n = if s < n then frad F n else frad F n - F 13 := by
  induction n with
  | zero => simp [frad, fNm, fMk_13]
  | succ n ih =>
    rw [frad, frad, ih (by omega)]
    have e : fNm F s (n + 1) = if n = s then F 13 else F (n + 1) := fMk_c (by omega)
    rw [e]
    have ha : zabs (F 13) = F 13 := if_pos hp
    by_cases h1 : n = s
    · subst h1
      rw [if_pos rfl, if_neg (by omega), if_pos (by omega), ha, h0, zabs_0, Int64.add_zero, Int64.sub_add_cancel]
    · rw [if_neg h1]
      by_cases h2 : s < n
      · rw [if_pos h2, if_pos (by omega)]
      · rw [if_neg h2, if_neg (by omega), Int64.sub_eq_add_neg, Int64.sub_eq_add_neg, i64_ac]
theorem cE_cd {mi : zI} {mj mj' : zJ} {o s : Nat} {e : En} (hs : s < 12) (h : cE mi mj o e) (hc : cf mj' o = fCd (cf mj o) (wt e s) s) (h6 : mj' o 6 = mj o 6) (h7 : mj' o 7 = mj o 7) (h8 : mj' o 8 = mj o 8) : cE mi mj' o (cdE e s) := by
  refine ⟨h.1, fun hz => ?_⟩
  have hz : e.1 = zi 0 := hz
  obtain ⟨a1, a2, a3, a4⟩ := h.2 hz
  have hr := frad_cdE hs hz
  have h0 : (cdE e s).2 0 = e.2 0 := rfl
  have h14 : (cdE e s).2 14 = e.2 14 := rfl
  have h15 : (cdE e s).2 15 = e.2 15 := rfl
  refine ⟨by rw [hc, a1]; rfl, by rw [h6, a2, hr], by rw [h7, a3, flow, flow, hr, h0, h14], by rw [h8, a4, fhigh, fhigh, hr, h0, h15]⟩
theorem cE_nm {mi : zI} {mj mj' : zJ} {o s : Nat} {e : En} (hs : s < 12) (h : cE mi mj o e) (h0 : e.1 = zi 0 → e.2 (s + 1) = 0) (hp : e.1 = zi 0 → 0 ≤ e.2 13) (hc : cf mj' o = fNm (cf mj o) s) (h6 : mj' o 6 = mj o 6) (h7 : mj' o 7 = mj o 7) (h8 : mj' o 8 = mj o 8) : cE mi mj' o (nmE e s) := by
  refine ⟨h.1, fun hz => ?_⟩
  have hz : e.1 = zi 0 := hz
  obtain ⟨a1, a2, a3, a4⟩ := h.2 hz
  have hr : frad (nmE e s).2 12 = frad e.2 12 := by
    show frad (fNm e.2 s) 12 = _
    rw [frad_nm hs (h0 hz) (hp hz) 12 (by omega), if_pos hs]
  have h0 : (nmE e s).2 0 = e.2 0 := rfl
  have h14 : (nmE e s).2 14 = e.2 14 := rfl
  have h15 : (nmE e s).2 15 = e.2 15 := rfl
  refine ⟨by rw [hc, a1]; rfl, by rw [h6, a2, hr], by rw [h7, a3, flow, flow, hr, h0, h14], by rw [h8, a4, fhigh, fhigh, hr, h0, h15]⟩
section
variable {Ls : Nat} {g : Nat → Nat} {mi : zI} {mj : zJ} {x y z : Int32} {o p q k n d s b : Nat} {u v w : Int64} {e e1 e2 : En} {E : Nat → En}
theorem m_47 (hd : mi 27 3 = zi d) (h1 : 1 ≤ d) (h2 : d ≤ 32) : zCall 47 [.ref 27] (SH Ls) mi mj (RF g) = some (some (.ref (g (d - 1))), SH Ls, mi, mj, RF g) := by
  simp (disch := (first | with_reducible exact is_27 | with_reducible exact zi_at is_27 (by omega) (by omega) | with_reducible exact is_28 | with_reducible exact zi_at is_28 (by omega) (by omega) | ((with_reducible refine zct_le ?_) <;> exact Nat.le_of_ble_eq_true rfl) | with_reducible exact zh_0 | with_reducible exact zh_1 | with_reducible exact zh_b | omega)) only [e_47, q_47_0r, q_47_0n, q_47_1, q_47_4, q_47_7r, q_47_7n, q_47_8, q_47_11r, q_47_11n, q_47_12, q_47_15, q_47_16, q_47_17t7, q_47_17t10, q_47_17t11, q_47_18, q_47_21r, q_47_21n, q_47_22, q_47_25r, q_47_25n, vf_s, vf_n, zk2_none, zk2_int, zk2_ref, zk2_null, zk2_long, zct_nil, zct_i, zct_l, zct_r, zct_n, Option.bind_some, Option.toList_some, Option.toList_none, List.cons_append, List.nil_append, zor_l, zor_r, if_true, if_false, ↓reduceIte, zi_lit, zi_of, zi_add, zi_mul, zi_sub, zi_nat, zi_leT, zi_leF, zi_ltT, zi_ltF, zi_eqT, zi_eqF, zif_0z, zif_bz, zi_01l, zi_01r, not_true_eq_false, not_false_eq_true, Nat.reduceAdd, Nat.reduceMul, Nat.reduceSub, hd, rf_27_0, rf_fo]
theorem l_53 (hg : gOk g) (hs : s < 12) (hS : cS mi mj g d E) (hd : mi 27 3 = zi d) (h2 : d ≤ 32) (n : Nat) : ∀ i, i + n = d → zRun 53 5 [some (.ref 27), some (.int (zi s)), some (.long (wsm E s i)), none, some (.int (zi i))] [] (SH Ls) mi mj (RF g) = some (some (.long (wsm E s d)), SH Ls, mi, mj, RF g) := by
  induction n with
  | zero =>
    intro i hi
    obtain rfl : i = d := by omega
    rw [q_53_5]
    simp (disch := (first | with_reducible exact is_27 | with_reducible exact zi_at is_27 (by omega) (by omega) | with_reducible exact is_28 | with_reducible exact zi_at is_28 (by omega) (by omega) | ((with_reducible refine zct_le ?_) <;> exact Nat.le_of_ble_eq_true rfl) | with_reducible exact zh_0 | with_reducible exact zh_1 | with_reducible exact zh_b | omega)) only [q_53_7r, q_53_7n, q_53_8, q_53_11, q_53_14, q_53_15r, q_53_15n, q_53_16, q_53_19, q_53_21t7, q_53_21t10, q_53_21t11, q_53_22, q_53_23, q_53_26, q_53_27, q_53_28, q_53_31, q_53_34, q_53_35, vf_s, vf_n, zk2_none, zk2_int, zk2_ref, zk2_null, zk2_long, zct_nil, zct_i, zct_l, zct_r, zct_n, Option.bind_some, Option.toList_some, Option.toList_none, List.cons_append, List.nil_append, zor_l, zor_r, if_true, if_false, ↓reduceIte, zi_lit, zi_of, zi_add, zi_mul, zi_sub, zi_nat, zi_leT, zi_leF, zi_ltT, zi_ltF, zi_eqT, zi_eqF, zif_0z, zif_bz, zi_01l, zi_01r, not_true_eq_false, not_false_eq_true, Nat.reduceAdd, Nat.reduceMul, Nat.reduceSub, hd]
  | succ n ih =>
    intro i hi
    have hgi := (hg i (by omega)).1
    rw [q_53_5]
    simp (disch := (first | with_reducible exact is_27 | with_reducible exact zi_at is_27 (by omega) (by omega) | with_reducible exact is_28 | with_reducible exact zi_at is_28 (by omega) (by omega) | with_reducible exact (zFm_is hgi) | with_reducible exact zi_at (zFm_is hgi) (by omega) (by omega) | ((with_reducible refine zct_le ?_) <;> exact Nat.le_of_ble_eq_true rfl) | with_reducible exact zh_0 | with_reducible exact zh_1 | with_reducible exact zh_b | omega)) only [q_53_7r, q_53_7n, q_53_8, q_53_11, q_53_14, q_53_15r, q_53_15n, q_53_16, q_53_19, q_53_21t7, q_53_21t10, q_53_21t11, q_53_22, q_53_23, q_53_26, q_53_27, q_53_28, q_53_31, q_53_34, q_53_35, vf_s, vf_n, zk2_none, zk2_int, zk2_ref, zk2_null, zk2_long, zct_nil, zct_i, zct_l, zct_r, zct_n, Option.bind_some, Option.toList_some, Option.toList_none, List.cons_append, List.nil_append, zor_l, zor_r, if_true, if_false, ↓reduceIte, zi_lit, zi_of, zi_add, zi_mul, zi_sub, zi_nat, zi_leT, zi_leF, zi_ltT, zi_ltF, zi_eqT, zi_eqF, zif_0z, zif_bz, zi_01l, zi_01r, not_true_eq_false, not_false_eq_true, Nat.reduceAdd, Nat.reduceMul, Nat.reduceSub, hd, rf_27_0, rf_fo, m_23 hgi hs, wt_cE (hS i (by omega)) hs]
    exact ih (i + 1) (by omega)
theorem m_53 (hg : gOk g) (hs : s < 12) (hS : cS mi mj g d E) (hd : mi 27 3 = zi d) (h2 : d ≤ 32) : zCall 53 [.ref 27, .int (zi s)] (SH Ls) mi mj (RF g) = some (some (.long (wsm E s d)), SH Ls, mi, mj, RF g) := by
  simp (disch := (first | with_reducible exact is_27 | with_reducible exact zi_at is_27 (by omega) (by omega) | with_reducible exact is_28 | with_reducible exact zi_at is_28 (by omega) (by omega) | ((with_reducible refine zct_le ?_) <;> exact Nat.le_of_ble_eq_true rfl) | with_reducible exact zh_0 | with_reducible exact zh_1 | with_reducible exact zh_b | omega)) only [e_53, q_53_0, q_53_1, q_53_2, q_53_3, vf_s, vf_n, zk2_none, zk2_int, zk2_ref, zk2_null, zk2_long, zct_nil, zct_i, zct_l, zct_r, zct_n, Option.bind_some, Option.toList_some, Option.toList_none, List.cons_append, List.nil_append, zor_l, zor_r, if_true, if_false, ↓reduceIte, zi_lit, zi_of, zi_add, zi_mul, zi_sub, zi_nat, zi_leT, zi_leF, zi_ltT, zi_ltF, zi_eqT, zi_eqF, zif_0z, zif_bz, zi_01l, zi_01r, not_true_eq_false, not_false_eq_true, Nat.reduceAdd, Nat.reduceMul, Nat.reduceSub]
  exact l_53 hg hs hS hd h2 d 0 (by omega)
end
