/-! ===== the forms of the model (4): operations ===== -/
def mE (mj : zJ) (f : Nat) (e : En) : Prop := (e.1 = zi 0 → mOk mj f e.2) ∧ (¬ e.1 = zi 0 → mWi mj f)
def rsn (r : Int32) (e : En) : Int32 := if e.1 = zi 0 then r else if r = zi 0 then e.1 else r
theorem mE.fr {mj mj' : zJ} {f x : Nat} {e : En} (h : mE mj f e) (hf : f < x) (fr : FrR x mj mj') : mE mj' f e := ⟨fun hz => (h.1 hz).fr hf fr, fun hz => (h.2 hz).fr hf fr⟩
theorem mE.ok {mj : zJ} {f : Nat} {F : FF} (h : mOk mj f F) : mE mj f (zi 0, F) := ⟨fun _ => h, fun q => absurd rfl q⟩
theorem mE.wi {mj : zJ} {f : Nat} {i : Int32} {F : FF} (h : mWi mj f) (hi : ¬ i = zi 0) : mE mj f (i, F) := ⟨fun q => absurd q hi, fun _ => h⟩
theorem rsn_0 {mi : zI} {F : FF} : zup mi 148 12 (rsn (mi 148 12) (zi 0, F)) = mi := zup_id (if_pos rfl)
theorem rsn_w {r i : Int32} {F : FF} (hi : ¬ i = zi 0) : rsn r (i, F) = if r = zi 0 then i else r := if_neg hi
section
variable {Ls : Nat} {g : Nat → Nat} {mi : zI} {mj : zJ} {i1 i2 : Int32} {f o p q k n d s b x y u : Nat} {v w r0 : Int64} {Z : Option zRes} {F G X Y : FF} {e e1 e2 : En} {E : Nat → En}
/-- what an operation of the model gives -/
def mRes (Ls : Nat) (g : Nat → Nat) (mi : zI) (mj : zJ) (x : Nat) (e : En) (R : Option zRes) : Prop := ∃ mj', R = some (none, SH Ls, zup mi 148 12 (rsn (mi 148 12) e), mj', RF g) ∧ mE mj' x e ∧ FrR x mj mj'
theorem mRes.ok {R : Option zRes} (h : ∃ mj', R = some (none, SH Ls, mi, mj', RF g) ∧ mOk mj' x F ∧ FrR x mj mj') (he : e = (zi 0, F)) : mRes Ls g mi mj x e R := by
  obtain ⟨mj', h1, h2, h3⟩ := h
  subst he
  exact ⟨mj', by rw [rsn_0]; exact h1, mE.ok h2, h3⟩
theorem mRes.wi {R : Option zRes} {i : Int32} (h : ∃ mj', R = some (none, SH Ls, zup mi 148 12 (if mi 148 12 = zi 0 then i else mi 148 12), mj', RF g) ∧ mWi mj' x ∧ FrR x mj mj') (he : e.1 = i) (hi : ¬ i = zi 0) : mRes Ls g mi mj x e R := by
  obtain ⟨mj', h1, h2, h3⟩ := h
  have hz : ¬ e.1 = zi 0 := by rw [he]; exact hi
  refine ⟨mj', ?_, ⟨fun q => absurd q hz, fun _ => h2⟩, h3⟩
  rw [show rsn (mi 148 12) e = if mi 148 12 = zi 0 then i else mi 148 12 by unfold rsn; rw [if_neg hz, he]]
  exact h1
theorem k65536 : (65536 : Int64) = 65536 := rfl
theorem m_155 (hx : x < 100) (hy : y < 100) (hne : x < y) (hX : mOk mj x X) (hY : mOk mj y Y) (bX : fBd X) (hl : flow Y ≤ fhigh Y) (hr : ¬ (flow Y ≤ 0 ∧ 0 ≤ fhigh Y) → fBd (fRec (flow Y) (fhigh Y))) : mRes Ls g mi mj x (if flow Y ≤ 0 ∧ 0 ≤ fhigh Y then (zi 1, X) else (zi 0, fDiv X Y)) (zCall 155 [.ref 148, .int (zi x), .int (zi y)] (SH Ls) mi mj (RF g)) := by
  have hX' := hX
  obtain ⟨rfl, y2⟩ := hY
  by_cases c : flow (rf mj y) ≤ 0 ∧ 0 ≤ fhigh (rf mj y)
  · rw [if_pos c]
    obtain ⟨mj', r1, r2, r3⟩ := m_144 (Ls := Ls) (g := g) (mi := mi) (mj := mj) (i1 := zi 1) hx
    refine mRes.wi (i := zi 1) ⟨mj', ?_, r2, r3⟩ rfl (by decide)
    have c1 : ¬ 0 < flow (rf mj y) := lg_le_not_lt c.1
    have c2 : ¬ fhigh (rf mj y) < 0 := lg_le_not_lt c.2
    simp (disch := (first | with_reducible exact is_148 | with_reducible exact zi_at is_148 (by omega) (by omega) | ((with_reducible refine zct_le ?_) <;> exact Nat.le_of_ble_eq_true rfl) | with_reducible exact zh_0 | with_reducible exact zh_1 | with_reducible exact zh_b | omega)) only [e_155, q_155_0r, q_155_0n, q_155_1, q_155_2, q_155_5, q_155_6r, q_155_6n, q_155_7, q_155_8, q_155_11, q_155_13, q_155_14, q_155_15, q_155_16, q_155_19, q_155_21, q_155_22, q_155_23, q_155_26r, q_155_26n, q_155_27, q_155_28, q_155_29, q_155_32, q_155_33r, q_155_33n, q_155_34, q_155_35, q_155_38, q_155_40, q_155_43, q_155_46, q_155_47, q_155_50, q_155_53r, q_155_53n, q_155_54, q_155_55, q_155_56, q_155_59, vf_s, vf_n, zk2_none, zk2_int, zk2_ref, zk2_null, zk2_long, zct_nil, zct_i, zct_l, zct_r, zct_n, Option.bind_some, Option.toList_some, Option.toList_none, List.cons_append, List.nil_append, zor_l, zor_r, if_true, if_false, ↓reduceIte, zi_lit, zi_of, zi_add, zi_mul, zi_sub, zi_nat, zi_leT, zi_leF, zi_ltT, zi_ltF, zi_eqT, zi_eqF, zif_0z, zif_bz, zi_01l, zi_01r, not_true_eq_false, not_false_eq_true, Nat.reduceAdd, Nat.reduceMul, Nat.reduceSub, m_139 hy, m_140 hy, c1, c2, r1]
  · rw [if_neg c]
    have n1 : ¬ flow (rf mj y) = 0 := fun h => by
      rw [h] at hl c
      exact c ⟨by decide, hl⟩
    have n2 : ¬ fhigh (rf mj y) = 0 := fun h => by
      rw [h] at hl c
      exact c ⟨hl, by decide⟩
    obtain ⟨mj1, r1, r2, r3⟩ := m_145 (Ls := Ls) (g := g) (mi := mi) (mj := mj) (u := zfdiv 65536 (fhigh (rf mj y))) (v := -(zfdiv (-65536) (flow (rf mj y)))) hy
    obtain ⟨mj2, q1, q2, q3⟩ := m_152 (Ls := Ls) (g := g) (mi := mi) hx hy hne (hX'.fr hne r3) r2 bX (hr c)
    refine mRes.ok (F := fDiv X (rf mj y)) ⟨mj2, ?_, q2, ?_⟩ rfl
    · by_cases c1 : 0 < flow (rf mj y)
      · simp (disch := (first | with_reducible exact is_148 | with_reducible exact zi_at is_148 (by omega) (by omega) | with_reducible exact n1 | with_reducible exact zi_at n1 (by omega) (by omega) | with_reducible exact n2 | with_reducible exact zi_at n2 (by omega) (by omega) | ((with_reducible refine zct_le ?_) <;> exact Nat.le_of_ble_eq_true rfl) | with_reducible exact zh_0 | with_reducible exact zh_1 | with_reducible exact zh_b | omega)) only [e_155, q_155_0r, q_155_0n, q_155_1, q_155_2, q_155_5, q_155_6r, q_155_6n, q_155_7, q_155_8, q_155_11, q_155_13, q_155_14, q_155_15, q_155_16, q_155_19, q_155_21, q_155_22, q_155_23, q_155_26r, q_155_26n, q_155_27, q_155_28, q_155_29, q_155_32, q_155_33r, q_155_33n, q_155_34, q_155_35, q_155_38, q_155_40, q_155_43, q_155_46, q_155_47, q_155_50, q_155_53r, q_155_53n, q_155_54, q_155_55, q_155_56, q_155_59, vf_s, vf_n, zk2_none, zk2_int, zk2_ref, zk2_null, zk2_long, zct_nil, zct_i, zct_l, zct_r, zct_n, Option.bind_some, Option.toList_some, Option.toList_none, List.cons_append, List.nil_append, zor_l, zor_r, if_true, if_false, ↓reduceIte, zi_lit, zi_of, zi_add, zi_mul, zi_sub, zi_nat, zi_leT, zi_leF, zi_ltT, zi_ltF, zi_eqT, zi_eqF, zif_0z, zif_bz, zi_01l, zi_01r, not_true_eq_false, not_false_eq_true, Nat.reduceAdd, Nat.reduceMul, Nat.reduceSub, m_139 hy, m_140 hy, c1, m_147, m_148, zcd_fd _ n1, r1, q1]
      · have c1' : flow (rf mj y) ≤ 0 := by rw [zj_le]; rw [zj_lt] at c1; omega
        have c2 : fhigh (rf mj y) < 0 := by
          rw [zj_lt]
          have : ¬ 0 ≤ fhigh (rf mj y) := fun h => c ⟨c1', h⟩
          rw [zj_le] at this
          omega
        simp (disch := (first | with_reducible exact is_148 | with_reducible exact zi_at is_148 (by omega) (by omega) | with_reducible exact n1 | with_reducible exact zi_at n1 (by omega) (by omega) | with_reducible exact n2 | with_reducible exact zi_at n2 (by omega) (by omega) | ((with_reducible refine zct_le ?_) <;> exact Nat.le_of_ble_eq_true rfl) | with_reducible exact zh_0 | with_reducible exact zh_1 | with_reducible exact zh_b | omega)) only [e_155, q_155_0r, q_155_0n, q_155_1, q_155_2, q_155_5, q_155_6r, q_155_6n, q_155_7, q_155_8, q_155_11, q_155_13, q_155_14, q_155_15, q_155_16, q_155_19, q_155_21, q_155_22, q_155_23, q_155_26r, q_155_26n, q_155_27, q_155_28, q_155_29, q_155_32, q_155_33r, q_155_33n, q_155_34, q_155_35, q_155_38, q_155_40, q_155_43, q_155_46, q_155_47, q_155_50, q_155_53r, q_155_53n, q_155_54, q_155_55, q_155_56, q_155_59, vf_s, vf_n, zk2_none, zk2_int, zk2_ref, zk2_null, zk2_long, zct_nil, zct_i, zct_l, zct_r, zct_n, Option.bind_some, Option.toList_some, Option.toList_none, List.cons_append, List.nil_append, zor_l, zor_r, if_true, if_false, ↓reduceIte, zi_lit, zi_of, zi_add, zi_mul, zi_sub, zi_nat, zi_leT, zi_leF, zi_ltT, zi_ltF, zi_eqT, zi_eqF, zif_0z, zif_bz, zi_01l, zi_01r, not_true_eq_false, not_false_eq_true, Nat.reduceAdd, Nat.reduceMul, Nat.reduceSub, m_139 hy, m_140 hy, c1, c2, m_147, m_148, zcd_fd _ n1, r1, q1]
    · exact ⟨fun a h => (q3.1 a h).trans (r3.1 a h), fun j hj => (q3.2 j hj).trans (r3.2 j (by omega))⟩
theorem m_156 (hx : x < 100) (hX : mOk mj x X) : ∃ mj', zCall 156 [.ref 148, .int (zi x)] (SH Ls) mi mj (RF g) = some (none, SH Ls, mi, mj', RF g) ∧ mOk mj' x (fAbs X (flow X) (fhigh X)) ∧ FrR x mj mj' := by
  have hX' := hX
  obtain ⟨rfl, x2⟩ := hX
  unfold fAbs
  by_cases c1 : 0 ≤ flow (rf mj x)
  · rw [if_pos c1]
    refine ⟨mj, ?_, hX', FrR.rf⟩
    simp (disch := (first | with_reducible exact is_148 | with_reducible exact zi_at is_148 (by omega) (by omega) | ((with_reducible refine zct_le ?_) <;> exact Nat.le_of_ble_eq_true rfl) | with_reducible exact zh_0 | with_reducible exact zh_1 | with_reducible exact zh_b | omega)) only [e_156, q_156_0r, q_156_0n, q_156_1, q_156_2, q_156_5, q_156_6r, q_156_6n, q_156_7, q_156_8, q_156_11, q_156_13, q_156_14, q_156_15, q_156_16, q_156_19, q_156_20, q_156_22, q_156_23, q_156_24, q_156_27r, q_156_27n, q_156_28, q_156_29, q_156_32, q_156_35r, q_156_35n, q_156_36, q_156_37, q_156_38, q_156_39, q_156_40, q_156_42, q_156_45, q_156_48, vf_s, vf_n, zk2_none, zk2_int, zk2_ref, zk2_null, zk2_long, zct_nil, zct_i, zct_l, zct_r, zct_n, Option.bind_some, Option.toList_some, Option.toList_none, List.cons_append, List.nil_append, zor_l, zor_r, if_true, if_false, ↓reduceIte, zi_lit, zi_of, zi_add, zi_mul, zi_sub, zi_nat, zi_leT, zi_leF, zi_ltT, zi_ltF, zi_eqT, zi_eqF, zif_0z, zif_bz, zi_01l, zi_01r, not_true_eq_false, not_false_eq_true, Nat.reduceAdd, Nat.reduceMul, Nat.reduceSub, m_139 hx, m_140 hx, lg_le_not_lt c1]
  · have c1' : flow (rf mj x) < 0 := by rw [zj_lt]; rw [zj_le] at c1; omega
    rw [if_neg c1]
    by_cases c2 : fhigh (rf mj x) ≤ 0
    · rw [if_pos c2]
      obtain ⟨mj', r1, r2, r3, r4⟩ := m_146 (Ls := Ls) (g := g) (mi := mi) (mj := mj) hx
      refine ⟨mj', ?_, ⟨r2, r3.trans x2⟩, r4⟩
      simp (disch := (first | with_reducible exact is_148 | with_reducible exact zi_at is_148 (by omega) (by omega) | ((with_reducible refine zct_le ?_) <;> exact Nat.le_of_ble_eq_true rfl) | with_reducible exact zh_0 | with_reducible exact zh_1 | with_reducible exact zh_b | omega)) only [e_156, q_156_0r, q_156_0n, q_156_1, q_156_2, q_156_5, q_156_6r, q_156_6n, q_156_7, q_156_8, q_156_11, q_156_13, q_156_14, q_156_15, q_156_16, q_156_19, q_156_20, q_156_22, q_156_23, q_156_24, q_156_27r, q_156_27n, q_156_28, q_156_29, q_156_32, q_156_35r, q_156_35n, q_156_36, q_156_37, q_156_38, q_156_39, q_156_40, q_156_42, q_156_45, q_156_48, vf_s, vf_n, zk2_none, zk2_int, zk2_ref, zk2_null, zk2_long, zct_nil, zct_i, zct_l, zct_r, zct_n, Option.bind_some, Option.toList_some, Option.toList_none, List.cons_append, List.nil_append, zor_l, zor_r, if_true, if_false, ↓reduceIte, zi_lit, zi_of, zi_add, zi_mul, zi_sub, zi_nat, zi_leT, zi_leF, zi_ltT, zi_ltF, zi_eqT, zi_eqF, zif_0z, zif_bz, zi_01l, zi_01r, not_true_eq_false, not_false_eq_true, Nat.reduceAdd, Nat.reduceMul, Nat.reduceSub, m_139 hx, m_140 hx, c1', lg_le_not_lt c2, r1]
    · rw [if_neg c2]
      have c2' : 0 < fhigh (rf mj x) := by rw [zj_lt]; rw [zj_le] at c2; omega
      obtain ⟨mj', r1, r2, r3⟩ := m_145 (Ls := Ls) (g := g) (mi := mi) (mj := mj) (u := 0) (v := zmax (-flow (rf mj x)) (fhigh (rf mj x))) hx
      refine ⟨mj', ?_, r2, r3⟩
      simp (disch := (first | with_reducible exact is_148 | with_reducible exact zi_at is_148 (by omega) (by omega) | ((with_reducible refine zct_le ?_) <;> exact Nat.le_of_ble_eq_true rfl) | with_reducible exact zh_0 | with_reducible exact zh_1 | with_reducible exact zh_b | omega)) only [e_156, q_156_0r, q_156_0n, q_156_1, q_156_2, q_156_5, q_156_6r, q_156_6n, q_156_7, q_156_8, q_156_11, q_156_13, q_156_14, q_156_15, q_156_16, q_156_19, q_156_20, q_156_22, q_156_23, q_156_24, q_156_27r, q_156_27n, q_156_28, q_156_29, q_156_32, q_156_35r, q_156_35n, q_156_36, q_156_37, q_156_38, q_156_39, q_156_40, q_156_42, q_156_45, q_156_48, vf_s, vf_n, zk2_none, zk2_int, zk2_ref, zk2_null, zk2_long, zct_nil, zct_i, zct_l, zct_r, zct_n, Option.bind_some, Option.toList_some, Option.toList_none, List.cons_append, List.nil_append, zor_l, zor_r, if_true, if_false, ↓reduceIte, zi_lit, zi_of, zi_add, zi_mul, zi_sub, zi_nat, zi_leT, zi_leF, zi_ltT, zi_ltF, zi_eqT, zi_eqF, zif_0z, zif_bz, zi_01l, zi_01r, not_true_eq_false, not_false_eq_true, Nat.reduceAdd, Nat.reduceMul, Nat.reduceSub, m_139 hx, m_140 hx, c1', c2', m_151, r1]
theorem fhigh_le {F : FF} : (fhigh F).toInt ≤ (F 15).toInt := by
  unfold fhigh zmin
  split
  · rename_i h; exact Int.le_refl _
  · rename_i h; rw [zj_lt] at h; omega
theorem le_flow {F : FF} : (F 14).toInt ≤ (flow F).toInt := by
  unfold flow zmax
  split
  · exact Int.le_refl _
  · rename_i h; rw [zj_lt] at h; omega
theorem m_157 (hx : x < 100) (hX : mOk mj x X) (bX : fOk X) : mRes Ls g mi mj x (if fhigh X < 0 then (zi 2, X) else (zi 0, fRoot (flow X) (fhigh X))) (zCall 157 [.ref 148, .int (zi x)] (SH Ls) mi mj (RF g)) := by
  obtain ⟨rfl, x2⟩ := hX
  have h1 := (bX.1 15 (by omega)).2
  have h2 := (bX.1 14 (by omega)).1
  have h3 := fhigh_le (F := rf mj x)
  have h4 := le_flow (F := rf mj x)
  have h5 := bX.2.2.2.2
  by_cases c : fhigh (rf mj x) < 0
  · rw [if_pos c]
    obtain ⟨mj', r1, r2, r3⟩ := m_144 (Ls := Ls) (g := g) (mi := mi) (mj := mj) (i1 := zi 2) hx
    refine mRes.wi (i := zi 2) ⟨mj', ?_, r2, r3⟩ rfl (by decide)
    simp (disch := (first | with_reducible exact is_148 | with_reducible exact zi_at is_148 (by omega) (by omega) | ((with_reducible refine zct_le ?_) <;> exact Nat.le_of_ble_eq_true rfl) | with_reducible exact zh_0 | with_reducible exact zh_1 | with_reducible exact zh_b | omega)) only [e_157, q_157_0r, q_157_0n, q_157_1, q_157_2, q_157_5, q_157_6r, q_157_6n, q_157_7, q_157_8, q_157_11, q_157_13, q_157_15, q_157_16, q_157_17, q_157_20r, q_157_20n, q_157_21, q_157_22, q_157_23, q_157_26, q_157_27, q_157_30, q_157_32, q_157_33, q_157_36, q_157_38r, q_157_38n, q_157_39, q_157_40, q_157_41, q_157_42, q_157_43, q_157_46, q_157_47, q_157_50, q_157_53, q_157_54, q_157_55, q_157_58, q_157_60, q_157_62, q_157_63, q_157_66, q_157_68, q_157_69, q_157_70, q_157_73, q_157_75, q_157_76, q_157_77, q_157_80, q_157_82, q_157_85, vf_s, vf_n, zk2_none, zk2_int, zk2_ref, zk2_null, zk2_long, zct_nil, zct_i, zct_l, zct_r, zct_n, Option.bind_some, Option.toList_some, Option.toList_none, List.cons_append, List.nil_append, zor_l, zor_r, if_true, if_false, ↓reduceIte, zi_lit, zi_of, zi_add, zi_mul, zi_sub, zi_nat, zi_leT, zi_leF, zi_ltT, zi_ltF, zi_eqT, zi_eqF, zif_0z, zif_bz, zi_01l, zi_01r, not_true_eq_false, not_false_eq_true, Nat.reduceAdd, Nat.reduceMul, Nat.reduceSub, m_139 hx, m_140 hx, lg_lt_not_le c, r1]
  · rw [if_neg c]
    have c' : 0 ≤ fhigh (rf mj x) := by rw [zj_le]; rw [zj_lt] at c; omega
    have e1 : (256 * fhigh (rf mj x)).toInt = 256 * (fhigh (rf mj x)).toInt := by rw [zj_mul (by rw [kj256]; omega) (by rw [kj256]; omega), kj256]
    have g1 : 0 ≤ (fhigh (rf mj x)).toInt := Kit.i64_nonneg.mp c'
    have t1 := m_154 (Ls := Ls) (g := g) (mi := mi) (mj := mj) (u := 256 * fhigh (rf mj x)) (by omega) (by omega)
    obtain ⟨mj', r1, r2, r3⟩ := m_145 (Ls := Ls) (g := g) (mi := mi) (mj := mj) (u := rtd (256 * zmax (flow (rf mj x)) 0) 20 0) (v := rtUp (256 * fhigh (rf mj x))) hx
    refine mRes.ok (F := fRoot (flow (rf mj x)) (fhigh (rf mj x))) ⟨mj', ?_, r2, r3⟩ rfl
    have fin2 : ∀ w : Int64, w = rtd (256 * zmax (flow (rf mj x)) 0) 20 0 → ∀ l0 l1 l2 l3 l5, zRun 157 58 [l0, some (.int (zi x)), l2, l3, some (.long (fhigh (rf mj x))), l5, some (.long (rtd (256 * fhigh (rf mj x)) 20 0)), l1] [.long w, .int (zi x), .ref 148] (SH Ls) mi mj (RF g) = some (none, SH Ls, mi, mj', RF g) := by
      intro w hw l0 l1 l2 l3 l5
      rw [← hw] at r1
      by_cases d : 256 * fhigh (rf mj x) ≤ rtd (256 * fhigh (rf mj x)) 20 0 * rtd (256 * fhigh (rf mj x)) 20 0
      · rw [show rtUp (256 * fhigh (rf mj x)) = rtd (256 * fhigh (rf mj x)) 20 0 from if_pos d] at r1
        simp (disch := (first | with_reducible exact is_148 | with_reducible exact zi_at is_148 (by omega) (by omega) | ((with_reducible refine zct_le ?_) <;> exact Nat.le_of_ble_eq_true rfl) | with_reducible exact zh_0 | with_reducible exact zh_1 | with_reducible exact zh_b | omega)) only [q_157_58, q_157_60, q_157_62, q_157_63, q_157_66, q_157_68, q_157_69, q_157_70, q_157_73, q_157_75, q_157_76, q_157_77, q_157_80, q_157_82, q_157_85, vf_s, vf_n, zk2_none, zk2_int, zk2_ref, zk2_null, zk2_long, zct_nil, zct_i, zct_l, zct_r, zct_n, Option.bind_some, Option.toList_some, Option.toList_none, List.cons_append, List.nil_append, zor_l, zor_r, if_true, if_false, ↓reduceIte, zi_lit, zi_of, zi_add, zi_mul, zi_sub, zi_nat, zi_leT, zi_leF, zi_ltT, zi_ltF, zi_eqT, zi_eqF, zif_0z, zif_bz, zi_01l, zi_01r, not_true_eq_false, not_false_eq_true, Nat.reduceAdd, Nat.reduceMul, Nat.reduceSub, d, r1]
      · rw [show rtUp (256 * fhigh (rf mj x)) = rtd (256 * fhigh (rf mj x)) 20 0 + 1 from if_neg d] at r1
        simp (disch := (first | with_reducible exact is_148 | with_reducible exact zi_at is_148 (by omega) (by omega) | ((with_reducible refine zct_le ?_) <;> exact Nat.le_of_ble_eq_true rfl) | with_reducible exact zh_0 | with_reducible exact zh_1 | with_reducible exact zh_b | omega)) only [q_157_58, q_157_60, q_157_62, q_157_63, q_157_66, q_157_68, q_157_69, q_157_70, q_157_73, q_157_75, q_157_76, q_157_77, q_157_80, q_157_82, q_157_85, vf_s, vf_n, zk2_none, zk2_int, zk2_ref, zk2_null, zk2_long, zct_nil, zct_i, zct_l, zct_r, zct_n, Option.bind_some, Option.toList_some, Option.toList_none, List.cons_append, List.nil_append, zor_l, zor_r, if_true, if_false, ↓reduceIte, zi_lit, zi_of, zi_add, zi_mul, zi_sub, zi_nat, zi_leT, zi_leF, zi_ltT, zi_ltF, zi_eqT, zi_eqF, zif_0z, zif_bz, zi_01l, zi_01r, not_true_eq_false, not_false_eq_true, Nat.reduceAdd, Nat.reduceMul, Nat.reduceSub, d, r1]
    by_cases d : 0 ≤ flow (rf mj x)
    · have g2 : 0 ≤ (flow (rf mj x)).toInt := Kit.i64_nonneg.mp d
      have e2 : (256 * flow (rf mj x)).toInt = 256 * (flow (rf mj x)).toInt := by rw [zj_mul (by rw [kj256]; omega) (by rw [kj256]; omega), kj256]
      have t2 := m_154 (Ls := Ls) (g := g) (mi := mi) (mj := mj) (u := 256 * flow (rf mj x)) (by omega) (by omega)
      simp (disch := (first | with_reducible exact is_148 | with_reducible exact zi_at is_148 (by omega) (by omega) | ((with_reducible refine zct_le ?_) <;> exact Nat.le_of_ble_eq_true rfl) | with_reducible exact zh_0 | with_reducible exact zh_1 | with_reducible exact zh_b | omega)) only [e_157, q_157_0r, q_157_0n, q_157_1, q_157_2, q_157_5, q_157_6r, q_157_6n, q_157_7, q_157_8, q_157_11, q_157_13, q_157_15, q_157_16, q_157_17, q_157_20r, q_157_20n, q_157_21, q_157_22, q_157_23, q_157_26, q_157_27, q_157_30, q_157_32, q_157_33, q_157_36, q_157_38r, q_157_38n, q_157_39, q_157_40, q_157_41, q_157_42, q_157_43, q_157_46, q_157_47, q_157_50, q_157_53, q_157_54, q_157_55, vf_s, vf_n, zk2_none, zk2_int, zk2_ref, zk2_null, zk2_long, zct_nil, zct_i, zct_l, zct_r, zct_n, Option.bind_some, Option.toList_some, Option.toList_none, List.cons_append, List.nil_append, zor_l, zor_r, if_true, if_false, ↓reduceIte, zi_lit, zi_of, zi_add, zi_mul, zi_sub, zi_nat, zi_leT, zi_leF, zi_ltT, zi_ltF, zi_eqT, zi_eqF, zif_0z, zif_bz, zi_01l, zi_01r, not_true_eq_false, not_false_eq_true, Nat.reduceAdd, Nat.reduceMul, Nat.reduceSub, m_139 hx, m_140 hx, c', t1, t2, d]
      refine fin2 _ ?_ _ _ _ _ _
      rw [show zmax (flow (rf mj x)) 0 = flow (rf mj x) from if_neg (lg_le_not_lt d)]
    · have d' : flow (rf mj x) < 0 := by rw [zj_lt]; rw [zj_le] at d; omega
      have t2 := m_154 (Ls := Ls) (g := g) (mi := mi) (mj := mj) (u := 0) (by decide) (by decide)
      simp (disch := (first | with_reducible exact is_148 | with_reducible exact zi_at is_148 (by omega) (by omega) | ((with_reducible refine zct_le ?_) <;> exact Nat.le_of_ble_eq_true rfl) | with_reducible exact zh_0 | with_reducible exact zh_1 | with_reducible exact zh_b | omega)) only [e_157, q_157_0r, q_157_0n, q_157_1, q_157_2, q_157_5, q_157_6r, q_157_6n, q_157_7, q_157_8, q_157_11, q_157_13, q_157_15, q_157_16, q_157_17, q_157_20r, q_157_20n, q_157_21, q_157_22, q_157_23, q_157_26, q_157_27, q_157_30, q_157_32, q_157_33, q_157_36, q_157_38r, q_157_38n, q_157_39, q_157_40, q_157_41, q_157_42, q_157_43, q_157_46, q_157_47, q_157_50, q_157_53, q_157_54, q_157_55, vf_s, vf_n, zk2_none, zk2_int, zk2_ref, zk2_null, zk2_long, zct_nil, zct_i, zct_l, zct_r, zct_n, Option.bind_some, Option.toList_some, Option.toList_none, List.cons_append, List.nil_append, zor_l, zor_r, if_true, if_false, ↓reduceIte, zi_lit, zi_of, zi_add, zi_mul, zi_sub, zi_nat, zi_leT, zi_leF, zi_ltT, zi_ltF, zi_eqT, zi_eqF, zif_0z, zif_bz, zi_01l, zi_01r, not_true_eq_false, not_false_eq_true, Nat.reduceAdd, Nat.reduceMul, Nat.reduceSub, m_139 hx, m_140 hx, c', t1, t2, d]
      refine fin2 _ ?_ _ _ _ _ _
      rw [show zmax (flow (rf mj x)) 0 = 0 from if_pos d', show (256 : Int64) * 0 = 0 from by decide]
theorem m_158 (hx : x < 100) (hy : y < 100) (hne : x < y) (hX : mOk mj x X) (hY : mOk mj y Y) (hb : n = 0 ∨ n = 1) : ∃ mj', zCall 158 [.ref 148, .int (zi x), .int (zi y), .int (zi n)] (SH Ls) mi mj (RF g) = some (none, SH Ls, mi, mj', RF g) ∧ mOk mj' x (if n = 1 then fLea X (flow X) (fhigh X) Y (flow Y) (fhigh Y) else fGre X (flow X) (fhigh X) Y (flow Y) (fhigh Y)) ∧ FrR x mj mj' := by
  have hX' := hX
  obtain ⟨rfl, x2⟩ := hX
  obtain ⟨rfl, y2⟩ := hY
  have hcopy : mOk (yfo mj 155 (17 * x) 17 fun k => mj 155 (17 * y + k)) x (rf mj y) := by
    refine ⟨?_, by rw [yfo_in (by omega)]; exact y2⟩
    refine rf_of ?_ (fun k hk => ?_) ?_ ?_ ?_
    · have := yfo_in (f := mj) (o := 155) (b := 17 * x) (k := 17) (h := fun k => mj 155 (17 * y + k)) (j := 0) (by omega)
      exact this
    · rw [Nat.add_assoc, yfo_in (by omega), Nat.add_assoc]
    · rw [yfo_in (by omega)]
    · rw [yfo_in (by omega)]
    · rw [yfo_in (by omega)]
  have m143 := m_143 (Ls := Ls) (g := g) (mi := mi) (mj := mj) hy hx (by omega)
  rcases hb with rfl | rfl
  · rw [if_neg (by omega)]
    unfold fGre
    by_cases c1 : fhigh (rf mj y) ≤ flow (rf mj x)
    · rw [if_pos c1]
      refine ⟨mj, ?_, hX', FrR.rf⟩
      simp (disch := (first | with_reducible exact is_148 | with_reducible exact zi_at is_148 (by omega) (by omega) | ((with_reducible refine zct_le ?_) <;> exact Nat.le_of_ble_eq_true rfl) | with_reducible exact zh_0 | with_reducible exact zh_1 | with_reducible exact zh_b | omega)) only [e_158, q_158_0r, q_158_0n, q_158_1, q_158_2, q_158_5, q_158_7r, q_158_7n, q_158_8, q_158_9, q_158_12, q_158_14r, q_158_14n, q_158_15, q_158_16, q_158_19, q_158_21r, q_158_21n, q_158_22, q_158_23, q_158_26, q_158_28, q_158_29, q_158_32, q_158_34, q_158_36, q_158_37, q_158_40, q_158_43, q_158_45, q_158_47, q_158_48, q_158_51, q_158_52, q_158_53, q_158_56, q_158_58, q_158_60, q_158_61, q_158_64, q_158_67, q_158_69, q_158_71, q_158_72, q_158_75r, q_158_75n, q_158_76, q_158_77, q_158_78, q_158_81, q_158_84, q_158_85, q_158_88r, q_158_88n, q_158_89, q_158_90, q_158_92, q_158_94, q_158_97, q_158_99, q_158_101, q_158_104, q_158_107, q_158_110r, q_158_110n, q_158_111, q_158_112, q_158_114, q_158_116, q_158_119, q_158_121, q_158_123, q_158_126, q_158_129, vf_s, vf_n, zk2_none, zk2_int, zk2_ref, zk2_null, zk2_long, zct_nil, zct_i, zct_l, zct_r, zct_n, Option.bind_some, Option.toList_some, Option.toList_none, List.cons_append, List.nil_append, zor_l, zor_r, if_true, if_false, ↓reduceIte, zi_lit, zi_of, zi_add, zi_mul, zi_sub, zi_nat, zi_leT, zi_leF, zi_ltT, zi_ltF, zi_eqT, zi_eqF, zif_0z, zif_bz, zi_01l, zi_01r, not_true_eq_false, not_false_eq_true, Nat.reduceAdd, Nat.reduceMul, Nat.reduceSub, m_139 hx, m_140 hx, m_139 hy, m_140 hy, lg_le_not_lt c1]
    · have c1' : flow (rf mj x) < fhigh (rf mj y) := by rw [zj_lt]; rw [zj_le] at c1; omega
      rw [if_neg c1]
      by_cases c2 : fhigh (rf mj x) ≤ flow (rf mj y)
      · rw [if_pos c2]
        refine ⟨_, ?_, hcopy, FrR.fo (Nat.le_refl _)⟩
        simp (disch := (first | with_reducible exact is_148 | with_reducible exact zi_at is_148 (by omega) (by omega) | ((with_reducible refine zct_le ?_) <;> exact Nat.le_of_ble_eq_true rfl) | with_reducible exact zh_0 | with_reducible exact zh_1 | with_reducible exact zh_b | omega)) only [e_158, q_158_0r, q_158_0n, q_158_1, q_158_2, q_158_5, q_158_7r, q_158_7n, q_158_8, q_158_9, q_158_12, q_158_14r, q_158_14n, q_158_15, q_158_16, q_158_19, q_158_21r, q_158_21n, q_158_22, q_158_23, q_158_26, q_158_28, q_158_29, q_158_32, q_158_34, q_158_36, q_158_37, q_158_40, q_158_43, q_158_45, q_158_47, q_158_48, q_158_51, q_158_52, q_158_53, q_158_56, q_158_58, q_158_60, q_158_61, q_158_64, q_158_67, q_158_69, q_158_71, q_158_72, q_158_75r, q_158_75n, q_158_76, q_158_77, q_158_78, q_158_81, q_158_84, q_158_85, q_158_88r, q_158_88n, q_158_89, q_158_90, q_158_92, q_158_94, q_158_97, q_158_99, q_158_101, q_158_104, q_158_107, q_158_110r, q_158_110n, q_158_111, q_158_112, q_158_114, q_158_116, q_158_119, q_158_121, q_158_123, q_158_126, q_158_129, vf_s, vf_n, zk2_none, zk2_int, zk2_ref, zk2_null, zk2_long, zct_nil, zct_i, zct_l, zct_r, zct_n, Option.bind_some, Option.toList_some, Option.toList_none, List.cons_append, List.nil_append, zor_l, zor_r, if_true, if_false, ↓reduceIte, zi_lit, zi_of, zi_add, zi_mul, zi_sub, zi_nat, zi_leT, zi_leF, zi_ltT, zi_ltF, zi_eqT, zi_eqF, zif_0z, zif_bz, zi_01l, zi_01r, not_true_eq_false, not_false_eq_true, Nat.reduceAdd, Nat.reduceMul, Nat.reduceSub, m_139 hx, m_140 hx, m_139 hy, m_140 hy, c1', lg_le_not_lt c2, m143]
      · have c2' : flow (rf mj y) < fhigh (rf mj x) := by rw [zj_lt]; rw [zj_le] at c2; omega
        rw [if_neg c2]
        obtain ⟨mj', r1, r2, r3⟩ := m_145 (Ls := Ls) (g := g) (mi := mi) (mj := mj) (u := zmax (flow (rf mj x)) (flow (rf mj y))) (v := zmax (fhigh (rf mj x)) (fhigh (rf mj y))) hx
        refine ⟨mj', ?_, r2, r3⟩
        simp (disch := (first | with_reducible exact is_148 | with_reducible exact zi_at is_148 (by omega) (by omega) | ((with_reducible refine zct_le ?_) <;> exact Nat.le_of_ble_eq_true rfl) | with_reducible exact zh_0 | with_reducible exact zh_1 | with_reducible exact zh_b | omega)) only [e_158, q_158_0r, q_158_0n, q_158_1, q_158_2, q_158_5, q_158_7r, q_158_7n, q_158_8, q_158_9, q_158_12, q_158_14r, q_158_14n, q_158_15, q_158_16, q_158_19, q_158_21r, q_158_21n, q_158_22, q_158_23, q_158_26, q_158_28, q_158_29, q_158_32, q_158_34, q_158_36, q_158_37, q_158_40, q_158_43, q_158_45, q_158_47, q_158_48, q_158_51, q_158_52, q_158_53, q_158_56, q_158_58, q_158_60, q_158_61, q_158_64, q_158_67, q_158_69, q_158_71, q_158_72, q_158_75r, q_158_75n, q_158_76, q_158_77, q_158_78, q_158_81, q_158_84, q_158_85, q_158_88r, q_158_88n, q_158_89, q_158_90, q_158_92, q_158_94, q_158_97, q_158_99, q_158_101, q_158_104, q_158_107, q_158_110r, q_158_110n, q_158_111, q_158_112, q_158_114, q_158_116, q_158_119, q_158_121, q_158_123, q_158_126, q_158_129, vf_s, vf_n, zk2_none, zk2_int, zk2_ref, zk2_null, zk2_long, zct_nil, zct_i, zct_l, zct_r, zct_n, Option.bind_some, Option.toList_some, Option.toList_none, List.cons_append, List.nil_append, zor_l, zor_r, if_true, if_false, ↓reduceIte, zi_lit, zi_of, zi_add, zi_mul, zi_sub, zi_nat, zi_leT, zi_leF, zi_ltT, zi_ltF, zi_eqT, zi_eqF, zif_0z, zif_bz, zi_01l, zi_01r, not_true_eq_false, not_false_eq_true, Nat.reduceAdd, Nat.reduceMul, Nat.reduceSub, m_139 hx, m_140 hx, m_139 hy, m_140 hy, c1', c2', m_151, r1]
  · rw [if_pos rfl]
    unfold fLea
    by_cases c1 : fhigh (rf mj x) ≤ flow (rf mj y)
    · rw [if_pos c1]
      refine ⟨mj, ?_, hX', FrR.rf⟩
      simp (disch := (first | with_reducible exact is_148 | with_reducible exact zi_at is_148 (by omega) (by omega) | ((with_reducible refine zct_le ?_) <;> exact Nat.le_of_ble_eq_true rfl) | with_reducible exact zh_0 | with_reducible exact zh_1 | with_reducible exact zh_b | omega)) only [e_158, q_158_0r, q_158_0n, q_158_1, q_158_2, q_158_5, q_158_7r, q_158_7n, q_158_8, q_158_9, q_158_12, q_158_14r, q_158_14n, q_158_15, q_158_16, q_158_19, q_158_21r, q_158_21n, q_158_22, q_158_23, q_158_26, q_158_28, q_158_29, q_158_32, q_158_34, q_158_36, q_158_37, q_158_40, q_158_43, q_158_45, q_158_47, q_158_48, q_158_51, q_158_52, q_158_53, q_158_56, q_158_58, q_158_60, q_158_61, q_158_64, q_158_67, q_158_69, q_158_71, q_158_72, q_158_75r, q_158_75n, q_158_76, q_158_77, q_158_78, q_158_81, q_158_84, q_158_85, q_158_88r, q_158_88n, q_158_89, q_158_90, q_158_92, q_158_94, q_158_97, q_158_99, q_158_101, q_158_104, q_158_107, q_158_110r, q_158_110n, q_158_111, q_158_112, q_158_114, q_158_116, q_158_119, q_158_121, q_158_123, q_158_126, q_158_129, vf_s, vf_n, zk2_none, zk2_int, zk2_ref, zk2_null, zk2_long, zct_nil, zct_i, zct_l, zct_r, zct_n, Option.bind_some, Option.toList_some, Option.toList_none, List.cons_append, List.nil_append, zor_l, zor_r, if_true, if_false, ↓reduceIte, zi_lit, zi_of, zi_add, zi_mul, zi_sub, zi_nat, zi_leT, zi_leF, zi_ltT, zi_ltF, zi_eqT, zi_eqF, zif_0z, zif_bz, zi_01l, zi_01r, not_true_eq_false, not_false_eq_true, Nat.reduceAdd, Nat.reduceMul, Nat.reduceSub, m_139 hx, m_140 hx, m_139 hy, m_140 hy, lg_le_not_lt c1]
    · have c1' : flow (rf mj y) < fhigh (rf mj x) := by rw [zj_lt]; rw [zj_le] at c1; omega
      rw [if_neg c1]
      by_cases c2 : fhigh (rf mj y) ≤ flow (rf mj x)
      · rw [if_pos c2]
        refine ⟨_, ?_, hcopy, FrR.fo (Nat.le_refl _)⟩
        simp (disch := (first | with_reducible exact is_148 | with_reducible exact zi_at is_148 (by omega) (by omega) | ((with_reducible refine zct_le ?_) <;> exact Nat.le_of_ble_eq_true rfl) | with_reducible exact zh_0 | with_reducible exact zh_1 | with_reducible exact zh_b | omega)) only [e_158, q_158_0r, q_158_0n, q_158_1, q_158_2, q_158_5, q_158_7r, q_158_7n, q_158_8, q_158_9, q_158_12, q_158_14r, q_158_14n, q_158_15, q_158_16, q_158_19, q_158_21r, q_158_21n, q_158_22, q_158_23, q_158_26, q_158_28, q_158_29, q_158_32, q_158_34, q_158_36, q_158_37, q_158_40, q_158_43, q_158_45, q_158_47, q_158_48, q_158_51, q_158_52, q_158_53, q_158_56, q_158_58, q_158_60, q_158_61, q_158_64, q_158_67, q_158_69, q_158_71, q_158_72, q_158_75r, q_158_75n, q_158_76, q_158_77, q_158_78, q_158_81, q_158_84, q_158_85, q_158_88r, q_158_88n, q_158_89, q_158_90, q_158_92, q_158_94, q_158_97, q_158_99, q_158_101, q_158_104, q_158_107, q_158_110r, q_158_110n, q_158_111, q_158_112, q_158_114, q_158_116, q_158_119, q_158_121, q_158_123, q_158_126, q_158_129, vf_s, vf_n, zk2_none, zk2_int, zk2_ref, zk2_null, zk2_long, zct_nil, zct_i, zct_l, zct_r, zct_n, Option.bind_some, Option.toList_some, Option.toList_none, List.cons_append, List.nil_append, zor_l, zor_r, if_true, if_false, ↓reduceIte, zi_lit, zi_of, zi_add, zi_mul, zi_sub, zi_nat, zi_leT, zi_leF, zi_ltT, zi_ltF, zi_eqT, zi_eqF, zif_0z, zif_bz, zi_01l, zi_01r, not_true_eq_false, not_false_eq_true, Nat.reduceAdd, Nat.reduceMul, Nat.reduceSub, m_139 hx, m_140 hx, m_139 hy, m_140 hy, c1', lg_le_not_lt c2, m143]
      · have c2' : flow (rf mj x) < fhigh (rf mj y) := by rw [zj_lt]; rw [zj_le] at c2; omega
        rw [if_neg c2]
        obtain ⟨mj', r1, r2, r3⟩ := m_145 (Ls := Ls) (g := g) (mi := mi) (mj := mj) (u := zmin (flow (rf mj x)) (flow (rf mj y))) (v := zmin (fhigh (rf mj x)) (fhigh (rf mj y))) hx
        refine ⟨mj', ?_, r2, r3⟩
        simp (disch := (first | with_reducible exact is_148 | with_reducible exact zi_at is_148 (by omega) (by omega) | ((with_reducible refine zct_le ?_) <;> exact Nat.le_of_ble_eq_true rfl) | with_reducible exact zh_0 | with_reducible exact zh_1 | with_reducible exact zh_b | omega)) only [e_158, q_158_0r, q_158_0n, q_158_1, q_158_2, q_158_5, q_158_7r, q_158_7n, q_158_8, q_158_9, q_158_12, q_158_14r, q_158_14n, q_158_15, q_158_16, q_158_19, q_158_21r, q_158_21n, q_158_22, q_158_23, q_158_26, q_158_28, q_158_29, q_158_32, q_158_34, q_158_36, q_158_37, q_158_40, q_158_43, q_158_45, q_158_47, q_158_48, q_158_51, q_158_52, q_158_53, q_158_56, q_158_58, q_158_60, q_158_61, q_158_64, q_158_67, q_158_69, q_158_71, q_158_72, q_158_75r, q_158_75n, q_158_76, q_158_77, q_158_78, q_158_81, q_158_84, q_158_85, q_158_88r, q_158_88n, q_158_89, q_158_90, q_158_92, q_158_94, q_158_97, q_158_99, q_158_101, q_158_104, q_158_107, q_158_110r, q_158_110n, q_158_111, q_158_112, q_158_114, q_158_116, q_158_119, q_158_121, q_158_123, q_158_126, q_158_129, vf_s, vf_n, zk2_none, zk2_int, zk2_ref, zk2_null, zk2_long, zct_nil, zct_i, zct_l, zct_r, zct_n, Option.bind_some, Option.toList_some, Option.toList_none, List.cons_append, List.nil_append, zor_l, zor_r, if_true, if_false, ↓reduceIte, zi_lit, zi_of, zi_add, zi_mul, zi_sub, zi_nat, zi_leT, zi_leF, zi_ltT, zi_ltF, zi_eqT, zi_eqF, zif_0z, zif_bz, zi_01l, zi_01r, not_true_eq_false, not_false_eq_true, Nat.reduceAdd, Nat.reduceMul, Nat.reduceSub, m_139 hx, m_140 hx, m_139 hy, m_140 hy, c1', c2', m_150, r1]
theorem m_161 (hx : x < 100) : zCall 161 [.ref 148, .int (zi x)] (SH Ls) mi mj (RF g) = some (some (.int (if fBig (rf mj x) then zi 1 else zi 0)), SH Ls, mi, mj, RF g) := by
  simp (disch := (first | with_reducible exact is_148 | with_reducible exact zi_at is_148 (by omega) (by omega) | with_reducible exact is_155 | with_reducible exact zi_at is_155 (by omega) (by omega) | ((with_reducible refine zct_le ?_) <;> exact Nat.le_of_ble_eq_true rfl) | with_reducible exact zh_0 | with_reducible exact zh_1 | with_reducible exact zh_b | omega)) only [e_161, q_161_0r, q_161_0n, q_161_1, q_161_4, q_161_6, q_161_7, q_161_8, q_161_9, q_161_12, q_161_15r, q_161_15n, q_161_16, q_161_17, q_161_20, q_161_23, q_161_26r, q_161_26n, q_161_27, q_161_30, q_161_32, q_161_33, q_161_34, q_161_36, q_161_37, q_161_38, q_161_41, q_161_44r, q_161_44n, q_161_45, q_161_48, q_161_50, q_161_51, q_161_52, q_161_54, q_161_55, q_161_56, q_161_59, q_161_62, q_161_63, q_161_66, q_161_67, vf_s, vf_n, zk2_none, zk2_int, zk2_ref, zk2_null, zk2_long, zct_nil, zct_i, zct_l, zct_r, zct_n, Option.bind_some, Option.toList_some, Option.toList_none, List.cons_append, List.nil_append, zor_l, zor_r, if_true, if_false, ↓reduceIte, zi_lit, zi_of, zi_add, zi_mul, zi_sub, zi_nat, zi_leT, zi_leF, zi_ltT, zi_ltF, zi_eqT, zi_eqF, zif_0z, zif_bz, zi_01l, zi_01r, not_true_eq_false, not_false_eq_true, Nat.reduceAdd, Nat.reduceMul, Nat.reduceSub, rf_148_10, m_160, m_138 hx]
  have e0 : rf mj x 0 = mj 155 (17 * x) := rfl
  have e1 : rf mj x 14 = mj 155 (17 * x + 14) := rfl
  have e2 : rf mj x 15 = mj 155 (17 * x + 15) := rfl
  unfold fBig
  rw [e0, e1, e2]
  by_cases h1 : zbig (mj 155 (17 * x))
  · simp [h1]
  · by_cases h2 : zbig (frad (rf mj x) 12)
    · simp [h1, h2]
    · by_cases h3 : zbig (mj 155 (17 * x + 14))
      · simp [h1, h2, h3]
      · by_cases h4 : zbig (mj 155 (17 * x + 15))
        · simp [h1, h2, h3, h4]
        · simp [h1, h2, h3, h4]
end
