/-! ===== the model: runs ===== -/
def stR (Ls : Nat) (g : Nat → Nat) (mi : zI) (mj : zJ) (d' : Nat) (E' : Nat → En) (R : Option zRes) : Prop := ∃ mi' mj', R = some (none, SH Ls, mi', mj', RF g) ∧ mS mj' d' E' ∧ mi' 148 11 = zi d' ∧ mi' 148 12 = fw E' d' ∧ (∀ a, ¬ a = 148 → mi' a = mi a) ∧ (∀ j, ¬ j = 11 → ¬ j = 12 → mi' 148 j = mi 148 j) ∧ (∀ a, ¬ a = 155 → mj' a = mj a)
theorem stR.w {Ls : Nat} {g : Nat → Nat} {mi : zI} {mj mj1 : zJ} {d' : Nat} {E' : Nat → En} {R : Option zRes} (hq : R = some (none, SH Ls, zup (zup mi 148 11 (zi d')) 148 12 (if zup mi 148 11 (zi d') 148 12 = zi 0 then zi 0 else zup mi 148 11 (zi d') 148 12), mj1, RF g)) (h1 : mS mj1 d' E') (h2 : mi 148 12 = fw E' d') (h3 : ∀ a, ¬ a = 155 → mj1 a = mj a) : stR Ls g mi mj d' E' R := by
  refine ⟨_, mj1, hq, h1, ?_, ?_, ?_, ?_, h3⟩
  · rw [zg_j (by omega), zg_s]
  · rw [zg_s, zg_j (by omega), ← h2]
    split
    · rename_i h; exact h.symm
    · rfl
  · intro a ha; rw [zup_ne ha, zup_ne ha]
  · intro j h1 h2; rw [zg_j (by omega), zg_j (by omega)]
theorem fw_stP {E : Nat → En} {x : Nat} {e : En} : fw (stP E x e) (x + 1) = if fw E x = zi 0 then e.1 else fw E x := by
  have h : fw (stP E x e) x = fw E x := fw_ext x fun i hi => by unfold stP; rw [if_neg (by omega)]
  rw [fw, h]
  unfold stP
  rw [if_pos rfl]
theorem mS_stP {mj mj' : zJ} {E : Nat → En} {x d : Nat} {e : En} (hS : mS mj d E) (hx : x < d) (h : mE mj' x e) (fr : FrR x mj mj') : mS mj' (x + 1) (stP E x e) := by
  intro i hi
  unfold stP
  by_cases c : i = x
  · subst c; rw [if_pos rfl]; exact h
  · rw [if_neg c]; exact (hS i (by omega)).fr (by omega) fr
section
variable {Ls : Nat} {g : Nat → Nat} {mi : zI} {mj : zJ} {i1 i2 : Int32} {f o p q k n d s b x y u : Nat} {v w r0 : Int64} {Z : Option zRes} {F G X Y : FF} {e e1 e2 : En} {E : Nat → En} {lo hi : Nat → Int32} {vv : Int32}
theorem m_141e (hf : f < 100) (h : mE mj f e) : zCall 141 [.ref 148, .int (zi f)] (SH Ls) mi mj (RF g) = some (some (.int (if e.1 = zi 0 then zi 0 else zi 1)), SH Ls, mi, mj, RF g) := by
  rw [m_141 hf]
  by_cases hz : e.1 = zi 0
  · rw [if_pos hz, (h.1 hz).2, if_pos rfl]
  · rw [if_neg hz, (h.2 hz).1, if_neg (by decide)]
/-- behind the operation: too large, names -/
theorem m_168t (hn : n < 16) (hx : x < 99) (hS : mS mj (x + 1) (stP E x e)) (hd : mi 148 11 = zi (x + 1)) (hu : mi 149 8 = zi u) (hu8 : u ≤ 8) (hr : mi 148 12 = if fw E x = zi 0 then e.1 else fw E x) (hg : gdE (fin e)) {l3 l4 : Option Value} :
    stR Ls g mi mj (x + 1) (if 9 ≤ n ∧ (fin e).1 = zi 0 ∧ 0 < (fin e).2 13 ∧ 1 ≤ u then nmS (stP E x (fin e)) (x + 1) u else stP E x (fin e)) (zRun 168 110 [some (.ref 148), some (.int (zi n)), some (.int (zi x)), l3, l4] [] (SH Ls) mi mj (RF g)) := by
  have hx1 : x < 100 := by omega
  have hE : mE mj x e := by have := hS x (by omega); unfold stP at this; rw [if_pos rfl] at this; exact this
  have m1 := m_141e (Ls := Ls) (g := g) (mi := mi) hx1 hE
  by_cases hz : e.1 = zi 0
  · by_cases hb : fBig e.2
    · have hf : fin e = (zi 3, e.2) := if_pos ⟨hz, hb⟩
      have hf1 : ¬ (fin e).1 = zi 0 := by rw [hf]; exact (by decide : ¬ zi 3 = zi 0)
      obtain ⟨mj1, r1, r2, r3⟩ := m_144 (Ls := Ls) (g := g) (mi := mi) (mj := mj) (i1 := zi 3) hx1
      have hE1 : mE mj1 x (fin e) := ⟨fun q => absurd q hf1, fun _ => r2⟩
      have m2 := m_141e (Ls := Ls) (g := g) (mi := zup mi 148 12 (if mi 148 12 = zi 0 then zi 3 else mi 148 12)) hx1 hE1
      rw [if_neg (fun q => hf1 q.2.1)]
      refine ⟨zup mi 148 12 (if mi 148 12 = zi 0 then zi 3 else mi 148 12), mj1, ?_, ?_, ?_, ?_, fun a ha => zup_ne ha, fun j h1 h2 => zg_j (by omega), r3.1⟩
      rotate_left
      · intro i hi
        by_cases c : i = x
        · subst c; unfold stP; rw [if_pos rfl]; exact hE1
        · have := hS i hi
          unfold stP at this ⊢
          rw [if_neg c] at this ⊢
          exact this.fr (by omega) r3
      · rw [zg_j (by omega), hd]
      · rw [zg_s, hr, fw_stP, hf, hz]
        by_cases c : fw E x = zi 0
        · rw [if_pos c, if_pos rfl, if_pos c]
        · rw [if_neg c, if_neg c]
      · rw [if_pos hz] at m1
        rw [if_neg hf1] at m2
        have m3 := m_161 (Ls := Ls) (g := g) (mi := mi) (mj := mj) hx1
        rw [(hE.1 hz).1, if_pos hb] at m3
        simp (disch := (first | with_reducible exact is_148 | with_reducible exact zi_at is_148 (by omega) (by omega) | ((with_reducible refine zct_le ?_) <;> exact Nat.le_of_ble_eq_true rfl) | with_reducible exact zh_0 | with_reducible exact zh_1 | with_reducible exact zh_b | omega)) only [q_168_110r, q_168_110n, q_168_111, q_168_112, q_168_115, q_168_118r, q_168_118n, q_168_119, q_168_120, q_168_123, q_168_126r, q_168_126n, q_168_127, q_168_128, q_168_129, q_168_132r, q_168_132n, q_168_133, q_168_134, q_168_137, q_168_140, q_168_141, q_168_143, q_168_146r, q_168_146n, q_168_147, q_168_150, vf_s, vf_n, zk2_none, zk2_int, zk2_ref, zk2_null, zk2_long, zct_nil, zct_i, zct_l, zct_r, zct_n, Option.bind_some, Option.toList_some, Option.toList_none, List.cons_append, List.nil_append, zor_l, zor_r, if_true, if_false, ↓reduceIte, zi_lit, zi_of, zi_add, zi_mul, zi_sub, zi_nat, zi_leT, zi_leF, zi_ltT, zi_ltF, zi_eqT, zi_eqF, zif_0z, zif_bz, zi_01l, zi_01r, not_true_eq_false, not_false_eq_true, Nat.reduceAdd, Nat.reduceMul, Nat.reduceSub, m1, m2, m3, r1]
    · have hf : fin e = e := if_neg fun q => hb q.2
      rw [hf] at hg ⊢
      rw [if_pos hz] at m1
      have m3 := m_161 (Ls := Ls) (g := g) (mi := mi) (mj := mj) hx1
      rw [(hE.1 hz).1, if_neg hb] at m3
      by_cases c9 : 9 ≤ n
      · obtain ⟨mj1, r1, r2, r3⟩ := m_159 (Ls := Ls) (g := g) hS hd (by omega) (by omega) hu hu8 (by rw [Nat.add_sub_cancel]; unfold stP; rw [if_pos rfl]; exact hz) (by rw [Nat.add_sub_cancel]; unfold stP; rw [if_pos rfl]; exact (hg hz).e)
        rw [Nat.add_sub_cancel] at r2
        have es : (stP E x e x).2 13 = e.2 13 := by unfold stP; rw [if_pos rfl]
        rw [es] at r2
        refine ⟨mi, mj1, ?_, ?_, hd, ?_, fun _ _ => rfl, fun _ _ _ => rfl, r3⟩
        · simp (disch := (first | with_reducible exact is_148 | with_reducible exact zi_at is_148 (by omega) (by omega) | ((with_reducible refine zct_le ?_) <;> exact Nat.le_of_ble_eq_true rfl) | with_reducible exact zh_0 | with_reducible exact zh_1 | with_reducible exact zh_b | omega)) only [q_168_110r, q_168_110n, q_168_111, q_168_112, q_168_115, q_168_118r, q_168_118n, q_168_119, q_168_120, q_168_123, q_168_126r, q_168_126n, q_168_127, q_168_128, q_168_129, q_168_132r, q_168_132n, q_168_133, q_168_134, q_168_137, q_168_140, q_168_141, q_168_143, q_168_146r, q_168_146n, q_168_147, q_168_150, vf_s, vf_n, zk2_none, zk2_int, zk2_ref, zk2_null, zk2_long, zct_nil, zct_i, zct_l, zct_r, zct_n, Option.bind_some, Option.toList_some, Option.toList_none, List.cons_append, List.nil_append, zor_l, zor_r, if_true, if_false, ↓reduceIte, zi_lit, zi_of, zi_add, zi_mul, zi_sub, zi_nat, zi_leT, zi_leF, zi_ltT, zi_ltF, zi_eqT, zi_eqF, zif_0z, zif_bz, zi_01l, zi_01r, not_true_eq_false, not_false_eq_true, Nat.reduceAdd, Nat.reduceMul, Nat.reduceSub, m1, m3, r1]
        · by_cases c : 0 < e.2 13 ∧ 1 ≤ u
          · rw [if_pos c] at r2
            rw [if_pos ⟨c9, hz, c⟩]
            exact r2
          · rw [if_neg c] at r2
            rw [if_neg (fun q => c q.2.2)]
            exact r2
        · rw [hr, ← fw_stP]
          refine fw_ext _ fun i _ => ?_
          split
          · exact nmS_1.symm
          · rfl
      · rw [if_neg (fun q => c9 q.1)]
        refine ⟨mi, mj, ?_, hS, hd, by rw [hr, fw_stP], fun _ _ => rfl, fun _ _ _ => rfl, fun _ _ => rfl⟩
        simp (disch := (first | with_reducible exact is_148 | with_reducible exact zi_at is_148 (by omega) (by omega) | ((with_reducible refine zct_le ?_) <;> exact Nat.le_of_ble_eq_true rfl) | with_reducible exact zh_0 | with_reducible exact zh_1 | with_reducible exact zh_b | omega)) only [q_168_110r, q_168_110n, q_168_111, q_168_112, q_168_115, q_168_118r, q_168_118n, q_168_119, q_168_120, q_168_123, q_168_126r, q_168_126n, q_168_127, q_168_128, q_168_129, q_168_132r, q_168_132n, q_168_133, q_168_134, q_168_137, q_168_140, q_168_141, q_168_143, q_168_146r, q_168_146n, q_168_147, q_168_150, vf_s, vf_n, zk2_none, zk2_int, zk2_ref, zk2_null, zk2_long, zct_nil, zct_i, zct_l, zct_r, zct_n, Option.bind_some, Option.toList_some, Option.toList_none, List.cons_append, List.nil_append, zor_l, zor_r, if_true, if_false, ↓reduceIte, zi_lit, zi_of, zi_add, zi_mul, zi_sub, zi_nat, zi_leT, zi_leF, zi_ltT, zi_ltF, zi_eqT, zi_eqF, zif_0z, zif_bz, zi_01l, zi_01r, not_true_eq_false, not_false_eq_true, Nat.reduceAdd, Nat.reduceMul, Nat.reduceSub, m1, m3]
  · have hf : fin e = e := if_neg fun q => hz q.1
    rw [hf, if_neg (fun q => hz q.2.1)]
    rw [if_neg hz] at m1
    refine ⟨mi, mj, ?_, hS, hd, by rw [hr, fw_stP], fun _ _ => rfl, fun _ _ _ => rfl, fun _ _ => rfl⟩
    simp (disch := (first | with_reducible exact is_148 | with_reducible exact zi_at is_148 (by omega) (by omega) | ((with_reducible refine zct_le ?_) <;> exact Nat.le_of_ble_eq_true rfl) | with_reducible exact zh_0 | with_reducible exact zh_1 | with_reducible exact zh_b | omega)) only [q_168_110r, q_168_110n, q_168_111, q_168_112, q_168_115, q_168_118r, q_168_118n, q_168_119, q_168_120, q_168_123, q_168_126r, q_168_126n, q_168_127, q_168_128, q_168_129, q_168_132r, q_168_132n, q_168_133, q_168_134, q_168_137, q_168_140, q_168_141, q_168_143, q_168_146r, q_168_146n, q_168_147, q_168_150, vf_s, vf_n, zk2_none, zk2_int, zk2_ref, zk2_null, zk2_long, zct_nil, zct_i, zct_l, zct_r, zct_n, Option.bind_some, Option.toList_some, Option.toList_none, List.cons_append, List.nil_append, zor_l, zor_r, if_true, if_false, ↓reduceIte, zi_lit, zi_of, zi_add, zi_mul, zi_sub, zi_nat, zi_leT, zi_leF, zi_ltT, zi_ltF, zi_eqT, zi_eqF, zif_0z, zif_bz, zi_01l, zi_01r, not_true_eq_false, not_false_eq_true, Nat.reduceAdd, Nat.reduceMul, Nat.reduceSub, m1]
theorem rsn_fw {E : Nat → En} {r : Int32} (h : r = fw E x) : rsn r e = if fw E x = zi 0 then e.1 else fw E x := by
  subst h
  unfold rsn
  by_cases c : e.1 = zi 0
  · rw [if_pos c]
    by_cases c2 : fw E x = zi 0
    · rw [if_pos c2, c2, c]
    · rw [if_neg c2]
  · rw [if_neg c]
theorem m_168 (hn : n < 16) (h5 : 5 ≤ n) (hS : mS mj d E) (hd : mi 148 11 = zi d) (hd2 : d ≤ 90) (hu : mi 149 8 = zi u) (hu8 : u ≤ 8) (hr : mi 148 12 = fw E d) (ho1 : opn n ≤ d) (h8 : n = 8 → 1 ≤ d) (hG : ∀ i, i < d → gdE (E i)) (hg : gdE (fin (mkE lo hi n vv d E))) (hrec : ∀ Y : FF, fOk Y → ¬ (flow Y ≤ 0 ∧ 0 ≤ fhigh Y) → fBd (fRec (flow Y) (fhigh Y))) :
    stR Ls g mi mj (d - opn n + 1) (stE lo hi u n vv d E) (zCall 168 [.ref 148, .int (zi n)] (SH Ls) mi mj (RF g)) := by
  by_cases c8 : n = 8
  · subst c8
    have hd1 := h8 rfl
    have em : mkE lo hi 8 vv d E = E (d - 1) := rfl
    have ho : opn 8 = 0 := rfl
    have ef : fin (E (d - 1)) = E (d - 1) := (hG (d - 1) (by omega)).fn
    have es : stE lo hi u 8 vv d E = stP E d (E (d - 1)) := by
      unfold stE
      rw [em, ef, ho, if_neg (fun q => absurd q.1 (by omega))]
      rfl
    have e1 : d - 1 + 1 = d := by omega
    rw [es, ho]
    have m143 := m_143 (Ls := Ls) (g := g) (mi := mi) (mj := mj) (f := d - 1) (q := d) (by omega) (by omega) (by omega)
    refine ⟨zup mi 148 11 (zi (d + 1)), yfo mj 155 (17 * d) 17 fun k => mj 155 (17 * (d - 1) + k), ?_, ?_, zg_s, ?_, fun a ha => zup_ne ha, fun j h1 _ => zg_j (by omega), fun a ha => yfo_o (by omega)⟩
    · simp (disch := (first | with_reducible exact is_148 | with_reducible exact zi_at is_148 (by omega) (by omega) | ((with_reducible refine zct_le ?_) <;> exact Nat.le_of_ble_eq_true rfl) | with_reducible exact zh_0 | with_reducible exact zh_1 | with_reducible exact zh_b | omega)) only [e_168, q_168_0, q_168_1, q_168_3, q_168_6r, q_168_6n, q_168_7r, q_168_7n, q_168_8, q_168_11, q_168_12, q_168_13r, q_168_13n, q_168_14, q_168_17, q_168_20r, q_168_20n, q_168_21r, q_168_21i, q_168_22, q_168_25, q_168_26, q_168_27, q_168_30, q_168_31, q_168_32, q_168_35, q_168_38r, q_168_38n, q_168_39, q_168_42, q_168_43, q_168_44, q_168_47r, q_168_47n, q_168_48, q_168_51, q_168_52, q_168_53, q_168_54r, q_168_54n, q_168_55, q_168_58, q_168_59, q_168_60, q_168_61r, q_168_61n, q_168_62, q_168_63, q_168_66, q_168_69r, q_168_69n, q_168_70, q_168_71, q_168_74, q_168_77, q_168_78, q_168_81, q_168_82, q_168_84r, q_168_84n, q_168_85, q_168_86, q_168_87, q_168_88, q_168_91, q_168_93, q_168_96r, q_168_96n, q_168_97, q_168_98, q_168_99, q_168_102, q_168_103r, q_168_103n, q_168_104, q_168_105, q_168_106, q_168_107, q_168_110r, q_168_110n, q_168_111, q_168_112, q_168_115, q_168_118r, q_168_118n, q_168_119, q_168_120, q_168_123, q_168_126r, q_168_126n, q_168_127, q_168_128, q_168_129, q_168_132r, q_168_132n, q_168_133, q_168_134, q_168_137, q_168_140, q_168_141, q_168_143, q_168_146r, q_168_146n, q_168_147, q_168_150, vf_s, vf_n, zk2_none, zk2_int, zk2_ref, zk2_null, zk2_long, zct_nil, zct_i, zct_l, zct_r, zct_n, Option.bind_some, Option.toList_some, Option.toList_none, List.cons_append, List.nil_append, zor_l, zor_r, if_true, if_false, ↓reduceIte, zi_lit, zi_of, zi_add, zi_mul, zi_sub, zi_nat, zi_leT, zi_leF, zi_ltT, zi_ltF, zi_eqT, zi_eqF, zif_0z, zif_bz, zi_01l, zi_01r, not_true_eq_false, not_false_eq_true, Nat.reduceAdd, Nat.reduceMul, Nat.reduceSub, hd, m143]
    · have fr : FrR d mj (yfo mj 155 (17 * d) 17 fun k => mj 155 (17 * (d - 1) + k)) := FrR.fo (Nat.le_refl _)
      have hE := hS (d - 1) (by omega)
      have hrow : ∀ k, k < 17 → yfo mj 155 (17 * d) 17 (fun k => mj 155 (17 * (d - 1) + k)) 155 (17 * d + k) = mj 155 (17 * (d - 1) + k) := fun k hk => yfo_in hk
      intro i hi
      unfold stP
      by_cases c : i = d
      · subst c
        rw [if_pos rfl]
        refine ⟨fun hz => ⟨?_, by rw [hrow 16 (by omega)]; exact (hE.1 hz).2⟩, fun hz => ⟨by rw [hrow 16 (by omega)]; exact (hE.2 hz).1, fun k hk => by rw [hrow k (by omega)]; exact (hE.2 hz).2 k hk⟩⟩
        rw [← (hE.1 hz).1]
        refine rf_of ?_ (fun k hk => ?_) (hrow 13 (by omega)) (hrow 14 (by omega)) (hrow 15 (by omega))
        · exact hrow 0 (by omega)
        · rw [Nat.add_assoc, hrow (1 + k) (by omega), Nat.add_assoc]
      · rw [if_neg c]
        exact (hS i (by omega)).fr (by omega) fr
    · rw [zg_j (by omega), hr, show d - 0 + 1 = d + 1 by omega, fw_stP]
      by_cases c : fw E d = zi 0
      · rw [if_pos c, c, fw_0 d c (d - 1) (by omega)]
      · rw [if_neg c]
  · have m167 := m_167 (Ls := Ls) (g := g) (mi := mi) (mj := mj) hn h5
    have hmk : mkE lo hi n vv d E = if opn n = 1 then uop n (E (d - 1)) else bop n (E (d - 2)) (E (d - 1)) := by
      unfold mkE; rw [if_neg (by omega), if_neg (by omega), if_neg c8]
    by_cases c1 : opn n = 1
    · have hcase := opn_1 n hn c1
      obtain ⟨x, rfl⟩ : ∃ x, d = x + 1 := ⟨d - 1, by omega⟩
      have hx : x < 100 := by omega
      rw [if_pos c1, Nat.add_sub_cancel] at hmk
      rw [if_neg (by omega)] at m167
      have hE := hS x (by omega)
      have m1 := m_141e (Ls := Ls) (g := g) (mi := mi) hx hE
      unfold stE
      rw [c1, Nat.add_sub_cancel]
      rw [hmk] at hg ⊢
      by_cases hz : (E x).1 = zi 0
      · have eX : E x = (zi 0, (E x).2) := Prod.ext hz rfl
        rw [if_pos hz] at m1
        have hfw : fw E (x + 1) = fw E x := by
          rw [fw]
          by_cases c : fw E x = zi 0
          · rw [if_pos c, hz, c]
          · rw [if_neg c]
        rw [hfw] at hr
        obtain ⟨mj1, q1, q2, q3⟩ := m_166u (Ls := Ls) (g := g) (mi := zup mi 148 11 (zi (x + 1))) (y := x) hcase hx (hE.1 hz) (hG x (by omega) hz)
        rw [← eX] at q1 q2
        obtain ⟨mi2, mj2, t1, t2, t3, t4, t5, t6, t7⟩ := m_168t (Ls := Ls) (g := g) (mi := zup (zup mi 148 11 (zi (x + 1))) 148 12 (rsn (zup mi 148 11 (zi (x + 1)) 148 12) (uop n (E x)))) (mj := mj1) (l3 := some (.int (zi x))) (l4 := some (.int (zi 0))) hn (by omega) (mS_stP hS (by omega) q2 q3) (by rw [zg_j (by omega), zg_s]) (by rw [zup_ne (by omega), zup_ne (by omega), hu]) hu8 (by rw [zg_s, zg_j (by omega)]; exact rsn_fw hr) hg
        refine ⟨mi2, mj2, ?_, t2, t3, t4, fun a ha => by rw [t5 a ha, zup_ne ha, zup_ne ha], fun j h1 h2 => by rw [t6 j h1 h2, zg_j (by omega), zg_j (by omega)], fun a ha => by rw [t7 a ha, q3.1 a ha]⟩
        rw [← t1]
        simp (disch := (first | with_reducible exact is_148 | with_reducible exact zi_at is_148 (by omega) (by omega) | ((with_reducible refine zct_le ?_) <;> exact Nat.le_of_ble_eq_true rfl) | with_reducible exact zh_0 | with_reducible exact zh_1 | with_reducible exact zh_b | omega)) only [e_168, q_168_0, q_168_1, q_168_3, q_168_6r, q_168_6n, q_168_7r, q_168_7n, q_168_8, q_168_11, q_168_12, q_168_13r, q_168_13n, q_168_14, q_168_17, q_168_20r, q_168_20n, q_168_21r, q_168_21i, q_168_22, q_168_25, q_168_26, q_168_27, q_168_30, q_168_31, q_168_32, q_168_35, q_168_38r, q_168_38n, q_168_39, q_168_42, q_168_43, q_168_44, q_168_47r, q_168_47n, q_168_48, q_168_51, q_168_52, q_168_53, q_168_54r, q_168_54n, q_168_55, q_168_58, q_168_59, q_168_60, q_168_61r, q_168_61n, q_168_62, q_168_63, q_168_66, q_168_69r, q_168_69n, q_168_70, q_168_71, q_168_74, q_168_77, q_168_78, q_168_81, q_168_82, q_168_84r, q_168_84n, q_168_85, q_168_86, q_168_87, q_168_88, q_168_91, q_168_93, q_168_96r, q_168_96n, q_168_97, q_168_98, q_168_99, q_168_102, q_168_103r, q_168_103n, q_168_104, q_168_105, q_168_106, q_168_107, vf_s, vf_n, zk2_none, zk2_int, zk2_ref, zk2_null, zk2_long, zct_nil, zct_i, zct_l, zct_r, zct_n, Option.bind_some, Option.toList_some, Option.toList_none, List.cons_append, List.nil_append, zor_l, zor_r, if_true, if_false, ↓reduceIte, zi_lit, zi_of, zi_add, zi_mul, zi_sub, zi_nat, zi_leT, zi_leF, zi_ltT, zi_ltF, zi_eqT, zi_eqF, zif_0z, zif_bz, zi_01l, zi_01r, not_true_eq_false, not_false_eq_true, Nat.reduceAdd, Nat.reduceMul, Nat.reduceSub, hd, m167, Nat.add_sub_cancel, m1, q1]
      · have e0 : uop n (E x) = E x := if_neg hz
        have ef : fin (E x) = E x := if_neg fun q => hz q.1
        rw [if_neg hz] at m1
        rw [e0, ef, if_neg (fun q => hz q.2.1)]
        obtain ⟨mj1, q1, q2, q3⟩ := m_144 (Ls := Ls) (g := g) (mi := zup mi 148 11 (zi (x + 1))) (mj := mj) (i1 := zi 0) hx
        refine stR.w (mj1 := mj1) ?_ (mS_stP hS (by omega) ⟨fun q => absurd q hz, fun _ => q2⟩ q3) ?_ q3.1
        · simp (disch := (first | with_reducible exact is_148 | with_reducible exact zi_at is_148 (by omega) (by omega) | ((with_reducible refine zct_le ?_) <;> exact Nat.le_of_ble_eq_true rfl) | with_reducible exact zh_0 | with_reducible exact zh_1 | with_reducible exact zh_b | omega)) only [e_168, q_168_0, q_168_1, q_168_3, q_168_6r, q_168_6n, q_168_7r, q_168_7n, q_168_8, q_168_11, q_168_12, q_168_13r, q_168_13n, q_168_14, q_168_17, q_168_20r, q_168_20n, q_168_21r, q_168_21i, q_168_22, q_168_25, q_168_26, q_168_27, q_168_30, q_168_31, q_168_32, q_168_35, q_168_38r, q_168_38n, q_168_39, q_168_42, q_168_43, q_168_44, q_168_47r, q_168_47n, q_168_48, q_168_51, q_168_52, q_168_53, q_168_54r, q_168_54n, q_168_55, q_168_58, q_168_59, q_168_60, q_168_61r, q_168_61n, q_168_62, q_168_63, q_168_66, q_168_69r, q_168_69n, q_168_70, q_168_71, q_168_74, q_168_77, q_168_78, q_168_81, q_168_82, q_168_84r, q_168_84n, q_168_85, q_168_86, q_168_87, q_168_88, q_168_91, q_168_93, q_168_96r, q_168_96n, q_168_97, q_168_98, q_168_99, q_168_102, q_168_103r, q_168_103n, q_168_104, q_168_105, q_168_106, q_168_107, q_168_110r, q_168_110n, q_168_111, q_168_112, q_168_115, q_168_118r, q_168_118n, q_168_119, q_168_120, q_168_123, q_168_126r, q_168_126n, q_168_127, q_168_128, q_168_129, q_168_132r, q_168_132n, q_168_133, q_168_134, q_168_137, q_168_140, q_168_141, q_168_143, q_168_146r, q_168_146n, q_168_147, q_168_150, vf_s, vf_n, zk2_none, zk2_int, zk2_ref, zk2_null, zk2_long, zct_nil, zct_i, zct_l, zct_r, zct_n, Option.bind_some, Option.toList_some, Option.toList_none, List.cons_append, List.nil_append, zor_l, zor_r, if_true, if_false, ↓reduceIte, zi_lit, zi_of, zi_add, zi_mul, zi_sub, zi_nat, zi_leT, zi_leF, zi_ltT, zi_ltF, zi_eqT, zi_eqF, zif_0z, zif_bz, zi_01l, zi_01r, not_true_eq_false, not_false_eq_true, Nat.reduceAdd, Nat.reduceMul, Nat.reduceSub, hd, m167, m1, Nat.add_sub_cancel, q1]
        · rw [hr, fw_stP, fw]
    · obtain ⟨hcase, h2⟩ := opn_2 n hn (by omega) c8 c1
      obtain ⟨x, rfl⟩ : ∃ x, d = x + 2 := ⟨d - 2, by omega⟩
      have hx : x < 100 := by omega
      have hy : x + 1 < 100 := by omega
      rw [if_neg c1, Nat.add_sub_cancel, show x + 2 - 1 = x + 1 by omega] at hmk
      rw [if_pos h2] at m167
      have hE := hS x (by omega)
      have hE2 := hS (x + 1) (by omega)
      have m1 := m_141e (Ls := Ls) (g := g) (mi := mi) hx hE
      have m2 := m_141e (Ls := Ls) (g := g) (mi := mi) hy hE2
      have ex : x + 2 - 1 = x + 1 := by omega
      unfold stE
      rw [h2, Nat.add_sub_cancel]
      rw [hmk] at hg ⊢
      by_cases hz : (E x).1 = zi 0
      · by_cases hz2 : (E (x + 1)).1 = zi 0
        · have eX : E x = (zi 0, (E x).2) := Prod.ext hz rfl
          have eY : E (x + 1) = (zi 0, (E (x + 1)).2) := Prod.ext hz2 rfl
          rw [if_pos hz] at m1
          rw [if_pos hz2] at m2
          have hfw : fw E (x + 2) = fw E x := by
            rw [fw, fw]
            by_cases c : fw E x = zi 0
            · rw [if_pos c, hz, if_pos rfl, hz2, c]
            · rw [if_neg c, if_neg c]
          rw [hfw] at hr
          obtain ⟨mj1, q1, q2, q3⟩ := m_166b (Ls := Ls) (g := g) (mi := zup mi 148 11 (zi (x + 1))) hcase hx hy (Nat.lt_succ_self x) (hE.1 hz) (hE2.1 hz2) (hG x (by omega) hz) (hG (x + 1) (by omega) hz2) (hrec _ (hG (x + 1) (by omega) hz2))
          rw [← eX, ← eY] at q1 q2
          obtain ⟨mi2, mj2, t1, t2, t3, t4, t5, t6, t7⟩ := m_168t (Ls := Ls) (g := g) (mi := zup (zup mi 148 11 (zi (x + 1))) 148 12 (rsn (zup mi 148 11 (zi (x + 1)) 148 12) (bop n (E x) (E (x + 1))))) (mj := mj1) (l3 := some (.int (zi (x + 1)))) (l4 := some (.int (zi 0))) hn (by omega) (mS_stP hS (by omega) q2 q3) (by rw [zg_j (by omega), zg_s]) (by rw [zup_ne (by omega), zup_ne (by omega), hu]) hu8 (by rw [zg_s, zg_j (by omega)]; exact rsn_fw hr) hg
          refine ⟨mi2, mj2, ?_, t2, t3, t4, fun a ha => by rw [t5 a ha, zup_ne ha, zup_ne ha], fun j h1 h2 => by rw [t6 j h1 h2, zg_j (by omega), zg_j (by omega)], fun a ha => by rw [t7 a ha, q3.1 a ha]⟩
          rw [← t1]
          simp (disch := (first | with_reducible exact is_148 | with_reducible exact zi_at is_148 (by omega) (by omega) | ((with_reducible refine zct_le ?_) <;> exact Nat.le_of_ble_eq_true rfl) | with_reducible exact zh_0 | with_reducible exact zh_1 | with_reducible exact zh_b | omega)) only [e_168, q_168_0, q_168_1, q_168_3, q_168_6r, q_168_6n, q_168_7r, q_168_7n, q_168_8, q_168_11, q_168_12, q_168_13r, q_168_13n, q_168_14, q_168_17, q_168_20r, q_168_20n, q_168_21r, q_168_21i, q_168_22, q_168_25, q_168_26, q_168_27, q_168_30, q_168_31, q_168_32, q_168_35, q_168_38r, q_168_38n, q_168_39, q_168_42, q_168_43, q_168_44, q_168_47r, q_168_47n, q_168_48, q_168_51, q_168_52, q_168_53, q_168_54r, q_168_54n, q_168_55, q_168_58, q_168_59, q_168_60, q_168_61r, q_168_61n, q_168_62, q_168_63, q_168_66, q_168_69r, q_168_69n, q_168_70, q_168_71, q_168_74, q_168_77, q_168_78, q_168_81, q_168_82, q_168_84r, q_168_84n, q_168_85, q_168_86, q_168_87, q_168_88, q_168_91, q_168_93, q_168_96r, q_168_96n, q_168_97, q_168_98, q_168_99, q_168_102, q_168_103r, q_168_103n, q_168_104, q_168_105, q_168_106, q_168_107, vf_s, vf_n, zk2_none, zk2_int, zk2_ref, zk2_null, zk2_long, zct_nil, zct_i, zct_l, zct_r, zct_n, Option.bind_some, Option.toList_some, Option.toList_none, List.cons_append, List.nil_append, zor_l, zor_r, if_true, if_false, ↓reduceIte, zi_lit, zi_of, zi_add, zi_mul, zi_sub, zi_nat, zi_leT, zi_leF, zi_ltT, zi_ltF, zi_eqT, zi_eqF, zif_0z, zif_bz, zi_01l, zi_01r, not_true_eq_false, not_false_eq_true, Nat.reduceAdd, Nat.reduceMul, Nat.reduceSub, hd, m167, ex, Nat.add_sub_cancel, m1, m2, q1]
        · have e0 : bop n (E x) (E (x + 1)) = E (x + 1) := by unfold bop; rw [if_pos hz, if_neg hz2]
          have ef : fin (E (x + 1)) = E (x + 1) := if_neg fun q => hz2 q.1
          rw [if_pos hz] at m1
          rw [if_neg hz2] at m2
          rw [e0, ef, if_neg (fun q => hz2 q.2.1)]
          obtain ⟨mj1, q1, q2, q3⟩ := m_144 (Ls := Ls) (g := g) (mi := zup mi 148 11 (zi (x + 1))) (mj := mj) (i1 := zi 0) hx
          refine stR.w (mj1 := mj1) ?_ (mS_stP hS (by omega) ⟨fun q => absurd q hz2, fun _ => q2⟩ q3) ?_ q3.1
          · simp (disch := (first | with_reducible exact is_148 | with_reducible exact zi_at is_148 (by omega) (by omega) | ((with_reducible refine zct_le ?_) <;> exact Nat.le_of_ble_eq_true rfl) | with_reducible exact zh_0 | with_reducible exact zh_1 | with_reducible exact zh_b | omega)) only [e_168, q_168_0, q_168_1, q_168_3, q_168_6r, q_168_6n, q_168_7r, q_168_7n, q_168_8, q_168_11, q_168_12, q_168_13r, q_168_13n, q_168_14, q_168_17, q_168_20r, q_168_20n, q_168_21r, q_168_21i, q_168_22, q_168_25, q_168_26, q_168_27, q_168_30, q_168_31, q_168_32, q_168_35, q_168_38r, q_168_38n, q_168_39, q_168_42, q_168_43, q_168_44, q_168_47r, q_168_47n, q_168_48, q_168_51, q_168_52, q_168_53, q_168_54r, q_168_54n, q_168_55, q_168_58, q_168_59, q_168_60, q_168_61r, q_168_61n, q_168_62, q_168_63, q_168_66, q_168_69r, q_168_69n, q_168_70, q_168_71, q_168_74, q_168_77, q_168_78, q_168_81, q_168_82, q_168_84r, q_168_84n, q_168_85, q_168_86, q_168_87, q_168_88, q_168_91, q_168_93, q_168_96r, q_168_96n, q_168_97, q_168_98, q_168_99, q_168_102, q_168_103r, q_168_103n, q_168_104, q_168_105, q_168_106, q_168_107, q_168_110r, q_168_110n, q_168_111, q_168_112, q_168_115, q_168_118r, q_168_118n, q_168_119, q_168_120, q_168_123, q_168_126r, q_168_126n, q_168_127, q_168_128, q_168_129, q_168_132r, q_168_132n, q_168_133, q_168_134, q_168_137, q_168_140, q_168_141, q_168_143, q_168_146r, q_168_146n, q_168_147, q_168_150, vf_s, vf_n, zk2_none, zk2_int, zk2_ref, zk2_null, zk2_long, zct_nil, zct_i, zct_l, zct_r, zct_n, Option.bind_some, Option.toList_some, Option.toList_none, List.cons_append, List.nil_append, zor_l, zor_r, if_true, if_false, ↓reduceIte, zi_lit, zi_of, zi_add, zi_mul, zi_sub, zi_nat, zi_leT, zi_leF, zi_ltT, zi_ltF, zi_eqT, zi_eqF, zif_0z, zif_bz, zi_01l, zi_01r, not_true_eq_false, not_false_eq_true, Nat.reduceAdd, Nat.reduceMul, Nat.reduceSub, hd, m167, ex, Nat.add_sub_cancel, m1, m2, q1]
          · rw [hr, fw_stP, fw, fw]
            by_cases c : fw E x = zi 0
            · simp [c, hz]
            · simp [c]
      · have e0 : bop n (E x) (E (x + 1)) = E x := by unfold bop; rw [if_neg hz]
        have ef : fin (E x) = E x := if_neg fun q => hz q.1
        rw [if_neg hz] at m1
        rw [e0, ef, if_neg (fun q => hz q.2.1)]
        obtain ⟨mj1, q1, q2, q3⟩ := m_144 (Ls := Ls) (g := g) (mi := zup mi 148 11 (zi (x + 1))) (mj := mj) (i1 := zi 0) hx
        refine stR.w (mj1 := mj1) ?_ (mS_stP hS (by omega) ⟨fun q => absurd q hz, fun _ => q2⟩ q3) ?_ q3.1
        · simp (disch := (first | with_reducible exact is_148 | with_reducible exact zi_at is_148 (by omega) (by omega) | ((with_reducible refine zct_le ?_) <;> exact Nat.le_of_ble_eq_true rfl) | with_reducible exact zh_0 | with_reducible exact zh_1 | with_reducible exact zh_b | omega)) only [e_168, q_168_0, q_168_1, q_168_3, q_168_6r, q_168_6n, q_168_7r, q_168_7n, q_168_8, q_168_11, q_168_12, q_168_13r, q_168_13n, q_168_14, q_168_17, q_168_20r, q_168_20n, q_168_21r, q_168_21i, q_168_22, q_168_25, q_168_26, q_168_27, q_168_30, q_168_31, q_168_32, q_168_35, q_168_38r, q_168_38n, q_168_39, q_168_42, q_168_43, q_168_44, q_168_47r, q_168_47n, q_168_48, q_168_51, q_168_52, q_168_53, q_168_54r, q_168_54n, q_168_55, q_168_58, q_168_59, q_168_60, q_168_61r, q_168_61n, q_168_62, q_168_63, q_168_66, q_168_69r, q_168_69n, q_168_70, q_168_71, q_168_74, q_168_77, q_168_78, q_168_81, q_168_82, q_168_84r, q_168_84n, q_168_85, q_168_86, q_168_87, q_168_88, q_168_91, q_168_93, q_168_96r, q_168_96n, q_168_97, q_168_98, q_168_99, q_168_102, q_168_103r, q_168_103n, q_168_104, q_168_105, q_168_106, q_168_107, q_168_110r, q_168_110n, q_168_111, q_168_112, q_168_115, q_168_118r, q_168_118n, q_168_119, q_168_120, q_168_123, q_168_126r, q_168_126n, q_168_127, q_168_128, q_168_129, q_168_132r, q_168_132n, q_168_133, q_168_134, q_168_137, q_168_140, q_168_141, q_168_143, q_168_146r, q_168_146n, q_168_147, q_168_150, vf_s, vf_n, zk2_none, zk2_int, zk2_ref, zk2_null, zk2_long, zct_nil, zct_i, zct_l, zct_r, zct_n, Option.bind_some, Option.toList_some, Option.toList_none, List.cons_append, List.nil_append, zor_l, zor_r, if_true, if_false, ↓reduceIte, zi_lit, zi_of, zi_add, zi_mul, zi_sub, zi_nat, zi_leT, zi_leF, zi_ltT, zi_ltF, zi_eqT, zi_eqF, zif_0z, zif_bz, zi_01l, zi_01r, not_true_eq_false, not_false_eq_true, Nat.reduceAdd, Nat.reduceMul, Nat.reduceSub, hd, m167, ex, Nat.add_sub_cancel, m1, m2, q1]
        · rw [hr, fw_stP, fw, fw]
          by_cases c : fw E x = zi 0
          · simp [c, hz]
          · simp [c]
end
