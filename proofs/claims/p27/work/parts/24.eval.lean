/-! ===== the machine of the class (3): evaluations ===== -/
def dep (K : Nat → Nat) : Nat → Nat
  | 0 => 0
  | n + 1 => dep K n - opn (K n) + 1
def stk (lo hi : Nat → Int32) (u : Nat) (K : Nat → Nat) (V : Nat → Int32) : Nat → Nat → En
  | 0 => fun _ => (zi 0, fun _ => 0)
  | n + 1 => stE lo hi u (K n) (V n) (dep K n) (stk lo hi u K V n)
/-- steps that can be done -/
def wfK (K : Nat → Nat) (n : Nat) : Prop := ∀ i, i < n → K i < 16 ∧ opn (K i) ≤ dep K i ∧ dep K i - opn (K i) < 31 ∧ (K i = 8 → 1 ≤ dep K i)
/-- forms that are as they should be -/
def fOk (F : FF) : Prop := (∀ k, k < 16 → -1000000000 ≤ (F k).toInt ∧ (F k).toInt ≤ 1000000000) ∧ 0 ≤ (F 13).toInt ∧ 0 ≤ (frad F 12).toInt ∧ (frad F 12).toInt ≤ 1000000000 ∧ (flow F).toInt ≤ (fhigh F).toInt
def gdE (e : En) : Prop := e.1 = zi 0 → fOk e.2
theorem fOk.le {F : FF} (h : fOk F) : flow F ≤ fhigh F := by rw [zj_le]; exact h.2.2.2.2
theorem fOk.e {F : FF} (h : fOk F) : 0 ≤ F 13 := Kit.i64_nonneg.mpr h.2.1
theorem kj1e9 : (1000000000 : Int64).toInt = 1000000000 := by decide
theorem kjm1e9 : (-1000000000 : Int64).toInt = -1000000000 := by decide
theorem kj0 : (0 : Int64).toInt = 0 := by decide
theorem zabs_i {u : Int64} (h : -9223372036854775808 < u.toInt) : (zabs u).toInt = if 0 ≤ u.toInt then u.toInt else -u.toInt := by
  unfold zabs
  by_cases c : 0 ≤ u
  · rw [if_pos c, if_pos (Kit.i64_nonneg.mp c)]
  · rw [if_neg c, if_neg (fun z => c (Kit.i64_nonneg.mpr z)), zj_neg h]
theorem fOk.s {F : FF} (h : fOk F) {s : Nat} (hs : s < 12) : 0 ≤ F 13 + zabs (F (s + 1)) := by
  have h1 := h.1 (s + 1) (by omega)
  have h2 := h.1 13 (by omega)
  have h3 := h.2.1
  have e := zabs_i (u := F (s + 1)) (by omega)
  rw [Kit.i64_nonneg, zj_add]
  · rw [e]; split <;> omega
  · rw [e]; split <;> omega
  · rw [e]; split <;> omega
theorem zbig_no {u : Int64} (h1 : -1000000000 ≤ u.toInt) (h2 : u.toInt ≤ 1000000000) : ¬ zbig u := by
  unfold zbig
  rw [zj_lt, zj_lt, kj1e9, kjm1e9]
  omega
theorem fOk.big {F : FF} (h : fOk F) : ¬ fBig F := by
  obtain ⟨h1, h2, h3, h4, -⟩ := h
  have a := zbig_no (h1 0 (by omega)).1 (h1 0 (by omega)).2
  have b := zbig_no (u := frad F 12) (by omega) h4
  have c := zbig_no (h1 14 (by omega)).1 (h1 14 (by omega)).2
  have d := zbig_no (h1 15 (by omega)).1 (h1 15 (by omega)).2
  rintro (q | q | q | q)
  · exact a q
  · exact b q
  · exact c q
  · exact d q
theorem fin_eq (e : En) : fin e = if e.1 = zi 0 ∧ fBig e.2 then (zi 3, e.2) else e := rfl
theorem gdE.fn {e : En} (h : gdE e) : fin e = e := by
  rw [fin_eq]
  by_cases hz : e.1 = zi 0
  · exact if_neg fun q => (h hz).big q.2
  · exact if_neg fun q => hz q.1
def gdS (lo hi : Nat → Int32) (u : Nat) (K : Nat → Nat) (V : Nat → Int32) (n : Nat) : Prop := ∀ i, i < n → (∀ j, j < dep K i → gdE (stk lo hi u K V i j)) ∧ gdE (fin (mkE lo hi (K i) (V i) (dep K i) (stk lo hi u K V i))) ∧ (K i < 5 → gdE (mkE lo hi (K i) (V i) (dep K i) (stk lo hi u K V i)))
def FrE (mi : zI) (mj : zJ) (mi' : zI) (mj' : zJ) : Prop := (∀ a, a < 27 ∨ 96 < a → mi' a = mi a) ∧ (∀ a, a < 29 ∨ 96 < a → mj' a = mj a)
theorem FrE.rf {mi : zI} {mj : zJ} : FrE mi mj mi mj := ⟨fun _ _ => rfl, fun _ _ => rfl⟩
theorem FrE.tr {mi mi1 mi2 : zI} {mj mj1 mj2 : zJ} (h : FrE mi mj mi1 mj1) (h2 : FrE mi1 mj1 mi2 mj2) : FrE mi mj mi2 mj2 :=
  ⟨fun a ha => (h2.1 a ha).trans (h.1 a ha), fun a ha => (h2.2 a ha).trans (h.2 a ha)⟩
theorem dep_le {K : Nat → Nat} {n : Nat} (h : wfK K n) : dep K n ≤ 31 := by
  cases n with
  | zero => exact Nat.zero_le _
  | succ n =>
    have := (h n (by omega)).2.2.1
    rw [dep]
    omega
theorem wfK.le {K : Nat → Nat} {n m : Nat} (h : wfK K n) (hm : m ≤ n) : wfK K m := fun i hi => h i (by omega)
theorem gdS.le {lo hi : Nat → Int32} {u : Nat} {K : Nat → Nat} {V : Nat → Int32} {n m : Nat} (h : gdS lo hi u K V n) (hm : m ≤ n) : gdS lo hi u K V m := fun i hi => h i (by omega)
theorem dep_ext {K K' : Nat → Nat} {n : Nat} (h : ∀ i, i < n → K i = K' i) : dep K n = dep K' n := by
  induction n with
  | zero => rfl
  | succ n ih => rw [dep, dep, ih (fun i hi => h i (by omega)), h n (by omega)]
theorem stk_ext {lo hi lo' hi' : Nat → Int32} {u : Nat} {K K' : Nat → Nat} {V V' : Nat → Int32} {n : Nat} (h : ∀ i, i < n → K i = K' i) (h2 : ∀ i, i < n → V i = V' i) : stk lo hi u K V n = stk lo hi u K' V' n := by
  induction n with
  | zero => rfl
  | succ n ih => rw [stk, stk, ih (fun i hi => h i (by omega)) (fun i hi => h2 i (by omega)), h n (by omega), h2 n (by omega), dep_ext (fun i hi => h i (by omega))]
section
variable {Ls : Nat} {g : Nat → Nat} {mi : zI} {mj : zJ} {x y z : Int32} {o p q k n d s b u N n1 n2 : Nat} {v w : Int32} {e e1 e2 : En} {E : Nat → En} {Z : Option zRes} {lo hi V : Nat → Int32} {K : Nat → Nat}
theorem zBx_fr (hb : zBx b) : b + 2 < 27 ∨ 96 < b := by
  simp only [zBx, List.mem_cons, List.not_mem_nil, or_false] at hb
  omega
theorem zSp_fr (hb : zSp b) : b + 2 < 27 ∨ 96 < b := by
  simp only [zSp, List.mem_cons, List.not_mem_nil, or_false] at hb
  omega
theorem m_48 (hg : gOk g) (hS : cS mi mj g d E) (hd : mi 27 3 = zi d) (hd2 : d ≤ 31) (hu : mi 27 4 = zi u) (hu8 : u ≤ 8) (hn : n < 16) (ho1 : opn n ≤ d) (ho2 : d - opn n < 31) (h8 : n = 8 → 1 ≤ d) (hb : zBx b) (hlo : ∀ k, k < 4 → mi (b + 1) k = lo k) (hhi : ∀ k, k < 4 → mi (b + 2) k = hi k) (hne : ∀ j, j < d → gdE (E j)) (hm : gdE (fin (mkE lo hi n v d E))) :
    ∃ mi' mj' g', zCall 48 [.ref 27, .int (zi n), .int v, .ref b] (SH Ls) mi mj (RF g) = some (none, SH Ls, mi', mj', RF g') ∧ gOk g' ∧ cS mi' mj' g' (d - opn n + 1) (stE lo hi u n v d E) ∧ mi' 27 3 = zi (d - opn n + 1) ∧ mi' 27 4 = zi u ∧ FrE mi mj mi' mj' := by
  have hG := hg 32 (by omega)
  obtain ⟨go1, go2, go3⟩ := id hG.1
  obtain ⟨mi1, mj1, r1, r2, r3, r4⟩ := pA (Ls := Ls) (v := v) hg hS hd (by omega) hn ho1 (by omega) h8 hb hlo hhi (fun i hi hz => (hne i hi hz).le)
  have h27 : mi1 27 = mi 27 := r4.1 27 (by omega) (by omega)
  obtain ⟨mi2, mj2, q1, q2, q3, q4⟩ := pB (Ls := Ls) (v := v) (b := b) (n := n) (k := opn n) hg (fun i hi => cE_fr r4 hG.1 (hg i (by omega)).1 ((hg i (by omega)).2.2 32 (by omega) (by omega)) (hg i (by omega)).2.1 (hS i hi)) (by rw [h27, hd]) (by omega) (by rw [h27, hu]) hu8 hn ho1 (by omega) r2 r3 (fun s hs hz => (hm hz).s hs)
  refine ⟨mi2, mj2, _, r1.trans q1, gSw_ok hg (by omega), q2, q3, ?_, ?_⟩
  · rw [q4.2.1 4 (by omega), h27, hu]
  · refine ⟨fun a ha => ?_, fun a ha => ?_⟩
    · rw [q4.1 a ha, r4.1 a (by omega) (by omega)]
    · rw [q4.2.2 a ha, r4.2 a (by omega) (by omega) (by omega) (by omega)]
/-- what an evaluation needs, and what it has come to after i steps -/
def evA (Ls : Nat) (mi : zI) (b : Nat) (lo hi : Nat → Int32) (u : Nat) (K : Nat → Nat) (V : Nat → Int32) (n : Nat) : Prop := u ≤ 8 ∧ zBx b ∧ (∀ k, k < 4 → mi (b + 1) k = lo k) ∧ (∀ k, k < 4 → mi (b + 2) k = hi k) ∧ wfK K n ∧ gdS lo hi u K V n
def evB (mi : zI) (mj : zJ) (g : Nat → Nat) (lo hi : Nat → Int32) (u : Nat) (K : Nat → Nat) (V : Nat → Int32) (i : Nat) : Prop := gOk g ∧ cS mi mj g (dep K i) (stk lo hi u K V i) ∧ mi 27 3 = zi (dep K i) ∧ mi 27 4 = zi u
theorem evA.fr {mi' : zI} (h : evA Ls mi b lo hi u K V n) (f : ∀ a, a < 27 ∨ 96 < a → mi' a = mi a) : evA Ls mi' b lo hi u K V n := by
  obtain ⟨a1, a2, a3, a4, a5⟩ := h
  have := zBx_fr a2
  exact ⟨a1, a2, fun k hk => by rw [f (b + 1) (by omega)]; exact a3 k hk, fun k hk => by rw [f (b + 2) (by omega)]; exact a4 k hk, a5⟩
theorem ev_step (hA : evA Ls mi b lo hi u K V n) (hB : evB mi mj g lo hi u K V k) (hk : k < n) : ∃ mi' mj' g', zCall 48 [.ref 27, .int (zi (K k)), .int (V k), .ref b] (SH Ls) mi mj (RF g) = some (none, SH Ls, mi', mj', RF g') ∧ evB mi' mj' g' lo hi u K V (k + 1) ∧ FrE mi mj mi' mj' := by
  obtain ⟨a1, a2, a3, a4, a5, a6⟩ := hA
  obtain ⟨b1, b2, b3, b4⟩ := hB
  obtain ⟨w1, w2, w3, w4⟩ := a5 k hk
  obtain ⟨mi', mj', g', r1, r2, r3, r4, r5, r6⟩ := m_48 (Ls := Ls) (v := V k) b1 b2 b3 (dep_le (a5.le (by omega))) b4 a1 w1 w2 w3 w4 a2 a3 a4 (a6 k hk).1 (a6 k hk).2.1
  exact ⟨mi', mj', g', r1, ⟨r2, r3, r4, r5⟩, r6⟩
theorem l_45 (ho : zSp o) (hn : n ≤ N) (hN : N ≤ 60) (m : Nat) : ∀ i, i + m = n → ∀ mi mj g, evA Ls mi b lo hi u K V n → evB mi mj g lo hi u K V i → mi o 2 = zi N → (∀ k, k < n → mi (o + 1) k = zi (K k)) → (∀ k, k < n → mi (o + 2) k = V k) →
    ∃ mi' mj' g', zRun 45 14 [some (.ref 27), some (.ref o), some (.int (zi n)), some (.ref b), some (.int (zi u)), some (.int (zi i))] [] (SH Ls) mi mj (RF g) = zRun 45 54 [some (.ref 27), some (.ref o), some (.int (zi n)), some (.ref b), some (.int (zi u)), some (.int (zi n))] [] (SH Ls) mi' mj' (RF g') ∧ evB mi' mj' g' lo hi u K V n ∧ FrE mi mj mi' mj' := by
  have hof := zSp_fr ho
  induction m with
  | zero =>
    intro i hi mi mj g hA hB h2 hK hV
    obtain rfl : i = n := by omega
    refine ⟨mi, mj, g, ?_, hB, FrE.rf⟩
    rw [q_45_14]
    simp (disch := (first | with_reducible exact is_27 | with_reducible exact zi_at is_27 (by omega) (by omega) | with_reducible exact (zSp_is ho) | with_reducible exact zi_at (zSp_is ho) (by omega) (by omega) | with_reducible exact (zSp_i1 ho) | with_reducible exact zi_at (zSp_i1 ho) (by omega) (by omega) | with_reducible exact (zSp_i2 ho) | with_reducible exact zi_at (zSp_i2 ho) (by omega) (by omega) | ((with_reducible refine zct_le ?_) <;> exact Nat.le_of_ble_eq_true rfl) | with_reducible exact zh_0 | with_reducible exact zh_1 | with_reducible exact zh_b | omega)) only [q_45_16, q_45_17, q_45_20, q_45_22r, q_45_22n, q_45_23, q_45_26, q_45_29r, q_45_29n, q_45_30r, q_45_30n, q_45_31, q_45_34, q_45_36, q_45_37r, q_45_37n, q_45_38, q_45_41, q_45_43, q_45_44r, q_45_44n, q_45_45, q_45_48, q_45_51, vf_s, vf_n, zk2_none, zk2_int, zk2_ref, zk2_null, zk2_long, zct_nil, zct_i, zct_l, zct_r, zct_n, Option.bind_some, Option.toList_some, Option.toList_none, List.cons_append, List.nil_append, zor_l, zor_r, if_true, if_false, ↓reduceIte, zi_lit, zi_of, zi_add, zi_mul, zi_sub, zi_nat, zi_leT, zi_leF, zi_ltT, zi_ltF, zi_eqT, zi_eqF, zif_0z, zif_bz, zi_01l, zi_01r, not_true_eq_false, not_false_eq_true, Nat.reduceAdd, Nat.reduceMul, Nat.reduceSub]
  | succ m ih =>
    intro i hi mi mj g hA hB h2 hK hV
    obtain ⟨mi1, mj1, g1, r1, r2, r3⟩ := ev_step (Ls := Ls) hA hB (show i < n by omega)
    obtain ⟨mi2, mj2, g2, q1, q2, q3⟩ := ih (i + 1) (by omega) mi1 mj1 g1 (hA.fr r3.1) r2 (by rw [r3.1 o (by omega), h2]) (fun k hk => by rw [r3.1 (o + 1) (by omega), hK k hk]) (fun k hk => by rw [r3.1 (o + 2) (by omega), hV k hk])
    refine ⟨mi2, mj2, g2, ?_, q2, r3.tr q3⟩
    rw [q_45_14]
    simp (disch := (first | with_reducible exact is_27 | with_reducible exact zi_at is_27 (by omega) (by omega) | with_reducible exact (zSp_is ho) | with_reducible exact zi_at (zSp_is ho) (by omega) (by omega) | with_reducible exact (zSp_i1 ho) | with_reducible exact zi_at (zSp_i1 ho) (by omega) (by omega) | with_reducible exact (zSp_i2 ho) | with_reducible exact zi_at (zSp_i2 ho) (by omega) (by omega) | ((with_reducible refine zct_le ?_) <;> exact Nat.le_of_ble_eq_true rfl) | with_reducible exact zh_0 | with_reducible exact zh_1 | with_reducible exact zh_b | omega)) only [q_45_16, q_45_17, q_45_20, q_45_22r, q_45_22n, q_45_23, q_45_26, q_45_29r, q_45_29n, q_45_30r, q_45_30n, q_45_31, q_45_34, q_45_36, q_45_37r, q_45_37n, q_45_38, q_45_41, q_45_43, q_45_44r, q_45_44n, q_45_45, q_45_48, q_45_51, vf_s, vf_n, zk2_none, zk2_int, zk2_ref, zk2_null, zk2_long, zct_nil, zct_i, zct_l, zct_r, zct_n, Option.bind_some, Option.toList_some, Option.toList_none, List.cons_append, List.nil_append, zor_l, zor_r, if_true, if_false, ↓reduceIte, zi_lit, zi_of, zi_add, zi_mul, zi_sub, zi_nat, zi_leT, zi_leF, zi_ltT, zi_ltF, zi_eqT, zi_eqF, zif_0z, zif_bz, zi_01l, zi_01r, not_true_eq_false, not_false_eq_true, Nat.reduceAdd, Nat.reduceMul, Nat.reduceSub, h2, zSp_r0 ho, zSp_r1 ho, hK i (by omega), hV i (by omega), r1]
    exact q1
theorem m_45 (ho : zSp o) (hn : n ≤ N) (hN : N ≤ 60) (hg : gOk g) (hA : evA Ls mi b lo hi u K V n) (h2 : mi o 2 = zi N) (hK : ∀ k, k < n → mi (o + 1) k = zi (K k)) (hV : ∀ k, k < n → mi (o + 2) k = V k) (hd : 1 ≤ dep K n) :
    ∃ mi' mj' g', zCall 45 [.ref 27, .ref o, .int (zi n), .ref b, .int (zi u)] (SH Ls) mi mj (RF g) = some (some (.ref (g' (dep K n - 1))), SH Ls, mi', mj', RF g') ∧ evB mi' mj' g' lo hi u K V n ∧ FrE mi mj mi' mj' := by
  have hof := zSp_fr ho
  have hbf := zBx_fr hA.2.1
  have f1 : ∀ a, a < 27 ∨ 96 < a → zup (zup mi 27 3 (zi 0)) 27 4 (zi u) a = mi a := fun a ha => by rw [zup_ne (by omega), zup_ne (by omega)]
  obtain ⟨mi', mj', g', r1, r2, r3⟩ := l_45 (Ls := Ls) ho hn hN n 0 (by omega) (zup (zup mi 27 3 (zi 0)) 27 4 (zi u)) mj g (hA.fr f1) ⟨hg, fun i hi => absurd hi (by show ¬ i < 0; omega), by rw [zg_j (by omega), zg_s]; rfl, zg_s⟩ (by rw [f1 o (by omega), h2]) (fun k hk => by rw [f1 (o + 1) (by omega), hK k hk]) (fun k hk => by rw [f1 (o + 2) (by omega), hV k hk])
  refine ⟨mi', mj', g', ?_, r2, ⟨fun a ha => by rw [r3.1 a ha, f1 a ha], r3.2⟩⟩
  simp (disch := (first | with_reducible exact is_27 | with_reducible exact zi_at is_27 (by omega) (by omega) | ((with_reducible refine zct_le ?_) <;> exact Nat.le_of_ble_eq_true rfl) | with_reducible exact zh_0 | with_reducible exact zh_1 | with_reducible exact zh_b | omega)) only [e_45, q_45_0r, q_45_0n, q_45_1, q_45_2, q_45_5r, q_45_5n, q_45_6, q_45_8, q_45_11, q_45_12, vf_s, vf_n, zk2_none, zk2_int, zk2_ref, zk2_null, zk2_long, zct_nil, zct_i, zct_l, zct_r, zct_n, Option.bind_some, Option.toList_some, Option.toList_none, List.cons_append, List.nil_append, zor_l, zor_r, if_true, if_false, ↓reduceIte, zi_lit, zi_of, zi_add, zi_mul, zi_sub, zi_nat, zi_leT, zi_leF, zi_ltT, zi_ltF, zi_eqT, zi_eqF, zif_0z, zif_bz, zi_01l, zi_01r, not_true_eq_false, not_false_eq_true, Nat.reduceAdd, Nat.reduceMul, Nat.reduceSub]
  rw [r1]
  simp (disch := (first | with_reducible exact is_27 | with_reducible exact zi_at is_27 (by omega) (by omega) | ((with_reducible refine zct_le ?_) <;> exact Nat.le_of_ble_eq_true rfl) | with_reducible exact zh_0 | with_reducible exact zh_1 | with_reducible exact zh_b | omega)) only [q_45_54r, q_45_54n, q_45_55, q_45_58r, q_45_58n, vf_s, vf_n, zk2_none, zk2_int, zk2_ref, zk2_null, zk2_long, zct_nil, zct_i, zct_l, zct_r, zct_n, Option.bind_some, Option.toList_some, Option.toList_none, List.cons_append, List.nil_append, zor_l, zor_r, if_true, if_false, ↓reduceIte, zi_lit, zi_of, zi_add, zi_mul, zi_sub, zi_nat, zi_leT, zi_leF, zi_ltT, zi_ltF, zi_eqT, zi_eqF, zif_0z, zif_bz, zi_01l, zi_01r, not_true_eq_false, not_false_eq_true, Nat.reduceAdd, Nat.reduceMul, Nat.reduceSub, m_47 r2.2.2.1 hd (by have := dep_le hA.2.2.2.2.1; omega)]
theorem l_46 (ho : zSp q) (h60 : n2 ≤ 60) (m : Nat) : ∀ i, i + m = n2 → ∀ mi mj g, evA Ls mi b lo hi u K V (n1 + n2) → evB mi mj g lo hi u K V (n1 + i) → mi q 2 = zi n2 → (∀ k, k < n2 → mi (q + 1) k = zi (K (n1 + k))) → (∀ k, k < n2 → mi (q + 2) k = V (n1 + k)) →
    ∃ mi' mj' g', zRun 46 16 [some (.ref 27), some (.ref o), some (.ref q), some (.ref b), some (.int (zi u)), some (.int (zi i))] [] (SH Ls) mi mj (RF g) = zRun 46 50 [some (.ref 27), some (.ref o), some (.ref q), some (.ref b), some (.int (zi u)), some (.int (zi n2))] [] (SH Ls) mi' mj' (RF g') ∧ evB mi' mj' g' lo hi u K V (n1 + n2) ∧ FrE mi mj mi' mj' := by
  have hof := zSp_fr ho
  induction m with
  | zero =>
    intro i hi mi mj g hA hB h2 hK hV
    obtain rfl : i = n2 := by omega
    refine ⟨mi, mj, g, ?_, hB, FrE.rf⟩
    rw [q_46_16]
    simp (disch := (first | with_reducible exact is_27 | with_reducible exact zi_at is_27 (by omega) (by omega) | with_reducible exact (zSp_is ho) | with_reducible exact zi_at (zSp_is ho) (by omega) (by omega) | with_reducible exact (zSp_i1 ho) | with_reducible exact zi_at (zSp_i1 ho) (by omega) (by omega) | with_reducible exact (zSp_i2 ho) | with_reducible exact zi_at (zSp_i2 ho) (by omega) (by omega) | ((with_reducible refine zct_le ?_) <;> exact Nat.le_of_ble_eq_true rfl) | with_reducible exact zh_0 | with_reducible exact zh_1 | with_reducible exact zh_b | omega)) only [q_46_18r, q_46_18n, q_46_19, q_46_22, q_46_25r, q_46_25n, q_46_26r, q_46_26n, q_46_27, q_46_30, q_46_32, q_46_33r, q_46_33n, q_46_34, q_46_37, q_46_39, q_46_40r, q_46_40n, q_46_41, q_46_44, q_46_47, vf_s, vf_n, zk2_none, zk2_int, zk2_ref, zk2_null, zk2_long, zct_nil, zct_i, zct_l, zct_r, zct_n, Option.bind_some, Option.toList_some, Option.toList_none, List.cons_append, List.nil_append, zor_l, zor_r, if_true, if_false, ↓reduceIte, zi_lit, zi_of, zi_add, zi_mul, zi_sub, zi_nat, zi_leT, zi_leF, zi_ltT, zi_ltF, zi_eqT, zi_eqF, zif_0z, zif_bz, zi_01l, zi_01r, not_true_eq_false, not_false_eq_true, Nat.reduceAdd, Nat.reduceMul, Nat.reduceSub, h2]
  | succ m ih =>
    intro i hi mi mj g hA hB h2 hK hV
    obtain ⟨mi1, mj1, g1, r1, r2, r3⟩ := ev_step (Ls := Ls) hA hB (show n1 + i < n1 + n2 by omega)
    obtain ⟨mi2, mj2, g2, q1, q2, q3⟩ := ih (i + 1) (by omega) mi1 mj1 g1 (hA.fr r3.1) r2 (by rw [r3.1 q (by omega), h2]) (fun k hk => by rw [r3.1 (q + 1) (by omega), hK k hk]) (fun k hk => by rw [r3.1 (q + 2) (by omega), hV k hk])
    refine ⟨mi2, mj2, g2, ?_, q2, r3.tr q3⟩
    rw [q_46_16]
    simp (disch := (first | with_reducible exact is_27 | with_reducible exact zi_at is_27 (by omega) (by omega) | with_reducible exact (zSp_is ho) | with_reducible exact zi_at (zSp_is ho) (by omega) (by omega) | with_reducible exact (zSp_i1 ho) | with_reducible exact zi_at (zSp_i1 ho) (by omega) (by omega) | with_reducible exact (zSp_i2 ho) | with_reducible exact zi_at (zSp_i2 ho) (by omega) (by omega) | ((with_reducible refine zct_le ?_) <;> exact Nat.le_of_ble_eq_true rfl) | with_reducible exact zh_0 | with_reducible exact zh_1 | with_reducible exact zh_b | omega)) only [q_46_18r, q_46_18n, q_46_19, q_46_22, q_46_25r, q_46_25n, q_46_26r, q_46_26n, q_46_27, q_46_30, q_46_32, q_46_33r, q_46_33n, q_46_34, q_46_37, q_46_39, q_46_40r, q_46_40n, q_46_41, q_46_44, q_46_47, vf_s, vf_n, zk2_none, zk2_int, zk2_ref, zk2_null, zk2_long, zct_nil, zct_i, zct_l, zct_r, zct_n, Option.bind_some, Option.toList_some, Option.toList_none, List.cons_append, List.nil_append, zor_l, zor_r, if_true, if_false, ↓reduceIte, zi_lit, zi_of, zi_add, zi_mul, zi_sub, zi_nat, zi_leT, zi_leF, zi_ltT, zi_ltF, zi_eqT, zi_eqF, zif_0z, zif_bz, zi_01l, zi_01r, not_true_eq_false, not_false_eq_true, Nat.reduceAdd, Nat.reduceMul, Nat.reduceSub, h2, zSp_r0 ho, zSp_r1 ho, hK i (by omega), hV i (by omega), r1]
    exact q1
theorem m_46 (ho : zSp o) (hq : zSp q) (h1 : n1 ≤ 60) (h2 : n2 ≤ 60) (hg : gOk g) (hA : evA Ls mi b lo hi u K V (n1 + n2 + 1)) (s1 : mi o 2 = zi n1) (s2 : mi q 2 = zi n2) (hK1 : ∀ k, k < n1 → mi (o + 1) k = zi (K k)) (hV1 : ∀ k, k < n1 → mi (o + 2) k = V k) (hK2 : ∀ k, k < n2 → mi (q + 1) k = zi (K (n1 + k))) (hV2 : ∀ k, k < n2 → mi (q + 2) k = V (n1 + k)) (hK3 : K (n1 + n2) = 6) (hV3 : V (n1 + n2) = zi 0) (hd : 1 ≤ dep K n1) (hd2 : 1 ≤ dep K (n1 + n2 + 1)) :
    ∃ mi' mj' g', zCall 46 [.ref 27, .ref o, .ref q, .ref b, .int (zi u)] (SH Ls) mi mj (RF g) = some (some (.ref (g' (dep K (n1 + n2 + 1) - 1))), SH Ls, mi', mj', RF g') ∧ evB mi' mj' g' lo hi u K V (n1 + n2 + 1) ∧ FrE mi mj mi' mj' := by
  have hof := zSp_fr ho
  have hqf := zSp_fr hq
  have hA1 : evA Ls mi b lo hi u K V n1 := ⟨hA.1, hA.2.1, hA.2.2.1, hA.2.2.2.1, hA.2.2.2.2.1.le (by omega), hA.2.2.2.2.2.le (by omega)⟩
  have hA2 : evA Ls mi b lo hi u K V (n1 + n2) := ⟨hA.1, hA.2.1, hA.2.2.1, hA.2.2.2.1, hA.2.2.2.2.1.le (by omega), hA.2.2.2.2.2.le (by omega)⟩
  obtain ⟨mi1, mj1, g1, r1, r2, r3⟩ := m_45 (Ls := Ls) (mj := mj) ho (Nat.le_refl n1) h1 hg hA1 s1 hK1 hV1 hd
  obtain ⟨mi2, mj2, g2, q1, q2, q3⟩ := l_46 (Ls := Ls) (o := o) hq h2 n2 0 (by omega) mi1 mj1 g1 (hA2.fr r3.1) r2 (by rw [r3.1 q (by omega), s2]) (fun k hk => by rw [r3.1 (q + 1) (by omega), hK2 k hk]) (fun k hk => by rw [r3.1 (q + 2) (by omega), hV2 k hk])
  obtain ⟨mi3, mj3, g3, t1, t2, t3⟩ := ev_step (Ls := Ls) ((hA.fr r3.1).fr q3.1) q2 (Nat.lt_succ_self (n1 + n2))
  rw [hK3, hV3] at t1
  refine ⟨mi3, mj3, g3, ?_, t2, (r3.tr q3).tr t3⟩
  simp (disch := (first | with_reducible exact is_27 | with_reducible exact zi_at is_27 (by omega) (by omega) | with_reducible exact (zSp_is ho) | with_reducible exact zi_at (zSp_is ho) (by omega) (by omega) | ((with_reducible refine zct_le ?_) <;> exact Nat.le_of_ble_eq_true rfl) | with_reducible exact zh_0 | with_reducible exact zh_1 | with_reducible exact zh_b | omega)) only [e_46, q_46_0r, q_46_0n, q_46_1r, q_46_1n, q_46_2r, q_46_2n, q_46_3, q_46_6r, q_46_6n, q_46_7, q_46_9, q_46_12, q_46_13, q_46_14, vf_s, vf_n, zk2_none, zk2_int, zk2_ref, zk2_null, zk2_long, zct_nil, zct_i, zct_l, zct_r, zct_n, Option.bind_some, Option.toList_some, Option.toList_none, List.cons_append, List.nil_append, zor_l, zor_r, if_true, if_false, ↓reduceIte, zi_lit, zi_of, zi_add, zi_mul, zi_sub, zi_nat, zi_leT, zi_leF, zi_ltT, zi_ltF, zi_eqT, zi_eqF, zif_0z, zif_bz, zi_01l, zi_01r, not_true_eq_false, not_false_eq_true, Nat.reduceAdd, Nat.reduceMul, Nat.reduceSub, s1, r1]
  rw [q1]
  simp (disch := (first | with_reducible exact is_27 | with_reducible exact zi_at is_27 (by omega) (by omega) | ((with_reducible refine zct_le ?_) <;> exact Nat.le_of_ble_eq_true rfl) | with_reducible exact zh_0 | with_reducible exact zh_1 | with_reducible exact zh_b | omega)) only [q_46_50r, q_46_50n, q_46_51, q_46_53, q_46_54r, q_46_54n, q_46_55, q_46_58r, q_46_58n, q_46_59, q_46_62r, q_46_62n, vf_s, vf_n, zk2_none, zk2_int, zk2_ref, zk2_null, zk2_long, zct_nil, zct_i, zct_l, zct_r, zct_n, Option.bind_some, Option.toList_some, Option.toList_none, List.cons_append, List.nil_append, zor_l, zor_r, if_true, if_false, ↓reduceIte, zi_lit, zi_of, zi_add, zi_mul, zi_sub, zi_nat, zi_leT, zi_leF, zi_ltT, zi_ltF, zi_eqT, zi_eqF, zif_0z, zif_bz, zi_01l, zi_01r, not_true_eq_false, not_false_eq_true, Nat.reduceAdd, Nat.reduceMul, Nat.reduceSub, t1, m_47 t2.2.2.1 hd2 (by have := dep_le hA.2.2.2.2.1; omega)]
end
