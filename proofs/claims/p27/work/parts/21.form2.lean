/-! ===== forms (2): products, roots, choices ===== -/
theorem fsum_ext {h h' : Nat → Int64} {r : Int64} (n : Nat) (e : ∀ j, j < n → h j = h' j) : fsum h r n = fsum h' r n := by
  induction n with
  | zero => rfl
  | succ n ih => rw [fsum, fsum, ih fun j hj => e j (by omega), e n (by omega)]
theorem zup_id {α : Type} {f : Nat → Nat → α} {o j : Nat} {v : α} (h : v = f o j) : zup f o j v = f := by
  funext a b
  unfold zup
  split
  · rename_i e; rw [e.1, e.2, h]
  · rfl
def fRec (l u : Int64) : FF := fPl (zfdiv 65536 u) (-(zfdiv (-65536) l))
def fAbs (x : FF) (l u : Int64) : FF := if 0 ≤ l then x else if u ≤ 0 then fNeg x else fPl 0 (zmax (-l) u)
def zsl (n : Nat) : Int64 := (1 : Int64) <<< ((zi n).toInt64 &&& 63)
def rtd (u : Int64) : Nat → Int64 → Int64
  | 0, r => r
  | n + 1, r => rtd u n (if u < (r + zsl n) * (r + zsl n) then r else r + zsl n)
def rtUp (u : Int64) : Int64 := if u ≤ rtd u 20 0 * rtd u 20 0 then rtd u 20 0 else rtd u 20 0 + 1
def fRoot (l u : Int64) : FF := fPl (rtd (256 * zmax l 0) 20 0) (rtUp (256 * u))
def fLea (x : FF) (l u : Int64) (y : FF) (m n : Int64) : FF := if u ≤ m then x else if n ≤ l then y else fPl (zmin l m) (zmin u n)
def fGre (x : FF) (l u : Int64) (y : FF) (m n : Int64) : FF := if n ≤ l then x else if u ≤ m then y else fPl (zmax l m) (zmax u n)
section
variable {Ls : Nat} {g : Nat → Nat} {mi : zI} {mj : zJ} {x y z : Int32} {o p q k : Nat} {u v w : Int64} {r0 : Int64} {Z : Option zRes}
theorem l_33 (ho : zFm o) (hp : zFm p) (hq : zFm q) (hne : ¬ p = o) (hne2 : ¬ q = o)
    (hZ : ∀ l8, zRun 33 95 [some (.ref o), some (.ref p), some (.ref q), some (.long u), none, some (.long (fsum (fun j => zr8 (mj p 1 * mj (q + 1) j + mj q 1 * mj (p + 1) j)) r0 12)), none, some (.int (zi 12)), l8, none, none, none, none, none, none, none, none] [] (SH Ls) mi (yfl mj (o + 1) 12 fun j => zs8 (mj p 1 * mj (q + 1) j + mj q 1 * mj (p + 1) j)) (RF g) = Z)
    (n : Nat) : ∀ k, k + n = 12 → ∀ l8, zRun 33 30 [some (.ref o), some (.ref p), some (.ref q), some (.long u), none, some (.long (fsum (fun j => zr8 (mj p 1 * mj (q + 1) j + mj q 1 * mj (p + 1) j)) r0 k)), none, some (.int (zi k)), l8, none, none, none, none, none, none, none, none] [] (SH Ls) mi (yfl mj (o + 1) k fun j => zs8 (mj p 1 * mj (q + 1) j + mj q 1 * mj (p + 1) j)) (RF g) = Z := by
  have hoo := ho
  have hpp := hp
  have hqq := hq
  obtain ⟨ho1, ho2, ho3⟩ := ho
  obtain ⟨hp1, hp2, hp3⟩ := hp
  obtain ⟨hq1, hq2, hq3⟩ := hq
  induction n with
  | zero =>
    intro k hk l8
    obtain rfl : k = 12 := by omega
    rw [q_33_30]
    simp (disch := (first | ((with_reducible refine zct_le ?_) <;> exact Nat.le_of_ble_eq_true rfl) | with_reducible exact zh_0 | with_reducible exact zh_1 | with_reducible exact zh_b | omega)) only [q_33_32, q_33_34, vf_s, vf_n, zk2_none, zk2_int, zk2_ref, zk2_null, zk2_long, zct_nil, zct_i, zct_l, zct_r, zct_n, Option.bind_some, Option.toList_some, Option.toList_none, List.cons_append, List.nil_append, zor_l, zor_r, if_true, if_false, ↓reduceIte, zi_lit, zi_of, zi_add, zi_mul, zi_sub, zi_nat, zi_leT, zi_leF, zi_ltT, zi_ltF, zi_eqT, zi_eqF, zif_0z, zif_bz, zi_01l, zi_01r, not_true_eq_false, not_false_eq_true, Nat.reduceAdd, Nat.reduceMul, Nat.reduceSub]
    exact hZ l8
  | succ n ih =>
    intro k hk l8
    rw [q_33_30]
    simp (disch := (first | with_reducible exact (zFm_is hoo) | with_reducible exact zi_at (zFm_is hoo) (by omega) (by omega) | with_reducible exact (zFm_ic hoo) | with_reducible exact zi_at (zFm_ic hoo) (by omega) (by omega) | with_reducible exact (zFm_is hpp) | with_reducible exact zi_at (zFm_is hpp) (by omega) (by omega) | with_reducible exact (zFm_ic hpp) | with_reducible exact zi_at (zFm_ic hpp) (by omega) (by omega) | with_reducible exact (zFm_is hqq) | with_reducible exact zi_at (zFm_is hqq) (by omega) (by omega) | with_reducible exact (zFm_ic hqq) | with_reducible exact zi_at (zFm_ic hqq) (by omega) (by omega) | ((with_reducible refine zct_le ?_) <;> exact Nat.le_of_ble_eq_true rfl) | with_reducible exact zh_0 | with_reducible exact zh_1 | with_reducible exact zh_b | omega)) only [q_33_32, q_33_34, q_33_37r, q_33_37n, q_33_38, q_33_41r, q_33_41n, q_33_42, q_33_45, q_33_47, q_33_48, q_33_49r, q_33_49n, q_33_50, q_33_53r, q_33_53n, q_33_54, q_33_57, q_33_59, q_33_60, q_33_61, q_33_62, q_33_64r, q_33_64n, q_33_65, q_33_68, q_33_70, q_33_72, q_33_74, q_33_75, q_33_76, q_33_78, q_33_80, q_33_82, q_33_85, q_33_86, q_33_87, q_33_89, q_33_92, vf_s, vf_n, zk2_none, zk2_int, zk2_ref, zk2_null, zk2_long, zct_nil, zct_i, zct_l, zct_r, zct_n, Option.bind_some, Option.toList_some, Option.toList_none, List.cons_append, List.nil_append, zor_l, zor_r, if_true, if_false, ↓reduceIte, zi_lit, zi_of, zi_add, zi_mul, zi_sub, zi_nat, zi_leT, zi_leF, zi_ltT, zi_ltF, zi_eqT, zi_eqF, zif_0z, zif_bz, zi_01l, zi_01r, not_true_eq_false, not_false_eq_true, Nat.reduceAdd, Nat.reduceMul, Nat.reduceSub, zg_s, zg_o, zg_j, zg_r, zg_ro, zg_d, yfl_o, zFm_r hoo, zFm_r hpp, zFm_r hqq, zs8_f, m_41_8, zr8_c]
    rw [yfl_s rfl]
    exact ih (k + 1) (by omega) _
theorem m_33 (ho : zFm o) (hp : zFm p) (hq : zFm q) (hne : ¬ p = o) (hne2 : ¬ q = o) : zCall 33 [.ref o, .ref p, .ref q] (SH Ls) mi mj (RF g) = some (none, SH Ls, mi, wF mj o (fMul (cf mj p) (mj p 6) (cf mj q) (mj q 6)), RF g) := by
  have hoo := ho
  have hpp := hp
  have hqq := hq
  obtain ⟨ho1, ho2, ho3⟩ := ho
  obtain ⟨hp1, hp2, hp3⟩ := hp
  obtain ⟨hq1, hq2, hq3⟩ := hq
  simp (disch := (first | with_reducible exact (zFm_is hoo) | with_reducible exact zi_at (zFm_is hoo) (by omega) (by omega) | with_reducible exact (zFm_is hpp) | with_reducible exact zi_at (zFm_is hpp) (by omega) (by omega) | with_reducible exact (zFm_is hqq) | with_reducible exact zi_at (zFm_is hqq) (by omega) (by omega) | ((with_reducible refine zct_le ?_) <;> exact Nat.le_of_ble_eq_true rfl) | with_reducible exact zh_0 | with_reducible exact zh_1 | with_reducible exact zh_b | omega)) only [e_33, q_33_0r, q_33_0n, q_33_1, q_33_4r, q_33_4n, q_33_5, q_33_8, q_33_9, q_33_10r, q_33_10n, q_33_11, q_33_12, q_33_14, q_33_15, q_33_18, q_33_19, q_33_21, q_33_24, q_33_25, q_33_27, q_33_28, vf_s, vf_n, zk2_none, zk2_int, zk2_ref, zk2_null, zk2_long, zct_nil, zct_i, zct_l, zct_r, zct_n, Option.bind_some, Option.toList_some, Option.toList_none, List.cons_append, List.nil_append, zor_l, zor_r, if_true, if_false, ↓reduceIte, zi_lit, zi_of, zi_add, zi_mul, zi_sub, zi_nat, zi_leT, zi_leF, zi_ltT, zi_ltF, zi_eqT, zi_eqF, zif_0z, zif_bz, zi_01l, zi_01r, not_true_eq_false, not_false_eq_true, Nat.reduceAdd, Nat.reduceMul, Nat.reduceSub, zg_s, zg_o, zg_j, zg_r, zg_ro, zg_d, yfl_o, zs8_f, m_41_8, zr8_c]
  have := l_33 (Ls := Ls) (g := g) (mi := mi) (mj := zup mj o 1 (zs8 (mj p 1 * mj q 1))) (u := mj p 1 * mj q 1) (r0 := zr8 (mj p 1 * mj q 1)) (Z := some (none, SH Ls, mi, wF mj o (fMul (cf mj p) (mj p 6) (cf mj q) (mj q 6)), RF g)) hoo hpp hqq hne hne2 (by
    intro l8
    simp (disch := (first | with_reducible exact (zFm_is hoo) | with_reducible exact zi_at (zFm_is hoo) (by omega) (by omega) | with_reducible exact (zFm_is hpp) | with_reducible exact zi_at (zFm_is hpp) (by omega) (by omega) | with_reducible exact (zFm_is hqq) | with_reducible exact zi_at (zFm_is hqq) (by omega) (by omega) | ((with_reducible refine zct_le ?_) <;> exact Nat.le_of_ble_eq_true rfl) | with_reducible exact zh_0 | with_reducible exact zh_1 | with_reducible exact zh_b | omega)) only [q_33_95r, q_33_95n, q_33_96, q_33_99, q_33_102r, q_33_102n, q_33_103, q_33_106, q_33_107r, q_33_107n, q_33_108, q_33_111, q_33_114r, q_33_114n, q_33_115, q_33_118, q_33_119, q_33_120r, q_33_120n, q_33_121, q_33_124r, q_33_124n, q_33_125, q_33_128, q_33_129, q_33_130, q_33_132r, q_33_132n, q_33_133, q_33_135, q_33_137, q_33_140, q_33_142, q_33_143, q_33_146r, q_33_146n, q_33_147, q_33_150r, q_33_150n, q_33_151, q_33_154, q_33_155, q_33_157r, q_33_157n, q_33_158, q_33_161r, q_33_161n, q_33_162, q_33_165, q_33_166, q_33_168r, q_33_168n, q_33_169, q_33_172r, q_33_172n, q_33_173, q_33_176, q_33_177, q_33_179r, q_33_179n, q_33_180, q_33_183r, q_33_183n, q_33_184, q_33_187, q_33_188, q_33_190r, q_33_190n, q_33_191, q_33_193, q_33_195, q_33_198, q_33_200, q_33_202, q_33_205, q_33_208, q_33_210, q_33_211, q_33_214r, q_33_214n, q_33_215, q_33_217, q_33_219, q_33_222, q_33_224, q_33_226, q_33_229, q_33_232, q_33_234, q_33_237, q_33_240, vf_s, vf_n, zk2_none, zk2_int, zk2_ref, zk2_null, zk2_long, zct_nil, zct_i, zct_l, zct_r, zct_n, Option.bind_some, Option.toList_some, Option.toList_none, List.cons_append, List.nil_append, zor_l, zor_r, if_true, if_false, ↓reduceIte, zi_lit, zi_of, zi_add, zi_mul, zi_sub, zi_nat, zi_leT, zi_leF, zi_ltT, zi_ltF, zi_eqT, zi_eqF, zif_0z, zif_bz, zi_01l, zi_01r, not_true_eq_false, not_false_eq_true, Nat.reduceAdd, Nat.reduceMul, Nat.reduceSub, zg_s, zg_o, zg_j, zg_r, zg_ro, zg_d, yfl_o, zs8_f, m_42_8, m_111, m_112, m_114]
    refine rs_mj (wF_of ?_ ?_ ?_ ?_ ?_ ?_ ?_ ?_)
    · simp (disch := omega) only [zg_s, zg_o, zg_j, zg_r, zg_ro, zg_d, yfl_o, fMul, fMk_0, cf_0]
    · simp (disch := omega) only [zg_s, zg_o, zg_j, zg_r, zg_ro, zg_d, yfl_o, fMul, fMk_13, cf_0, cf_13]
      refine congrArg (HAdd.hAdd _) (fsum_ext 12 fun j hj => ?_)
      simp (disch := omega) only [cf_c]
    · simp (disch := omega) only [zg_s, zg_o, zg_j, zg_r, zg_ro, zg_d, yfl_o, fMul, fMk_14, cf_14, cf_15]
    · simp (disch := omega) only [zg_s, zg_o, zg_j, zg_r, zg_ro, zg_d, yfl_o, fMul, fMk_15, cf_14, cf_15]
    · intro j hj
      simp (disch := omega) only [zg_s, zg_o, zg_j, zg_r, zg_ro, zg_d, yfl_o]
    · intro j hj
      simp (disch := omega) only [zg_s, zg_o, zg_j, zg_r, zg_ro, zg_d, yfl_o, fMul, fMk_c, yfl_lt, cf_c, cf_0]
    · intro j hj
      simp (disch := omega) only [zg_s, zg_o, zg_j, zg_r, zg_ro, zg_d, yfl_o, yfl_ge]
    · intro a ha
      simp (disch := omega) only [zg_s, zg_o, zg_j, zg_r, zg_ro, zg_d, yfl_o]) 12 0 rfl none
  rw [yfl_0] at this
  simp (disch := omega) only [zg_s, zg_o, zg_j, zg_r, zg_ro, zg_d, yfl_o, fsum] at this
  exact this
theorem l_34 (ho : zFm o) (hp : zFm p) (hne : ¬ p = o)
    (hZ : ∀ l7, zRun 34 100 [some (.ref o), some (.ref p), some (.long u), none, some (.long (fsum (fun j => zr8 (2 * mj p 1 * mj (p + 1) j)) r0 12)), none, some (.int (zi 12)), l7, none, none] [] (SH Ls) mi (yfl mj (o + 1) 12 fun j => zs8 (2 * mj p 1 * mj (p + 1) j)) (RF g) = Z)
    (n : Nat) : ∀ k, k + n = 12 → ∀ l7, zRun 34 44 [some (.ref o), some (.ref p), some (.long u), none, some (.long (fsum (fun j => zr8 (2 * mj p 1 * mj (p + 1) j)) r0 k)), none, some (.int (zi k)), l7, none, none] [] (SH Ls) mi (yfl mj (o + 1) k fun j => zs8 (2 * mj p 1 * mj (p + 1) j)) (RF g) = Z := by
  have hoo := ho
  have hpp := hp
  obtain ⟨ho1, ho2, ho3⟩ := ho
  obtain ⟨hp1, hp2, hp3⟩ := hp
  induction n with
  | zero =>
    intro k hk l7
    obtain rfl : k = 12 := by omega
    rw [q_34_44]
    simp (disch := (first | ((with_reducible refine zct_le ?_) <;> exact Nat.le_of_ble_eq_true rfl) | with_reducible exact zh_0 | with_reducible exact zh_1 | with_reducible exact zh_b | omega)) only [q_34_46, q_34_48, vf_s, vf_n, zk2_none, zk2_int, zk2_ref, zk2_null, zk2_long, zct_nil, zct_i, zct_l, zct_r, zct_n, Option.bind_some, Option.toList_some, Option.toList_none, List.cons_append, List.nil_append, zor_l, zor_r, if_true, if_false, ↓reduceIte, zi_lit, zi_of, zi_add, zi_mul, zi_sub, zi_nat, zi_leT, zi_leF, zi_ltT, zi_ltF, zi_eqT, zi_eqF, zif_0z, zif_bz, zi_01l, zi_01r, not_true_eq_false, not_false_eq_true, Nat.reduceAdd, Nat.reduceMul, Nat.reduceSub]
    exact hZ l7
  | succ n ih =>
    intro k hk l7
    rw [q_34_44]
    simp (disch := (first | with_reducible exact (zFm_is hoo) | with_reducible exact zi_at (zFm_is hoo) (by omega) (by omega) | with_reducible exact (zFm_ic hoo) | with_reducible exact zi_at (zFm_ic hoo) (by omega) (by omega) | with_reducible exact (zFm_is hpp) | with_reducible exact zi_at (zFm_is hpp) (by omega) (by omega) | with_reducible exact (zFm_ic hpp) | with_reducible exact zi_at (zFm_ic hpp) (by omega) (by omega) | ((with_reducible refine zct_le ?_) <;> exact Nat.le_of_ble_eq_true rfl) | with_reducible exact zh_0 | with_reducible exact zh_1 | with_reducible exact zh_b | omega)) only [q_34_46, q_34_48, q_34_51, q_34_54r, q_34_54n, q_34_55, q_34_58, q_34_59r, q_34_59n, q_34_60, q_34_63, q_34_65, q_34_66, q_34_67, q_34_69r, q_34_69n, q_34_70, q_34_73, q_34_75, q_34_77, q_34_79, q_34_80, q_34_81, q_34_83, q_34_85, q_34_87, q_34_90, q_34_91, q_34_92, q_34_94, q_34_97, vf_s, vf_n, zk2_none, zk2_int, zk2_ref, zk2_null, zk2_long, zct_nil, zct_i, zct_l, zct_r, zct_n, Option.bind_some, Option.toList_some, Option.toList_none, List.cons_append, List.nil_append, zor_l, zor_r, if_true, if_false, ↓reduceIte, zi_lit, zi_of, zi_add, zi_mul, zi_sub, zi_nat, zi_leT, zi_leF, zi_ltT, zi_ltF, zi_eqT, zi_eqF, zif_0z, zif_bz, zi_01l, zi_01r, not_true_eq_false, not_false_eq_true, Nat.reduceAdd, Nat.reduceMul, Nat.reduceSub, zg_s, zg_o, zg_j, zg_r, zg_ro, zg_d, yfl_o, zFm_r hoo, zFm_r hpp, zs8_f, m_41_8, zr8_c]
    rw [yfl_s rfl]
    exact ih (k + 1) (by omega) _
theorem m_34 (ho : zFm o) (hp : zFm p) (hne : ¬ p = o) : zCall 34 [.ref o, .ref p] (SH Ls) mi mj (RF g) = some (none, SH Ls, mi, wF mj o (fSq (cf mj p) (mj p 6)), RF g) := by
  have hoo := ho
  have hpp := hp
  obtain ⟨ho1, ho2, ho3⟩ := ho
  obtain ⟨hp1, hp2, hp3⟩ := hp
  simp (disch := (first | with_reducible exact (zFm_is hoo) | with_reducible exact zi_at (zFm_is hoo) (by omega) (by omega) | with_reducible exact (zFm_is hpp) | with_reducible exact zi_at (zFm_is hpp) (by omega) (by omega) | ((with_reducible refine zct_le ?_) <;> exact Nat.le_of_ble_eq_true rfl) | with_reducible exact zh_0 | with_reducible exact zh_1 | with_reducible exact zh_b | omega)) only [e_34, q_34_0, q_34_3r, q_34_3n, q_34_4, q_34_7, q_34_8r, q_34_8n, q_34_9, q_34_12, q_34_13r, q_34_13n, q_34_14, q_34_17r, q_34_17n, q_34_18, q_34_21, q_34_22, q_34_23, q_34_24r, q_34_24n, q_34_25, q_34_26, q_34_28, q_34_29, q_34_32, q_34_33, q_34_35, q_34_38, q_34_39, q_34_41, q_34_42, vf_s, vf_n, zk2_none, zk2_int, zk2_ref, zk2_null, zk2_long, zct_nil, zct_i, zct_l, zct_r, zct_n, Option.bind_some, Option.toList_some, Option.toList_none, List.cons_append, List.nil_append, zor_l, zor_r, if_true, if_false, ↓reduceIte, zi_lit, zi_of, zi_add, zi_mul, zi_sub, zi_nat, zi_leT, zi_leF, zi_ltT, zi_ltF, zi_eqT, zi_eqF, zif_0z, zif_bz, zi_01l, zi_01r, not_true_eq_false, not_false_eq_true, Nat.reduceAdd, Nat.reduceMul, Nat.reduceSub, zg_s, zg_o, zg_j, zg_r, zg_ro, zg_d, yfl_o, zs9_f, m_41_9, zr9_c]
  have := l_34 (Ls := Ls) (g := g) (mi := mi) (mj := zup mj o 1 (zs9 (2 * mj p 1 * mj p 1 + mj p 6 * mj p 6))) (u := 2 * mj p 1 * mj p 1 + mj p 6 * mj p 6) (r0 := zr9 (2 * mj p 1 * mj p 1 + mj p 6 * mj p 6)) (Z := some (none, SH Ls, mi, wF mj o (fSq (cf mj p) (mj p 6)), RF g)) hoo hpp hne (by
    intro l7
    simp (disch := (first | with_reducible exact (zFm_is hoo) | with_reducible exact zi_at (zFm_is hoo) (by omega) (by omega) | with_reducible exact (zFm_is hpp) | with_reducible exact zi_at (zFm_is hpp) (by omega) (by omega) | ((with_reducible refine zct_le ?_) <;> exact Nat.le_of_ble_eq_true rfl) | with_reducible exact zh_0 | with_reducible exact zh_1 | with_reducible exact zh_b | omega)) only [q_34_100r, q_34_100n, q_34_101, q_34_104r, q_34_104n, q_34_105, q_34_108, q_34_111, q_34_112r, q_34_112n, q_34_113, q_34_116, q_34_117r, q_34_117n, q_34_118, q_34_121r, q_34_121n, q_34_122, q_34_125, q_34_126, q_34_127, q_34_129, q_34_132, q_34_134, q_34_135, q_34_138r, q_34_138n, q_34_139, q_34_142r, q_34_142n, q_34_143, q_34_146, q_34_147, q_34_149r, q_34_149n, q_34_150, q_34_153r, q_34_153n, q_34_154, q_34_157, q_34_158, q_34_160r, q_34_160n, q_34_161r, q_34_161n, q_34_162, q_34_165, q_34_166, q_34_167, q_34_170r, q_34_170n, q_34_171, q_34_174, q_34_175, q_34_176, q_34_179, q_34_180, q_34_183, q_34_185, q_34_187, q_34_190, q_34_192, vf_s, vf_n, zk2_none, zk2_int, zk2_ref, zk2_null, zk2_long, zct_nil, zct_i, zct_l, zct_r, zct_n, Option.bind_some, Option.toList_some, Option.toList_none, List.cons_append, List.nil_append, zor_l, zor_r, if_true, if_false, ↓reduceIte, zi_lit, zi_of, zi_add, zi_mul, zi_sub, zi_nat, zi_leT, zi_leF, zi_ltT, zi_ltF, zi_eqT, zi_eqF, zif_0z, zif_bz, zi_01l, zi_01r, not_true_eq_false, not_false_eq_true, Nat.reduceAdd, Nat.reduceMul, Nat.reduceSub, zg_s, zg_o, zg_j, zg_r, zg_ro, zg_d, yfl_o, zs8_f, zs9_f, m_42_8, m_42_9, m_111, m_112, m_114]
    simp only [mg_J]
    simp (disch := (first | with_reducible exact (zFm_is hoo) | with_reducible exact zi_at (zFm_is hoo) (by omega) (by omega) | with_reducible exact (zFm_is hpp) | with_reducible exact zi_at (zFm_is hpp) (by omega) (by omega) | ((with_reducible refine zct_le ?_) <;> exact Nat.le_of_ble_eq_true rfl) | with_reducible exact zh_0 | with_reducible exact zh_1 | with_reducible exact zh_b | omega)) only [q_34_193, q_34_196r, q_34_196n, q_34_197, q_34_199, q_34_201, q_34_204, q_34_206, q_34_209, q_34_212, vf_s, vf_n, zk2_none, zk2_int, zk2_ref, zk2_null, zk2_long, zct_nil, zct_i, zct_l, zct_r, zct_n, Option.bind_some, Option.toList_some, Option.toList_none, List.cons_append, List.nil_append, zor_l, zor_r, if_true, if_false, ↓reduceIte, zi_lit, zi_of, zi_add, zi_mul, zi_sub, zi_nat, zi_leT, zi_leF, zi_ltT, zi_ltF, zi_eqT, zi_eqF, zif_0z, zif_bz, zi_01l, zi_01r, not_true_eq_false, not_false_eq_true, Nat.reduceAdd, Nat.reduceMul, Nat.reduceSub, zg_s, zg_o, zg_j, zg_r, zg_ro, zg_d, yfl_o, zs8_f, zs9_f, m_42_8, m_42_9, m_111, m_112, m_114]
    refine rs_mj (wF_of ?_ ?_ ?_ ?_ ?_ ?_ ?_ ?_)
    · simp (disch := omega) only [zg_s, zg_o, zg_j, zg_r, zg_ro, zg_d, yfl_o, fSq, fMk_0, cf_0]
    · simp (disch := omega) only [zg_s, zg_o, zg_j, zg_r, zg_ro, zg_d, yfl_o, fSq, fMk_13, cf_0, cf_13]
      refine congrArg (HAdd.hAdd _) (fsum_ext 12 fun j hj => ?_)
      simp (disch := omega) only [cf_c]
    · simp (disch := omega) only [zg_s, zg_o, zg_j, zg_r, zg_ro, zg_d, yfl_o, fSq, fMk_14, cf_14, cf_15]
      rfl
    · simp (disch := omega) only [zg_s, zg_o, zg_j, zg_r, zg_ro, zg_d, yfl_o, fSq, fMk_15, cf_14, cf_15]
    · intro j hj
      simp (disch := omega) only [zg_s, zg_o, zg_j, zg_r, zg_ro, zg_d, yfl_o]
    · intro j hj
      simp (disch := omega) only [zg_s, zg_o, zg_j, zg_r, zg_ro, zg_d, yfl_o, fSq, fMk_c, yfl_lt, cf_c, cf_0]
    · intro j hj
      simp (disch := omega) only [zg_s, zg_o, zg_j, zg_r, zg_ro, zg_d, yfl_o, yfl_ge]
    · intro a ha
      simp (disch := omega) only [zg_s, zg_o, zg_j, zg_r, zg_ro, zg_d, yfl_o]) 12 0 rfl none
  rw [yfl_0] at this
  simp (disch := omega) only [zg_s, zg_o, zg_j, zg_r, zg_ro, zg_d, yfl_o, fsum] at this
  exact this
theorem m_35 (ho : zFm o) (hp : zFm p) (h1 : ¬ mj p 7 = 0) (h2 : ¬ mj p 8 = 0) : zCall 35 [.ref o, .ref p] (SH Ls) mi mj (RF g) = some (none, SH Ls, mi, wF mj o (fRec (mj p 7) (mj p 8)), RF g) := by
  simp (disch := (first | with_reducible exact (zFm_is ho) | with_reducible exact zi_at (zFm_is ho) (by omega) (by omega) | with_reducible exact (zFm_is hp) | with_reducible exact zi_at (zFm_is hp) (by omega) (by omega) | with_reducible exact h1 | with_reducible exact zi_at h1 (by omega) (by omega) | with_reducible exact h2 | with_reducible exact zi_at h2 (by omega) (by omega) | ((with_reducible refine zct_le ?_) <;> exact Nat.le_of_ble_eq_true rfl) | with_reducible exact zh_0 | with_reducible exact zh_1 | with_reducible exact zh_b | omega)) only [e_35, q_35_0r, q_35_0n, q_35_1, q_35_4, q_35_5, q_35_6, q_35_9r, q_35_9n, q_35_10, q_35_13, q_35_14, q_35_15, q_35_18, q_35_19r, q_35_19n, q_35_20, q_35_23r, q_35_23n, q_35_24, q_35_27, q_35_30, q_35_33r, q_35_33n, q_35_34, q_35_37, q_35_40, q_35_41, q_35_44, vf_s, vf_n, zk2_none, zk2_int, zk2_ref, zk2_null, zk2_long, zct_nil, zct_i, zct_l, zct_r, zct_n, Option.bind_some, Option.toList_some, Option.toList_none, List.cons_append, List.nil_append, zor_l, zor_r, if_true, if_false, ↓reduceIte, zi_lit, zi_of, zi_add, zi_mul, zi_sub, zi_nat, zi_leT, zi_leF, zi_ltT, zi_ltF, zi_eqT, zi_eqF, zif_0z, zif_bz, zi_01l, zi_01r, not_true_eq_false, not_false_eq_true, Nat.reduceAdd, Nat.reduceMul, Nat.reduceSub, h1, h2, m_110, m_26 ho, fRec]
theorem m_29w (ho : zFm o) (hp : zFm p) (hne : ¬ p = o) (hw : mi p 0 = mi o 0) : zCall 29 [.ref o, .ref p] (SH Ls) mi mj (RF g) = some (none, SH Ls, mi, wF mj o (cf mj p), RF g) := by
  rw [m_29 ho hp hne, zup_id hw]
theorem m_36 (ho : zFm o) (hp : zFm p) (hne : ¬ p = o) (hw : mi p 0 = mi o 0) : zCall 36 [.ref o, .ref p] (SH Ls) mi mj (RF g) = some (none, SH Ls, mi, wF mj o (fAbs (cf mj p) (mj p 7) (mj p 8)), RF g) := by
  simp (disch := (first | with_reducible exact (zFm_is ho) | with_reducible exact zi_at (zFm_is ho) (by omega) (by omega) | with_reducible exact (zFm_is hp) | with_reducible exact zi_at (zFm_is hp) (by omega) (by omega) | ((with_reducible refine zct_le ?_) <;> exact Nat.le_of_ble_eq_true rfl) | with_reducible exact zh_0 | with_reducible exact zh_1 | with_reducible exact zh_b | omega)) only [e_36, q_36_0r, q_36_0n, q_36_1, q_36_4, q_36_5, q_36_6, q_36_9r, q_36_9n, q_36_10r, q_36_10n, q_36_11, q_36_14, q_36_17r, q_36_17n, q_36_18, q_36_21, q_36_22, q_36_23, q_36_26r, q_36_26n, q_36_27r, q_36_27n, q_36_28, q_36_31, q_36_34r, q_36_34n, q_36_35, q_36_36r, q_36_36n, q_36_37, q_36_40, q_36_41r, q_36_41n, q_36_42, q_36_45, q_36_48, q_36_51, vf_s, vf_n, zk2_none, zk2_int, zk2_ref, zk2_null, zk2_long, zct_nil, zct_i, zct_l, zct_r, zct_n, Option.bind_some, Option.toList_some, Option.toList_none, List.cons_append, List.nil_append, zor_l, zor_r, if_true, if_false, ↓reduceIte, zi_lit, zi_of, zi_add, zi_mul, zi_sub, zi_nat, zi_leT, zi_leF, zi_ltT, zi_ltF, zi_eqT, zi_eqF, zif_0z, zif_bz, zi_01l, zi_01r, not_true_eq_false, not_false_eq_true, Nat.reduceAdd, Nat.reduceMul, Nat.reduceSub, m_26 ho, m_29w ho hp hne hw, m_32 ho hp hne, m_112, fAbs]
  by_cases h : mj p 7 < 0
  · have h' := lg_lt_not_le h
    by_cases h2 : 0 < mj p 8
    · have h2' := lg_lt_not_le h2
      simp [h, h', h2, h2']
    · have h2' : mj p 8 ≤ 0 := by rw [zj_le]; rw [zj_lt] at h2; omega
      simp [h, h', h2, h2']
  · have h' : 0 ≤ mj p 7 := by rw [zj_le]; rw [zj_lt] at h; omega
    simp [h, h']
theorem zi_pred : zi (k + 1) + (-1) = zi k := by
  have : (-1 : Int32) = -(zi 1) := by decide
  rw [this, ← zi_add k 1, Int32.add_assoc, Int32.add_neg_eq_sub]
  have : zi 1 - zi 1 = zi 0 := by decide
  rw [this]
  show zi k + 0 = zi k
  rw [Int32.add_zero]
theorem zi_pred' : zi (k + 1) + -zi 1 = zi k := zi_pred
theorem zsl_f : (1 : Int64) <<< ((zi k).toInt64 &&& 63) = zsl k := rfl
theorem l_43 (n : Nat) : ∀ v l5, n ≤ 20 → zRun 43 6 [some (.long u), none, some (.long v), none, some (.int (zi n + (-1))), l5, none] [] (SH Ls) mi mj (RF g) = some (some (.long (rtd u n v)), SH Ls, mi, mj, RF g) := by
  induction n with
  | zero =>
    intro v l5 _
    rw [q_43_6]
    simp (disch := (first | ((with_reducible refine zct_le ?_) <;> exact Nat.le_of_ble_eq_true rfl) | with_reducible exact zh_0 | with_reducible exact zh_1 | with_reducible exact zh_b | omega)) only [q_43_8, q_43_11, q_43_12, q_43_13, q_43_15, q_43_16, q_43_17, q_43_19, q_43_21, q_43_23, q_43_24, q_43_25, q_43_26, q_43_29, q_43_31, q_43_32, q_43_35, q_43_38, q_43_39, vf_s, vf_n, zk2_none, zk2_int, zk2_ref, zk2_null, zk2_long, zct_nil, zct_i, zct_l, zct_r, zct_n, Option.bind_some, Option.toList_some, Option.toList_none, List.cons_append, List.nil_append, zor_l, zor_r, if_true, if_false, ↓reduceIte, show (zi 0 + (-1) < 0) = True from by decide]
    rfl
  | succ n ih =>
    intro v l5 hn
    rw [q_43_6]
    simp (disch := (first | ((with_reducible refine zct_le ?_) <;> exact Nat.le_of_ble_eq_true rfl) | with_reducible exact zh_0 | with_reducible exact zh_1 | with_reducible exact zh_b | omega)) only [q_43_8, q_43_11, q_43_12, q_43_13, q_43_15, q_43_16, q_43_17, q_43_19, q_43_21, q_43_23, q_43_24, q_43_25, q_43_26, q_43_29, q_43_31, q_43_32, q_43_35, q_43_38, q_43_39, vf_s, vf_n, zk2_none, zk2_int, zk2_ref, zk2_null, zk2_long, zct_nil, zct_i, zct_l, zct_r, zct_n, Option.bind_some, Option.toList_some, Option.toList_none, List.cons_append, List.nil_append, zor_l, zor_r, if_true, if_false, ↓reduceIte, zi_lit, zi_of, zi_add, zi_mul, zi_sub, zi_nat, zi_leT, zi_leF, zi_ltT, zi_ltF, zi_eqT, zi_eqF, zif_0z, zif_bz, zi_01l, zi_01r, not_true_eq_false, not_false_eq_true, Nat.reduceAdd, Nat.reduceMul, Nat.reduceSub, zi_pred', zsl_f]
    rw [rtd]
    by_cases h : u < (v + zsl n) * (v + zsl n)
    · rw [if_pos h, if_pos h]
      exact ih v _ (by omega)
    · rw [if_neg h, if_neg h]
      exact ih _ _ (by omega)
theorem m_43 : zCall 43 [.long u] (SH Ls) mi mj (RF g) = some (some (.long (rtd u 20 0)), SH Ls, mi, mj, RF g) := by
  simp (disch := (first | ((with_reducible refine zct_le ?_) <;> exact Nat.le_of_ble_eq_true rfl) | with_reducible exact zh_0 | with_reducible exact zh_1 | with_reducible exact zh_b | omega)) only [e_43, q_43_0, q_43_1, q_43_2, q_43_4, vf_s, vf_n, zk2_none, zk2_int, zk2_ref, zk2_null, zk2_long, zct_nil, zct_i, zct_l, zct_r, zct_n, Option.bind_some, Option.toList_some, Option.toList_none, List.cons_append, List.nil_append, zor_l, zor_r, if_true, if_false, ↓reduceIte]
  exact l_43 20 0 none (by omega)
theorem m_37 (ho : zFm o) (hp : zFm p) (hne : ¬ p = o) : zCall 37 [.ref o, .ref p] (SH Ls) mi mj (RF g) = if mj p 8 < 0 then some (none, SH Ls, zup mi o 0 (zi 2), mj, RF g) else some (none, SH Ls, mi, wF mj o (fRoot (mj p 7) (mj p 8)), RF g) := by
  simp (disch := (first | with_reducible exact (zFm_is ho) | with_reducible exact zi_at (zFm_is ho) (by omega) (by omega) | with_reducible exact (zFm_is hp) | with_reducible exact zi_at (zFm_is hp) (by omega) (by omega) | ((with_reducible refine zct_le ?_) <;> exact Nat.le_of_ble_eq_true rfl) | with_reducible exact zh_0 | with_reducible exact zh_1 | with_reducible exact zh_b | omega)) only [e_37, q_37_0r, q_37_0n, q_37_1, q_37_4, q_37_5, q_37_6, q_37_9r, q_37_9n, q_37_10, q_37_11, q_37_14, q_37_15, q_37_18r, q_37_18n, q_37_19, q_37_22, q_37_23, q_37_24, q_37_25, q_37_28, q_37_30, q_37_32, q_37_34, q_37_35, q_37_36, q_37_37, q_37_40, q_37_42, q_37_43, q_37_44, q_37_46r, q_37_46n, q_37_47, q_37_50r, q_37_50n, q_37_51, q_37_54, q_37_55, q_37_58, q_37_59, q_37_62, q_37_64, q_37_67, vf_s, vf_n, zk2_none, zk2_int, zk2_ref, zk2_null, zk2_long, zct_nil, zct_i, zct_l, zct_r, zct_n, Option.bind_some, Option.toList_some, Option.toList_none, List.cons_append, List.nil_append, zor_l, zor_r, if_true, if_false, ↓reduceIte, zi_lit, zi_of, zi_add, zi_mul, zi_sub, zi_nat, zi_leT, zi_leF, zi_ltT, zi_ltF, zi_eqT, zi_eqF, zif_0z, zif_bz, zi_01l, zi_01r, not_true_eq_false, not_false_eq_true, Nat.reduceAdd, Nat.reduceMul, Nat.reduceSub, m_26 ho, m_19 ho, m_112, m_43, fRoot, rtUp]
  by_cases h : 0 ≤ mj p 8
  · have h' := lg_le_not_lt h
    simp only [h, h', if_true, if_false]
    split <;> rfl
  · have h' : mj p 8 < 0 := by rw [zj_lt]; rw [zj_le] at h; omega
    simp only [h, h', if_true, if_false]
theorem m_38 (ho : zFm o) (hp : zFm p) (hq : zFm q) (hne : ¬ p = o) (hne2 : ¬ q = o) (hw : mi p 0 = mi o 0) (hw2 : mi q 0 = mi o 0) : zCall 38 [.ref o, .ref p, .ref q] (SH Ls) mi mj (RF g) = some (none, SH Ls, mi, wF mj o (fLea (cf mj p) (mj p 7) (mj p 8) (cf mj q) (mj q 7) (mj q 8)), RF g) := by
  simp (disch := (first | with_reducible exact (zFm_is ho) | with_reducible exact zi_at (zFm_is ho) (by omega) (by omega) | with_reducible exact (zFm_is hp) | with_reducible exact zi_at (zFm_is hp) (by omega) (by omega) | with_reducible exact (zFm_is hq) | with_reducible exact zi_at (zFm_is hq) (by omega) (by omega) | ((with_reducible refine zct_le ?_) <;> exact Nat.le_of_ble_eq_true rfl) | with_reducible exact zh_0 | with_reducible exact zh_1 | with_reducible exact zh_b | omega)) only [e_38, q_38_0r, q_38_0n, q_38_1, q_38_4r, q_38_4n, q_38_5, q_38_8, q_38_9, q_38_12r, q_38_12n, q_38_13r, q_38_13n, q_38_14, q_38_17, q_38_20r, q_38_20n, q_38_21, q_38_24r, q_38_24n, q_38_25, q_38_28, q_38_29, q_38_32r, q_38_32n, q_38_33r, q_38_33n, q_38_34, q_38_37, q_38_40r, q_38_40n, q_38_41r, q_38_41n, q_38_42, q_38_45r, q_38_45n, q_38_46, q_38_49, q_38_52r, q_38_52n, q_38_53, q_38_56r, q_38_56n, q_38_57, q_38_60, q_38_63, q_38_66, vf_s, vf_n, zk2_none, zk2_int, zk2_ref, zk2_null, zk2_long, zct_nil, zct_i, zct_l, zct_r, zct_n, Option.bind_some, Option.toList_some, Option.toList_none, List.cons_append, List.nil_append, zor_l, zor_r, if_true, if_false, ↓reduceIte, zi_lit, zi_of, zi_add, zi_mul, zi_sub, zi_nat, zi_leT, zi_leF, zi_ltT, zi_ltF, zi_eqT, zi_eqF, zif_0z, zif_bz, zi_01l, zi_01r, not_true_eq_false, not_false_eq_true, Nat.reduceAdd, Nat.reduceMul, Nat.reduceSub, m_26 ho, m_29w ho hp hne hw, m_29w ho hq hne2 hw2, m_114, fLea]
  by_cases h : mj q 7 < mj p 8
  · have h' := lg_lt_not_le h
    by_cases h2 : mj p 7 < mj q 8
    · have h2' := lg_lt_not_le h2
      simp [h, h', h2, h2']
    · have h2' : mj q 8 ≤ mj p 7 := by rw [zj_le]; rw [zj_lt] at h2; omega
      simp [h, h', h2, h2']
  · have h' : mj p 8 ≤ mj q 7 := by rw [zj_le]; rw [zj_lt] at h; omega
    simp [h, h']
theorem m_39 (ho : zFm o) (hp : zFm p) (hq : zFm q) (hne : ¬ p = o) (hne2 : ¬ q = o) (hw : mi p 0 = mi o 0) (hw2 : mi q 0 = mi o 0) : zCall 39 [.ref o, .ref p, .ref q] (SH Ls) mi mj (RF g) = some (none, SH Ls, mi, wF mj o (fGre (cf mj p) (mj p 7) (mj p 8) (cf mj q) (mj q 7) (mj q 8)), RF g) := by
  simp (disch := (first | with_reducible exact (zFm_is ho) | with_reducible exact zi_at (zFm_is ho) (by omega) (by omega) | with_reducible exact (zFm_is hp) | with_reducible exact zi_at (zFm_is hp) (by omega) (by omega) | with_reducible exact (zFm_is hq) | with_reducible exact zi_at (zFm_is hq) (by omega) (by omega) | ((with_reducible refine zct_le ?_) <;> exact Nat.le_of_ble_eq_true rfl) | with_reducible exact zh_0 | with_reducible exact zh_1 | with_reducible exact zh_b | omega)) only [e_39, q_39_0r, q_39_0n, q_39_1, q_39_4r, q_39_4n, q_39_5, q_39_8, q_39_9, q_39_12r, q_39_12n, q_39_13r, q_39_13n, q_39_14, q_39_17, q_39_20r, q_39_20n, q_39_21, q_39_24r, q_39_24n, q_39_25, q_39_28, q_39_29, q_39_32r, q_39_32n, q_39_33r, q_39_33n, q_39_34, q_39_37, q_39_40r, q_39_40n, q_39_41r, q_39_41n, q_39_42, q_39_45r, q_39_45n, q_39_46, q_39_49, q_39_52r, q_39_52n, q_39_53, q_39_56r, q_39_56n, q_39_57, q_39_60, q_39_63, q_39_66, vf_s, vf_n, zk2_none, zk2_int, zk2_ref, zk2_null, zk2_long, zct_nil, zct_i, zct_l, zct_r, zct_n, Option.bind_some, Option.toList_some, Option.toList_none, List.cons_append, List.nil_append, zor_l, zor_r, if_true, if_false, ↓reduceIte, zi_lit, zi_of, zi_add, zi_mul, zi_sub, zi_nat, zi_leT, zi_leF, zi_ltT, zi_ltF, zi_eqT, zi_eqF, zif_0z, zif_bz, zi_01l, zi_01r, not_true_eq_false, not_false_eq_true, Nat.reduceAdd, Nat.reduceMul, Nat.reduceSub, m_26 ho, m_29w ho hp hne hw, m_29w ho hq hne2 hw2, m_112, fGre]
  by_cases h : mj p 7 < mj q 8
  · have h' := lg_lt_not_le h
    by_cases h2 : mj q 7 < mj p 8
    · have h2' := lg_lt_not_le h2
      simp [h, h', h2, h2']
    · have h2' : mj p 8 ≤ mj q 7 := by rw [zj_le]; rw [zj_lt] at h2; omega
      simp [h, h', h2, h2']
  · have h' : mj q 8 ≤ mj p 7 := by rw [zj_le]; rw [zj_lt] at h; omega
    simp [h, h']
end
