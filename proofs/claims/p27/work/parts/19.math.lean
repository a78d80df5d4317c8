/-! ===== numbers: shifts, divisions, signs ===== -/
theorem kj1 : (1 : Int64).toInt = 1 := by decide
theorem kj256 : (256 : Int64).toInt = 256 := by decide
theorem kj512 : (512 : Int64).toInt = 512 := by decide
theorem zj_msb (x : Int64) : (0 ≤ x) ↔ x.toBitVec.msb = false := by
  rw [Kit.i64_nonneg, BitVec.msb_eq_toInt]
  show 0 ≤ x.toBitVec.toInt ↔ _
  simp
theorem zj_xor (u v : Int64) : (0 ≤ u ^^^ v) ↔ (0 ≤ u ↔ 0 ≤ v) := by
  rw [zj_msb, zj_msb, zj_msb, Int64.toBitVec_xor, BitVec.msb_xor]
  cases u.toBitVec.msb <;> cases v.toBitVec.msb <;> simp
theorem zj_le {u v : Int64} : (u ≤ v) = (u.toInt ≤ v.toInt) := propext Int64.le_iff_toInt_le
theorem zj_lt {u v : Int64} : (u < v) = (u.toInt < v.toInt) := propext Int64.lt_iff_toInt_lt
theorem zj_eq {u v : Int64} : (u = v) = (u.toInt = v.toInt) := propext Int64.toInt_inj.symm
theorem zj_bd (u : Int64) : -9223372036854775808 ≤ u.toInt ∧ u.toInt < 9223372036854775808 := ⟨u.le_toInt, u.toInt_lt⟩
theorem zji_bd (u : Int32) : -2147483648 ≤ u.toInt ∧ u.toInt < 2147483648 := ⟨u.le_toInt, u.toInt_lt⟩
def zs8 (v : Int64) : Int64 := v >>> ((8 : Int32).toInt64 &&& 63)
def zs9 (v : Int64) : Int64 := v >>> ((9 : Int32).toInt64 &&& 63)
def zs1 (v : Int64) : Int64 := v >>> ((1 : Int32).toInt64 &&& 63)
theorem zs8_i (v : Int64) : (zs8 v).toInt = v.toInt / 256 := Kit.i64_shr v _ (k := 8) (by decide)
theorem zs9_i (v : Int64) : (zs9 v).toInt = v.toInt / 512 := Kit.i64_shr v _ (k := 9) (by decide)
theorem zs1_i (v : Int64) : (zs1 v).toInt = v.toInt / 2 := Kit.i64_shr v _ (k := 1) (by decide)
/-- rounding up -/
def zu8 (v : Int64) : Int64 := zs8 (v + 256 - 1)
def zu9 (v : Int64) : Int64 := zs9 (v + 512 - 1)
theorem zj_add {x y : Int64} (h1 : -9223372036854775808 ≤ x.toInt + y.toInt) (h2 : x.toInt + y.toInt < 9223372036854775808) : (x + y).toInt = x.toInt + y.toInt := Kit.i64_add h1 h2
theorem zj_sub {x y : Int64} (h1 : -9223372036854775808 ≤ x.toInt - y.toInt) (h2 : x.toInt - y.toInt < 9223372036854775808) : (x - y).toInt = x.toInt - y.toInt := Kit.i64_sub h1 h2
theorem zj_mul {x y : Int64} (h1 : -9223372036854775808 ≤ x.toInt * y.toInt) (h2 : x.toInt * y.toInt < 9223372036854775808) : (x * y).toInt = x.toInt * y.toInt := Kit.i64_mul h1 h2
theorem zj_neg {x : Int64} (h : -9223372036854775808 < x.toInt) : (-x).toInt = -x.toInt := Kit.i64_neg (by omega)
theorem zu8_i {v : Int64} (h : v.toInt ≤ 9000000000000000000) : (zu8 v).toInt = (v.toInt + 255) / 256 := by
  have hb := zj_bd v
  have e1 : (v + 256).toInt = v.toInt + 256 := by rw [zj_add (by rw [kj256]; omega) (by rw [kj256]; omega), kj256]
  have e2 : (v + 256 - 1).toInt = v.toInt + 255 := by
    rw [zj_sub (by rw [kj1, e1]; omega) (by rw [kj1, e1]; omega), kj1, e1]
    omega
  rw [zu8, zs8_i, e2]
theorem zu9_i {v : Int64} (h : v.toInt ≤ 9000000000000000000) : (zu9 v).toInt = (v.toInt + 511) / 512 := by
  have hb := zj_bd v
  have e1 : (v + 512).toInt = v.toInt + 512 := by rw [zj_add (by rw [kj512]; omega) (by rw [kj512]; omega), kj512]
  have e2 : (v + 512 - 1).toInt = v.toInt + 511 := by
    rw [zj_sub (by rw [kj1, e1]; omega) (by rw [kj1, e1]; omega), kj1, e1]
    omega
  rw [zu9, zs9_i, e2]
/-- whether something is lost -/
def zr8 (v : Int64) : Int64 := if v.toInt % 256 = 0 then 0 else 1
def zr9 (v : Int64) : Int64 := if v.toInt % 512 = 0 then 0 else 1
theorem zr8_mask (v : Int64) : (v &&& 255 = 0) = (v.toInt % 256 = 0) := by
  have := Kit.i64_mask v 255 (k := 8) (by decide) (by decide)
  rw [zj_eq, this]
  rfl
theorem zr9_mask (v : Int64) : (v &&& 511 = 0) = (v.toInt % 512 = 0) := by
  have := Kit.i64_mask v 511 (k := 9) (by decide) (by decide)
  rw [zj_eq, this]
  rfl
theorem tmod_0 (a b : Int) : (a.tmod b = 0) = (a % b = 0) := by
  rw [← Int.dvd_iff_tmod_eq_zero, Int.dvd_iff_emod_eq_zero]
theorem zr8_rem (v : Int64) : (v - v / 256 * 256 = 0) = (v.toInt % 256 = 0) := by
  rw [zj_eq, Kit.i64_rem]
  exact tmod_0 v.toInt 256
theorem zr9_rem (v : Int64) : (v - v / 512 * 512 = 0) = (v.toInt % 512 = 0) := by
  rw [zj_eq, Kit.i64_rem]
  exact tmod_0 v.toInt 512
/-- rounding up, as the model has it -/
def zcdiv (u v : Int64) : Int64 := if u / v * v = u then u / v else if 0 ≤ u ↔ 0 ≤ v then u / v + 1 else u / v
theorem zfdiv_alt (u v : Int64) : zfdiv u v = if u / v * v = u then u / v else if 0 ≤ u ↔ 0 ≤ v then u / v else u / v - 1 := by
  unfold zfdiv
  simp only [zj_xor]
  split <;> split <;> (try split) <;> first | rfl | contradiction | simp_all
theorem td_pos {a b : Int} (h : 0 ≤ a) : a.tdiv b = a / b := Int.tdiv_eq_ediv_of_nonneg h
theorem td_neg {a b : Int} : a.tdiv b = -((-a).tdiv b) := by rw [Int.neg_tdiv, Int.neg_neg]
theorem zd256 (u : Int64) : ∃ q : Int, (u / 256).toInt = q ∧ (u / 256 * 256).toInt = q * 256 ∧ (0 ≤ u.toInt → q = u.toInt / 256) ∧ (u.toInt < 0 → q = -((-u.toInt) / 256)) := by
  have hb := zj_bd u
  have e : (u / 256).toInt = u.toInt.tdiv 256 := Kit.i64_div (fun h => absurd h.2 (by decide))
  have e1 : 0 ≤ u.toInt → u.toInt.tdiv 256 = u.toInt / 256 := td_pos
  have e2 : u.toInt < 0 → u.toInt.tdiv 256 = -((-u.toInt) / 256) := fun h => by rw [td_neg, td_pos (by omega)]
  refine ⟨u.toInt.tdiv 256, e, ?_, e1, e2⟩
  rcases Int.lt_or_le u.toInt 0 with h | h
  · have := e2 h
    rw [zj_mul (by rw [e, kj256]; omega) (by rw [e, kj256]; omega), e, kj256]
  · have := e1 h
    rw [zj_mul (by rw [e, kj256]; omega) (by rw [e, kj256]; omega), e, kj256]
theorem zd512 (u : Int64) : ∃ q : Int, (u / 512).toInt = q ∧ (u / 512 * 512).toInt = q * 512 ∧ (0 ≤ u.toInt → q = u.toInt / 512) ∧ (u.toInt < 0 → q = -((-u.toInt) / 512)) := by
  have hb := zj_bd u
  have e : (u / 512).toInt = u.toInt.tdiv 512 := Kit.i64_div (fun h => absurd h.2 (by decide))
  have e1 : 0 ≤ u.toInt → u.toInt.tdiv 512 = u.toInt / 512 := td_pos
  have e2 : u.toInt < 0 → u.toInt.tdiv 512 = -((-u.toInt) / 512) := fun h => by rw [td_neg, td_pos (by omega)]
  refine ⟨u.toInt.tdiv 512, e, ?_, e1, e2⟩
  rcases Int.lt_or_le u.toInt 0 with h | h
  · have := e2 h
    rw [zj_mul (by rw [e, kj512]; omega) (by rw [e, kj512]; omega), e, kj512]
  · have := e1 h
    rw [zj_mul (by rw [e, kj512]; omega) (by rw [e, kj512]; omega), e, kj512]
theorem k256_pos : (0 : Int64) ≤ 256 := by decide
theorem k512_pos : (0 : Int64) ≤ 512 := by decide
theorem zfd256 (u : Int64) : zfdiv u 256 = zs8 u := by
  have hb := zj_bd u
  obtain ⟨q, h1, h2, h3, h4⟩ := zd256 u
  rw [zfdiv_alt]
  simp only [k256_pos, iff_true]
  refine zj_inj ?_
  rw [zs8_i]
  by_cases c : u / 256 * 256 = u
  · rw [if_pos c, h1]
    rw [zj_eq, h2] at c
    omega
  · rw [if_neg c]
    rw [zj_eq, h2] at c
    by_cases s : 0 ≤ u
    · rw [if_pos s, h1]
      rw [Kit.i64_nonneg] at s
      omega
    · rw [if_neg s]
      rw [Kit.i64_nonneg] at s
      rw [zj_sub (by rw [kj1]; omega) (by rw [kj1]; omega), h1, kj1]
      omega
theorem zfd512 (u : Int64) : zfdiv u 512 = zs9 u := by
  have hb := zj_bd u
  obtain ⟨q, h1, h2, h3, h4⟩ := zd512 u
  rw [zfdiv_alt]
  simp only [k512_pos, iff_true]
  refine zj_inj ?_
  rw [zs9_i]
  by_cases c : u / 512 * 512 = u
  · rw [if_pos c, h1]
    rw [zj_eq, h2] at c
    omega
  · rw [if_neg c]
    rw [zj_eq, h2] at c
    by_cases s : 0 ≤ u
    · rw [if_pos s, h1]
      rw [Kit.i64_nonneg] at s
      omega
    · rw [if_neg s]
      rw [Kit.i64_nonneg] at s
      rw [zj_sub (by rw [kj1]; omega) (by rw [kj1]; omega), h1, kj1]
      omega
theorem zcd256 {u : Int64} (h : u.toInt ≤ 9000000000000000000) : zcdiv u 256 = zu8 u := by
  have hb := zj_bd u
  obtain ⟨q, h1, h2, h3, h4⟩ := zd256 u
  unfold zcdiv
  simp only [k256_pos, iff_true]
  refine zj_inj ?_
  rw [zu8_i h]
  by_cases c : u / 256 * 256 = u
  · rw [if_pos c, h1]
    rw [zj_eq, h2] at c
    omega
  · rw [if_neg c]
    rw [zj_eq, h2] at c
    by_cases s : 0 ≤ u
    · rw [if_pos s]
      rw [Kit.i64_nonneg] at s
      rw [zj_add (by rw [kj1]; omega) (by rw [kj1]; omega), h1, kj1]
      omega
    · rw [if_neg s, h1]
      rw [Kit.i64_nonneg] at s
      omega
theorem zcd512 {u : Int64} (h : u.toInt ≤ 9000000000000000000) : zcdiv u 512 = zu9 u := by
  have hb := zj_bd u
  obtain ⟨q, h1, h2, h3, h4⟩ := zd512 u
  unfold zcdiv
  simp only [k512_pos, iff_true]
  refine zj_inj ?_
  rw [zu9_i h]
  by_cases c : u / 512 * 512 = u
  · rw [if_pos c, h1]
    rw [zj_eq, h2] at c
    omega
  · rw [if_neg c]
    rw [zj_eq, h2] at c
    by_cases s : 0 ≤ u
    · rw [if_pos s]
      rw [Kit.i64_nonneg] at s
      rw [zj_add (by rw [kj1]; omega) (by rw [kj1]; omega), h1, kj1]
      omega
    · rw [if_neg s, h1]
      rw [Kit.i64_nonneg] at s
      omega
theorem zdn (v : Int64) (hv : ¬ v = 0) : (-65536 : Int64) / v = -(65536 / v) ∧ ((-65536 : Int64) / v * v = -65536 ↔ (65536 : Int64) / v * v = 65536) ∧ -65536 ≤ ((65536 : Int64) / v).toInt ∧ ((65536 : Int64) / v).toInt ≤ 65536 := by
  have a : ((65536 : Int64) / v).toInt = (65536 : Int).tdiv v.toInt := Kit.i64_div (fun h => absurd h.1 (by decide))
  have b : ((-65536 : Int64) / v).toInt = (-65536 : Int).tdiv v.toInt := Kit.i64_div (fun h => absurd h.1 (by decide))
  have hn : ((65536 : Int).tdiv v.toInt).natAbs ≤ 65536 := by rw [Int.natAbs_tdiv]; exact Nat.div_le_self _ _
  have e : (-65536 : Int64) / v = -(65536 / v) := by
    refine zj_inj ?_
    rw [zj_neg (by omega), a, b, Int.neg_tdiv]
  refine ⟨e, ?_, by omega, by omega⟩
  rw [e, Int64.neg_mul]
  constructor
  · intro h
    have := congrArg (fun z => -z) h
    simpa using this
  · intro h
    rw [h]
theorem zcd_fd (v : Int64) (hv : ¬ v = 0) : zcdiv 65536 v = -(zfdiv (-65536) v) := by
  obtain ⟨e1, e2, e3, e4⟩ := zdn v hv
  rw [zfdiv_alt, zcdiv, e1]
  rw [e1] at e2
  have p1 : (0 : Int64) ≤ 65536 := by decide
  have p2 : ¬ (0 : Int64) ≤ -65536 := by decide
  by_cases c : (65536 : Int64) / v * v = 65536
  · rw [if_pos c, if_pos (e2.mpr c), Int64.neg_neg]
  · rw [if_neg c, if_neg (fun z => c (e2.mp z))]
    by_cases s : 0 ≤ v
    · rw [if_pos (by simp [p1, s]), if_neg (by simp [p2, s])]
      rw [Int64.neg_sub, Int64.sub_neg, Int64.add_comm]
    · rw [if_neg (by simp [p1, s]), if_pos (by simp [p2, s])]
      rw [Int64.neg_neg]
