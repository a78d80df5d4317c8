/-! ===== helpers of the runs ===== -/
theorem vf_s {n : Nat} : va_rf (some n) = .ref n := rfl
theorem vf_n : va_rf none = .null := rfl
theorem zct_nil : zcat [] = 0 := rfl
theorem zct_i {x : Int32} {S : List Value} : zcat (.int x :: S) = 1 + zcat S := by simp [zcat, Value.category]
theorem zct_l {x : Int64} {S : List Value} : zcat (.long x :: S) = 2 + zcat S := by simp [zcat, Value.category]
theorem zct_r {x : Nat} {S : List Value} : zcat (.ref x :: S) = 1 + zcat S := by simp [zcat, Value.category]
theorem zct_n {S : List Value} : zcat (.null :: S) = 1 + zcat S := by simp [zcat, Value.category]
theorem zor_l : ((0 : Int32) = 0 ∨ (0 : Int32) = 1) = True := by simp
theorem zor_r : ((1 : Int32) = 0 ∨ (1 : Int32) = 1) = True := by simp
section
variable {Ls : Nat} {g : Nat → Nat} {mi : zI} {mj : zJ} {x y z : Int32} {o q : Nat}
theorem m_2 (ho : zBx o) (hx : zin x 4 = true) : zCall 2 [.ref o, .int x, .int y, .int z] (SH Ls) mi mj (RF g) = some (none, SH Ls, zup (zup mi (o + 1) x.toNatClampNeg y) (o + 2) x.toNatClampNeg z, mj, RF g) := by
  simp only [e_2, q_2_0r, q_2_0n, q_2_1, q_2_4, q_2_5, q_2_6, q_2_7r, q_2_7n, q_2_8, q_2_11, q_2_12, q_2_13, q_2_14, vf_s, vf_n, zk2_none, zk2_int, zk2_ref, zk2_null, zk2_long, zct_nil, zct_i, zct_l, zct_r, zct_n, Option.bind_some, Option.toList_some, Option.toList_none, List.cons_append, List.nil_append, zor_l, zor_r, if_true, if_false, ↓reduceIte, zBx_is ho, zBx_r0 ho, zBx_r1 ho, zAt_iff (zBx_i1 ho), zAt_iff (zBx_i2 ho), hx]
theorem m_4 (ho : zBx o) (hx : zin x 4 = true) : zCall 4 [.ref o, .int x] (SH Ls) mi mj (RF g) = some (some (.int (mi (o + 2) x.toNatClampNeg - mi (o + 1) x.toNatClampNeg)), SH Ls, mi, mj, RF g) := by
  simp only [e_4, q_4_0r, q_4_0n, q_4_1, q_4_4, q_4_5, q_4_6r, q_4_6n, q_4_7, q_4_10, q_4_11, q_4_12, q_4_13, vf_s, vf_n, zk2_none, zk2_int, zk2_ref, zk2_null, zk2_long, zct_nil, zct_i, zct_l, zct_r, zct_n, Option.bind_some, Option.toList_some, Option.toList_none, List.cons_append, List.nil_append, zor_l, zor_r, if_true, if_false, ↓reduceIte, zBx_is ho, zBx_r0 ho, zBx_r1 ho, zAt_iff (zBx_i1 ho), zAt_iff (zBx_i2 ho), hx]
theorem m_5 (ho : zBx o) (hx : zin x 4 = true) : zCall 5 [.ref o, .int x] (SH Ls) mi mj (RF g) = some (some (.int ((mi (o + 1) x.toNatClampNeg + mi (o + 2) x.toNatClampNeg) >>> (1 &&& 31))), SH Ls, mi, mj, RF g) := by
  simp only [e_5, q_5_0r, q_5_0n, q_5_1, q_5_4, q_5_5, q_5_6r, q_5_6n, q_5_7, q_5_10, q_5_11, q_5_12, q_5_13, q_5_14, q_5_15, vf_s, vf_n, zk2_none, zk2_int, zk2_ref, zk2_null, zk2_long, zct_nil, zct_i, zct_l, zct_r, zct_n, Option.bind_some, Option.toList_some, Option.toList_none, List.cons_append, List.nil_append, zor_l, zor_r, if_true, if_false, ↓reduceIte, zBx_is ho, zBx_r0 ho, zBx_r1 ho, zAt_iff (zBx_i1 ho), zAt_iff (zBx_i2 ho), hx]
end
