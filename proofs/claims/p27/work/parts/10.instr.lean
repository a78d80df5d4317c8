/-! ===== one instruction at a time ===== -/
section ZQ
variable {k pc len len2 c lv : Nat} {ini : Bool} {rt : Option FieldType} {ins ins2 : Instr} {L L' : zLS} {S S' : List Value} {sh sh' : zSh} {mi mi' : zI} {mj mj' : zJ} {mr mr' : zR}
def zD (k pc : Nat) : Option (Instr × Nat × Nat × Nat × Bool × Option FieldType) := match zM[k]? with
  | some (y, b, _, rt, c, lv, _, _, _) => (match decode b pc with
    | .ok (ins, len) => if zlenOk ins len then some (ins, len, c, lv, y.name == "<init>", rt) else none
    | _ => none)
  | none => none
theorem zD_of {y : MethodName} {b : ByteArray} {ml np q1 q2 : Nat} (hk : zM[k]? = some (y, b, ml, rt, c, lv, np, q1, q2)) (hd : decode b pc = .ok (ins, len)) (hl : zlenOk ins len = true) (hi : (y.name == "<init>") = ini) : zD k pc = some (ins, len, c, lv, ini, rt) := by
  subst hi
  unfold zD
  rw [hk]
  simp only
  rw [hd]
  simp only
  rw [if_pos hl]
theorem zstep_D (h : zD k pc = some (ins, len, c, lv, ini, rt)) : zstep k pc L S sh mi mj mr = zins c lv ini rt pc len ins L S sh mi mj mr := by
  unfold zD at h
  unfold zstep
  split at h
  · rename_i hM
    rw [hM]
    simp only
    split at h
    · rename_i hd
      rw [hd]
      simp only
      split at h
      · rename_i hl
        rw [if_pos hl]
        cases h
        rfl
      · cases h
    · cases h
  · cases h
def zIs (sh : zSh) (o t n : Nat) : Prop := sh[o]? = some (t, n) ∧ 1 ≤ o
def zAt (sh : zSh) (o t : Nat) (i : Int32) : Prop := ∃ n, sh[o]? = some (t, n) ∧ 1 ≤ o ∧ zin i n = true
theorem zAt_iff {o t n : Nat} {i : Int32} (h : zIs sh o t n) : zAt sh o t i ↔ zin i n = true :=
  ⟨fun ⟨m, h1, _, h3⟩ => by cases h1.symm.trans h.1; exact h3, fun g => ⟨n, h.1, h.2, g⟩⟩
theorem zr_p (h : zD k pc = some (ins, len, c, lv, ini, rt)) (hp : zpure ins S = some S') : zRun k pc L S sh mi mj mr = zRun k (pc + len) L S' sh mi mj mr := by
  rw [zRun_eq, zstep_D h]
  unfold zins
  rw [hp]
theorem zr_j {off : Int} {tk : Bool} (h : zD k pc = some (ins, len, c, lv, ini, rt)) (h1 : zpure ins S = none) (hj : zjump ins S = some (S', off, tk)) (h0 : 0 ≤ (pc : Int) + off) : zRun k pc L S sh mi mj mr = zRun k (if tk = true then ((pc : Int) + off).toNat else pc + len) L S' sh mi mj mr := by
  rw [zRun_eq, zstep_D h]
  unfold zins
  rw [h1]
  simp only
  rw [hj]
  simp only
  rw [if_pos h0]
theorem zr_go {off : Int} (h : zD k pc = some (ins, len, c, lv, ini, rt)) (h1 : zpure ins S = none) (hj : zjump ins S = some (S', off, true)) (h0 : 0 ≤ (pc : Int) + off) : zRun k pc L S sh mi mj mr = zRun k ((pc : Int) + off).toNat L S' sh mi mj mr := by
  rw [zr_j h h1 hj h0, if_pos rfl]
theorem zr_no {off : Int} (h : zD k pc = some (ins, len, c, lv, ini, rt)) (h1 : zpure ins S = none) (hj : zjump ins S = some (S', off, false)) (h0 : 0 ≤ (pc : Int) + off) : zRun k pc L S sh mi mj mr = zRun k (pc + len) L S' sh mi mj mr := by
  rw [zr_j h h1 hj h0, if_neg (by decide)]
theorem zr_if {off : Int} {P : Prop} [Decidable P] (h : zD k pc = some (ins, len, c, lv, ini, rt)) (h1 : zpure ins S = none) (hj : zjump ins S = some (S', off, decide P)) (h0 : 0 ≤ (pc : Int) + off) : zRun k pc L S sh mi mj mr = if P then zRun k ((pc : Int) + off).toNat L S' sh mi mj mr else zRun k (pc + len) L S' sh mi mj mr := by
  rw [zr_j h h1 hj h0]
  by_cases hP : P <;> simp [hP]
theorem zr_cmp {x y : Int64} {off : Int} {P P' : Prop} [Decidable P] [Decidable P'] (h : zD k pc = some (.lcmp, len, c, lv, ini, rt)) (h2 : zD k (pc + len) = some (ins2, len2, c, lv, ini, rt)) (g1 : zpure ins2 (.int (lg_cmp x y) :: S) = none) (hj : zjump ins2 (.int (lg_cmp x y) :: S) = some (S, off, decide P)) (h0 : 0 ≤ ((pc + len : Nat) : Int) + off) (hP : P ↔ P') :
    zRun k pc L (.long y :: .long x :: S) sh mi mj mr = if P' then zRun k (((pc + len : Nat) : Int) + off).toNat L S sh mi mj mr else zRun k (pc + len + len2) L S sh mi mj mr := by
  rw [zr_p (S' := .int (lg_cmp x y) :: S) h rfl, zr_if h2 g1 hj h0]
  by_cases hq : P
  · rw [if_pos hq, if_pos (hP.mp hq)]
  · rw [if_neg hq, if_neg fun z => hq (hP.mpr z)]
theorem zr_l (h : zD k pc = some (ins, len, c, lv, ini, rt)) (h1 : zpure ins S = none) (h2 : zjump ins S = none) (h3 : zloc ins L S = some (L', S')) : zRun k pc L S sh mi mj mr = zRun k (pc + len) L' S' sh mi mj mr := by
  rw [zRun_eq, zstep_D h]
  unfold zins
  rw [h1]
  simp only
  rw [h2]
  simp only
  rw [h3]
def zk2 (v : Option Value) : Option Value := if zis2 v = true then none else v
theorem zk2_none : zk2 none = none := rfl
theorem zk2_int {x : Int32} : zk2 (some (.int x)) = some (.int x) := rfl
theorem zk2_ref {x : Nat} : zk2 (some (.ref x)) = some (.ref x) := rfl
theorem zk2_null : zk2 (some .null) = some .null := rfl
theorem zk2_long {x : Int64} : zk2 (some (.long x)) = none := rfl
def zsA : zLS → Nat → Value → zLS
  | _ :: t, 0, v => some v :: t
  | l :: _ :: t, 1, v => zk2 l :: some v :: t
  | l :: t, n + 2, v => l :: zsA t (n + 1) v
  | L, _, _ => L
def zsB : zLS → Nat → Value → zLS
  | _ :: _ :: t, 0, v => some v :: none :: t
  | l :: _ :: _ :: t, 1, v => zk2 l :: some v :: none :: t
  | l :: t, n + 2, v => l :: zsB t (n + 1) v
  | L, _, _ => L
theorem zst1_A : ∀ (L : zLS) (i : Nat) (v : Value), Nat.ble (i + 1) L.length = true → zst1 L i v = some (zsA L i v)
  | [], i, v, h => by simp at h
  | a :: t, 0, v, h => by simp [zst1, zsA]
  | a :: [], n + 1, v, h => by simp at h
  | a :: b :: t, 1, v, h => by
    simp only [zst1, zsA, zk2, zget]
    by_cases q : zis2 a = true <;> simp [q, List.set, zget]
  | a :: b :: t, n + 2, v, h => by
    have h' : Nat.ble (n + 1 + 1) (b :: t).length = true := by
      have := Nat.le_of_ble_eq_true h
      exact Nat.ble_eq_true_of_le (by simp only [List.length_cons] at this ⊢; omega)
    have ih := zst1_A (b :: t) (n + 1) v h'
    have hl : n + 1 < (b :: t).length := Nat.le_of_ble_eq_true h'
    unfold zst1 at ih ⊢
    rw [if_pos hl] at ih
    rw [if_pos (by simp only [List.length_cons] at hl ⊢; omega)]
    have := Option.some.inj ih
    simp only [zsA]
    rw [← this]
    simp only [Nat.add_sub_cancel, zget, Nat.zero_lt_succ, decide_true, Bool.true_and, show n + 2 - 1 = n + 1 from rfl]
    by_cases q : zis2 (zget (b :: t) n) = true
    · simp [q, List.set]
    · simp [q, List.set]
theorem zst2_B : ∀ (L : zLS) (i : Nat) (v : Value), Nat.ble (i + 2) L.length = true → zst2 L i v = some (zsB L i v)
  | [], i, v, h => by simp at h
  | [_], i, v, h => by simp at h
  | a :: b :: t, 0, v, h => by simp [zst2, zsB, List.set]
  | a :: b :: [], n + 1, v, h => by simp at h
  | a :: b :: e :: t, 1, v, h => by
    simp only [zst2, zsB, zk2, zget]
    by_cases q : zis2 a = true <;> simp [q, List.set, zget]
  | a :: b :: e :: t, n + 2, v, h => by
    have h' : Nat.ble (n + 1 + 2) (b :: e :: t).length = true := by
      have := Nat.le_of_ble_eq_true h
      exact Nat.ble_eq_true_of_le (by simp only [List.length_cons] at this ⊢; omega)
    have ih := zst2_B (b :: e :: t) (n + 1) v h'
    have hl : n + 1 + 1 < (b :: e :: t).length := Nat.le_of_ble_eq_true h'
    unfold zst2 at ih ⊢
    rw [if_pos hl] at ih
    rw [if_pos (by simp only [List.length_cons] at hl ⊢; omega)]
    have := Option.some.inj ih
    simp only [zsB]
    rw [← this]
    simp only [Nat.add_sub_cancel, zget, Nat.zero_lt_succ, decide_true, Bool.true_and, show n + 2 - 1 = n + 1 from rfl]
    by_cases q : zis2 (zget (b :: e :: t) n) = true
    · simp [q, List.set]
    · simp [q, List.set]
theorem zr_s1 {i : Nat} {v : Value} (h : zD k pc = some (ins, len, c, lv, ini, rt)) (h1 : zpure ins S = none) (h2 : zjump ins S = none) (h3 : zloc ins L S = (zst1 L i v).map fun L' => (L', S')) (hl : Nat.ble (i + 1) L.length = true) : zRun k pc L S sh mi mj mr = zRun k (pc + len) (zsA L i v) S' sh mi mj mr :=
  zr_l h h1 h2 (by rw [h3, zst1_A L i v hl]; rfl)
theorem zr_s2 {i : Nat} {v : Value} (h : zD k pc = some (ins, len, c, lv, ini, rt)) (h1 : zpure ins S = none) (h2 : zjump ins S = none) (h3 : zloc ins L S = (zst2 L i v).map fun L' => (L', S')) (hl : Nat.ble (i + 2) L.length = true) : zRun k pc L S sh mi mj mr = zRun k (pc + len) (zsB L i v) S' sh mi mj mr :=
  zr_l h h1 h2 (by rw [h3, zst2_B L i v hl]; rfl)
theorem zr_r (h : zD k pc = some (ins, len, c, lv, ini, rt)) (h1 : zpure ins S = none) (h2 : zjump ins S = none) (h3 : zloc ins L S = none) (h4 : zread c ins S sh mi mj mr = some S') : zRun k pc L S sh mi mj mr = zRun k (pc + len) L S' sh mi mj mr := by
  rw [zRun_eq, zstep_D h]
  unfold zins
  rw [h1]
  simp only
  rw [h2]
  simp only
  rw [h3]
  simp only
  rw [h4]
theorem zr_w (h : zD k pc = some (ins, len, c, lv, ini, rt)) (h1 : zpure ins S = none) (h2 : zjump ins S = none) (h3 : zloc ins L S = none) (h4 : zread c ins S sh mi mj mr = none) (h5 : zwrite c ini ins S sh mi mj mr = some (S', sh', mi', mj', mr')) : zRun k pc L S sh mi mj mr = zRun k (pc + len) L S' sh' mi' mj' mr' := by
  rw [zRun_eq, zstep_D h]
  unfold zins
  rw [h1]
  simp only
  rw [h2]
  simp only
  rw [h3]
  simp only
  rw [h4]
  simp only
  rw [h5]
theorem zr_ret {v : Option Value} (h : zD k pc = some (ins, len, c, lv, ini, rt)) (h1 : zpure ins S = none) (h2 : zjump ins S = none) (h3 : zloc ins L S = none) (h4 : zread c ins S sh mi mj mr = none) (h5 : zwrite c ini ins S sh mi mj mr = none) (h6 : zretv rt ins S = some v) : zRun k pc L S sh mi mj mr = some (v, sh, mi, mj, mr) := by
  rw [zRun_eq, zstep_D h]
  unfold zins
  rw [h1]
  simp only
  rw [h2]
  simp only
  rw [h3]
  simp only
  rw [h4]
  simp only
  rw [h5]
  simp only
  rw [h6]
theorem zr_inv {k2 : Nat} {as : List Value} (h : zD k pc = some (ins, len, c, lv, ini, rt)) (h1 : zpure ins S = none) (h2 : zjump ins S = none) (h3 : zloc ins L S = none) (h4 : zread c ins S sh mi mj mr = none) (h5 : zwrite c ini ins S sh mi mj mr = none) (h6 : zretv rt ins S = none) (h7 : zinv c lv ins S sh = some (k2, as, S')) : zRun k pc L S sh mi mj mr = (zCall k2 as sh mi mj mr).bind fun r => zRun k (pc + 3) L (r.1.toList ++ S') r.2.1 r.2.2.1 r.2.2.2.1 r.2.2.2.2 := by
  rw [zRun_eq, zstep_D h]
  unfold zins
  rw [h1]
  simp only
  rw [h2]
  simp only
  rw [h3]
  simp only
  rw [h4]
  simp only
  rw [h5]
  simp only
  rw [h6]
  simp only
  rw [h7]
section ZQget
variable {idx ci j p o : Nat} {a1 : String} {a2 : u_T} {a3 : Nat} {ty : Nat → FieldType}
theorem zr_getI (h : zD k pc = some (.getfield idx, len, c, lv, ini, rt)) (hf : zfld c idx = some (ci, j, p)) (hc : zC[ci]? = some (a1, a2, a3, ty)) (hk : zkind (ty j) = 0 ∨ zkind (ty j) = 3) (ho : zIs sh o 0 ci) : zRun k pc L (.ref o :: S) sh mi mj mr = zRun k (pc + len) L (.int (mi o j) :: S) sh mi mj mr := by
  refine zr_r h rfl rfl rfl ?_
  unfold zread
  simp only [hf, hc]
  rw [if_pos ⟨ho.1, ho.2⟩]
  rcases hk with hk | hk <;> simp only [hk]
theorem zr_getJ (h : zD k pc = some (.getfield idx, len, c, lv, ini, rt)) (hf : zfld c idx = some (ci, j, p)) (hc : zC[ci]? = some (a1, a2, a3, ty)) (hk : zkind (ty j) = 1) (ho : zIs sh o 0 ci) : zRun k pc L (.ref o :: S) sh mi mj mr = zRun k (pc + len) L (.long (mj o j) :: S) sh mi mj mr := by
  refine zr_r h rfl rfl rfl ?_
  unfold zread
  simp only [hf, hc]
  rw [if_pos ⟨ho.1, ho.2⟩]
  simp only [hk]
theorem zr_getR (h : zD k pc = some (.getfield idx, len, c, lv, ini, rt)) (hf : zfld c idx = some (ci, j, p)) (hc : zC[ci]? = some (a1, a2, a3, ty)) (hk : zkind (ty j) = 2) (ho : zIs sh o 0 ci) : zRun k pc L (.ref o :: S) sh mi mj mr = zRun k (pc + len) L (va_rf (mr o j) :: S) sh mi mj mr := by
  refine zr_r h rfl rfl rfl ?_
  unfold zread
  simp only [hf, hc]
  rw [if_pos ⟨ho.1, ho.2⟩]
  simp only [hk]
theorem zr_putI {x : Int32} (h : zD k pc = some (.putfield idx, len, c, lv, ini, rt)) (hf : zfld c idx = some (ci, j, p)) (hc : zC[ci]? = some (a1, a2, a3, ty)) (hk : zkind (ty j) = 0) (hi : (a2 j).2.2.2 = false ∨ (ini = true ∧ ci = c)) (ho : zIs sh o 0 ci) : zRun k pc L (.int x :: .ref o :: S) sh mi mj mr = zRun k (pc + len) L S sh (zup mi o j x) mj mr := by
  refine zr_w h rfl rfl rfl rfl ?_
  unfold zwrite
  simp only [hf, hc]
  rw [if_pos ⟨ho.1, ho.2, hi⟩]
  simp only [hk]
theorem zr_putB {x : Int32} (h : zD k pc = some (.putfield idx, len, c, lv, ini, rt)) (hf : zfld c idx = some (ci, j, p)) (hc : zC[ci]? = some (a1, a2, a3, ty)) (hk : zkind (ty j) = 3) (hi : (a2 j).2.2.2 = false ∨ (ini = true ∧ ci = c)) (ho : zIs sh o 0 ci) (hx : x = 0 ∨ x = 1) : zRun k pc L (.int x :: .ref o :: S) sh mi mj mr = zRun k (pc + len) L S sh (zup mi o j x) mj mr := by
  refine zr_w h rfl rfl rfl rfl ?_
  unfold zwrite
  simp only [hf, hc]
  rw [if_pos ⟨ho.1, ho.2, hi⟩]
  simp only [hk]
  rw [if_pos hx]
theorem zr_putJ {x : Int64} (h : zD k pc = some (.putfield idx, len, c, lv, ini, rt)) (hf : zfld c idx = some (ci, j, p)) (hc : zC[ci]? = some (a1, a2, a3, ty)) (hk : zkind (ty j) = 1) (hi : (a2 j).2.2.2 = false ∨ (ini = true ∧ ci = c)) (ho : zIs sh o 0 ci) : zRun k pc L (.long x :: .ref o :: S) sh mi mj mr = zRun k (pc + len) L S sh mi (zup mj o j x) mr := by
  refine zr_w h rfl rfl rfl rfl ?_
  unfold zwrite
  simp only [hf, hc]
  rw [if_pos ⟨ho.1, ho.2, hi⟩]
  simp only [hk]
theorem zr_putR {x : Nat} (h : zD k pc = some (.putfield idx, len, c, lv, ini, rt)) (hf : zfld c idx = some (ci, j, p)) (hc : zC[ci]? = some (a1, a2, a3, ty)) (hk : zkind (ty j) = 2) (hi : (a2 j).2.2.2 = false ∨ (ini = true ∧ ci = c)) (ho : zIs sh o 0 ci) : zRun k pc L (.ref x :: .ref o :: S) sh mi mj mr = zRun k (pc + len) L S sh mi mj (zup mr o j (some x)) := by
  refine zr_w h rfl rfl rfl rfl ?_
  unfold zwrite
  simp only [hf, hc]
  rw [if_pos ⟨ho.1, ho.2, hi⟩]
  simp only [hk]
end ZQget
section ZQarr
variable {o t n : Nat} {i x : Int32} {v : Int64}
theorem zr_iald (h : zD k pc = some (.iaload, len, c, lv, ini, rt)) (ho : zAt sh o 1 i) : zRun k pc L (.int i :: .ref o :: S) sh mi mj mr = zRun k (pc + len) L (.int (mi o i.toNatClampNeg) :: S) sh mi mj mr := by
  obtain ⟨n, h1, h2, h3⟩ := ho
  exact zr_r h rfl rfl rfl (by simp [zread, h1, h2, h3])
theorem zr_sald (h : zD k pc = some (.iaload, len, c, lv, ini, rt)) (ho : sh[0]? = some (99, n)) (hi : zin i n = true) : zRun k pc L (.int i :: .ref 0 :: S) sh mi mj mr = zRun k (pc + len) L (.int (mi 0 i.toNatClampNeg) :: S) sh mi mj mr := by
  exact zr_r h rfl rfl rfl (by simp [zread, ho, hi])
theorem zr_lald (h : zD k pc = some (.laload, len, c, lv, ini, rt)) (ho : zAt sh o 2 i) : zRun k pc L (.int i :: .ref o :: S) sh mi mj mr = zRun k (pc + len) L (.long (mj o i.toNatClampNeg) :: S) sh mi mj mr := by
  obtain ⟨n, h1, h2, h3⟩ := ho
  exact zr_r h rfl rfl rfl (by simp [zread, h1, h2, h3])
theorem zr_cald (h : zD k pc = some (.caload, len, c, lv, ini, rt)) (ho : zAt sh o 3 i) : zRun k pc L (.int i :: .ref o :: S) sh mi mj mr = zRun k (pc + len) L (.int (mi o i.toNatClampNeg) :: S) sh mi mj mr := by
  obtain ⟨n, h1, h2, h3⟩ := ho
  exact zr_r h rfl rfl rfl (by simp [zread, h1, h2, h3])
theorem zr_bald (h : zD k pc = some (.baload, len, c, lv, ini, rt)) (ho : zAt sh o 4 i) : zRun k pc L (.int i :: .ref o :: S) sh mi mj mr = zRun k (pc + len) L (.int (mi o i.toNatClampNeg) :: S) sh mi mj mr := by
  obtain ⟨n, h1, h2, h3⟩ := ho
  exact zr_r h rfl rfl rfl (by simp [zread, h1, h2, h3])
theorem zr_aald (h : zD k pc = some (.aaload, len, c, lv, ini, rt)) (ht : t = 7 ∨ t = 10 ∨ t = 11) (ho : zAt sh o t i) : zRun k pc L (.int i :: .ref o :: S) sh mi mj mr = zRun k (pc + len) L (va_rf (mr o i.toNatClampNeg) :: S) sh mi mj mr := by
  obtain ⟨n, h1, h2, h3⟩ := ho
  exact zr_r h rfl rfl rfl (by simp [zread, h1, h2, h3, ht])
theorem zr_len (h : zD k pc = some (.arraylength, len, c, lv, ini, rt)) (ht : t = 1 ∨ t = 2 ∨ t = 3) (ho : zIs sh o t n) : zRun k pc L (.ref o :: S) sh mi mj mr = zRun k (pc + len) L (.int (Int32.ofNat n) :: S) sh mi mj mr := by
  exact zr_r h rfl rfl rfl (by rcases ht with rfl | rfl | rfl <;> simp [zread, ho.1, ho.2])
theorem zr_slen (h : zD k pc = some (.arraylength, len, c, lv, ini, rt)) (ho : sh[0]? = some (99, n)) : zRun k pc L (.ref 0 :: S) sh mi mj mr = zRun k (pc + len) L (.int (Int32.ofNat n) :: S) sh mi mj mr := by
  exact zr_r h rfl rfl rfl (by simp [zread, ho])
theorem zr_iast (h : zD k pc = some (.iastore, len, c, lv, ini, rt)) (ho : zAt sh o 1 i) : zRun k pc L (.int x :: .int i :: .ref o :: S) sh mi mj mr = zRun k (pc + len) L S sh (zup mi o i.toNatClampNeg x) mj mr := by
  obtain ⟨n, h1, h2, h3⟩ := ho
  exact zr_w h rfl rfl rfl rfl (by simp [zwrite, h1, h2, h3])
theorem zr_cast (h : zD k pc = some (.castore, len, c, lv, ini, rt)) (ho : zAt sh o 3 i) : zRun k pc L (.int x :: .int i :: .ref o :: S) sh mi mj mr = zRun k (pc + len) L S sh (zup mi o i.toNatClampNeg (vp_nar .char x)) mj mr := by
  obtain ⟨n, h1, h2, h3⟩ := ho
  exact zr_w h rfl rfl rfl rfl (by simp [zwrite, h1, h2, h3])
theorem zr_bast (h : zD k pc = some (.bastore, len, c, lv, ini, rt)) (ho : zAt sh o 4 i) : zRun k pc L (.int x :: .int i :: .ref o :: S) sh mi mj mr = zRun k (pc + len) L S sh (zup mi o i.toNatClampNeg (vp_nar .boolean x)) mj mr := by
  obtain ⟨n, h1, h2, h3⟩ := ho
  exact zr_w h rfl rfl rfl rfl (by simp [zwrite, h1, h2, h3])
theorem zr_last (h : zD k pc = some (.lastore, len, c, lv, ini, rt)) (ho : zAt sh o 2 i) : zRun k pc L (.long v :: .int i :: .ref o :: S) sh mi mj mr = zRun k (pc + len) L S sh mi (zup mj o i.toNatClampNeg v) mr := by
  obtain ⟨n, h1, h2, h3⟩ := ho
  exact zr_w h rfl rfl rfl rfl (by simp [zwrite, h1, h2, h3])
theorem zr_aast {q : Nat} (h : zD k pc = some (.aastore, len, c, lv, ini, rt)) (ht : t = 7 ∨ t = 10 ∨ t = 11) (ho : zAt sh o t i) (hq : zIs sh q 0 (t - 5)) : zRun k pc L (.ref q :: .int i :: .ref o :: S) sh mi mj mr = zRun k (pc + len) L S sh mi mj (zup mr o i.toNatClampNeg (some q)) := by
  obtain ⟨n, h1, h2, h3⟩ := ho
  exact zr_w h rfl rfl rfl rfl (by simp [zwrite, h1, h2, h3, ht, hq.1, hq.2])
theorem zr_k32 {idx p : Nat} {v : Int} (h : zD k pc = some (ins, len, c, lv, ini, rt)) (hi : ins = .ldc idx ∨ ins = .ldc_w idx) (hv : zk32 c idx = some (v, p)) : zRun k pc L S sh mi mj mr = zRun k (pc + len) L (.int (Int32.ofInt v) :: S) sh mi mj mr := by
  rcases hi with rfl | rfl
  · exact zr_r h rfl rfl rfl (by simp only [zread, hv])
  · exact zr_r h rfl rfl rfl (by simp only [zread, hv])
theorem zr_k64 {idx p : Nat} {v : Int} (h : zD k pc = some (.ldc2_w idx, len, c, lv, ini, rt)) (hv : zk64 c idx = some (v, p)) : zRun k pc L S sh mi mj mr = zRun k (pc + len) L (.long (Int64.ofInt v) :: S) sh mi mj mr := by
  exact zr_r h rfl rfl rfl (by simp only [zread, hv])
theorem zr_new {idx ci p : Nat} (h : zD k pc = some (.new idx, len, c, lv, ini, rt)) (hv : zclk c idx = some (ci, p)) (hc : ci < 8) : zRun k pc L S sh mi mj mr = zRun k (pc + len) L (.ref sh.length :: S) (sh ++ [(0, ci)]) mi mj mr := by
  exact zr_w h rfl rfl rfl rfl (by simp only [zwrite, hv]; rw [if_pos hc])
theorem zr_anew {idx ci p : Nat} {q : Int32} (h : zD k pc = some (.anewarray idx, len, c, lv, ini, rt)) (hv : zclk c idx = some (ci, p)) (hc : 0 ≤ q ∧ q ≤ 100000 ∧ (ci = 2 ∨ ci = 5 ∨ ci = 6)) : zRun k pc L (.int q :: S) sh mi mj mr = zRun k (pc + len) L (.ref sh.length :: S) (sh ++ [(ci + 5, q.toNatClampNeg)]) mi mj mr := by
  exact zr_w h rfl rfl rfl rfl (by simp only [zwrite, hv]; rw [if_pos hc])
theorem zr_obj {idx a b e d : Nat} (h : zD k pc = some (.invokespecial idx, len, c, lv, ini, rt)) (hm : zmth c idx = some (4, a, b, e, d)) (hS : zcat S ≤ 8) : zRun k pc L (.ref o :: S) sh mi mj mr = zRun k (pc + len) L S sh mi mj mr := by
  exact zr_w h rfl rfl rfl rfl (by simp only [zwrite, hm]; rw [if_pos hS])
theorem zr_acpI {idx a b e d o0 n0 n1 : Nat} {sp dp q : Int32} (h : zD k pc = some (.invokestatic idx, len, c, lv, ini, rt)) (hm : zmth c idx = some (5, a, b, e, d)) (hS : zcat S ≤ 8) (h0 : zIs sh o0 1 n0) (h1 : zIs sh o 1 n1) (hq : 0 ≤ sp ∧ 0 ≤ dp ∧ 0 ≤ q ∧ sp.toNatClampNeg + q.toNatClampNeg ≤ n0 ∧ dp.toNatClampNeg + q.toNatClampNeg ≤ n1) :
    zRun k pc L (.int q :: .int dp :: .ref o :: .int sp :: .ref o0 :: S) sh mi mj mr = zRun k (pc + len) L S sh (zrw mi o (va_cpy (mi o0) (mi o) sp.toNatClampNeg dp.toNatClampNeg q.toNatClampNeg)) mj mr := by
  exact zr_w h rfl rfl rfl rfl (by simp only [zwrite, hm, h0.1, h1.1]; rw [if_pos ⟨hS, h0.2, h1.2, hq.1, hq.2.1, hq.2.2.1, hq.2.2.2.1, hq.2.2.2.2, trivial⟩]; rfl)
theorem zr_acpJ {idx a b e d o0 n0 n1 : Nat} {sp dp q : Int32} (h : zD k pc = some (.invokestatic idx, len, c, lv, ini, rt)) (hm : zmth c idx = some (5, a, b, e, d)) (hS : zcat S ≤ 8) (h0 : zIs sh o0 2 n0) (h1 : zIs sh o 2 n1) (hq : 0 ≤ sp ∧ 0 ≤ dp ∧ 0 ≤ q ∧ sp.toNatClampNeg + q.toNatClampNeg ≤ n0 ∧ dp.toNatClampNeg + q.toNatClampNeg ≤ n1) :
    zRun k pc L (.int q :: .int dp :: .ref o :: .int sp :: .ref o0 :: S) sh mi mj mr = zRun k (pc + len) L S sh mi (zrw mj o (va_cpy (mj o0) (mj o) sp.toNatClampNeg dp.toNatClampNeg q.toNatClampNeg)) mr := by
  exact zr_w h rfl rfl rfl rfl (by simp only [zwrite, hm, h0.1, h1.1]; rw [if_pos ⟨hS, h0.2, h1.2, hq.1, hq.2.1, hq.2.2.1, hq.2.2.2.1, hq.2.2.2.2, trivial⟩]; rfl)
end ZQarr
theorem zr_V {idx k2 q p1 p2 ml2 c2 lv2 np o q1 q2 : Nat} {y : MethodName} {b : ByteArray} {rt2 : Option FieldType} {as r : List Value} (h : zD k pc = some (.invokevirtual idx, len, c, lv, ini, rt)) (hm : zmth c idx = some (0, k2, q, p1, p2)) (hM : zM[k2]? = some (y, b, ml2, rt2, c2, lv2, np, q1, q2)) (hp : zpop np S [] = some (as, .ref o :: r)) (hl : Nat.blt lv2 lv = true) (he : Nat.ble (zentL (.ref o :: as)).length ml2 = true) (hr : zcat r ≤ 8) (ho : zIs sh o 0 c2) :
    zRun k pc L S sh mi mj mr = (zCall k2 (.ref o :: as) sh mi mj mr).bind fun r' => zRun k (pc + 3) L (r'.1.toList ++ r) r'.2.1 r'.2.2.1 r'.2.2.2.1 r'.2.2.2.2 := by
  refine zr_inv h rfl rfl rfl rfl rfl ?_ ?_
  · rfl
  · simp only [zinv, hm, zgoV, hM, hp]
    rw [if_pos ⟨hr, by simpa using hl, Nat.le_of_ble_eq_true he, ho.2, fun _ => ho.1⟩]
theorem zr_I {idx k2 q p1 p2 ml2 c2 lv2 np o q1 q2 : Nat} {y : MethodName} {b : ByteArray} {rt2 : Option FieldType} {as r : List Value} (h : zD k pc = some (.invokespecial idx, len, c, lv, ini, rt)) {kd : Nat} (hk : kd = 1 ∨ kd = 3) (hm : zmth c idx = some (kd, k2, q, p1, p2)) (hM : zM[k2]? = some (y, b, ml2, rt2, c2, lv2, np, q1, q2)) (hp : zpop np S [] = some (as, .ref o :: r)) (hl : Nat.blt lv2 lv = true) (he : Nat.ble (zentL (.ref o :: as)).length ml2 = true) (hr : zcat r ≤ 8) (ho : 1 ≤ o) :
    zRun k pc L S sh mi mj mr = (zCall k2 (.ref o :: as) sh mi mj mr).bind fun r' => zRun k (pc + 3) L (r'.1.toList ++ r) r'.2.1 r'.2.2.1 r'.2.2.2.1 r'.2.2.2.2 := by
  refine zr_inv h rfl rfl rfl rfl ?_ ?_ ?_
  · rcases hk with rfl | rfl <;> simp [zwrite, hm]
  · rfl
  · rcases hk with rfl | rfl
    · simp only [zinv, hm, zgoV, hM, hp]
      rw [if_pos ⟨hr, by simpa using hl, Nat.le_of_ble_eq_true he, ho, fun z => by cases z⟩]
    · simp only [zinv, hm, zgoV, hM, hp]
      rw [if_pos ⟨hr, by simpa using hl, Nat.le_of_ble_eq_true he, ho, fun z => by cases z⟩]
theorem zr_S {idx k2 q p1 p2 ml2 c2 lv2 np q1 q2 : Nat} {y : MethodName} {b : ByteArray} {rt2 : Option FieldType} {as r : List Value} (h : zD k pc = some (.invokestatic idx, len, c, lv, ini, rt)) (hm : zmth c idx = some (2, k2, q, p1, p2)) (hM : zM[k2]? = some (y, b, ml2, rt2, c2, lv2, np, q1, q2)) (hp : zpop np S [] = some (as, r)) (hl : Nat.blt lv2 lv = true) (he : Nat.ble (zentL as).length ml2 = true) (hr : zcat r ≤ 8) :
    zRun k pc L S sh mi mj mr = (zCall k2 as sh mi mj mr).bind fun r' => zRun k (pc + 3) L (r'.1.toList ++ r) r'.2.1 r'.2.2.1 r'.2.2.2.1 r'.2.2.2.2 := by
  refine zr_inv h rfl rfl rfl rfl ?_ ?_ ?_
  · simp [zwrite, hm]
  · rfl
  · simp only [zinv, hm, zgoS, hM, hp]
    rw [if_pos ⟨hr, by simpa using hl, Nat.le_of_ble_eq_true he⟩]
theorem zsw_ne {x : Int32} {v : Int} (h : ¬ x = Int32.ofInt v) (h1 : -2147483648 ≤ v) (h2 : v < 2147483648) : ¬ x.toInt = v := fun e => h (by rw [← Int32.toInt_inj, Int32.toInt_ofInt_of_le h1 h2]; exact e)
theorem zsw_out {x : Int32} (dflt lo hi : Int) {offs : Array Int} (h : x.toInt < lo ∨ hi < x.toInt) : zsw x dflt lo hi offs = some dflt := if_pos h
theorem zlk_out {x : Int32} {ps : Array (Int × Int)} {dflt off : Int} (h : zlsOk ps = true) (ho : Op.lookupswitch.offset ps.toList dflt x.toInt = off) : zjump (.lookupswitch dflt ps) (.int x :: S) = some (S, off, true) := by
  unfold zjump
  simp only
  rw [if_pos h, ho]
theorem zna_b {x : Int32} (h : x = 0 ∨ x = 1) : narrow .boolean (.int x) = .int x := by
  rcases h with rfl | rfl <;> rfl
end ZQ
