/-! ===== the interpreter is right: what it finds, the machine does (1: stack, jumps, locals) ===== -/
def zad (bb base o : Nat) : Nat := if o = 0 then bb else base + (o - 1)
def zcv (ad : Nat → Nat) (v : Value) : Value := match v with
  | .ref o => .ref (ad o)
  | .int x => .int x
  | .long x => .long x
  | .float x => .float x
  | .double x => .double x
  | .null => .null
  | .retAddr x => .retAddr x
theorem zcv_cat (ad : Nat → Nat) (v : Value) : (zcv ad v).category = v.category := by cases v <;> rfl
theorem zcv_sum (ad : Nat → Nat) (S : List Value) : ((S.map (zcv ad)).map fun v => v.category).sum = zcat S := by
  unfold zcat
  rw [List.map_map]
  congr 1
  exact List.map_congr_left fun v _ => zcv_cat ad v
theorem zcv_rf (ad : Nat → Nat) (x : Option Nat) : zcv ad (va_rf x) = va_rf (x.map ad) := by cases x <;> rfl
theorem zi2_some {f : Int32 → Int32 → Int32} {S S' : List Value} (h : zi2 f S = some S') : ∃ x y r, S = .int y :: .int x :: r ∧ S' = .int (f x y) :: r := by
  unfold zi2 at h
  split at h
  · cases h; exact ⟨_, _, _, rfl, rfl⟩
  · cases h
theorem zj2_some {f : Int64 → Int64 → Int64} {S S' : List Value} (h : zj2 f S = some S') : ∃ x y r, S = .long y :: .long x :: r ∧ S' = .long (f x y) :: r := by
  unfold zj2 at h
  split at h
  · cases h; exact ⟨_, _, _, rfl, rfl⟩
  · cases h
theorem zi2n_some {f : Int32 → Int32 → Int32} {S S' : List Value} (h : zi2n f S = some S') : ∃ x y r, S = .int y :: .int x :: r ∧ S' = .int (f x y) :: r ∧ ¬ y = 0 := by
  unfold zi2n at h
  split at h
  · split at h
    · cases h
    · cases h; exact ⟨_, _, _, rfl, rfl, by assumption⟩
  · cases h
theorem zj2n_some {f : Int64 → Int64 → Int64} {S S' : List Value} (h : zj2n f S = some S') : ∃ x y r, S = .long y :: .long x :: r ∧ S' = .long (f x y) :: r ∧ ¬ y = 0 := by
  unfold zj2n at h
  split at h
  · split at h
    · cases h
    · cases h; exact ⟨_, _, _, rfl, rfl, by assumption⟩
  · cases h
theorem zji_some {f : Int64 → Int32 → Int64} {S S' : List Value} (h : zji f S = some S') : ∃ x y r, S = .int y :: .long x :: r ∧ S' = .long (f x y) :: r := by
  unfold zji at h
  split at h
  · cases h; exact ⟨_, _, _, rfl, rfl⟩
  · cases h
theorem zlenOk_eq {ins : Instr} {len : Nat} (h : zlenOk ins len = true) (h1 : ∀ a b c d, ins ≠ .tableswitch a b c d) (h2 : ∀ a b, ins ≠ .lookupswitch a b) : len = zlenOf ins := by
  unfold zlenOk at h
  split at h
  · exact absurd rfl (h1 _ _ _ _)
  · exact absurd rfl (h2 _ _)
  · exact beq_iff_eq.mp h
section ZS
variable {p : Program} {l : Launch} {e : Env} {R : Room} {s : State} {m : MethodId} {args : Array Value} {below : List Frame} {meth : Method} {cd : Code} {H : Heap} {locs : List Loc} {cells slots : Nat} {Q : State → Prop}
variable {b : ByteArray} {pc len : Nat} {ls : Array Slot} {ins : Instr} {S S' : List Value} {ad : Nat → Nat}
set_option maxHeartbeats 4000000 in
theorem zs_pure (hx : p.tables.exec = Jvm.exec) (hb : cd.code = b) (hd : decode b pc = .ok (ins, len)) (hl : zlenOk ins len = true) (h : zpure ins S = some S')
    (kk : W p l e R s m args below meth cd H locs cells slots Q (F0 m (pc + len) ls (S'.map (zcv ad)))) : W p l e R s m args below meth cd H locs cells slots Q (F0 m pc ls (S.map (zcv ad))) := by
  unfold zpure at h
  split at h
  · cases h; cases zlenOk_eq hl (fun _ _ _ _ h => by cases h) (fun _ _ h => by cases h); exact lv_null hx hb hd kk
  · cases h; cases zlenOk_eq hl (fun _ _ _ _ h => by cases h) (fun _ _ h => by cases h); exact lv_bipush hx hb hd rfl kk
  · cases h; cases zlenOk_eq hl (fun _ _ _ _ h => by cases h) (fun _ _ h => by cases h); exact lv_sipush hx hb hd rfl kk
  · cases h; cases zlenOk_eq hl (fun _ _ _ _ h => by cases h) (fun _ _ h => by cases h); exact lv_iconst hx hb hd rfl kk
  · cases h; cases zlenOk_eq hl (fun _ _ _ _ h => by cases h) (fun _ _ h => by cases h); exact lv_lconst hx hb hd rfl kk
  · obtain ⟨x, y, r, rfl, rfl⟩ := zi2_some h; cases zlenOk_eq hl (fun _ _ _ _ h => by cases h) (fun _ _ h => by cases h); exact lv_iadd hx hb hd kk
  · obtain ⟨x, y, r, rfl, rfl⟩ := zi2_some h; cases zlenOk_eq hl (fun _ _ _ _ h => by cases h) (fun _ _ h => by cases h); exact lv_isub hx hb hd kk
  · obtain ⟨x, y, r, rfl, rfl⟩ := zi2_some h; cases zlenOk_eq hl (fun _ _ _ _ h => by cases h) (fun _ _ h => by cases h); exact lv_imul hx hb hd kk
  · obtain ⟨x, y, r, rfl, rfl⟩ := zi2_some h; cases zlenOk_eq hl (fun _ _ _ _ h => by cases h) (fun _ _ h => by cases h); exact lv_iand hx hb hd kk
  · obtain ⟨x, y, r, rfl, rfl⟩ := zi2_some h; cases zlenOk_eq hl (fun _ _ _ _ h => by cases h) (fun _ _ h => by cases h); exact lv_ior hx hb hd kk
  · obtain ⟨x, y, r, rfl, rfl, hne⟩ := zi2n_some h; cases zlenOk_eq hl (fun _ _ _ _ h => by cases h) (fun _ _ h => by cases h); exact lv_idiv hx hb hd hne kk
  · obtain ⟨x, y, r, rfl, rfl, hne⟩ := zi2n_some h; cases zlenOk_eq hl (fun _ _ _ _ h => by cases h) (fun _ _ h => by cases h); exact lv_irem hx hb hd hne kk
  · obtain ⟨x, y, r, rfl, rfl⟩ := zi2_some h; cases zlenOk_eq hl (fun _ _ _ _ h => by cases h) (fun _ _ h => by cases h); exact lv_ishl hx hb hd kk
  · obtain ⟨x, y, r, rfl, rfl⟩ := zi2_some h; cases zlenOk_eq hl (fun _ _ _ _ h => by cases h) (fun _ _ h => by cases h); exact lv_ishr hx hb hd kk
  · obtain ⟨x, y, r, rfl, rfl⟩ := zj2_some h; cases zlenOk_eq hl (fun _ _ _ _ h => by cases h) (fun _ _ h => by cases h); exact lv_ladd hx hb hd kk
  · obtain ⟨x, y, r, rfl, rfl⟩ := zj2_some h; cases zlenOk_eq hl (fun _ _ _ _ h => by cases h) (fun _ _ h => by cases h); exact lv_lsub hx hb hd kk
  · obtain ⟨x, y, r, rfl, rfl⟩ := zj2_some h; cases zlenOk_eq hl (fun _ _ _ _ h => by cases h) (fun _ _ h => by cases h); exact lv_lmul hx hb hd kk
  · obtain ⟨x, y, r, rfl, rfl⟩ := zj2_some h; cases zlenOk_eq hl (fun _ _ _ _ h => by cases h) (fun _ _ h => by cases h); exact lv_land hx hb hd kk
  · obtain ⟨x, y, r, rfl, rfl⟩ := zj2_some h; cases zlenOk_eq hl (fun _ _ _ _ h => by cases h) (fun _ _ h => by cases h); exact lv_lxor hx hb hd kk
  · obtain ⟨x, y, r, rfl, rfl, hne⟩ := zj2n_some h; cases zlenOk_eq hl (fun _ _ _ _ h => by cases h) (fun _ _ h => by cases h); exact lv_ldiv hx hb hd hne kk
  · obtain ⟨x, y, r, rfl, rfl, hne⟩ := zj2n_some h; cases zlenOk_eq hl (fun _ _ _ _ h => by cases h) (fun _ _ h => by cases h); exact lv_lrem hx hb hd hne kk
  · obtain ⟨x, y, r, rfl, rfl⟩ := zji_some h; cases zlenOk_eq hl (fun _ _ _ _ h => by cases h) (fun _ _ h => by cases h); exact lv_lshl hx hb hd rfl kk
  · obtain ⟨x, y, r, rfl, rfl⟩ := zji_some h; cases zlenOk_eq hl (fun _ _ _ _ h => by cases h) (fun _ _ h => by cases h); exact lv_lshr hx hb hd rfl kk
  · cases zlenOk_eq hl (fun _ _ _ _ h => by cases h) (fun _ _ h => by cases h)
    split at h
    · cases h; exact W.lcmp hx hb hd kk
    · cases h
  · cases zlenOk_eq hl (fun _ _ _ _ h => by cases h) (fun _ _ h => by cases h)
    split at h
    · cases h; exact lv_ineg hx hb hd kk
    · cases h
  · cases zlenOk_eq hl (fun _ _ _ _ h => by cases h) (fun _ _ h => by cases h)
    split at h
    · cases h; exact lv_lneg hx hb hd kk
    · cases h
  · cases zlenOk_eq hl (fun _ _ _ _ h => by cases h) (fun _ _ h => by cases h)
    split at h
    · cases h; exact lv_i2l hx hb hd rfl kk
    · cases h
  · cases zlenOk_eq hl (fun _ _ _ _ h => by cases h) (fun _ _ h => by cases h)
    split at h
    · cases h; exact lv_i2c hx hb hd rfl kk
    · cases h
  · cases zlenOk_eq hl (fun _ _ _ _ h => by cases h) (fun _ _ h => by cases h)
    split at h
    · cases h; exact lv_l2i hx hb hd rfl kk
    · cases h
  · cases zlenOk_eq hl (fun _ _ _ _ h => by cases h) (fun _ _ h => by cases h)
    split at h
    · split at h
      · rename_i hc
        cases h; exact lv_dup hx hb hd ((zcv_cat _ _).trans hc) kk
      · cases h
    · cases h
  · cases zlenOk_eq hl (fun _ _ _ _ h => by cases h) (fun _ _ h => by cases h)
    split at h
    · split at h
      · rename_i hc
        cases h; exact lv_dup2_11 hx hb hd ((zcv_cat _ _).trans hc.1) ((zcv_cat _ _).trans hc.2) kk
      · cases h
    · cases h
  · cases zlenOk_eq hl (fun _ _ _ _ h => by cases h) (fun _ _ h => by cases h)
    split at h
    · split at h
      · rename_i hc
        cases h; exact lv_pop hx hb hd ((zcv_cat _ _).trans hc) kk
      · cases h
    · cases h
  · cases h
theorem zdec_if {A : Prop} [Decidable A] {P : Nat → Prop} {x y : Nat} (h : P (if decide A = true then x else y)) : (A → P x) ∧ (¬ A → P y) := by
  constructor
  · intro a; rw [if_pos (decide_eq_true a)] at h; exact h
  · intro a; rw [if_neg (by simpa using a)] at h; exact h
set_option maxHeartbeats 4000000 in
theorem zs_jump {off : Int} {tk : Bool} (hx : p.tables.exec = Jvm.exec) (hb : cd.code = b) (hd : decode b pc = .ok (ins, len)) (hl : zlenOk ins len = true) (h : zjump ins S = some (S', off, tk)) (hge : 0 ≤ (pc : Int) + off)
    (kk : W p l e R s m args below meth cd H locs cells slots Q (F0 m (if tk = true then ((pc : Int) + off).toNat else pc + len) ls (S'.map (zcv ad)))) : W p l e R s m args below meth cd H locs cells slots Q (F0 m pc ls (S.map (zcv ad))) := by
  have ht : (pc : Int) + off = ((((pc : Int) + off).toNat : Nat) : Int) := (Int.toNat_of_nonneg hge).symm
  unfold zjump at h
  split at h
  · cases h; exact lv_goto hx hb (by cases zlenOk_eq hl (fun _ _ _ _ h => by cases h) (fun _ _ h => by cases h); exact hd) ht kk
  · cases zlenOk_eq hl (fun _ _ _ _ h => by cases h) (fun _ _ h => by cases h)
    split at h
    · split at h <;> cases h
      · obtain ⟨k1, k2⟩ := zdec_if (P := fun x => W p l e R s m args below meth cd H locs cells slots Q (F0 m x ls _)) kk
        exact lv_if_eq hx hb hd ht k1 k2
      · obtain ⟨k1, k2⟩ := zdec_if (P := fun x => W p l e R s m args below meth cd H locs cells slots Q (F0 m x ls _)) kk
        exact lv_if_ne hx hb hd ht k1 (fun q => k2 (fun z => z q))
      · obtain ⟨k1, k2⟩ := zdec_if (P := fun x => W p l e R s m args below meth cd H locs cells slots Q (F0 m x ls _)) kk
        exact lv_if_lt hx hb hd ht k1 k2
      · obtain ⟨k1, k2⟩ := zdec_if (P := fun x => W p l e R s m args below meth cd H locs cells slots Q (F0 m x ls _)) kk
        exact lv_if_ge hx hb hd ht k1 k2
      · obtain ⟨k1, k2⟩ := zdec_if (P := fun x => W p l e R s m args below meth cd H locs cells slots Q (F0 m x ls _)) kk
        exact lv_if_gt hx hb hd ht k1 k2
      · obtain ⟨k1, k2⟩ := zdec_if (P := fun x => W p l e R s m args below meth cd H locs cells slots Q (F0 m x ls _)) kk
        exact lv_if_le hx hb hd ht k1 k2
    · cases h
  · cases zlenOk_eq hl (fun _ _ _ _ h => by cases h) (fun _ _ h => by cases h)
    split at h
    · split at h <;> cases h
      · obtain ⟨k1, k2⟩ := zdec_if (P := fun x => W p l e R s m args below meth cd H locs cells slots Q (F0 m x ls _)) kk
        exact lv_icmp_eq hx hb hd ht k1 k2
      · obtain ⟨k1, k2⟩ := zdec_if (P := fun x => W p l e R s m args below meth cd H locs cells slots Q (F0 m x ls _)) kk
        exact lv_icmp_ne hx hb hd ht k1 (fun q => k2 (fun z => z q))
      · obtain ⟨k1, k2⟩ := zdec_if (P := fun x => W p l e R s m args below meth cd H locs cells slots Q (F0 m x ls _)) kk
        exact lv_icmp_lt hx hb hd ht k1 k2
      · obtain ⟨k1, k2⟩ := zdec_if (P := fun x => W p l e R s m args below meth cd H locs cells slots Q (F0 m x ls _)) kk
        exact lv_icmp_ge hx hb hd ht k1 k2
      · obtain ⟨k1, k2⟩ := zdec_if (P := fun x => W p l e R s m args below meth cd H locs cells slots Q (F0 m x ls _)) kk
        exact lv_icmp_gt hx hb hd ht k1 k2
      · obtain ⟨k1, k2⟩ := zdec_if (P := fun x => W p l e R s m args below meth cd H locs cells slots Q (F0 m x ls _)) kk
        exact lv_icmp_le hx hb hd ht k1 k2
    · cases h
  · cases zlenOk_eq hl (fun _ _ _ _ h => by cases h) (fun _ _ h => by cases h)
    split at h
    · cases h; exact lv_ifnull hx hb hd kk
    · cases h; exact lv_ifnullN hx hb hd ht kk
    · cases h
  · cases zlenOk_eq hl (fun _ _ _ _ h => by cases h) (fun _ _ h => by cases h)
    split at h
    · cases h; exact lv_ifnonnull hx hb hd ht kk
    · cases h; exact lv_ifnonnullN hx hb hd kk
    · cases h
  · split at h
    · split at h
      · rename_i hs
        cases h
        unfold zsw at hs
        split at hs
        · rename_i hc
          cases hs
          exact lv_tableOut hx hb hd hc ht kk
        · rename_i hc
          exact lv_tableIn hx hb hd (fun q => hc (Or.inl q)) (fun q => hc (Or.inr q)) hs ht kk
      · cases h
    · cases h
  · split at h
    · split at h
      · rename_i hs
        cases h
        exact lv_lookup hx hb hd hs rfl ht kk
      · cases h
    · cases h
  · cases h
theorem zget_eq (L : zLS) (j : Nat) : zget L j = (L[j]?).join := by
  induction L generalizing j with
  | nil => simp [zget]
  | cons x t ih => cases j with
    | zero => simp [zget]
    | succ j => simp [zget, ih]
theorem zget_set (L : zLS) (i j : Nat) (x : Option Value) (hi : i < L.length) : zget (L.set i x) j = if j = i then x else zget L j := by
  rw [zget_eq, zget_eq, List.getElem?_set]
  by_cases h : i = j
  · subst h; simp [hi]
  · rw [if_neg h, if_neg (fun q => h q.symm)]
/-- the locals -/
def zHas (ad : Nat → Nat) (ls : Array Slot) (ml : Nat) (L : zLS) : Prop := ls.size = ml ∧ lv_wf ls ∧ (∀ j v, zget L j = some v → ls[j]? = some (.val (zcv ad v))) ∧ L.length = ml
def zas (ad : Nat → Nat) (L : zLS) : List (Nat × Value) := (List.range L.length).filterMap fun j => (zget L j).map fun v => (j, zcv ad v)
theorem zas_mem {ad : Nat → Nat} {L : zLS} {j : Nat} {v : Value} (h : zget L j = some v) : (j, zcv ad v) ∈ zas ad L := by
  refine List.mem_filterMap.mpr ⟨j, List.mem_range.mpr ?_, by rw [h]; rfl⟩
  rw [zget_eq] at h
  rcases Nat.lt_or_ge j L.length with q | q
  · exact q
  · rw [List.getElem?_eq_none q] at h; cases h
theorem zHas.lv {ad : Nat → Nat} {ls : Array Slot} {ml : Nat} {L : zLS} (h : zHas ad ls ml L) : lv_has ls ml (zas ad L) := by
  refine ⟨h.1, h.2.1, fun q hq => ?_⟩
  obtain ⟨j, -, hj⟩ := List.mem_filterMap.mp hq
  obtain ⟨v, hv, rfl⟩ := Option.map_eq_some_iff.mp hj
  exact h.2.2.1 j v hv
theorem zst1_len {L L' : zLS} {i : Nat} {v : Value} (h : zst1 L i v = some L') : i < L.length ∧ L'.length = L.length := by
  unfold zst1 at h
  split at h
  · cases h
    refine ⟨by assumption, ?_⟩
    rw [List.length_set]
    split <;> simp
  · cases h
theorem zst1_get {L L' : zLS} {i j : Nat} {v u : Value} (h : zst1 L i v = some L') (hj : zget L' j = some u) : (j = i ∧ u = v) ∨ (j ≠ i ∧ zget L j = some u ∧ ¬ (j + 1 = i ∧ u.category = 2)) := by
  unfold zst1 at h
  split at h
  · rename_i hi
    cases h
    have hi2 : i < (if (decide (0 < i) && zis2 (zget L (i - 1))) = true then L.set (i - 1) none else L).length := by split <;> simpa using hi
    rw [zget_set _ _ _ _ hi2] at hj
    by_cases e : j = i
    · rw [if_pos e] at hj; cases hj; exact Or.inl ⟨e, rfl⟩
    · rw [if_neg e] at hj
      refine Or.inr ⟨e, ?_⟩
      split at hj
      · rename_i hc
        rw [zget_set _ _ _ _ (by omega)] at hj
        split at hj
        · cases hj
        · exact ⟨hj, fun q => by omega⟩
      · rename_i hc
        refine ⟨hj, fun q => hc ?_⟩
        have e1 : i - 1 = j := by omega
        rw [e1, hj]
        simp [zis2, q.2]
        omega
  · cases h
theorem zst2_len {L L' : zLS} {i : Nat} {v : Value} (h : zst2 L i v = some L') : i + 1 < L.length ∧ L'.length = L.length := by
  unfold zst2 at h
  split at h
  · cases h
    refine ⟨by assumption, ?_⟩
    rw [List.length_set, List.length_set]
    split <;> simp
  · cases h
theorem zst2_get {L L' : zLS} {i j : Nat} {v u : Value} (h : zst2 L i v = some L') (hj : zget L' j = some u) : (j = i ∧ u = v) ∨ (j ≠ i ∧ j ≠ i + 1 ∧ zget L j = some u ∧ ¬ (j + 1 = i ∧ u.category = 2)) := by
  unfold zst2 at h
  split at h
  · rename_i hi
    cases h
    have hi2 : i + 1 < (if (decide (0 < i) && zis2 (zget L (i - 1))) = true then L.set (i - 1) none else L).length := by split <;> simpa using hi
    rw [zget_set _ _ _ _ (by rw [List.length_set]; omega)] at hj
    split at hj
    · cases hj
    · rename_i e1
      rw [zget_set _ _ _ _ (by omega)] at hj
      by_cases e : j = i
      · rw [if_pos e] at hj; cases hj; exact Or.inl ⟨e, rfl⟩
      · rw [if_neg e] at hj
        refine Or.inr ⟨e, e1, ?_⟩
        split at hj
        · rename_i hc
          rw [zget_set _ _ _ _ (by omega)] at hj
          split at hj
          · cases hj
          · exact ⟨hj, fun q => by omega⟩
        · rename_i hc
          refine ⟨hj, fun q => hc ?_⟩
          have e2 : i - 1 = j := by omega
          rw [e2, hj]
          simp [zis2, q.2]
          omega
  · cases h
theorem zHas.st1 {ls ls' : Array Slot} {ml i : Nat} {v : Value} {L L' : zLS} (h : zHas ad ls ml L) (hs : zst1 L i v = some L')
    (hl : lv_has ls' ml ((i, zcv ad v) :: (zas ad L).filter (fun q => !(q.1 == i) && !(q.1 + 1 == i && q.2.category == 2)))) : zHas ad ls' ml L' := by
  refine ⟨hl.1, hl.2.1, fun j u hj => ?_, (zst1_len hs).2.trans h.2.2.2⟩
  rcases zst1_get hs hj with ⟨rfl, rfl⟩ | ⟨h1, h2, h3⟩
  · exact hl.2.2 (j, zcv ad u) List.mem_cons_self
  · refine hl.2.2 (j, zcv ad u) (List.mem_cons_of_mem _ (List.mem_filter.mpr ⟨zas_mem h2, ?_⟩))
    simp only [zcv_cat]
    have : ¬ (j + 1 == i && u.category == 2) = true := by simpa using h3
    simp [h1, this]
theorem zHas.st2 {ls ls' : Array Slot} {ml i : Nat} {v : Value} {L L' : zLS} (h : zHas ad ls ml L) (hs : zst2 L i v = some L')
    (hl : lv_has ls' ml ((i, zcv ad v) :: (zas ad L).filter (fun q => !(q.1 == i) && (!(q.1 == i + 1) && !(q.1 + 1 == i && q.2.category == 2))))) : zHas ad ls' ml L' := by
  refine ⟨hl.1, hl.2.1, fun j u hj => ?_, (zst2_len hs).2.trans h.2.2.2⟩
  rcases zst2_get hs hj with ⟨rfl, rfl⟩ | ⟨h1, h1b, h2, h3⟩
  · exact hl.2.2 (j, zcv ad u) List.mem_cons_self
  · refine hl.2.2 (j, zcv ad u) (List.mem_cons_of_mem _ (List.mem_filter.mpr ⟨zas_mem h2, ?_⟩))
    simp only [zcv_cat]
    simp [h1, h1b]
    by_cases q : j + 1 = i
    · exact Or.inr fun z => h3 ⟨q, z⟩
    · exact Or.inl q
theorem zld0 {v : Option Value} {u : Value} (h : zld 0 v = some u) : ∃ x, v = some (.int x) ∧ u = .int x := by
  unfold zld at h
  split at h <;> simp at h
  exact ⟨_, rfl, h.symm⟩
theorem zld1 {v : Option Value} {u : Value} (h : zld 1 v = some u) : ∃ x, v = some (.long x) ∧ u = .long x := by
  unfold zld at h
  split at h <;> simp at h
  exact ⟨_, rfl, h.symm⟩
theorem zld2 {v : Option Value} {u : Value} (h : zld 2 v = some u) : (∃ x, v = some (.ref x) ∧ u = .ref x) ∨ (v = some .null ∧ u = .null) := by
  unfold zld at h
  split at h <;> simp at h
  · exact Or.inl ⟨_, rfl, h.symm⟩
  · exact Or.inr ⟨rfl, h.symm⟩
set_option maxHeartbeats 4000000 in
theorem zs_loc {ml : Nat} {L L' : zLS} (hx : p.tables.exec = Jvm.exec) (hb : cd.code = b) (hd : decode b pc = .ok (ins, len)) (hl : zlenOk ins len = true) (hL : zHas ad ls ml L) (h : zloc ins L S = some (L', S'))
    (kk : ∀ ls', zHas ad ls' ml L' → W p l e R s m args below meth cd H locs cells slots Q (F0 m (pc + len) ls' (S'.map (zcv ad)))) : W p l e R s m args below meth cd H locs cells slots Q (F0 m pc ls (S.map (zcv ad))) := by
  have hl1 := hL.lv
  unfold zloc at h
  split at h
  · cases zlenOk_eq hl (fun _ _ _ _ h => by cases h) (fun _ _ h => by cases h)
    obtain ⟨v, hv, e1⟩ := Option.map_eq_some_iff.mp h; cases e1
    obtain ⟨x, hg, rfl⟩ := zld0 hv
    exact lv_iload hx hb hd (hL.2.2.1 _ _ hg) (kk _ hL)
  · cases zlenOk_eq hl (fun _ _ _ _ h => by cases h) (fun _ _ h => by cases h)
    obtain ⟨v, hv, e1⟩ := Option.map_eq_some_iff.mp h; cases e1
    obtain ⟨x, hg, rfl⟩ := zld0 hv
    exact lv_iload_n hx hb hd rfl (hL.2.2.1 _ _ hg) (kk _ hL)
  · cases zlenOk_eq hl (fun _ _ _ _ h => by cases h) (fun _ _ h => by cases h)
    obtain ⟨v, hv, e1⟩ := Option.map_eq_some_iff.mp h; cases e1
    obtain ⟨x, hg, rfl⟩ := zld1 hv
    exact lv_lload hx hb hd (hL.2.2.1 _ _ hg) (kk _ hL)
  · cases zlenOk_eq hl (fun _ _ _ _ h => by cases h) (fun _ _ h => by cases h)
    obtain ⟨v, hv, e1⟩ := Option.map_eq_some_iff.mp h; cases e1
    obtain ⟨x, hg, rfl⟩ := zld1 hv
    exact lv_lload_n hx hb hd rfl (hL.2.2.1 _ _ hg) (kk _ hL)
  · cases zlenOk_eq hl (fun _ _ _ _ h => by cases h) (fun _ _ h => by cases h)
    obtain ⟨v, hv, e1⟩ := Option.map_eq_some_iff.mp h; cases e1
    rcases zld2 hv with ⟨x, hg, rfl⟩ | ⟨hg, rfl⟩
    · exact lv_aload hx hb hd (hL.2.2.1 _ _ hg) (kk _ hL)
    · exact lv_aloadN hx hb hd (hL.2.2.1 _ _ hg) (kk _ hL)
  · cases zlenOk_eq hl (fun _ _ _ _ h => by cases h) (fun _ _ h => by cases h)
    obtain ⟨v, hv, e1⟩ := Option.map_eq_some_iff.mp h; cases e1
    rcases zld2 hv with ⟨x, hg, rfl⟩ | ⟨hg, rfl⟩
    · exact lv_aload_n hx hb hd rfl (hL.2.2.1 _ _ hg) (kk _ hL)
    · exact lv_aload_nN hx hb hd rfl (hL.2.2.1 _ _ hg) (kk _ hL)
  · cases zlenOk_eq hl (fun _ _ _ _ h => by cases h) (fun _ _ h => by cases h)
    split at h
    · obtain ⟨L1, hs, e1⟩ := Option.map_eq_some_iff.mp h; cases e1
      exact lv_istore hx hb hd hl1 (hL.2.2.2 ▸ (zst1_len hs).1) rfl fun ls' h' => kk ls' (hL.st1 hs h')
    · cases h
  · cases zlenOk_eq hl (fun _ _ _ _ h => by cases h) (fun _ _ h => by cases h)
    split at h
    · obtain ⟨L1, hs, e1⟩ := Option.map_eq_some_iff.mp h; cases e1
      exact lv_istore_n hx hb hd rfl hl1 (hL.2.2.2 ▸ (zst1_len hs).1) rfl fun ls' h' => kk ls' (hL.st1 hs h')
    · cases h
  · cases zlenOk_eq hl (fun _ _ _ _ h => by cases h) (fun _ _ h => by cases h)
    split at h
    · obtain ⟨L1, hs, e1⟩ := Option.map_eq_some_iff.mp h; cases e1
      exact lv_astore hx hb hd hl1 (hL.2.2.2 ▸ (zst1_len hs).1) rfl fun ls' h' => kk ls' (hL.st1 hs h')
    · obtain ⟨L1, hs, e1⟩ := Option.map_eq_some_iff.mp h; cases e1
      exact lv_astoreN hx hb hd hl1 (hL.2.2.2 ▸ (zst1_len hs).1) rfl fun ls' h' => kk ls' (hL.st1 hs h')
    · cases h
  · cases zlenOk_eq hl (fun _ _ _ _ h => by cases h) (fun _ _ h => by cases h)
    split at h
    · obtain ⟨L1, hs, e1⟩ := Option.map_eq_some_iff.mp h; cases e1
      exact lv_astore_n hx hb hd rfl hl1 (hL.2.2.2 ▸ (zst1_len hs).1) rfl fun ls' h' => kk ls' (hL.st1 hs h')
    · obtain ⟨L1, hs, e1⟩ := Option.map_eq_some_iff.mp h; cases e1
      exact lv_astore_nN hx hb hd rfl hl1 (hL.2.2.2 ▸ (zst1_len hs).1) rfl fun ls' h' => kk ls' (hL.st1 hs h')
    · cases h
  · cases zlenOk_eq hl (fun _ _ _ _ h => by cases h) (fun _ _ h => by cases h)
    split at h
    · obtain ⟨L1, hs, e1⟩ := Option.map_eq_some_iff.mp h; cases e1
      exact lv_lstore hx hb hd hl1 (hL.2.2.2 ▸ (zst2_len hs).1) rfl fun ls' h' => kk ls' (hL.st2 hs h')
    · cases h
  · cases zlenOk_eq hl (fun _ _ _ _ h => by cases h) (fun _ _ h => by cases h)
    split at h
    · obtain ⟨L1, hs, e1⟩ := Option.map_eq_some_iff.mp h; cases e1
      exact lv_lstore_n hx hb hd rfl hl1 (hL.2.2.2 ▸ (zst2_len hs).1) rfl fun ls' h' => kk ls' (hL.st2 hs h')
    · cases h
  · cases zlenOk_eq hl (fun _ _ _ _ h => by cases h) (fun _ _ h => by cases h)
    split at h
    · rename_i hg
      obtain ⟨L1, hs, e1⟩ := Option.map_eq_some_iff.mp h; cases e1
      obtain ⟨k, hk⟩ := List.getElem?_of_mem (zas_mem (ad := ad) hg)
      exact lv_iinc (k := k) hx hb hd hl1 hk rfl (hL.2.2.2 ▸ (zst1_len hs).1) rfl fun ls' h' => kk ls' (hL.st1 hs h')
    · cases h
  · cases h
end ZS
